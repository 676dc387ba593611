theorem dX0_put_53 : decode cX0_put 53 = .ok (.getfield 37, 3) := by decide +kernel
theorem dX0_put_56 : decode cX0_put 56 = .ok (.iconst 0, 1) := by decide +kernel
theorem dX0_put_57 : decode cX0_put 57 = .ok (.iaload, 1) := by decide +kernel
theorem dX0_put_58 : decode cX0_put 58 = .ok (.iconst 1, 1) := by decide +kernel
theorem dX0_put_59 : decode cX0_put 59 = .ok (.if_icmp .ne 17, 3) := by decide +kernel
theorem dX0_put_62 : decode cX0_put 62 = .ok (.aload_n 0, 1) := by decide +kernel
theorem dX0_put_63 : decode cX0_put 63 = .ok (.aload_n 0, 1) := by decide +kernel
theorem dX0_put_64 : decode cX0_put 64 = .ok (.getfield 18, 3) := by decide +kernel
theorem dX0_put_67 : decode cX0_put 67 = .ok (.iload 4, 2) := by decide +kernel
theorem dX0_put_69 : decode cX0_put 69 = .ok (.iload 4, 2) := by decide +kernel
theorem dX0_put_71 : decode cX0_put 71 = .ok (.iconst 1, 1) := by decide +kernel
theorem dX0_put_72 : decode cX0_put 72 = .ok (.iadd, 1) := by decide +kernel
theorem dX0_put_73 : decode cX0_put 73 = .ok (.invokevirtual 109, 3) := by decide +kernel
theorem dX0_put_76 : decode cX0_put 76 = .ok (.iconst 1, 1) := by decide +kernel
theorem dX0_put_77 : decode cX0_put 77 = .ok (.ireturn, 1) := by decide +kernel
theorem dX0_strengthen_0 : decode cX0_strengthen 0 = .ok (.aload_n 0, 1) := by decide +kernel
theorem dX0_strengthen_1 : decode cX0_strengthen 1 = .ok (.getfield 28, 3) := by decide +kernel
theorem dX0_strengthen_4 : decode cX0_strengthen 4 = .ok (.iload_n 1, 1) := by decide +kernel
theorem dX0_strengthen_5 : decode cX0_strengthen 5 = .ok (.aload_n 0, 1) := by decide +kernel
theorem dX0_strengthen_6 : decode cX0_strengthen 6 = .ok (.getfield 31, 3) := by decide +kernel
theorem dX0_strengthen_9 : decode cX0_strengthen 9 = .ok (.iload_n 2, 1) := by decide +kernel
theorem dX0_strengthen_10 : decode cX0_strengthen 10 = .ok (.iaload, 1) := by decide +kernel
theorem dX0_strengthen_11 : decode cX0_strengthen 11 = .ok (.iastore, 1) := by decide +kernel
theorem dX0_strengthen_12 : decode cX0_strengthen 12 = .ok (.aload_n 0, 1) := by decide +kernel
theorem dX0_strengthen_13 : decode cX0_strengthen 13 = .ok (.getfield 37, 3) := by decide +kernel
theorem dX0_strengthen_16 : decode cX0_strengthen 16 = .ok (.iconst 0, 1) := by decide +kernel
theorem dX0_strengthen_17 : decode cX0_strengthen 17 = .ok (.iaload, 1) := by decide +kernel
theorem dX0_strengthen_18 : decode cX0_strengthen 18 = .ok (.iconst 3, 1) := by decide +kernel
theorem dX0_strengthen_19 : decode cX0_strengthen 19 = .ok (.if_icmp .eq 15, 3) := by decide +kernel
theorem dX0_strengthen_22 : decode cX0_strengthen 22 = .ok (.aload_n 0, 1) := by decide +kernel
theorem dX0_strengthen_23 : decode cX0_strengthen 23 = .ok (.aload_n 0, 1) := by decide +kernel
theorem dX0_strengthen_24 : decode cX0_strengthen 24 = .ok (.getfield 28, 3) := by decide +kernel
theorem dX0_strengthen_27 : decode cX0_strengthen 27 = .ok (.iload_n 1, 1) := by decide +kernel
theorem dX0_strengthen_28 : decode cX0_strengthen 28 = .ok (.iload_n 1, 1) := by decide +kernel
theorem dX0_strengthen_29 : decode cX0_strengthen 29 = .ok (.iconst 1, 1) := by decide +kernel
theorem dX0_strengthen_30 : decode cX0_strengthen 30 = .ok (.iadd, 1) := by decide +kernel
theorem dX0_strengthen_31 : decode cX0_strengthen 31 = .ok (.invokevirtual 109, 3) := by decide +kernel
theorem dX0_strengthen_34 : decode cX0_strengthen 34 = .ok (.aload_n 0, 1) := by decide +kernel
theorem dX0_strengthen_35 : decode cX0_strengthen 35 = .ok (.getfield 28, 3) := by decide +kernel
theorem dX0_strengthen_38 : decode cX0_strengthen 38 = .ok (.iload_n 1, 1) := by decide +kernel
theorem dX0_strengthen_39 : decode cX0_strengthen 39 = .ok (.iaload, 1) := by decide +kernel
theorem dX0_strengthen_40 : decode cX0_strengthen 40 = .ok (.ireturn, 1) := by decide +kernel
theorem dX0_greyAt_0 : decode cX0_greyAt 0 = .ok (.aload_n 0, 1) := by decide +kernel
theorem dX0_greyAt_1 : decode cX0_greyAt 1 = .ok (.getfield 65, 3) := by decide +kernel
theorem dX0_greyAt_4 : decode cX0_greyAt 4 = .ok (.iconst (-1), 1) := by decide +kernel
theorem dX0_greyAt_5 : decode cX0_greyAt 5 = .ok (.if_icmp .eq 12, 3) := by decide +kernel
theorem dX0_greyAt_8 : decode cX0_greyAt 8 = .ok (.iload_n 1, 1) := by decide +kernel
theorem dX0_greyAt_9 : decode cX0_greyAt 9 = .ok (.ifCond .ne 8, 3) := by decide +kernel
theorem dX0_greyAt_12 : decode cX0_greyAt 12 = .ok (.aload_n 0, 1) := by decide +kernel
theorem dX0_greyAt_13 : decode cX0_greyAt 13 = .ok (.getfield 65, 3) := by decide +kernel
theorem dX0_greyAt_16 : decode cX0_greyAt 16 = .ok (.ireturn, 1) := by decide +kernel
theorem dX0_greyAt_17 : decode cX0_greyAt 17 = .ok (.aload_n 0, 1) := by decide +kernel
theorem dX0_greyAt_18 : decode cX0_greyAt 18 = .ok (.getfield 65, 3) := by decide +kernel
theorem dX0_greyAt_21 : decode cX0_greyAt 21 = .ok (.iconst (-1), 1) := by decide +kernel
theorem dX0_greyAt_22 : decode cX0_greyAt 22 = .ok (.if_icmp .ne 7, 3) := by decide +kernel
theorem dX0_greyAt_25 : decode cX0_greyAt 25 = .ok (.iload_n 1, 1) := by decide +kernel
theorem dX0_greyAt_26 : decode cX0_greyAt 26 = .ok (.goto 6, 3) := by decide +kernel
theorem dX0_greyAt_29 : decode cX0_greyAt 29 = .ok (.iload_n 1, 1) := by decide +kernel
theorem dX0_greyAt_30 : decode cX0_greyAt 30 = .ok (.iconst 1, 1) := by decide +kernel
theorem dX0_greyAt_31 : decode cX0_greyAt 31 = .ok (.isub, 1) := by decide +kernel
theorem dX0_greyAt_32 : decode cX0_greyAt 32 = .ok (.istore_n 2, 1) := by decide +kernel
theorem dX0_greyAt_33 : decode cX0_greyAt 33 = .ok (.iconst 0, 1) := by decide +kernel
theorem dX0_greyAt_34 : decode cX0_greyAt 34 = .ok (.istore_n 3, 1) := by decide +kernel
theorem dX0_greyAt_35 : decode cX0_greyAt 35 = .ok (.iload_n 3, 1) := by decide +kernel
theorem dX0_greyAt_36 : decode cX0_greyAt 36 = .ok (.aload_n 0, 1) := by decide +kernel
theorem dX0_greyAt_37 : decode cX0_greyAt 37 = .ok (.getfield 62, 3) := by decide +kernel
theorem dX0_greyAt_40 : decode cX0_greyAt 40 = .ok (.if_icmp .ge 56, 3) := by decide +kernel
theorem dX0_greyAt_43 : decode cX0_greyAt 43 = .ok (.iconst 0, 1) := by decide +kernel
theorem dX0_greyAt_44 : decode cX0_greyAt 44 = .ok (.istore 4, 2) := by decide +kernel
theorem dX0_greyAt_46 : decode cX0_greyAt 46 = .ok (.iconst 0, 1) := by decide +kernel
theorem dX0_greyAt_47 : decode cX0_greyAt 47 = .ok (.istore 5, 2) := by decide +kernel
theorem dX0_greyAt_49 : decode cX0_greyAt 49 = .ok (.iload 5, 2) := by decide +kernel
theorem dX0_greyAt_51 : decode cX0_greyAt 51 = .ok (.aload_n 0, 1) := by decide +kernel
theorem dX0_greyAt_52 : decode cX0_greyAt 52 = .ok (.getfield 62, 3) := by decide +kernel
theorem dX0_greyAt_55 : decode cX0_greyAt 55 = .ok (.if_icmp .ge 22, 3) := by decide +kernel
theorem dX0_greyAt_58 : decode cX0_greyAt 58 = .ok (.aload_n 0, 1) := by decide +kernel
theorem dX0_greyAt_59 : decode cX0_greyAt 59 = .ok (.iload 5, 2) := by decide +kernel
theorem dX0_greyAt_61 : decode cX0_greyAt 61 = .ok (.iload_n 3, 1) := by decide +kernel
theorem dX0_greyAt_62 : decode cX0_greyAt 62 = .ok (.invokevirtual 122, 3) := by decide +kernel
theorem dX0_greyAt_65 : decode cX0_greyAt 65 = .ok (.ifCond .eq 6, 3) := by decide +kernel
theorem dX0_greyAt_68 : decode cX0_greyAt 68 = .ok (.iinc 4 1, 3) := by decide +kernel
theorem dX0_greyAt_71 : decode cX0_greyAt 71 = .ok (.iinc 5 1, 3) := by decide +kernel
theorem dX0_greyAt_74 : decode cX0_greyAt 74 = .ok (.goto (-25), 3) := by decide +kernel
theorem dX0_greyAt_77 : decode cX0_greyAt 77 = .ok (.iload 4, 2) := by decide +kernel
theorem dX0_greyAt_79 : decode cX0_greyAt 79 = .ok (.iload_n 2, 1) := by decide +kernel
theorem dX0_greyAt_80 : decode cX0_greyAt 80 = .ok (.if_icmp .ne 10, 3) := by decide +kernel
theorem dX0_greyAt_83 : decode cX0_greyAt 83 = .ok (.aload_n 0, 1) := by decide +kernel
theorem dX0_greyAt_84 : decode cX0_greyAt 84 = .ok (.getfield 34, 3) := by decide +kernel
theorem dX0_greyAt_87 : decode cX0_greyAt 87 = .ok (.iload_n 3, 1) := by decide +kernel
theorem dX0_greyAt_88 : decode cX0_greyAt 88 = .ok (.iaload, 1) := by decide +kernel
theorem dX0_greyAt_89 : decode cX0_greyAt 89 = .ok (.ireturn, 1) := by decide +kernel
theorem dX0_greyAt_90 : decode cX0_greyAt 90 = .ok (.iinc 3 1, 3) := by decide +kernel
theorem dX0_greyAt_93 : decode cX0_greyAt 93 = .ok (.goto (-58), 3) := by decide +kernel
theorem dX0_greyAt_96 : decode cX0_greyAt 96 = .ok (.iconst (-1), 1) := by decide +kernel
theorem dX0_greyAt_97 : decode cX0_greyAt 97 = .ok (.ireturn, 1) := by decide +kernel
theorem dX0_objects_0 : decode cX0_objects 0 = .ok (.iconst 0, 1) := by decide +kernel
theorem dX0_objects_1 : decode cX0_objects 1 = .ok (.istore_n 1, 1) := by decide +kernel
theorem dX0_objects_2 : decode cX0_objects 2 = .ok (.iconst 0, 1) := by decide +kernel
theorem dX0_objects_3 : decode cX0_objects 3 = .ok (.istore_n 2, 1) := by decide +kernel
theorem dX0_objects_4 : decode cX0_objects 4 = .ok (.iload_n 2, 1) := by decide +kernel
theorem dX0_objects_5 : decode cX0_objects 5 = .ok (.aload_n 0, 1) := by decide +kernel
theorem dX0_objects_6 : decode cX0_objects 6 = .ok (.getfield 58, 3) := by decide +kernel
theorem dX0_objects_9 : decode cX0_objects 9 = .ok (.if_icmp .ge 18, 3) := by decide +kernel
theorem dX0_objects_12 : decode cX0_objects 12 = .ok (.iload_n 1, 1) := by decide +kernel
theorem dX0_objects_13 : decode cX0_objects 13 = .ok (.aload_n 0, 1) := by decide +kernel
theorem dX0_objects_14 : decode cX0_objects 14 = .ok (.getfield 25, 3) := by decide +kernel
theorem dX0_objects_17 : decode cX0_objects 17 = .ok (.iload_n 2, 1) := by decide +kernel
theorem dX0_objects_18 : decode cX0_objects 18 = .ok (.iaload, 1) := by decide +kernel
theorem dX0_objects_19 : decode cX0_objects 19 = .ok (.iadd, 1) := by decide +kernel
theorem dX0_objects_20 : decode cX0_objects 20 = .ok (.istore_n 1, 1) := by decide +kernel
theorem dX0_objects_21 : decode cX0_objects 21 = .ok (.iinc 2 1, 3) := by decide +kernel
theorem dX0_objects_24 : decode cX0_objects 24 = .ok (.goto (-20), 3) := by decide +kernel
theorem dX0_objects_27 : decode cX0_objects 27 = .ok (.iload_n 1, 1) := by decide +kernel
theorem dX0_objects_28 : decode cX0_objects 28 = .ok (.ireturn, 1) := by decide +kernel
theorem dX0_objectCells_0 : decode cX0_objectCells 0 = .ok (.iconst 0, 1) := by decide +kernel
theorem dX0_objectCells_1 : decode cX0_objectCells 1 = .ok (.istore_n 1, 1) := by decide +kernel
theorem dX0_objectCells_2 : decode cX0_objectCells 2 = .ok (.iconst 0, 1) := by decide +kernel
theorem dX0_objectCells_3 : decode cX0_objectCells 3 = .ok (.istore_n 2, 1) := by decide +kernel
theorem dX0_objectCells_4 : decode cX0_objectCells 4 = .ok (.iload_n 2, 1) := by decide +kernel
theorem dX0_objectCells_5 : decode cX0_objectCells 5 = .ok (.aload_n 0, 1) := by decide +kernel
theorem dX0_objectCells_6 : decode cX0_objectCells 6 = .ok (.getfield 58, 3) := by decide +kernel
theorem dX0_objectCells_9 : decode cX0_objectCells 9 = .ok (.if_icmp .ge 25, 3) := by decide +kernel
theorem dX0_objectCells_12 : decode cX0_objectCells 12 = .ok (.iload_n 1, 1) := by decide +kernel
theorem dX0_objectCells_13 : decode cX0_objectCells 13 = .ok (.aload_n 0, 1) := by decide +kernel
theorem dX0_objectCells_14 : decode cX0_objectCells 14 = .ok (.getfield 25, 3) := by decide +kernel
theorem dX0_objectCells_17 : decode cX0_objectCells 17 = .ok (.iload_n 2, 1) := by decide +kernel
theorem dX0_objectCells_18 : decode cX0_objectCells 18 = .ok (.iaload, 1) := by decide +kernel
theorem dX0_objectCells_19 : decode cX0_objectCells 19 = .ok (.aload_n 0, 1) := by decide +kernel
theorem dX0_objectCells_20 : decode cX0_objectCells 20 = .ok (.getfield 22, 3) := by decide +kernel
theorem dX0_objectCells_23 : decode cX0_objectCells 23 = .ok (.iload_n 2, 1) := by decide +kernel
theorem dX0_objectCells_24 : decode cX0_objectCells 24 = .ok (.iaload, 1) := by decide +kernel
theorem dX0_objectCells_25 : decode cX0_objectCells 25 = .ok (.imul, 1) := by decide +kernel
theorem dX0_objectCells_26 : decode cX0_objectCells 26 = .ok (.iadd, 1) := by decide +kernel
theorem dX0_objectCells_27 : decode cX0_objectCells 27 = .ok (.istore_n 1, 1) := by decide +kernel
theorem dX0_objectCells_28 : decode cX0_objectCells 28 = .ok (.iinc 2 1, 3) := by decide +kernel
theorem dX0_objectCells_31 : decode cX0_objectCells 31 = .ok (.goto (-27), 3) := by decide +kernel
theorem dX0_objectCells_34 : decode cX0_objectCells 34 = .ok (.iload_n 1, 1) := by decide +kernel
theorem dX0_objectCells_35 : decode cX0_objectCells 35 = .ok (.ireturn, 1) := by decide +kernel
theorem dX0_toldCycles_0 : decode cX0_toldCycles 0 = .ok (.aload_n 0, 1) := by decide +kernel
theorem dX0_toldCycles_1 : decode cX0_toldCycles 1 = .ok (.getfield 40, 3) := by decide +kernel
theorem dX0_toldCycles_4 : decode cX0_toldCycles 4 = .ok (.iconst 0, 1) := by decide +kernel
theorem dX0_toldCycles_5 : decode cX0_toldCycles 5 = .ok (.iaload, 1) := by decide +kernel
theorem dX0_toldCycles_6 : decode cX0_toldCycles 6 = .ok (.bipush 16, 2) := by decide +kernel
theorem dX0_toldCycles_8 : decode cX0_toldCycles 8 = .ok (.invokestatic 160, 3) := by decide +kernel
theorem dX0_toldCycles_11 : decode cX0_toldCycles 11 = .ok (.ireturn, 1) := by decide +kernel
theorem dX0_toldPart_0 : decode cX0_toldPart 0 = .ok (.aload_n 0, 1) := by decide +kernel
theorem dX0_toldPart_1 : decode cX0_toldPart 1 = .ok (.getfield 43, 3) := by decide +kernel
theorem dX0_toldPart_4 : decode cX0_toldPart 4 = .ok (.aload_n 0, 1) := by decide +kernel
theorem dX0_toldPart_5 : decode cX0_toldPart 5 = .ok (.getfield 40, 3) := by decide +kernel
theorem dX0_toldPart_8 : decode cX0_toldPart 8 = .ok (.iconst 0, 1) := by decide +kernel
theorem dX0_toldPart_9 : decode cX0_toldPart 9 = .ok (.iaload, 1) := by decide +kernel
theorem dX0_toldPart_10 : decode cX0_toldPart 10 = .ok (.iconst 1, 1) := by decide +kernel
theorem dX0_toldPart_11 : decode cX0_toldPart 11 = .ok (.isub, 1) := by decide +kernel
theorem dX0_toldPart_12 : decode cX0_toldPart 12 = .ok (.iload_n 1, 1) := by decide +kernel
theorem dX0_toldPart_13 : decode cX0_toldPart 13 = .ok (.isub, 1) := by decide +kernel
theorem dX0_toldPart_14 : decode cX0_toldPart 14 = .ok (.bipush 16, 2) := by decide +kernel
theorem dX0_toldPart_16 : decode cX0_toldPart 16 = .ok (.irem, 1) := by decide +kernel
theorem dX0_toldPart_17 : decode cX0_toldPart 17 = .ok (.iconst 3, 1) := by decide +kernel
theorem dX0_toldPart_18 : decode cX0_toldPart 18 = .ok (.imul, 1) := by decide +kernel
theorem dX0_toldPart_19 : decode cX0_toldPart 19 = .ok (.iload_n 2, 1) := by decide +kernel
theorem dX0_toldPart_20 : decode cX0_toldPart 20 = .ok (.iadd, 1) := by decide +kernel
theorem dX0_toldPart_21 : decode cX0_toldPart 21 = .ok (.iaload, 1) := by decide +kernel
theorem dX0_toldPart_22 : decode cX0_toldPart 22 = .ok (.ireturn, 1) := by decide +kernel
theorem dX0_namedBy_0 : decode cX0_namedBy 0 = .ok (.iconst 0, 1) := by decide +kernel
theorem dX0_namedBy_1 : decode cX0_namedBy 1 = .ok (.istore_n 2, 1) := by decide +kernel
theorem dX0_namedBy_2 : decode cX0_namedBy 2 = .ok (.iconst 0, 1) := by decide +kernel
theorem dX0_namedBy_3 : decode cX0_namedBy 3 = .ok (.istore_n 3, 1) := by decide +kernel
theorem dX0_namedBy_4 : decode cX0_namedBy 4 = .ok (.iload_n 3, 1) := by decide +kernel
theorem dX0_namedBy_5 : decode cX0_namedBy 5 = .ok (.aload_n 0, 1) := by decide +kernel
theorem dX0_namedBy_6 : decode cX0_namedBy 6 = .ok (.getfield 18, 3) := by decide +kernel
theorem dX0_namedBy_9 : decode cX0_namedBy 9 = .ok (.iload_n 1, 1) := by decide +kernel
theorem dX0_namedBy_10 : decode cX0_namedBy 10 = .ok (.iaload, 1) := by decide +kernel
theorem dX0_namedBy_11 : decode cX0_namedBy 11 = .ok (.if_icmp .ge 26, 3) := by decide +kernel
theorem dX0_namedBy_14 : decode cX0_namedBy 14 = .ok (.aload_n 0, 1) := by decide +kernel
theorem dX0_namedBy_15 : decode cX0_namedBy 15 = .ok (.getfield 18, 3) := by decide +kernel
theorem dX0_namedBy_18 : decode cX0_namedBy 18 = .ok (.iload_n 1, 1) := by decide +kernel
theorem dX0_namedBy_19 : decode cX0_namedBy 19 = .ok (.iconst 1, 1) := by decide +kernel
theorem dX0_namedBy_20 : decode cX0_namedBy 20 = .ok (.iadd, 1) := by decide +kernel
theorem dX0_namedBy_21 : decode cX0_namedBy 21 = .ok (.iload_n 3, 1) := by decide +kernel
theorem dX0_namedBy_22 : decode cX0_namedBy 22 = .ok (.iadd, 1) := by decide +kernel
theorem dX0_namedBy_23 : decode cX0_namedBy 23 = .ok (.iaload, 1) := by decide +kernel
theorem dX0_namedBy_24 : decode cX0_namedBy 24 = .ok (.iconst (-1), 1) := by decide +kernel
theorem dX0_namedBy_25 : decode cX0_namedBy 25 = .ok (.if_icmp .eq 6, 3) := by decide +kernel
theorem dX0_namedBy_28 : decode cX0_namedBy 28 = .ok (.iinc 2 1, 3) := by decide +kernel
theorem dX0_namedBy_31 : decode cX0_namedBy 31 = .ok (.iinc 3 1, 3) := by decide +kernel
theorem dX0_namedBy_34 : decode cX0_namedBy 34 = .ok (.goto (-30), 3) := by decide +kernel
theorem dX0_namedBy_37 : decode cX0_namedBy 37 = .ok (.iload_n 2, 1) := by decide +kernel
theorem dX0_namedBy_38 : decode cX0_namedBy 38 = .ok (.ireturn, 1) := by decide +kernel
theorem dX0_blackOverEcru_0 : decode cX0_blackOverEcru 0 = .ok (.iconst 0, 1) := by decide +kernel
theorem dX0_blackOverEcru_1 : decode cX0_blackOverEcru 1 = .ok (.istore_n 1, 1) := by decide +kernel
theorem dX0_blackOverEcru_2 : decode cX0_blackOverEcru 2 = .ok (.iconst 0, 1) := by decide +kernel
theorem dX0_blackOverEcru_3 : decode cX0_blackOverEcru 3 = .ok (.istore_n 2, 1) := by decide +kernel
theorem dX0_blackOverEcru_4 : decode cX0_blackOverEcru 4 = .ok (.iload_n 2, 1) := by decide +kernel
theorem dX0_blackOverEcru_5 : decode cX0_blackOverEcru 5 = .ok (.sipush 128, 3) := by decide +kernel
theorem dX0_blackOverEcru_8 : decode cX0_blackOverEcru 8 = .ok (.if_icmp .ge 49, 3) := by decide +kernel
theorem dX0_blackOverEcru_11 : decode cX0_blackOverEcru 11 = .ok (.aload_n 0, 1) := by decide +kernel
theorem dX0_blackOverEcru_12 : decode cX0_blackOverEcru 12 = .ok (.getfield 12, 3) := by decide +kernel
theorem dX0_blackOverEcru_15 : decode cX0_blackOverEcru 15 = .ok (.iload_n 2, 1) := by decide +kernel
theorem dX0_blackOverEcru_16 : decode cX0_blackOverEcru 16 = .ok (.invokevirtual 88, 3) := by decide +kernel
theorem dX0_blackOverEcru_19 : decode cX0_blackOverEcru 19 = .ok (.iconst 3, 1) := by decide +kernel
theorem dX0_blackOverEcru_20 : decode cX0_blackOverEcru 20 = .ok (.if_icmp .ne 31, 3) := by decide +kernel
theorem dX0_blackOverEcru_23 : decode cX0_blackOverEcru 23 = .ok (.aload_n 0, 1) := by decide +kernel
theorem dX0_blackOverEcru_24 : decode cX0_blackOverEcru 24 = .ok (.iconst 1, 1) := by decide +kernel
theorem dX0_blackOverEcru_25 : decode cX0_blackOverEcru 25 = .ok (.aload_n 0, 1) := by decide +kernel
theorem dX0_blackOverEcru_26 : decode cX0_blackOverEcru 26 = .ok (.getfield 18, 3) := by decide +kernel
theorem dX0_blackOverEcru_29 : decode cX0_blackOverEcru 29 = .ok (.iload_n 2, 1) := by decide +kernel
theorem dX0_blackOverEcru_30 : decode cX0_blackOverEcru 30 = .ok (.iconst 1, 1) := by decide +kernel
theorem dX0_blackOverEcru_31 : decode cX0_blackOverEcru 31 = .ok (.iadd, 1) := by decide +kernel
theorem dX0_blackOverEcru_32 : decode cX0_blackOverEcru 32 = .ok (.iload_n 2, 1) := by decide +kernel
theorem dX0_blackOverEcru_33 : decode cX0_blackOverEcru 33 = .ok (.iconst 1, 1) := by decide +kernel
theorem dX0_blackOverEcru_34 : decode cX0_blackOverEcru 34 = .ok (.iadd, 1) := by decide +kernel
theorem dX0_blackOverEcru_35 : decode cX0_blackOverEcru 35 = .ok (.aload_n 0, 1) := by decide +kernel
theorem dX0_blackOverEcru_36 : decode cX0_blackOverEcru 36 = .ok (.getfield 18, 3) := by decide +kernel
theorem dX0_blackOverEcru_39 : decode cX0_blackOverEcru 39 = .ok (.iload_n 2, 1) := by decide +kernel
theorem dX0_blackOverEcru_40 : decode cX0_blackOverEcru 40 = .ok (.iaload, 1) := by decide +kernel
theorem dX0_blackOverEcru_41 : decode cX0_blackOverEcru 41 = .ok (.iadd, 1) := by decide +kernel
theorem dX0_blackOverEcru_42 : decode cX0_blackOverEcru 42 = .ok (.invokevirtual 165, 3) := by decide +kernel
theorem dX0_blackOverEcru_45 : decode cX0_blackOverEcru 45 = .ok (.ifCond .le 6, 3) := by decide +kernel
theorem dX0_blackOverEcru_48 : decode cX0_blackOverEcru 48 = .ok (.iinc 1 1, 3) := by decide +kernel
theorem dX0_blackOverEcru_51 : decode cX0_blackOverEcru 51 = .ok (.iinc 2 2, 3) := by decide +kernel
theorem dX0_blackOverEcru_54 : decode cX0_blackOverEcru 54 = .ok (.goto (-50), 3) := by decide +kernel
theorem dX0_blackOverEcru_57 : decode cX0_blackOverEcru 57 = .ok (.iload_n 1, 1) := by decide +kernel
theorem dX0_blackOverEcru_58 : decode cX0_blackOverEcru 58 = .ok (.ireturn, 1) := by decide +kernel
theorem dX0_namesOfFree_0 : decode cX0_namesOfFree 0 = .ok (.aload_n 0, 1) := by decide +kernel
theorem dX0_namesOfFree_1 : decode cX0_namesOfFree 1 = .ok (.iconst 0, 1) := by decide +kernel
theorem dX0_namesOfFree_2 : decode cX0_namesOfFree 2 = .ok (.aload_n 0, 1) := by decide +kernel
theorem dX0_namesOfFree_3 : decode cX0_namesOfFree 3 = .ok (.getfield 28, 3) := by decide +kernel
theorem dX0_namesOfFree_6 : decode cX0_namesOfFree 6 = .ok (.iconst 0, 1) := by decide +kernel
theorem dX0_namesOfFree_7 : decode cX0_namesOfFree 7 = .ok (.bipush 6, 2) := by decide +kernel
theorem dX0_namesOfFree_9 : decode cX0_namesOfFree 9 = .ok (.invokevirtual 165, 3) := by decide +kernel
theorem dX0_namesOfFree_12 : decode cX0_namesOfFree 12 = .ok (.istore_n 1, 1) := by decide +kernel
theorem dX0_namesOfFree_13 : decode cX0_namesOfFree 13 = .ok (.iconst 0, 1) := by decide +kernel
theorem dX0_namesOfFree_14 : decode cX0_namesOfFree 14 = .ok (.istore_n 2, 1) := by decide +kernel
theorem dX0_namesOfFree_15 : decode cX0_namesOfFree 15 = .ok (.iload_n 2, 1) := by decide +kernel
theorem dX0_namesOfFree_16 : decode cX0_namesOfFree 16 = .ok (.sipush 128, 3) := by decide +kernel
theorem dX0_namesOfFree_19 : decode cX0_namesOfFree 19 = .ok (.if_icmp .ge 42, 3) := by decide +kernel
theorem dX0_namesOfFree_22 : decode cX0_namesOfFree 22 = .ok (.aload_n 0, 1) := by decide +kernel
theorem dX0_namesOfFree_23 : decode cX0_namesOfFree 23 = .ok (.iload_n 2, 1) := by decide +kernel
theorem dX0_namesOfFree_24 : decode cX0_namesOfFree 24 = .ok (.invokevirtual 169, 3) := by decide +kernel
theorem dX0_namesOfFree_27 : decode cX0_namesOfFree 27 = .ok (.ifCond .eq 28, 3) := by decide +kernel
theorem dX0_namesOfFree_30 : decode cX0_namesOfFree 30 = .ok (.iload_n 1, 1) := by decide +kernel
theorem dX0_namesOfFree_31 : decode cX0_namesOfFree 31 = .ok (.aload_n 0, 1) := by decide +kernel
theorem dX0_namesOfFree_32 : decode cX0_namesOfFree 32 = .ok (.iconst 0, 1) := by decide +kernel
theorem dX0_namesOfFree_33 : decode cX0_namesOfFree 33 = .ok (.aload_n 0, 1) := by decide +kernel
theorem dX0_namesOfFree_34 : decode cX0_namesOfFree 34 = .ok (.getfield 18, 3) := by decide +kernel
theorem dX0_namesOfFree_37 : decode cX0_namesOfFree 37 = .ok (.iload_n 2, 1) := by decide +kernel
theorem dX0_namesOfFree_38 : decode cX0_namesOfFree 38 = .ok (.iconst 1, 1) := by decide +kernel
theorem dX0_namesOfFree_39 : decode cX0_namesOfFree 39 = .ok (.iadd, 1) := by decide +kernel
theorem dX0_namesOfFree_40 : decode cX0_namesOfFree 40 = .ok (.iload_n 2, 1) := by decide +kernel
theorem dX0_namesOfFree_41 : decode cX0_namesOfFree 41 = .ok (.iconst 1, 1) := by decide +kernel
theorem dX0_namesOfFree_42 : decode cX0_namesOfFree 42 = .ok (.iadd, 1) := by decide +kernel
theorem dX0_namesOfFree_43 : decode cX0_namesOfFree 43 = .ok (.aload_n 0, 1) := by decide +kernel
theorem dX0_namesOfFree_44 : decode cX0_namesOfFree 44 = .ok (.getfield 18, 3) := by decide +kernel
theorem dX0_namesOfFree_47 : decode cX0_namesOfFree 47 = .ok (.iload_n 2, 1) := by decide +kernel
theorem dX0_namesOfFree_48 : decode cX0_namesOfFree 48 = .ok (.iaload, 1) := by decide +kernel
theorem dX0_namesOfFree_49 : decode cX0_namesOfFree 49 = .ok (.iadd, 1) := by decide +kernel
theorem dX0_namesOfFree_50 : decode cX0_namesOfFree 50 = .ok (.invokevirtual 165, 3) := by decide +kernel
theorem dX0_namesOfFree_53 : decode cX0_namesOfFree 53 = .ok (.iadd, 1) := by decide +kernel
theorem dX0_namesOfFree_54 : decode cX0_namesOfFree 54 = .ok (.istore_n 1, 1) := by decide +kernel
theorem dX0_namesOfFree_55 : decode cX0_namesOfFree 55 = .ok (.iinc 2 2, 3) := by decide +kernel
theorem dX0_namesOfFree_58 : decode cX0_namesOfFree 58 = .ok (.goto (-43), 3) := by decide +kernel
theorem dX0_namesOfFree_61 : decode cX0_namesOfFree 61 = .ok (.iload_n 1, 1) := by decide +kernel
theorem dX0_namesOfFree_62 : decode cX0_namesOfFree 62 = .ok (.ireturn, 1) := by decide +kernel
theorem dX0_namesOf_0 : decode cX0_namesOf 0 = .ok (.iconst 0, 1) := by decide +kernel
theorem dX0_namesOf_1 : decode cX0_namesOf 1 = .ok (.istore 5, 2) := by decide +kernel
theorem dX0_namesOf_3 : decode cX0_namesOf 3 = .ok (.iload_n 3, 1) := by decide +kernel
theorem dX0_namesOf_4 : decode cX0_namesOf 4 = .ok (.istore 6, 2) := by decide +kernel
theorem dX0_namesOf_6 : decode cX0_namesOf 6 = .ok (.iload 6, 2) := by decide +kernel
theorem dX0_namesOf_8 : decode cX0_namesOf 8 = .ok (.iload 4, 2) := by decide +kernel
theorem dX0_namesOf_10 : decode cX0_namesOf 10 = .ok (.if_icmp .ge 27, 3) := by decide +kernel
theorem dX0_namesOf_13 : decode cX0_namesOf 13 = .ok (.aload_n 0, 1) := by decide +kernel
theorem dX0_namesOf_14 : decode cX0_namesOf 14 = .ok (.getfield 12, 3) := by decide +kernel
theorem dX0_namesOf_17 : decode cX0_namesOf 17 = .ok (.aload_n 2, 1) := by decide +kernel
theorem dX0_namesOf_18 : decode cX0_namesOf 18 = .ok (.iload 6, 2) := by decide +kernel
theorem dX0_namesOf_20 : decode cX0_namesOf 20 = .ok (.iaload, 1) := by decide +kernel
theorem dX0_namesOf_21 : decode cX0_namesOf 21 = .ok (.invokevirtual 88, 3) := by decide +kernel
theorem dX0_namesOf_24 : decode cX0_namesOf 24 = .ok (.iload_n 1, 1) := by decide +kernel
theorem dX0_namesOf_25 : decode cX0_namesOf 25 = .ok (.if_icmp .ne 6, 3) := by decide +kernel
theorem dX0_namesOf_28 : decode cX0_namesOf 28 = .ok (.iinc 5 1, 3) := by decide +kernel
theorem dX0_namesOf_31 : decode cX0_namesOf 31 = .ok (.iinc 6 1, 3) := by decide +kernel
theorem dX0_namesOf_34 : decode cX0_namesOf 34 = .ok (.goto (-28), 3) := by decide +kernel
theorem dX0_namesOf_37 : decode cX0_namesOf 37 = .ok (.iload 5, 2) := by decide +kernel
theorem dX0_namesOf_39 : decode cX0_namesOf 39 = .ok (.ireturn, 1) := by decide +kernel
theorem dX1_init_0 : decode cX1_init 0 = .ok (.aload_n 0, 1) := by decide +kernel
theorem dX1_init_1 : decode cX1_init 1 = .ok (.invokespecial 3, 3) := by decide +kernel
theorem dX1_init_4 : decode cX1_init 4 = .ok (.aload_n 0, 1) := by decide +kernel
theorem dX1_init_5 : decode cX1_init 5 = .ok (.sipush 128, 3) := by decide +kernel
theorem dX1_init_8 : decode cX1_init 8 = .ok (.newarray .int, 2) := by decide +kernel
theorem dX1_init_10 : decode cX1_init 10 = .ok (.putfield 9, 3) := by decide +kernel
theorem dX1_init_13 : decode cX1_init 13 = .ok (.aload_n 0, 1) := by decide +kernel
theorem dX1_init_14 : decode cX1_init 14 = .ok (.bipush 64, 2) := by decide +kernel
theorem dX1_init_16 : decode cX1_init 16 = .ok (.newarray .int, 2) := by decide +kernel
theorem dX1_init_18 : decode cX1_init 18 = .ok (.putfield 15, 3) := by decide +kernel
theorem dX1_init_21 : decode cX1_init 21 = .ok (.aload_n 0, 1) := by decide +kernel
theorem dX1_init_22 : decode cX1_init 22 = .ok (.iconst 0, 1) := by decide +kernel
theorem dX1_init_23 : decode cX1_init 23 = .ok (.putfield 18, 3) := by decide +kernel
theorem dX1_init_26 : decode cX1_init 26 = .ok (.return_, 1) := by decide +kernel
theorem dX1_spread_0 : decode cX1_spread 0 = .ok (.aload_n 0, 1) := by decide +kernel
theorem dX1_spread_1 : decode cX1_spread 1 = .ok (.getfield 9, 3) := by decide +kernel
theorem dX1_spread_4 : decode cX1_spread 4 = .ok (.iconst (-1), 1) := by decide +kernel
theorem dX1_spread_5 : decode cX1_spread 5 = .ok (.invokestatic 22, 3) := by decide +kernel
theorem dX1_spread_8 : decode cX1_spread 8 = .ok (.aload_n 0, 1) := by decide +kernel
theorem dX1_spread_9 : decode cX1_spread 9 = .ok (.iconst 0, 1) := by decide +kernel
theorem dX1_spread_10 : decode cX1_spread 10 = .ok (.putfield 18, 3) := by decide +kernel
theorem dX1_spread_13 : decode cX1_spread 13 = .ok (.iload 4, 2) := by decide +kernel
theorem dX1_spread_15 : decode cX1_spread 15 = .ok (.iconst (-1), 1) := by decide +kernel
theorem dX1_spread_16 : decode cX1_spread 16 = .ok (.if_icmp .eq 11, 3) := by decide +kernel
theorem dX1_spread_19 : decode cX1_spread 19 = .ok (.aload_n 0, 1) := by decide +kernel
theorem dX1_spread_20 : decode cX1_spread 20 = .ok (.getfield 9, 3) := by decide +kernel
theorem dX1_spread_23 : decode cX1_spread 23 = .ok (.iload 4, 2) := by decide +kernel
theorem dX1_spread_25 : decode cX1_spread 25 = .ok (.iconst 0, 1) := by decide +kernel
theorem dX1_spread_26 : decode cX1_spread 26 = .ok (.iastore, 1) := by decide +kernel
theorem dX1_spread_27 : decode cX1_spread 27 = .ok (.iload_n 2, 1) := by decide +kernel
theorem dX1_spread_28 : decode cX1_spread 28 = .ok (.istore 5, 2) := by decide +kernel
theorem dX1_spread_30 : decode cX1_spread 30 = .ok (.iload 5, 2) := by decide +kernel
theorem dX1_spread_32 : decode cX1_spread 32 = .ok (.iload_n 3, 1) := by decide +kernel
theorem dX1_spread_33 : decode cX1_spread 33 = .ok (.if_icmp .ge 21, 3) := by decide +kernel
theorem dX1_spread_36 : decode cX1_spread 36 = .ok (.aload_n 0, 1) := by decide +kernel
theorem dX1_spread_37 : decode cX1_spread 37 = .ok (.aload_n 1, 1) := by decide +kernel
theorem dX1_spread_38 : decode cX1_spread 38 = .ok (.getfield 28, 3) := by decide +kernel
theorem dX1_spread_41 : decode cX1_spread 41 = .ok (.iload 5, 2) := by decide +kernel
theorem dX1_spread_43 : decode cX1_spread 43 = .ok (.iaload, 1) := by decide +kernel
theorem dX1_spread_44 : decode cX1_spread 44 = .ok (.iconst 0, 1) := by decide +kernel
theorem dX1_spread_45 : decode cX1_spread 45 = .ok (.invokevirtual 33, 3) := by decide +kernel
theorem dX1_spread_48 : decode cX1_spread 48 = .ok (.iinc 5 1, 3) := by decide +kernel
theorem dX1_spread_51 : decode cX1_spread 51 = .ok (.goto (-21), 3) := by decide +kernel
theorem dX1_spread_54 : decode cX1_spread 54 = .ok (.iconst 0, 1) := by decide +kernel
theorem dX1_spread_55 : decode cX1_spread 55 = .ok (.istore 5, 2) := by decide +kernel
theorem dX1_spread_57 : decode cX1_spread 57 = .ok (.iload 5, 2) := by decide +kernel
theorem dX1_spread_59 : decode cX1_spread 59 = .ok (.aload_n 0, 1) := by decide +kernel
theorem dX1_spread_60 : decode cX1_spread 60 = .ok (.getfield 18, 3) := by decide +kernel
theorem dX1_spread_63 : decode cX1_spread 63 = .ok (.if_icmp .ge 64, 3) := by decide +kernel
theorem dX1_spread_66 : decode cX1_spread 66 = .ok (.aload_n 0, 1) := by decide +kernel
theorem dX1_spread_67 : decode cX1_spread 67 = .ok (.getfield 15, 3) := by decide +kernel
theorem dX1_spread_70 : decode cX1_spread 70 = .ok (.iload 5, 2) := by decide +kernel
theorem dX1_spread_72 : decode cX1_spread 72 = .ok (.iaload, 1) := by decide +kernel
theorem dX1_spread_73 : decode cX1_spread 73 = .ok (.istore 6, 2) := by decide +kernel
theorem dX1_spread_75 : decode cX1_spread 75 = .ok (.iconst 0, 1) := by decide +kernel
theorem dX1_spread_76 : decode cX1_spread 76 = .ok (.istore 7, 2) := by decide +kernel
theorem dX1_spread_78 : decode cX1_spread 78 = .ok (.iload 7, 2) := by decide +kernel
theorem dX1_spread_80 : decode cX1_spread 80 = .ok (.aload_n 1, 1) := by decide +kernel
theorem dX1_spread_81 : decode cX1_spread 81 = .ok (.getfield 37, 3) := by decide +kernel
theorem dX1_spread_84 : decode cX1_spread 84 = .ok (.iload 6, 2) := by decide +kernel
theorem dX1_spread_86 : decode cX1_spread 86 = .ok (.iaload, 1) := by decide +kernel
theorem dX1_spread_87 : decode cX1_spread 87 = .ok (.if_icmp .ge 34, 3) := by decide +kernel
theorem dX1_spread_90 : decode cX1_spread 90 = .ok (.aload_n 0, 1) := by decide +kernel
theorem dX1_spread_91 : decode cX1_spread 91 = .ok (.aload_n 1, 1) := by decide +kernel
theorem dX1_spread_92 : decode cX1_spread 92 = .ok (.getfield 37, 3) := by decide +kernel
theorem dX1_spread_95 : decode cX1_spread 95 = .ok (.iload 6, 2) := by decide +kernel
theorem dX1_spread_97 : decode cX1_spread 97 = .ok (.iconst 1, 1) := by decide +kernel
theorem dX1_spread_98 : decode cX1_spread 98 = .ok (.iadd, 1) := by decide +kernel
theorem dX1_spread_99 : decode cX1_spread 99 = .ok (.iload 7, 2) := by decide +kernel
theorem dX1_spread_101 : decode cX1_spread 101 = .ok (.iadd, 1) := by decide +kernel
theorem dX1_spread_102 : decode cX1_spread 102 = .ok (.iaload, 1) := by decide +kernel
theorem dX1_spread_103 : decode cX1_spread 103 = .ok (.aload_n 0, 1) := by decide +kernel
theorem dX1_spread_104 : decode cX1_spread 104 = .ok (.getfield 9, 3) := by decide +kernel
theorem dX1_spread_107 : decode cX1_spread 107 = .ok (.iload 6, 2) := by decide +kernel
theorem dX1_spread_109 : decode cX1_spread 109 = .ok (.iaload, 1) := by decide +kernel
theorem dX1_spread_110 : decode cX1_spread 110 = .ok (.iconst 1, 1) := by decide +kernel
theorem dX1_spread_111 : decode cX1_spread 111 = .ok (.iadd, 1) := by decide +kernel
theorem dX1_spread_112 : decode cX1_spread 112 = .ok (.invokevirtual 33, 3) := by decide +kernel
theorem dX1_spread_115 : decode cX1_spread 115 = .ok (.iinc 7 1, 3) := by decide +kernel
theorem dX1_spread_118 : decode cX1_spread 118 = .ok (.goto (-40), 3) := by decide +kernel
theorem dX1_spread_121 : decode cX1_spread 121 = .ok (.iinc 5 1, 3) := by decide +kernel
theorem dX1_spread_124 : decode cX1_spread 124 = .ok (.goto (-67), 3) := by decide +kernel
theorem dX1_spread_127 : decode cX1_spread 127 = .ok (.return_, 1) := by decide +kernel
theorem dX1_visit_0 : decode cX1_visit 0 = .ok (.iload_n 1, 1) := by decide +kernel
theorem dX1_visit_1 : decode cX1_visit 1 = .ok (.iconst (-1), 1) := by decide +kernel
theorem dX1_visit_2 : decode cX1_visit 2 = .ok (.if_icmp .eq 40, 3) := by decide +kernel
theorem dX1_visit_5 : decode cX1_visit 5 = .ok (.aload_n 0, 1) := by decide +kernel
theorem dX1_visit_6 : decode cX1_visit 6 = .ok (.getfield 9, 3) := by decide +kernel
theorem dX1_visit_9 : decode cX1_visit 9 = .ok (.iload_n 1, 1) := by decide +kernel
theorem dX1_visit_10 : decode cX1_visit 10 = .ok (.iaload, 1) := by decide +kernel
theorem dX1_visit_11 : decode cX1_visit 11 = .ok (.iconst (-1), 1) := by decide +kernel
theorem dX1_visit_12 : decode cX1_visit 12 = .ok (.if_icmp .ne 30, 3) := by decide +kernel
theorem dX1_visit_15 : decode cX1_visit 15 = .ok (.aload_n 0, 1) := by decide +kernel
theorem dX1_visit_16 : decode cX1_visit 16 = .ok (.getfield 9, 3) := by decide +kernel
theorem dX1_visit_19 : decode cX1_visit 19 = .ok (.iload_n 1, 1) := by decide +kernel
theorem dX1_visit_20 : decode cX1_visit 20 = .ok (.iload_n 2, 1) := by decide +kernel
theorem dX1_visit_21 : decode cX1_visit 21 = .ok (.iastore, 1) := by decide +kernel
theorem dX1_visit_22 : decode cX1_visit 22 = .ok (.aload_n 0, 1) := by decide +kernel
theorem dX1_visit_23 : decode cX1_visit 23 = .ok (.getfield 15, 3) := by decide +kernel
theorem dX1_visit_26 : decode cX1_visit 26 = .ok (.aload_n 0, 1) := by decide +kernel
theorem dX1_visit_27 : decode cX1_visit 27 = .ok (.getfield 18, 3) := by decide +kernel
theorem dX1_visit_30 : decode cX1_visit 30 = .ok (.iload_n 1, 1) := by decide +kernel
theorem dX1_visit_31 : decode cX1_visit 31 = .ok (.iastore, 1) := by decide +kernel
theorem dX1_visit_32 : decode cX1_visit 32 = .ok (.aload_n 0, 1) := by decide +kernel
theorem dX1_visit_33 : decode cX1_visit 33 = .ok (.dup, 1) := by decide +kernel
theorem dX1_visit_34 : decode cX1_visit 34 = .ok (.getfield 18, 3) := by decide +kernel
theorem dX1_visit_37 : decode cX1_visit 37 = .ok (.iconst 1, 1) := by decide +kernel
theorem dX1_visit_38 : decode cX1_visit 38 = .ok (.iadd, 1) := by decide +kernel
theorem dX1_visit_39 : decode cX1_visit 39 = .ok (.putfield 18, 3) := by decide +kernel
theorem dX1_visit_42 : decode cX1_visit 42 = .ok (.return_, 1) := by decide +kernel
theorem dX1_foundCells_0 : decode cX1_foundCells 0 = .ok (.iconst 0, 1) := by decide +kernel
theorem dX1_foundCells_1 : decode cX1_foundCells 1 = .ok (.istore_n 2, 1) := by decide +kernel
theorem dX1_foundCells_2 : decode cX1_foundCells 2 = .ok (.iconst 0, 1) := by decide +kernel
theorem dX1_foundCells_3 : decode cX1_foundCells 3 = .ok (.istore_n 3, 1) := by decide +kernel
theorem dX1_foundCells_4 : decode cX1_foundCells 4 = .ok (.iload_n 3, 1) := by decide +kernel
theorem dX1_foundCells_5 : decode cX1_foundCells 5 = .ok (.aload_n 0, 1) := by decide +kernel
theorem dX1_foundCells_6 : decode cX1_foundCells 6 = .ok (.getfield 18, 3) := by decide +kernel
theorem dX1_foundCells_9 : decode cX1_foundCells 9 = .ok (.if_icmp .ge 22, 3) := by decide +kernel
theorem dX1_foundCells_12 : decode cX1_foundCells 12 = .ok (.iload_n 2, 1) := by decide +kernel
theorem dX1_foundCells_13 : decode cX1_foundCells 13 = .ok (.aload_n 1, 1) := by decide +kernel
theorem dX1_foundCells_14 : decode cX1_foundCells 14 = .ok (.aload_n 0, 1) := by decide +kernel
theorem dX1_foundCells_15 : decode cX1_foundCells 15 = .ok (.getfield 15, 3) := by decide +kernel
theorem dX1_foundCells_18 : decode cX1_foundCells 18 = .ok (.iload_n 3, 1) := by decide +kernel
theorem dX1_foundCells_19 : decode cX1_foundCells 19 = .ok (.iaload, 1) := by decide +kernel
theorem dX1_foundCells_20 : decode cX1_foundCells 20 = .ok (.invokevirtual 40, 3) := by decide +kernel
theorem dX1_foundCells_23 : decode cX1_foundCells 23 = .ok (.iadd, 1) := by decide +kernel
theorem dX1_foundCells_24 : decode cX1_foundCells 24 = .ok (.istore_n 2, 1) := by decide +kernel
theorem dX1_foundCells_25 : decode cX1_foundCells 25 = .ok (.iinc 3 1, 3) := by decide +kernel
theorem dX1_foundCells_28 : decode cX1_foundCells 28 = .ok (.goto (-24), 3) := by decide +kernel
theorem dX1_foundCells_31 : decode cX1_foundCells 31 = .ok (.iload_n 2, 1) := by decide +kernel
theorem dX1_foundCells_32 : decode cX1_foundCells 32 = .ok (.ireturn, 1) := by decide +kernel
theorem dX1_floating_0 : decode cX1_floating 0 = .ok (.iconst 0, 1) := by decide +kernel
theorem dX1_floating_1 : decode cX1_floating 1 = .ok (.istore_n 2, 1) := by decide +kernel
theorem dX1_floating_2 : decode cX1_floating 2 = .ok (.iconst 0, 1) := by decide +kernel
theorem dX1_floating_3 : decode cX1_floating 3 = .ok (.istore_n 3, 1) := by decide +kernel
theorem dX1_floating_4 : decode cX1_floating 4 = .ok (.iload_n 3, 1) := by decide +kernel
theorem dX1_floating_5 : decode cX1_floating 5 = .ok (.sipush 128, 3) := by decide +kernel
theorem dX1_floating_8 : decode cX1_floating 8 = .ok (.if_icmp .ge 34, 3) := by decide +kernel
theorem dX1_floating_11 : decode cX1_floating 11 = .ok (.aload_n 1, 1) := by decide +kernel
theorem dX1_floating_12 : decode cX1_floating 12 = .ok (.getfield 44, 3) := by decide +kernel
theorem dX1_floating_15 : decode cX1_floating 15 = .ok (.iload_n 3, 1) := by decide +kernel
theorem dX1_floating_16 : decode cX1_floating 16 = .ok (.invokevirtual 48, 3) := by decide +kernel
theorem dX1_floating_19 : decode cX1_floating 19 = .ok (.iconst 1, 1) := by decide +kernel
theorem dX1_floating_20 : decode cX1_floating 20 = .ok (.if_icmp .le 16, 3) := by decide +kernel
theorem dX1_floating_23 : decode cX1_floating 23 = .ok (.aload_n 0, 1) := by decide +kernel
theorem dX1_floating_24 : decode cX1_floating 24 = .ok (.getfield 9, 3) := by decide +kernel
theorem dX1_floating_27 : decode cX1_floating 27 = .ok (.iload_n 3, 1) := by decide +kernel
theorem dX1_floating_28 : decode cX1_floating 28 = .ok (.iaload, 1) := by decide +kernel
theorem dX1_floating_29 : decode cX1_floating 29 = .ok (.iconst (-1), 1) := by decide +kernel
theorem dX1_floating_30 : decode cX1_floating 30 = .ok (.if_icmp .ne 6, 3) := by decide +kernel
theorem dX1_floating_33 : decode cX1_floating 33 = .ok (.iinc 2 1, 3) := by decide +kernel
theorem dX1_floating_36 : decode cX1_floating 36 = .ok (.iinc 3 2, 3) := by decide +kernel
theorem dX1_floating_39 : decode cX1_floating 39 = .ok (.goto (-35), 3) := by decide +kernel
theorem dX1_floating_42 : decode cX1_floating 42 = .ok (.iload_n 2, 1) := by decide +kernel
theorem dX1_floating_43 : decode cX1_floating 43 = .ok (.ireturn, 1) := by decide +kernel
theorem dX2_init_0 : decode cX2_init 0 = .ok (.aload_n 0, 1) := by decide +kernel
theorem dX2_init_1 : decode cX2_init 1 = .ok (.invokespecial 3, 3) := by decide +kernel
theorem dX2_init_4 : decode cX2_init 4 = .ok (.aload_n 0, 1) := by decide +kernel
theorem dX2_init_5 : decode cX2_init 5 = .ok (.iconst 0, 1) := by decide +kernel
theorem dX2_init_6 : decode cX2_init 6 = .ok (.newarray .int, 2) := by decide +kernel
theorem dX2_init_8 : decode cX2_init 8 = .ok (.putfield 9, 3) := by decide +kernel
theorem dX2_init_11 : decode cX2_init 11 = .ok (.aload_n 0, 1) := by decide +kernel
theorem dX2_init_12 : decode cX2_init 12 = .ok (.iconst 0, 1) := by decide +kernel
theorem dX2_init_13 : decode cX2_init 13 = .ok (.putfield 15, 3) := by decide +kernel
theorem dX2_init_16 : decode cX2_init 16 = .ok (.aload_n 0, 1) := by decide +kernel
theorem dX2_init_17 : decode cX2_init 17 = .ok (.iconst 0, 1) := by decide +kernel
theorem dX2_init_18 : decode cX2_init 18 = .ok (.putfield 19, 3) := by decide +kernel
theorem dX2_init_21 : decode cX2_init 21 = .ok (.aload_n 0, 1) := by decide +kernel
theorem dX2_init_22 : decode cX2_init 22 = .ok (.iconst 0, 1) := by decide +kernel
theorem dX2_init_23 : decode cX2_init 23 = .ok (.putfield 22, 3) := by decide +kernel
theorem dX2_init_26 : decode cX2_init 26 = .ok (.aload_n 0, 1) := by decide +kernel
theorem dX2_init_27 : decode cX2_init 27 = .ok (.new 25, 3) := by decide +kernel
theorem dX2_init_30 : decode cX2_init 30 = .ok (.dup, 1) := by decide +kernel
theorem dX2_init_31 : decode cX2_init 31 = .ok (.invokespecial 27, 3) := by decide +kernel
theorem dX2_init_34 : decode cX2_init 34 = .ok (.putfield 28, 3) := by decide +kernel
theorem dX2_init_37 : decode cX2_init 37 = .ok (.aload_n 0, 1) := by decide +kernel
theorem dX2_init_38 : decode cX2_init 38 = .ok (.iconst 4, 1) := by decide +kernel
theorem dX2_init_39 : decode cX2_init 39 = .ok (.newarray .int, 2) := by decide +kernel
theorem dX2_init_41 : decode cX2_init 41 = .ok (.putfield 32, 3) := by decide +kernel
theorem dX2_init_44 : decode cX2_init 44 = .ok (.aload_n 0, 1) := by decide +kernel
theorem dX2_init_45 : decode cX2_init 45 = .ok (.iconst 0, 1) := by decide +kernel
theorem dX2_init_46 : decode cX2_init 46 = .ok (.putfield 35, 3) := by decide +kernel
theorem dX2_init_49 : decode cX2_init 49 = .ok (.aload_n 0, 1) := by decide +kernel
theorem dX2_init_50 : decode cX2_init 50 = .ok (.iconst 0, 1) := by decide +kernel
theorem dX2_init_51 : decode cX2_init 51 = .ok (.putfield 38, 3) := by decide +kernel
theorem dX2_init_54 : decode cX2_init 54 = .ok (.aload_n 0, 1) := by decide +kernel
theorem dX2_init_55 : decode cX2_init 55 = .ok (.iconst (-1), 1) := by decide +kernel
theorem dX2_init_56 : decode cX2_init 56 = .ok (.putfield 41, 3) := by decide +kernel
theorem dX2_init_59 : decode cX2_init 59 = .ok (.return_, 1) := by decide +kernel
theorem dX2_read_0 : decode cX2_read 0 = .ok (.aload_n 0, 1) := by decide +kernel
theorem dX2_read_1 : decode cX2_read 1 = .ok (.aload_n 1, 1) := by decide +kernel
theorem dX2_read_2 : decode cX2_read 2 = .ok (.putfield 9, 3) := by decide +kernel
theorem dX2_read_5 : decode cX2_read 5 = .ok (.aload_n 0, 1) := by decide +kernel
theorem dX2_read_6 : decode cX2_read 6 = .ok (.iload_n 2, 1) := by decide +kernel
theorem dX2_read_7 : decode cX2_read 7 = .ok (.putfield 15, 3) := by decide +kernel
theorem dX2_read_10 : decode cX2_read 10 = .ok (.aload_n 0, 1) := by decide +kernel
theorem dX2_read_11 : decode cX2_read 11 = .ok (.aload_n 3, 1) := by decide +kernel
theorem dX2_read_12 : decode cX2_read 12 = .ok (.putfield 28, 3) := by decide +kernel
theorem dX2_read_15 : decode cX2_read 15 = .ok (.aload_n 0, 1) := by decide +kernel
theorem dX2_read_16 : decode cX2_read 16 = .ok (.getfield 28, 3) := by decide +kernel
theorem dX2_read_19 : decode cX2_read 19 = .ok (.iconst 0, 1) := by decide +kernel
theorem dX2_read_20 : decode cX2_read 20 = .ok (.putfield 44, 3) := by decide +kernel
theorem dX2_read_23 : decode cX2_read 23 = .ok (.aload_n 0, 1) := by decide +kernel
theorem dX2_read_24 : decode cX2_read 24 = .ok (.iconst 0, 1) := by decide +kernel
theorem dX2_read_25 : decode cX2_read 25 = .ok (.putfield 35, 3) := by decide +kernel
theorem dX2_read_28 : decode cX2_read 28 = .ok (.aload_n 0, 1) := by decide +kernel
theorem dX2_read_29 : decode cX2_read 29 = .ok (.iconst 0, 1) := by decide +kernel
theorem dX2_read_30 : decode cX2_read 30 = .ok (.putfield 38, 3) := by decide +kernel
theorem dX2_read_33 : decode cX2_read 33 = .ok (.aload_n 0, 1) := by decide +kernel
theorem dX2_read_34 : decode cX2_read 34 = .ok (.iconst (-1), 1) := by decide +kernel
theorem dX2_read_35 : decode cX2_read 35 = .ok (.putfield 41, 3) := by decide +kernel
theorem dX2_read_38 : decode cX2_read 38 = .ok (.aload_n 0, 1) := by decide +kernel
theorem dX2_read_39 : decode cX2_read 39 = .ok (.iconst 0, 1) := by decide +kernel
theorem dX2_read_40 : decode cX2_read 40 = .ok (.putfield 22, 3) := by decide +kernel
theorem dX2_read_43 : decode cX2_read 43 = .ok (.aload_n 0, 1) := by decide +kernel
theorem dX2_read_44 : decode cX2_read 44 = .ok (.invokevirtual 47, 3) := by decide +kernel
theorem dX2_read_47 : decode cX2_read 47 = .ok (.iconst 0, 1) := by decide +kernel
theorem dX2_read_48 : decode cX2_read 48 = .ok (.istore 4, 2) := by decide +kernel
theorem dX2_read_50 : decode cX2_read 50 = .ok (.iload 4, 2) := by decide +kernel
theorem dX2_read_52 : decode cX2_read 52 = .ok (.sipush 400, 3) := by decide +kernel
theorem dX2_read_55 : decode cX2_read 55 = .ok (.if_icmp .ge 47, 3) := by decide +kernel
theorem dX2_read_58 : decode cX2_read 58 = .ok (.aload_n 0, 1) := by decide +kernel
theorem dX2_read_59 : decode cX2_read 59 = .ok (.getfield 19, 3) := by decide +kernel
theorem dX2_read_62 : decode cX2_read 62 = .ok (.aload_n 0, 1) := by decide +kernel
theorem dX2_read_63 : decode cX2_read 63 = .ok (.getfield 15, 3) := by decide +kernel
theorem dX2_read_66 : decode cX2_read 66 = .ok (.if_icmp .ge 36, 3) := by decide +kernel
theorem dX2_read_69 : decode cX2_read 69 = .ok (.aload_n 0, 1) := by decide +kernel
theorem dX2_read_70 : decode cX2_read 70 = .ok (.getfield 38, 3) := by decide +kernel
theorem dX2_read_73 : decode cX2_read 73 = .ok (.ifCond .ne 29, 3) := by decide +kernel
theorem dX2_read_76 : decode cX2_read 76 = .ok (.aload_n 0, 1) := by decide +kernel
theorem dX2_read_77 : decode cX2_read 77 = .ok (.bipush 125, 2) := by decide +kernel
theorem dX2_read_79 : decode cX2_read 79 = .ok (.invokevirtual 50, 3) := by decide +kernel
theorem dX2_read_82 : decode cX2_read 82 = .ok (.ifCond .eq 10, 3) := by decide +kernel
theorem dX2_read_85 : decode cX2_read 85 = .ok (.aload_n 0, 1) := by decide +kernel
theorem dX2_read_86 : decode cX2_read 86 = .ok (.invokevirtual 54, 3) := by decide +kernel
theorem dX2_read_89 : decode cX2_read 89 = .ok (.goto 7, 3) := by decide +kernel
theorem dX2_read_92 : decode cX2_read 92 = .ok (.aload_n 0, 1) := by decide +kernel
theorem dX2_read_93 : decode cX2_read 93 = .ok (.invokevirtual 57, 3) := by decide +kernel
theorem dX2_read_96 : decode cX2_read 96 = .ok (.iinc 4 1, 3) := by decide +kernel
theorem dX2_read_99 : decode cX2_read 99 = .ok (.goto (-49), 3) := by decide +kernel
theorem dX2_read_102 : decode cX2_read 102 = .ok (.aload_n 0, 1) := by decide +kernel
theorem dX2_read_103 : decode cX2_read 103 = .ok (.getfield 35, 3) := by decide +kernel
theorem dX2_read_106 : decode cX2_read 106 = .ok (.ifCond .le 8, 3) := by decide +kernel
theorem dX2_read_109 : decode cX2_read 109 = .ok (.aload_n 0, 1) := by decide +kernel
theorem dX2_read_110 : decode cX2_read 110 = .ok (.iconst 1, 1) := by decide +kernel
theorem dX2_read_111 : decode cX2_read 111 = .ok (.invokevirtual 60, 3) := by decide +kernel
theorem dX2_read_114 : decode cX2_read 114 = .ok (.return_, 1) := by decide +kernel
theorem dX2_advanceToken_0 : decode cX2_advanceToken 0 = .ok (.aload_n 0, 1) := by decide +kernel
theorem dX2_advanceToken_1 : decode cX2_advanceToken 1 = .ok (.aload_n 0, 1) := by decide +kernel
theorem dX2_advanceToken_2 : decode cX2_advanceToken 2 = .ok (.getfield 22, 3) := by decide +kernel
theorem dX2_advanceToken_5 : decode cX2_advanceToken 5 = .ok (.putfield 19, 3) := by decide +kernel
theorem dX2_advanceToken_8 : decode cX2_advanceToken 8 = .ok (.aload_n 0, 1) := by decide +kernel
theorem dX2_advanceToken_9 : decode cX2_advanceToken 9 = .ok (.getfield 19, 3) := by decide +kernel
theorem dX2_advanceToken_12 : decode cX2_advanceToken 12 = .ok (.aload_n 0, 1) := by decide +kernel
theorem dX2_advanceToken_13 : decode cX2_advanceToken 13 = .ok (.getfield 15, 3) := by decide +kernel
theorem dX2_advanceToken_16 : decode cX2_advanceToken 16 = .ok (.if_icmp .ge 44, 3) := by decide +kernel
theorem dX2_advanceToken_19 : decode cX2_advanceToken 19 = .ok (.aload_n 0, 1) := by decide +kernel
theorem dX2_advanceToken_20 : decode cX2_advanceToken 20 = .ok (.getfield 9, 3) := by decide +kernel
theorem dX2_advanceToken_23 : decode cX2_advanceToken 23 = .ok (.aload_n 0, 1) := by decide +kernel
theorem dX2_advanceToken_24 : decode cX2_advanceToken 24 = .ok (.getfield 19, 3) := by decide +kernel
theorem dX2_advanceToken_27 : decode cX2_advanceToken 27 = .ok (.iaload, 1) := by decide +kernel
theorem dX2_advanceToken_28 : decode cX2_advanceToken 28 = .ok (.bipush 32, 2) := by decide +kernel
theorem dX2_advanceToken_30 : decode cX2_advanceToken 30 = .ok (.if_icmp .eq 17, 3) := by decide +kernel
theorem dX2_advanceToken_33 : decode cX2_advanceToken 33 = .ok (.aload_n 0, 1) := by decide +kernel
theorem dX2_advanceToken_34 : decode cX2_advanceToken 34 = .ok (.getfield 9, 3) := by decide +kernel
theorem dX2_advanceToken_37 : decode cX2_advanceToken 37 = .ok (.aload_n 0, 1) := by decide +kernel
theorem dX2_advanceToken_38 : decode cX2_advanceToken 38 = .ok (.getfield 19, 3) := by decide +kernel
theorem dX2_advanceToken_41 : decode cX2_advanceToken 41 = .ok (.iaload, 1) := by decide +kernel
theorem dX2_advanceToken_42 : decode cX2_advanceToken 42 = .ok (.bipush 10, 2) := by decide +kernel
theorem dX2_advanceToken_44 : decode cX2_advanceToken 44 = .ok (.if_icmp .ne 16, 3) := by decide +kernel
theorem dX2_advanceToken_47 : decode cX2_advanceToken 47 = .ok (.aload_n 0, 1) := by decide +kernel
theorem dX2_advanceToken_48 : decode cX2_advanceToken 48 = .ok (.dup, 1) := by decide +kernel
theorem dX2_advanceToken_49 : decode cX2_advanceToken 49 = .ok (.getfield 19, 3) := by decide +kernel
theorem dX2_advanceToken_52 : decode cX2_advanceToken 52 = .ok (.iconst 1, 1) := by decide +kernel
theorem dX2_advanceToken_53 : decode cX2_advanceToken 53 = .ok (.iadd, 1) := by decide +kernel
theorem dX2_advanceToken_54 : decode cX2_advanceToken 54 = .ok (.putfield 19, 3) := by decide +kernel
theorem dX2_advanceToken_57 : decode cX2_advanceToken 57 = .ok (.goto (-49), 3) := by decide +kernel
theorem dX2_advanceToken_60 : decode cX2_advanceToken 60 = .ok (.aload_n 0, 1) := by decide +kernel
theorem dX2_advanceToken_61 : decode cX2_advanceToken 61 = .ok (.aload_n 0, 1) := by decide +kernel
theorem dX2_advanceToken_62 : decode cX2_advanceToken 62 = .ok (.getfield 19, 3) := by decide +kernel
theorem dX2_advanceToken_65 : decode cX2_advanceToken 65 = .ok (.iconst 1, 1) := by decide +kernel
theorem dX2_advanceToken_66 : decode cX2_advanceToken 66 = .ok (.iadd, 1) := by decide +kernel
theorem dX2_advanceToken_67 : decode cX2_advanceToken 67 = .ok (.aload_n 0, 1) := by decide +kernel
theorem dX2_advanceToken_68 : decode cX2_advanceToken 68 = .ok (.getfield 15, 3) := by decide +kernel
theorem dX2_advanceToken_71 : decode cX2_advanceToken 71 = .ok (.invokestatic 64, 3) := by decide +kernel
theorem dX2_advanceToken_74 : decode cX2_advanceToken 74 = .ok (.putfield 22, 3) := by decide +kernel
theorem dX2_advanceToken_77 : decode cX2_advanceToken 77 = .ok (.aload_n 0, 1) := by decide +kernel
theorem dX2_advanceToken_78 : decode cX2_advanceToken 78 = .ok (.aload_n 0, 1) := by decide +kernel
theorem dX2_advanceToken_79 : decode cX2_advanceToken 79 = .ok (.getfield 19, 3) := by decide +kernel
theorem dX2_advanceToken_82 : decode cX2_advanceToken 82 = .ok (.invokevirtual 70, 3) := by decide +kernel
theorem dX2_advanceToken_85 : decode cX2_advanceToken 85 = .ok (.ifCond .eq 38, 3) := by decide +kernel
theorem dX2_advanceToken_88 : decode cX2_advanceToken 88 = .ok (.aload_n 0, 1) := by decide +kernel
theorem dX2_advanceToken_89 : decode cX2_advanceToken 89 = .ok (.getfield 22, 3) := by decide +kernel
theorem dX2_advanceToken_92 : decode cX2_advanceToken 92 = .ok (.aload_n 0, 1) := by decide +kernel
theorem dX2_advanceToken_93 : decode cX2_advanceToken 93 = .ok (.getfield 15, 3) := by decide +kernel
theorem dX2_advanceToken_96 : decode cX2_advanceToken 96 = .ok (.if_icmp .ge 73, 3) := by decide +kernel
theorem dX2_advanceToken_99 : decode cX2_advanceToken 99 = .ok (.aload_n 0, 1) := by decide +kernel
theorem dX2_advanceToken_100 : decode cX2_advanceToken 100 = .ok (.aload_n 0, 1) := by decide +kernel
theorem dX2_advanceToken_101 : decode cX2_advanceToken 101 = .ok (.getfield 22, 3) := by decide +kernel
theorem dX2_advanceToken_104 : decode cX2_advanceToken 104 = .ok (.invokevirtual 70, 3) := by decide +kernel
theorem dX2_advanceToken_107 : decode cX2_advanceToken 107 = .ok (.ifCond .eq 62, 3) := by decide +kernel
theorem dX2_advanceToken_110 : decode cX2_advanceToken 110 = .ok (.aload_n 0, 1) := by decide +kernel
theorem dX2_advanceToken_111 : decode cX2_advanceToken 111 = .ok (.dup, 1) := by decide +kernel
theorem dX2_advanceToken_112 : decode cX2_advanceToken 112 = .ok (.getfield 22, 3) := by decide +kernel
theorem dX2_advanceToken_115 : decode cX2_advanceToken 115 = .ok (.iconst 1, 1) := by decide +kernel
theorem dX2_advanceToken_116 : decode cX2_advanceToken 116 = .ok (.iadd, 1) := by decide +kernel
theorem dX2_advanceToken_117 : decode cX2_advanceToken 117 = .ok (.putfield 22, 3) := by decide +kernel
theorem dX2_advanceToken_120 : decode cX2_advanceToken 120 = .ok (.goto (-32), 3) := by decide +kernel
theorem dX2_advanceToken_123 : decode cX2_advanceToken 123 = .ok (.aload_n 0, 1) := by decide +kernel
theorem dX2_advanceToken_124 : decode cX2_advanceToken 124 = .ok (.aload_n 0, 1) := by decide +kernel
theorem dX2_advanceToken_125 : decode cX2_advanceToken 125 = .ok (.getfield 19, 3) := by decide +kernel
theorem dX2_advanceToken_128 : decode cX2_advanceToken 128 = .ok (.invokevirtual 74, 3) := by decide +kernel
theorem dX2_advanceToken_131 : decode cX2_advanceToken 131 = .ok (.ifCond .eq 38, 3) := by decide +kernel
theorem dX2_advanceToken_134 : decode cX2_advanceToken 134 = .ok (.aload_n 0, 1) := by decide +kernel
theorem dX2_advanceToken_135 : decode cX2_advanceToken 135 = .ok (.getfield 22, 3) := by decide +kernel
theorem dX2_advanceToken_138 : decode cX2_advanceToken 138 = .ok (.aload_n 0, 1) := by decide +kernel
theorem dX2_advanceToken_139 : decode cX2_advanceToken 139 = .ok (.getfield 15, 3) := by decide +kernel
theorem dX2_advanceToken_142 : decode cX2_advanceToken 142 = .ok (.if_icmp .ge 27, 3) := by decide +kernel
theorem dX2_advanceToken_145 : decode cX2_advanceToken 145 = .ok (.aload_n 0, 1) := by decide +kernel
theorem dX2_advanceToken_146 : decode cX2_advanceToken 146 = .ok (.aload_n 0, 1) := by decide +kernel
theorem dX2_advanceToken_147 : decode cX2_advanceToken 147 = .ok (.getfield 22, 3) := by decide +kernel
theorem dX2_advanceToken_150 : decode cX2_advanceToken 150 = .ok (.invokevirtual 74, 3) := by decide +kernel
theorem dX2_advanceToken_153 : decode cX2_advanceToken 153 = .ok (.ifCond .eq 16, 3) := by decide +kernel
theorem dX2_advanceToken_156 : decode cX2_advanceToken 156 = .ok (.aload_n 0, 1) := by decide +kernel
theorem dX2_advanceToken_157 : decode cX2_advanceToken 157 = .ok (.dup, 1) := by decide +kernel
theorem dX2_advanceToken_158 : decode cX2_advanceToken 158 = .ok (.getfield 22, 3) := by decide +kernel
theorem dX2_advanceToken_161 : decode cX2_advanceToken 161 = .ok (.iconst 1, 1) := by decide +kernel
theorem dX2_advanceToken_162 : decode cX2_advanceToken 162 = .ok (.iadd, 1) := by decide +kernel
theorem dX2_advanceToken_163 : decode cX2_advanceToken 163 = .ok (.putfield 22, 3) := by decide +kernel
theorem dX2_advanceToken_166 : decode cX2_advanceToken 166 = .ok (.goto (-32), 3) := by decide +kernel
theorem dX2_advanceToken_169 : decode cX2_advanceToken 169 = .ok (.return_, 1) := by decide +kernel
theorem dX2_isLetter_0 : decode cX2_isLetter 0 = .ok (.iload_n 1, 1) := by decide +kernel
theorem dX2_isLetter_1 : decode cX2_isLetter 1 = .ok (.aload_n 0, 1) := by decide +kernel
theorem dX2_isLetter_2 : decode cX2_isLetter 2 = .ok (.getfield 15, 3) := by decide +kernel
theorem dX2_isLetter_5 : decode cX2_isLetter 5 = .ok (.if_icmp .ge 29, 3) := by decide +kernel
theorem dX2_isLetter_8 : decode cX2_isLetter 8 = .ok (.aload_n 0, 1) := by decide +kernel
theorem dX2_isLetter_9 : decode cX2_isLetter 9 = .ok (.getfield 9, 3) := by decide +kernel
theorem dX2_isLetter_12 : decode cX2_isLetter 12 = .ok (.iload_n 1, 1) := by decide +kernel
theorem dX2_isLetter_13 : decode cX2_isLetter 13 = .ok (.iaload, 1) := by decide +kernel
theorem dX2_isLetter_14 : decode cX2_isLetter 14 = .ok (.bipush 97, 2) := by decide +kernel
theorem dX2_isLetter_16 : decode cX2_isLetter 16 = .ok (.if_icmp .lt 18, 3) := by decide +kernel
theorem dX2_isLetter_19 : decode cX2_isLetter 19 = .ok (.aload_n 0, 1) := by decide +kernel
theorem dX2_isLetter_20 : decode cX2_isLetter 20 = .ok (.getfield 9, 3) := by decide +kernel
theorem dX2_isLetter_23 : decode cX2_isLetter 23 = .ok (.iload_n 1, 1) := by decide +kernel
theorem dX2_isLetter_24 : decode cX2_isLetter 24 = .ok (.iaload, 1) := by decide +kernel
theorem dX2_isLetter_25 : decode cX2_isLetter 25 = .ok (.bipush 122, 2) := by decide +kernel
theorem dX2_isLetter_27 : decode cX2_isLetter 27 = .ok (.if_icmp .gt 7, 3) := by decide +kernel
theorem dX2_isLetter_30 : decode cX2_isLetter 30 = .ok (.iconst 1, 1) := by decide +kernel
theorem dX2_isLetter_31 : decode cX2_isLetter 31 = .ok (.goto 4, 3) := by decide +kernel
theorem dX2_isLetter_34 : decode cX2_isLetter 34 = .ok (.iconst 0, 1) := by decide +kernel
theorem dX2_isLetter_35 : decode cX2_isLetter 35 = .ok (.ireturn, 1) := by decide +kernel
theorem dX2_isDigit_0 : decode cX2_isDigit 0 = .ok (.iload_n 1, 1) := by decide +kernel
theorem dX2_isDigit_1 : decode cX2_isDigit 1 = .ok (.aload_n 0, 1) := by decide +kernel
theorem dX2_isDigit_2 : decode cX2_isDigit 2 = .ok (.getfield 15, 3) := by decide +kernel
theorem dX2_isDigit_5 : decode cX2_isDigit 5 = .ok (.if_icmp .ge 29, 3) := by decide +kernel
theorem dX2_isDigit_8 : decode cX2_isDigit 8 = .ok (.aload_n 0, 1) := by decide +kernel
theorem dX2_isDigit_9 : decode cX2_isDigit 9 = .ok (.getfield 9, 3) := by decide +kernel
theorem dX2_isDigit_12 : decode cX2_isDigit 12 = .ok (.iload_n 1, 1) := by decide +kernel
theorem dX2_isDigit_13 : decode cX2_isDigit 13 = .ok (.iaload, 1) := by decide +kernel
theorem dX2_isDigit_14 : decode cX2_isDigit 14 = .ok (.bipush 48, 2) := by decide +kernel
theorem dX2_isDigit_16 : decode cX2_isDigit 16 = .ok (.if_icmp .lt 18, 3) := by decide +kernel
theorem dX2_isDigit_19 : decode cX2_isDigit 19 = .ok (.aload_n 0, 1) := by decide +kernel
theorem dX2_isDigit_20 : decode cX2_isDigit 20 = .ok (.getfield 9, 3) := by decide +kernel
theorem dX2_isDigit_23 : decode cX2_isDigit 23 = .ok (.iload_n 1, 1) := by decide +kernel
theorem dX2_isDigit_24 : decode cX2_isDigit 24 = .ok (.iaload, 1) := by decide +kernel
theorem dX2_isDigit_25 : decode cX2_isDigit 25 = .ok (.bipush 57, 2) := by decide +kernel
theorem dX2_isDigit_27 : decode cX2_isDigit 27 = .ok (.if_icmp .gt 7, 3) := by decide +kernel
theorem dX2_isDigit_30 : decode cX2_isDigit 30 = .ok (.iconst 1, 1) := by decide +kernel
theorem dX2_isDigit_31 : decode cX2_isDigit 31 = .ok (.goto 4, 3) := by decide +kernel
theorem dX2_isDigit_34 : decode cX2_isDigit 34 = .ok (.iconst 0, 1) := by decide +kernel
theorem dX2_isDigit_35 : decode cX2_isDigit 35 = .ok (.ireturn, 1) := by decide +kernel
theorem dX2_isSign_0 : decode cX2_isSign 0 = .ok (.aload_n 0, 1) := by decide +kernel
theorem dX2_isSign_1 : decode cX2_isSign 1 = .ok (.getfield 19, 3) := by decide +kernel
theorem dX2_isSign_4 : decode cX2_isSign 4 = .ok (.aload_n 0, 1) := by decide +kernel
theorem dX2_isSign_5 : decode cX2_isSign 5 = .ok (.getfield 15, 3) := by decide +kernel
theorem dX2_isSign_8 : decode cX2_isSign 8 = .ok (.if_icmp .ge 20, 3) := by decide +kernel
theorem dX2_isSign_11 : decode cX2_isSign 11 = .ok (.aload_n 0, 1) := by decide +kernel
theorem dX2_isSign_12 : decode cX2_isSign 12 = .ok (.getfield 9, 3) := by decide +kernel
theorem dX2_isSign_15 : decode cX2_isSign 15 = .ok (.aload_n 0, 1) := by decide +kernel
theorem dX2_isSign_16 : decode cX2_isSign 16 = .ok (.getfield 19, 3) := by decide +kernel
theorem dX2_isSign_19 : decode cX2_isSign 19 = .ok (.iaload, 1) := by decide +kernel
theorem dX2_isSign_20 : decode cX2_isSign 20 = .ok (.iload_n 1, 1) := by decide +kernel
theorem dX2_isSign_21 : decode cX2_isSign 21 = .ok (.if_icmp .ne 7, 3) := by decide +kernel
theorem dX2_isSign_24 : decode cX2_isSign 24 = .ok (.iconst 1, 1) := by decide +kernel
theorem dX2_isSign_25 : decode cX2_isSign 25 = .ok (.goto 4, 3) := by decide +kernel
theorem dX2_isSign_28 : decode cX2_isSign 28 = .ok (.iconst 0, 1) := by decide +kernel
theorem dX2_isSign_29 : decode cX2_isSign 29 = .ok (.ireturn, 1) := by decide +kernel
theorem dX2_isWord_0 : decode cX2_isWord 0 = .ok (.aload_n 0, 1) := by decide +kernel
theorem dX2_isWord_1 : decode cX2_isWord 1 = .ok (.getfield 22, 3) := by decide +kernel
theorem dX2_isWord_4 : decode cX2_isWord 4 = .ok (.aload_n 0, 1) := by decide +kernel
theorem dX2_isWord_5 : decode cX2_isWord 5 = .ok (.getfield 19, 3) := by decide +kernel
theorem dX2_isWord_8 : decode cX2_isWord 8 = .ok (.isub, 1) := by decide +kernel
theorem dX2_isWord_9 : decode cX2_isWord 9 = .ok (.aload_n 1, 1) := by decide +kernel
theorem dX2_isWord_10 : decode cX2_isWord 10 = .ok (.invokevirtual 77, 3) := by decide +kernel
theorem dX2_isWord_13 : decode cX2_isWord 13 = .ok (.if_icmp .eq 5, 3) := by decide +kernel
theorem dX2_isWord_16 : decode cX2_isWord 16 = .ok (.iconst 0, 1) := by decide +kernel
theorem dX2_isWord_17 : decode cX2_isWord 17 = .ok (.ireturn, 1) := by decide +kernel
theorem dX2_isWord_18 : decode cX2_isWord 18 = .ok (.iconst 0, 1) := by decide +kernel
theorem dX2_isWord_19 : decode cX2_isWord 19 = .ok (.istore_n 2, 1) := by decide +kernel
theorem dX2_isWord_20 : decode cX2_isWord 20 = .ok (.iload_n 2, 1) := by decide +kernel
theorem dX2_isWord_21 : decode cX2_isWord 21 = .ok (.aload_n 1, 1) := by decide +kernel
theorem dX2_isWord_22 : decode cX2_isWord 22 = .ok (.invokevirtual 77, 3) := by decide +kernel
theorem dX2_isWord_25 : decode cX2_isWord 25 = .ok (.if_icmp .ge 30, 3) := by decide +kernel
theorem dX2_isWord_28 : decode cX2_isWord 28 = .ok (.aload_n 0, 1) := by decide +kernel
theorem dX2_isWord_29 : decode cX2_isWord 29 = .ok (.getfield 9, 3) := by decide +kernel
theorem dX2_isWord_32 : decode cX2_isWord 32 = .ok (.aload_n 0, 1) := by decide +kernel
theorem dX2_isWord_33 : decode cX2_isWord 33 = .ok (.getfield 19, 3) := by decide +kernel
theorem dX2_isWord_36 : decode cX2_isWord 36 = .ok (.iload_n 2, 1) := by decide +kernel
theorem dX2_isWord_37 : decode cX2_isWord 37 = .ok (.iadd, 1) := by decide +kernel
theorem dX2_isWord_38 : decode cX2_isWord 38 = .ok (.iaload, 1) := by decide +kernel
theorem dX2_isWord_39 : decode cX2_isWord 39 = .ok (.aload_n 1, 1) := by decide +kernel
theorem dX2_isWord_40 : decode cX2_isWord 40 = .ok (.iload_n 2, 1) := by decide +kernel
theorem dX2_isWord_41 : decode cX2_isWord 41 = .ok (.invokevirtual 82, 3) := by decide +kernel
theorem dX2_isWord_44 : decode cX2_isWord 44 = .ok (.if_icmp .eq 5, 3) := by decide +kernel
theorem dX2_isWord_47 : decode cX2_isWord 47 = .ok (.iconst 0, 1) := by decide +kernel
theorem dX2_isWord_48 : decode cX2_isWord 48 = .ok (.ireturn, 1) := by decide +kernel
theorem dX2_isWord_49 : decode cX2_isWord 49 = .ok (.iinc 2 1, 3) := by decide +kernel
theorem dX2_isWord_52 : decode cX2_isWord 52 = .ok (.goto (-32), 3) := by decide +kernel
theorem dX2_isWord_55 : decode cX2_isWord 55 = .ok (.iconst 1, 1) := by decide +kernel
theorem dX2_isWord_56 : decode cX2_isWord 56 = .ok (.ireturn, 1) := by decide +kernel
theorem dX2_rootHere_0 : decode cX2_rootHere 0 = .ok (.aload_n 0, 1) := by decide +kernel
theorem dX2_rootHere_1 : decode cX2_rootHere 1 = .ok (.getfield 22, 3) := by decide +kernel
theorem dX2_rootHere_4 : decode cX2_rootHere 4 = .ok (.aload_n 0, 1) := by decide +kernel
theorem dX2_rootHere_5 : decode cX2_rootHere 5 = .ok (.getfield 19, 3) := by decide +kernel
theorem dX2_rootHere_8 : decode cX2_rootHere 8 = .ok (.isub, 1) := by decide +kernel
theorem dX2_rootHere_9 : decode cX2_rootHere 9 = .ok (.iconst 1, 1) := by decide +kernel
theorem dX2_rootHere_10 : decode cX2_rootHere 10 = .ok (.if_icmp .ne 31, 3) := by decide +kernel
theorem dX2_rootHere_13 : decode cX2_rootHere 13 = .ok (.aload_n 0, 1) := by decide +kernel
theorem dX2_rootHere_14 : decode cX2_rootHere 14 = .ok (.getfield 9, 3) := by decide +kernel
theorem dX2_rootHere_17 : decode cX2_rootHere 17 = .ok (.aload_n 0, 1) := by decide +kernel
theorem dX2_rootHere_18 : decode cX2_rootHere 18 = .ok (.getfield 19, 3) := by decide +kernel
theorem dX2_rootHere_21 : decode cX2_rootHere 21 = .ok (.iaload, 1) := by decide +kernel
theorem dX2_rootHere_22 : decode cX2_rootHere 22 = .ok (.bipush 97, 2) := by decide +kernel
theorem dX2_rootHere_24 : decode cX2_rootHere 24 = .ok (.if_icmp .lt 17, 3) := by decide +kernel
theorem dX2_rootHere_27 : decode cX2_rootHere 27 = .ok (.aload_n 0, 1) := by decide +kernel
theorem dX2_rootHere_28 : decode cX2_rootHere 28 = .ok (.getfield 9, 3) := by decide +kernel
theorem dX2_rootHere_31 : decode cX2_rootHere 31 = .ok (.aload_n 0, 1) := by decide +kernel
theorem dX2_rootHere_32 : decode cX2_rootHere 32 = .ok (.getfield 19, 3) := by decide +kernel
theorem dX2_rootHere_35 : decode cX2_rootHere 35 = .ok (.iaload, 1) := by decide +kernel
theorem dX2_rootHere_36 : decode cX2_rootHere 36 = .ok (.bipush 103, 2) := by decide +kernel
theorem dX2_rootHere_38 : decode cX2_rootHere 38 = .ok (.if_icmp .lt 5, 3) := by decide +kernel
theorem dX2_rootHere_41 : decode cX2_rootHere 41 = .ok (.iconst (-1), 1) := by decide +kernel
theorem dX2_rootHere_42 : decode cX2_rootHere 42 = .ok (.ireturn, 1) := by decide +kernel
theorem dX2_rootHere_43 : decode cX2_rootHere 43 = .ok (.aload_n 0, 1) := by decide +kernel
theorem dX2_rootHere_44 : decode cX2_rootHere 44 = .ok (.getfield 9, 3) := by decide +kernel
theorem dX2_rootHere_47 : decode cX2_rootHere 47 = .ok (.aload_n 0, 1) := by decide +kernel
theorem dX2_rootHere_48 : decode cX2_rootHere 48 = .ok (.getfield 19, 3) := by decide +kernel
theorem dX2_rootHere_51 : decode cX2_rootHere 51 = .ok (.iaload, 1) := by decide +kernel
theorem dX2_rootHere_52 : decode cX2_rootHere 52 = .ok (.bipush 97, 2) := by decide +kernel
theorem dX2_rootHere_54 : decode cX2_rootHere 54 = .ok (.isub, 1) := by decide +kernel
theorem dX2_rootHere_55 : decode cX2_rootHere 55 = .ok (.ireturn, 1) := by decide +kernel
theorem dX2_note_0 : decode cX2_note 0 = .ok (.aload_n 0, 1) := by decide +kernel
theorem dX2_note_1 : decode cX2_note 1 = .ok (.getfield 38, 3) := by decide +kernel
theorem dX2_note_4 : decode cX2_note 4 = .ok (.ifCond .ne 16, 3) := by decide +kernel
theorem dX2_note_7 : decode cX2_note 7 = .ok (.aload_n 0, 1) := by decide +kernel
theorem dX2_note_8 : decode cX2_note 8 = .ok (.iload_n 1, 1) := by decide +kernel
theorem dX2_note_9 : decode cX2_note 9 = .ok (.putfield 38, 3) := by decide +kernel
theorem dX2_note_12 : decode cX2_note 12 = .ok (.aload_n 0, 1) := by decide +kernel
theorem dX2_note_13 : decode cX2_note 13 = .ok (.aload_n 0, 1) := by decide +kernel
theorem dX2_note_14 : decode cX2_note 14 = .ok (.getfield 19, 3) := by decide +kernel
theorem dX2_note_17 : decode cX2_note 17 = .ok (.putfield 41, 3) := by decide +kernel
theorem dX2_note_20 : decode cX2_note 20 = .ok (.return_, 1) := by decide +kernel
theorem dX2_readSign_0 : decode cX2_readSign 0 = .ok (.aload_n 0, 1) := by decide +kernel
theorem dX2_readSign_1 : decode cX2_readSign 1 = .ok (.iload_n 1, 1) := by decide +kernel
theorem dX2_readSign_2 : decode cX2_readSign 2 = .ok (.invokevirtual 50, 3) := by decide +kernel
theorem dX2_readSign_5 : decode cX2_readSign 5 = .ok (.ifCond .eq 10, 3) := by decide +kernel
theorem dX2_readSign_8 : decode cX2_readSign 8 = .ok (.aload_n 0, 1) := by decide +kernel
theorem dX2_readSign_9 : decode cX2_readSign 9 = .ok (.invokevirtual 47, 3) := by decide +kernel
theorem dX2_readSign_12 : decode cX2_readSign 12 = .ok (.goto 8, 3) := by decide +kernel
theorem dX2_readSign_15 : decode cX2_readSign 15 = .ok (.aload_n 0, 1) := by decide +kernel
theorem dX2_readSign_16 : decode cX2_readSign 16 = .ok (.iconst 1, 1) := by decide +kernel
theorem dX2_readSign_17 : decode cX2_readSign 17 = .ok (.invokevirtual 60, 3) := by decide +kernel
theorem dX2_readSign_20 : decode cX2_readSign 20 = .ok (.return_, 1) := by decide +kernel
theorem dX2_readRoot_0 : decode cX2_readRoot 0 = .ok (.aload_n 0, 1) := by decide +kernel
theorem dX2_readRoot_1 : decode cX2_readRoot 1 = .ok (.invokevirtual 86, 3) := by decide +kernel
theorem dX2_readRoot_4 : decode cX2_readRoot 4 = .ok (.istore_n 2, 1) := by decide +kernel
theorem dX2_readRoot_5 : decode cX2_readRoot 5 = .ok (.iload_n 2, 1) := by decide +kernel
theorem dX2_readRoot_6 : decode cX2_readRoot 6 = .ok (.iconst (-1), 1) := by decide +kernel
theorem dX2_readRoot_7 : decode cX2_readRoot 7 = .ok (.if_icmp .ne 24, 3) := by decide +kernel
theorem dX2_readRoot_10 : decode cX2_readRoot 10 = .ok (.iload_n 1, 1) := by decide +kernel
theorem dX2_readRoot_11 : decode cX2_readRoot 11 = .ok (.ifCond .eq 12, 3) := by decide +kernel
theorem dX2_readRoot_14 : decode cX2_readRoot 14 = .ok (.aload_n 0, 1) := by decide +kernel
theorem dX2_readRoot_15 : decode cX2_readRoot 15 = .ok (.ldc 89, 2) := by decide +kernel
theorem dX2_readRoot_17 : decode cX2_readRoot 17 = .ok (.invokevirtual 91, 3) := by decide +kernel
theorem dX2_readRoot_20 : decode cX2_readRoot 20 = .ok (.ifCond .ne 11, 3) := by decide +kernel
theorem dX2_readRoot_23 : decode cX2_readRoot 23 = .ok (.aload_n 0, 1) := by decide +kernel
theorem dX2_readRoot_24 : decode cX2_readRoot 24 = .ok (.iconst 1, 1) := by decide +kernel
theorem dX2_readRoot_25 : decode cX2_readRoot 25 = .ok (.invokevirtual 60, 3) := by decide +kernel
theorem dX2_readRoot_28 : decode cX2_readRoot 28 = .ok (.goto 7, 3) := by decide +kernel
theorem dX2_readRoot_31 : decode cX2_readRoot 31 = .ok (.aload_n 0, 1) := by decide +kernel
theorem dX2_readRoot_32 : decode cX2_readRoot 32 = .ok (.invokevirtual 47, 3) := by decide +kernel
theorem dX2_readRoot_35 : decode cX2_readRoot 35 = .ok (.iload_n 2, 1) := by decide +kernel
theorem dX2_readRoot_36 : decode cX2_readRoot 36 = .ok (.ireturn, 1) := by decide +kernel
theorem dX2_readNumber_0 : decode cX2_readNumber 0 = .ok (.aload_n 0, 1) := by decide +kernel
theorem dX2_readNumber_1 : decode cX2_readNumber 1 = .ok (.aload_n 0, 1) := by decide +kernel
theorem dX2_readNumber_2 : decode cX2_readNumber 2 = .ok (.getfield 19, 3) := by decide +kernel
theorem dX2_readNumber_5 : decode cX2_readNumber 5 = .ok (.invokevirtual 74, 3) := by decide +kernel
theorem dX2_readNumber_8 : decode cX2_readNumber 8 = .ok (.ifCond .ne 10, 3) := by decide +kernel
theorem dX2_readNumber_11 : decode cX2_readNumber 11 = .ok (.aload_n 0, 1) := by decide +kernel
theorem dX2_readNumber_12 : decode cX2_readNumber 12 = .ok (.iconst 1, 1) := by decide +kernel
theorem dX2_readNumber_13 : decode cX2_readNumber 13 = .ok (.invokevirtual 60, 3) := by decide +kernel
theorem dX2_readNumber_16 : decode cX2_readNumber 16 = .ok (.iconst (-1), 1) := by decide +kernel
theorem dX2_readNumber_17 : decode cX2_readNumber 17 = .ok (.ireturn, 1) := by decide +kernel
theorem dX2_readNumber_18 : decode cX2_readNumber 18 = .ok (.iconst 0, 1) := by decide +kernel
theorem dX2_readNumber_19 : decode cX2_readNumber 19 = .ok (.istore_n 3, 1) := by decide +kernel
theorem dX2_readNumber_20 : decode cX2_readNumber 20 = .ok (.aload_n 0, 1) := by decide +kernel
theorem dX2_readNumber_21 : decode cX2_readNumber 21 = .ok (.getfield 19, 3) := by decide +kernel
theorem dX2_readNumber_24 : decode cX2_readNumber 24 = .ok (.istore 4, 2) := by decide +kernel
theorem dX2_readNumber_26 : decode cX2_readNumber 26 = .ok (.iload 4, 2) := by decide +kernel
theorem dX2_readNumber_28 : decode cX2_readNumber 28 = .ok (.aload_n 0, 1) := by decide +kernel
theorem dX2_readNumber_29 : decode cX2_readNumber 29 = .ok (.getfield 22, 3) := by decide +kernel
theorem dX2_readNumber_32 : decode cX2_readNumber 32 = .ok (.if_icmp .ge 36, 3) := by decide +kernel
theorem dX2_readNumber_35 : decode cX2_readNumber 35 = .ok (.iload 4, 2) := by decide +kernel
theorem dX2_readNumber_37 : decode cX2_readNumber 37 = .ok (.aload_n 0, 1) := by decide +kernel
theorem dX2_readNumber_38 : decode cX2_readNumber 38 = .ok (.getfield 19, 3) := by decide +kernel
theorem dX2_readNumber_41 : decode cX2_readNumber 41 = .ok (.iconst 3, 1) := by decide +kernel
theorem dX2_readNumber_42 : decode cX2_readNumber 42 = .ok (.iadd, 1) := by decide +kernel
theorem dX2_readNumber_43 : decode cX2_readNumber 43 = .ok (.if_icmp .ge 25, 3) := by decide +kernel
theorem dX2_readNumber_46 : decode cX2_readNumber 46 = .ok (.bipush 10, 2) := by decide +kernel
theorem dX2_readNumber_48 : decode cX2_readNumber 48 = .ok (.iload_n 3, 1) := by decide +kernel
theorem dX2_readNumber_49 : decode cX2_readNumber 49 = .ok (.imul, 1) := by decide +kernel
theorem dX2_readNumber_50 : decode cX2_readNumber 50 = .ok (.aload_n 0, 1) := by decide +kernel
theorem dX2_readNumber_51 : decode cX2_readNumber 51 = .ok (.getfield 9, 3) := by decide +kernel
theorem dX2_readNumber_54 : decode cX2_readNumber 54 = .ok (.iload 4, 2) := by decide +kernel
theorem dX2_readNumber_56 : decode cX2_readNumber 56 = .ok (.iaload, 1) := by decide +kernel
theorem dX2_readNumber_57 : decode cX2_readNumber 57 = .ok (.iadd, 1) := by decide +kernel
theorem dX2_readNumber_58 : decode cX2_readNumber 58 = .ok (.bipush 48, 2) := by decide +kernel
theorem dX2_readNumber_60 : decode cX2_readNumber 60 = .ok (.isub, 1) := by decide +kernel
theorem dX2_readNumber_61 : decode cX2_readNumber 61 = .ok (.istore_n 3, 1) := by decide +kernel
theorem dX2_readNumber_62 : decode cX2_readNumber 62 = .ok (.iinc 4 1, 3) := by decide +kernel
theorem dX2_readNumber_65 : decode cX2_readNumber 65 = .ok (.goto (-39), 3) := by decide +kernel
theorem dX2_readNumber_68 : decode cX2_readNumber 68 = .ok (.aload_n 0, 1) := by decide +kernel
theorem dX2_readNumber_69 : decode cX2_readNumber 69 = .ok (.getfield 22, 3) := by decide +kernel
theorem dX2_readNumber_72 : decode cX2_readNumber 72 = .ok (.aload_n 0, 1) := by decide +kernel
theorem dX2_readNumber_73 : decode cX2_readNumber 73 = .ok (.getfield 19, 3) := by decide +kernel
theorem dX2_readNumber_76 : decode cX2_readNumber 76 = .ok (.isub, 1) := by decide +kernel
theorem dX2_readNumber_77 : decode cX2_readNumber 77 = .ok (.iconst 3, 1) := by decide +kernel
theorem dX2_readNumber_78 : decode cX2_readNumber 78 = .ok (.if_icmp .gt 13, 3) := by decide +kernel
theorem dX2_readNumber_81 : decode cX2_readNumber 81 = .ok (.iload_n 3, 1) := by decide +kernel
theorem dX2_readNumber_82 : decode cX2_readNumber 82 = .ok (.iload_n 1, 1) := by decide +kernel
theorem dX2_readNumber_83 : decode cX2_readNumber 83 = .ok (.if_icmp .lt 8, 3) := by decide +kernel
theorem dX2_readNumber_86 : decode cX2_readNumber 86 = .ok (.iload_n 3, 1) := by decide +kernel
theorem dX2_readNumber_87 : decode cX2_readNumber 87 = .ok (.iload_n 2, 1) := by decide +kernel
theorem dX2_readNumber_88 : decode cX2_readNumber 88 = .ok (.if_icmp .le 10, 3) := by decide +kernel
theorem dX2_readNumber_91 : decode cX2_readNumber 91 = .ok (.aload_n 0, 1) := by decide +kernel
theorem dX2_readNumber_92 : decode cX2_readNumber 92 = .ok (.iconst 2, 1) := by decide +kernel
theorem dX2_readNumber_93 : decode cX2_readNumber 93 = .ok (.invokevirtual 60, 3) := by decide +kernel
theorem dX2_readNumber_96 : decode cX2_readNumber 96 = .ok (.iconst (-1), 1) := by decide +kernel
theorem dX2_readNumber_97 : decode cX2_readNumber 97 = .ok (.ireturn, 1) := by decide +kernel
theorem dX2_readNumber_98 : decode cX2_readNumber 98 = .ok (.aload_n 0, 1) := by decide +kernel
theorem dX2_readNumber_99 : decode cX2_readNumber 99 = .ok (.invokevirtual 47, 3) := by decide +kernel
theorem dX2_readNumber_102 : decode cX2_readNumber 102 = .ok (.iload_n 3, 1) := by decide +kernel
theorem dX2_readNumber_103 : decode cX2_readNumber 103 = .ok (.ireturn, 1) := by decide +kernel
theorem dX2_closeBlock_0 : decode cX2_closeBlock 0 = .ok (.aload_n 0, 1) := by decide +kernel
theorem dX2_closeBlock_1 : decode cX2_closeBlock 1 = .ok (.getfield 35, 3) := by decide +kernel
theorem dX2_closeBlock_4 : decode cX2_closeBlock 4 = .ok (.ifCond .ne 9, 3) := by decide +kernel
theorem dX2_closeBlock_7 : decode cX2_closeBlock 7 = .ok (.aload_n 0, 1) := by decide +kernel
theorem dX2_closeBlock_8 : decode cX2_closeBlock 8 = .ok (.iconst 1, 1) := by decide +kernel
theorem dX2_closeBlock_9 : decode cX2_closeBlock 9 = .ok (.invokevirtual 60, 3) := by decide +kernel
theorem dX2_closeBlock_12 : decode cX2_closeBlock 12 = .ok (.return_, 1) := by decide +kernel
theorem dX2_closeBlock_13 : decode cX2_closeBlock 13 = .ok (.aload_n 0, 1) := by decide +kernel
theorem dX2_closeBlock_14 : decode cX2_closeBlock 14 = .ok (.dup, 1) := by decide +kernel
theorem dX2_closeBlock_15 : decode cX2_closeBlock 15 = .ok (.getfield 35, 3) := by decide +kernel
theorem dX2_closeBlock_18 : decode cX2_closeBlock 18 = .ok (.iconst 1, 1) := by decide +kernel
theorem dX2_closeBlock_19 : decode cX2_closeBlock 19 = .ok (.isub, 1) := by decide +kernel
theorem dX2_closeBlock_20 : decode cX2_closeBlock 20 = .ok (.putfield 35, 3) := by decide +kernel
theorem dX2_closeBlock_23 : decode cX2_closeBlock 23 = .ok (.aload_n 0, 1) := by decide +kernel
theorem dX2_closeBlock_24 : decode cX2_closeBlock 24 = .ok (.getfield 28, 3) := by decide +kernel
theorem dX2_closeBlock_27 : decode cX2_closeBlock 27 = .ok (.getfield 95, 3) := by decide +kernel
theorem dX2_closeBlock_30 : decode cX2_closeBlock 30 = .ok (.aload_n 0, 1) := by decide +kernel
theorem dX2_closeBlock_31 : decode cX2_closeBlock 31 = .ok (.getfield 32, 3) := by decide +kernel
theorem dX2_closeBlock_34 : decode cX2_closeBlock 34 = .ok (.aload_n 0, 1) := by decide +kernel
theorem dX2_closeBlock_35 : decode cX2_closeBlock 35 = .ok (.getfield 35, 3) := by decide +kernel
theorem dX2_closeBlock_38 : decode cX2_closeBlock 38 = .ok (.iaload, 1) := by decide +kernel
theorem dX2_closeBlock_39 : decode cX2_closeBlock 39 = .ok (.aload_n 0, 1) := by decide +kernel
theorem dX2_closeBlock_40 : decode cX2_closeBlock 40 = .ok (.getfield 28, 3) := by decide +kernel
theorem dX2_closeBlock_43 : decode cX2_closeBlock 43 = .ok (.getfield 44, 3) := by decide +kernel
theorem dX2_closeBlock_46 : decode cX2_closeBlock 46 = .ok (.iastore, 1) := by decide +kernel
theorem dX2_closeBlock_47 : decode cX2_closeBlock 47 = .ok (.aload_n 0, 1) := by decide +kernel
theorem dX2_closeBlock_48 : decode cX2_closeBlock 48 = .ok (.invokevirtual 47, 3) := by decide +kernel
theorem dX2_closeBlock_51 : decode cX2_closeBlock 51 = .ok (.return_, 1) := by decide +kernel
theorem dX2_readItem_0 : decode cX2_readItem 0 = .ok (.aload_n 0, 1) := by decide +kernel
theorem dX2_readItem_1 : decode cX2_readItem 1 = .ok (.invokevirtual 86, 3) := by decide +kernel
theorem dX2_readItem_4 : decode cX2_readItem 4 = .ok (.istore_n 1, 1) := by decide +kernel
theorem dX2_readItem_5 : decode cX2_readItem 5 = .ok (.aload_n 0, 1) := by decide +kernel
theorem dX2_readItem_6 : decode cX2_readItem 6 = .ok (.ldc 98, 2) := by decide +kernel
theorem dX2_readItem_8 : decode cX2_readItem 8 = .ok (.invokevirtual 91, 3) := by decide +kernel
theorem dX2_readItem_11 : decode cX2_readItem 11 = .ok (.istore_n 2, 1) := by decide +kernel
theorem dX2_readItem_12 : decode cX2_readItem 12 = .ok (.aload_n 0, 1) := by decide +kernel
theorem dX2_readItem_13 : decode cX2_readItem 13 = .ok (.ldc 100, 2) := by decide +kernel
theorem dX2_readItem_15 : decode cX2_readItem 15 = .ok (.invokevirtual 91, 3) := by decide +kernel
theorem dX2_readItem_18 : decode cX2_readItem 18 = .ok (.istore_n 3, 1) := by decide +kernel
theorem dX2_readItem_19 : decode cX2_readItem 19 = .ok (.iload_n 1, 1) := by decide +kernel
theorem dX2_readItem_20 : decode cX2_readItem 20 = .ok (.iconst (-1), 1) := by decide +kernel
theorem dX2_readItem_21 : decode cX2_readItem 21 = .ok (.if_icmp .ne 26, 3) := by decide +kernel
theorem dX2_readItem_24 : decode cX2_readItem 24 = .ok (.iload_n 2, 1) := by decide +kernel
theorem dX2_readItem_25 : decode cX2_readItem 25 = .ok (.ifCond .ne 22, 3) := by decide +kernel
theorem dX2_readItem_28 : decode cX2_readItem 28 = .ok (.iload_n 3, 1) := by decide +kernel
theorem dX2_readItem_29 : decode cX2_readItem 29 = .ok (.ifCond .ne 18, 3) := by decide +kernel
theorem dX2_readItem_32 : decode cX2_readItem 32 = .ok (.aload_n 0, 1) := by decide +kernel
theorem dX2_readItem_33 : decode cX2_readItem 33 = .ok (.ldc 102, 2) := by decide +kernel
theorem dX2_readItem_35 : decode cX2_readItem 35 = .ok (.invokevirtual 91, 3) := by decide +kernel
theorem dX2_readItem_38 : decode cX2_readItem 38 = .ok (.ifCond .ne 9, 3) := by decide +kernel
theorem dX2_readItem_41 : decode cX2_readItem 41 = .ok (.aload_n 0, 1) := by decide +kernel
theorem dX2_readItem_42 : decode cX2_readItem 42 = .ok (.iconst 1, 1) := by decide +kernel
theorem dX2_readItem_43 : decode cX2_readItem 43 = .ok (.invokevirtual 60, 3) := by decide +kernel
theorem dX2_readItem_46 : decode cX2_readItem 46 = .ok (.return_, 1) := by decide +kernel
theorem dX2_readItem_47 : decode cX2_readItem 47 = .ok (.aload_n 0, 1) := by decide +kernel
theorem dX2_readItem_48 : decode cX2_readItem 48 = .ok (.getfield 28, 3) := by decide +kernel
theorem dX2_readItem_51 : decode cX2_readItem 51 = .ok (.getfield 44, 3) := by decide +kernel
theorem dX2_readItem_54 : decode cX2_readItem 54 = .ok (.bipush 40, 2) := by decide +kernel
theorem dX2_readItem_56 : decode cX2_readItem 56 = .ok (.if_icmp .eq 11, 3) := by decide +kernel
theorem dX2_readItem_59 : decode cX2_readItem 59 = .ok (.aload_n 0, 1) := by decide +kernel
theorem dX2_readItem_60 : decode cX2_readItem 60 = .ok (.getfield 35, 3) := by decide +kernel
theorem dX2_readItem_63 : decode cX2_readItem 63 = .ok (.iconst 4, 1) := by decide +kernel
theorem dX2_readItem_64 : decode cX2_readItem 64 = .ok (.if_icmp .ne 9, 3) := by decide +kernel
theorem dX2_readItem_67 : decode cX2_readItem 67 = .ok (.aload_n 0, 1) := by decide +kernel
theorem dX2_readItem_68 : decode cX2_readItem 68 = .ok (.iconst 3, 1) := by decide +kernel
theorem dX2_readItem_69 : decode cX2_readItem 69 = .ok (.invokevirtual 60, 3) := by decide +kernel
theorem dX2_readItem_72 : decode cX2_readItem 72 = .ok (.return_, 1) := by decide +kernel
theorem dX2_readItem_73 : decode cX2_readItem 73 = .ok (.aload_n 0, 1) := by decide +kernel
theorem dX2_readItem_74 : decode cX2_readItem 74 = .ok (.invokevirtual 47, 3) := by decide +kernel
theorem dX2_readItem_77 : decode cX2_readItem 77 = .ok (.iload_n 1, 1) := by decide +kernel
theorem dX2_readItem_78 : decode cX2_readItem 78 = .ok (.iconst (-1), 1) := by decide +kernel
theorem dX2_readItem_79 : decode cX2_readItem 79 = .ok (.if_icmp .eq 11, 3) := by decide +kernel
theorem dX2_readItem_82 : decode cX2_readItem 82 = .ok (.aload_n 0, 1) := by decide +kernel
theorem dX2_readItem_83 : decode cX2_readItem 83 = .ok (.iload_n 1, 1) := by decide +kernel
theorem dX2_readItem_84 : decode cX2_readItem 84 = .ok (.invokevirtual 104, 3) := by decide +kernel
theorem dX2_readItem_87 : decode cX2_readItem 87 = .ok (.goto 69, 3) := by decide +kernel
theorem dX2_readItem_90 : decode cX2_readItem 90 = .ok (.iload_n 2, 1) := by decide +kernel
theorem dX2_readItem_91 : decode cX2_readItem 91 = .ok (.ifCond .eq 33, 3) := by decide +kernel
theorem dX2_readItem_94 : decode cX2_readItem 94 = .ok (.aload_n 0, 1) := by decide +kernel
theorem dX2_readItem_95 : decode cX2_readItem 95 = .ok (.iconst 1, 1) := by decide +kernel
theorem dX2_readItem_96 : decode cX2_readItem 96 = .ok (.bipush 99, 2) := by decide +kernel
theorem dX2_readItem_98 : decode cX2_readItem 98 = .ok (.invokevirtual 107, 3) := by decide +kernel
theorem dX2_readItem_101 : decode cX2_readItem 101 = .ok (.istore 4, 2) := by decide +kernel
theorem dX2_readItem_103 : decode cX2_readItem 103 = .ok (.aload_n 0, 1) := by decide +kernel
theorem dX2_readItem_104 : decode cX2_readItem 104 = .ok (.bipush 59, 2) := by decide +kernel
theorem dX2_readItem_106 : decode cX2_readItem 106 = .ok (.invokevirtual 110, 3) := by decide +kernel
theorem dX2_readItem_109 : decode cX2_readItem 109 = .ok (.aload_n 0, 1) := by decide +kernel
theorem dX2_readItem_110 : decode cX2_readItem 110 = .ok (.getfield 28, 3) := by decide +kernel
theorem dX2_readItem_113 : decode cX2_readItem 113 = .ok (.iconst 4, 1) := by decide +kernel
theorem dX2_readItem_114 : decode cX2_readItem 114 = .ok (.iconst (-1), 1) := by decide +kernel
theorem dX2_readItem_115 : decode cX2_readItem 115 = .ok (.iconst (-1), 1) := by decide +kernel
theorem dX2_readItem_116 : decode cX2_readItem 116 = .ok (.iload 4, 2) := by decide +kernel
theorem dX2_readItem_118 : decode cX2_readItem 118 = .ok (.invokevirtual 114, 3) := by decide +kernel
theorem dX2_readItem_121 : decode cX2_readItem 121 = .ok (.goto 35, 3) := by decide +kernel
theorem dX2_readItem_124 : decode cX2_readItem 124 = .ok (.iload_n 3, 1) := by decide +kernel
theorem dX2_readItem_125 : decode cX2_readItem 125 = .ok (.ifCond .eq 19, 3) := by decide +kernel
theorem dX2_readItem_128 : decode cX2_readItem 128 = .ok (.aload_n 0, 1) := by decide +kernel
theorem dX2_readItem_129 : decode cX2_readItem 129 = .ok (.iconst 5, 1) := by decide +kernel
theorem dX2_readItem_130 : decode cX2_readItem 130 = .ok (.iconst (-1), 1) := by decide +kernel
theorem dX2_readItem_131 : decode cX2_readItem 131 = .ok (.aload_n 0, 1) := by decide +kernel
theorem dX2_readItem_132 : decode cX2_readItem 132 = .ok (.iconst 2, 1) := by decide +kernel
theorem dX2_readItem_133 : decode cX2_readItem 133 = .ok (.bipush 9, 2) := by decide +kernel
theorem dX2_readItem_135 : decode cX2_readItem 135 = .ok (.invokevirtual 107, 3) := by decide +kernel
theorem dX2_readItem_138 : decode cX2_readItem 138 = .ok (.invokevirtual 118, 3) := by decide +kernel
theorem dX2_readItem_141 : decode cX2_readItem 141 = .ok (.goto 15, 3) := by decide +kernel
theorem dX2_readItem_144 : decode cX2_readItem 144 = .ok (.aload_n 0, 1) := by decide +kernel
theorem dX2_readItem_145 : decode cX2_readItem 145 = .ok (.bipush 6, 2) := by decide +kernel
theorem dX2_readItem_147 : decode cX2_readItem 147 = .ok (.aload_n 0, 1) := by decide +kernel
theorem dX2_readItem_148 : decode cX2_readItem 148 = .ok (.iconst 0, 1) := by decide +kernel
theorem dX2_readItem_149 : decode cX2_readItem 149 = .ok (.invokevirtual 122, 3) := by decide +kernel
theorem dX2_readItem_152 : decode cX2_readItem 152 = .ok (.iconst 0, 1) := by decide +kernel
theorem dX2_readItem_153 : decode cX2_readItem 153 = .ok (.invokevirtual 118, 3) := by decide +kernel
theorem dX2_readItem_156 : decode cX2_readItem 156 = .ok (.return_, 1) := by decide +kernel
theorem dX2_openBlock_0 : decode cX2_openBlock 0 = .ok (.aload_n 0, 1) := by decide +kernel
theorem dX2_openBlock_1 : decode cX2_openBlock 1 = .ok (.bipush 123, 2) := by decide +kernel
theorem dX2_openBlock_3 : decode cX2_openBlock 3 = .ok (.invokevirtual 110, 3) := by decide +kernel
theorem dX2_openBlock_6 : decode cX2_openBlock 6 = .ok (.aload_n 0, 1) := by decide +kernel
theorem dX2_openBlock_7 : decode cX2_openBlock 7 = .ok (.getfield 32, 3) := by decide +kernel
theorem dX2_openBlock_10 : decode cX2_openBlock 10 = .ok (.aload_n 0, 1) := by decide +kernel
theorem dX2_openBlock_11 : decode cX2_openBlock 11 = .ok (.getfield 35, 3) := by decide +kernel
theorem dX2_openBlock_14 : decode cX2_openBlock 14 = .ok (.aload_n 0, 1) := by decide +kernel
theorem dX2_openBlock_15 : decode cX2_openBlock 15 = .ok (.getfield 28, 3) := by decide +kernel
theorem dX2_openBlock_18 : decode cX2_openBlock 18 = .ok (.getfield 44, 3) := by decide +kernel
theorem dX2_openBlock_21 : decode cX2_openBlock 21 = .ok (.iastore, 1) := by decide +kernel
theorem dX2_openBlock_22 : decode cX2_openBlock 22 = .ok (.aload_n 0, 1) := by decide +kernel
theorem dX2_openBlock_23 : decode cX2_openBlock 23 = .ok (.dup, 1) := by decide +kernel
theorem dX2_openBlock_24 : decode cX2_openBlock 24 = .ok (.getfield 35, 3) := by decide +kernel
theorem dX2_openBlock_27 : decode cX2_openBlock 27 = .ok (.iconst 1, 1) := by decide +kernel
theorem dX2_openBlock_28 : decode cX2_openBlock 28 = .ok (.iadd, 1) := by decide +kernel
theorem dX2_openBlock_29 : decode cX2_openBlock 29 = .ok (.putfield 35, 3) := by decide +kernel
theorem dX2_openBlock_32 : decode cX2_openBlock 32 = .ok (.aload_n 0, 1) := by decide +kernel
theorem dX2_openBlock_33 : decode cX2_openBlock 33 = .ok (.getfield 28, 3) := by decide +kernel
theorem dX2_openBlock_36 : decode cX2_openBlock 36 = .ok (.iload_n 1, 1) := by decide +kernel
theorem dX2_openBlock_37 : decode cX2_openBlock 37 = .ok (.iload_n 2, 1) := by decide +kernel
theorem dX2_openBlock_38 : decode cX2_openBlock 38 = .ok (.iconst (-1), 1) := by decide +kernel
theorem dX2_openBlock_39 : decode cX2_openBlock 39 = .ok (.iload_n 3, 1) := by decide +kernel
theorem dX2_openBlock_40 : decode cX2_openBlock 40 = .ok (.invokevirtual 114, 3) := by decide +kernel
theorem dX2_openBlock_43 : decode cX2_openBlock 43 = .ok (.return_, 1) := by decide +kernel
theorem dX2_readNaming_0 : decode cX2_readNaming 0 = .ok (.aload_n 0, 1) := by decide +kernel
theorem dX2_readNaming_1 : decode cX2_readNaming 1 = .ok (.bipush 46, 2) := by decide +kernel
theorem dX2_readNaming_3 : decode cX2_readNaming 3 = .ok (.invokevirtual 50, 3) := by decide +kernel
theorem dX2_readNaming_6 : decode cX2_readNaming 6 = .ok (.ifCond .eq 39, 3) := by decide +kernel
theorem dX2_readNaming_9 : decode cX2_readNaming 9 = .ok (.aload_n 0, 1) := by decide +kernel
theorem dX2_readNaming_10 : decode cX2_readNaming 10 = .ok (.invokevirtual 47, 3) := by decide +kernel
theorem dX2_readNaming_13 : decode cX2_readNaming 13 = .ok (.aload_n 0, 1) := by decide +kernel
theorem dX2_readNaming_14 : decode cX2_readNaming 14 = .ok (.iconst 0, 1) := by decide +kernel
theorem dX2_readNaming_15 : decode cX2_readNaming 15 = .ok (.bipush 6, 2) := by decide +kernel
theorem dX2_readNaming_17 : decode cX2_readNaming 17 = .ok (.invokevirtual 107, 3) := by decide +kernel
theorem dX2_readNaming_20 : decode cX2_readNaming 20 = .ok (.istore_n 2, 1) := by decide +kernel
theorem dX2_readNaming_21 : decode cX2_readNaming 21 = .ok (.aload_n 0, 1) := by decide +kernel
theorem dX2_readNaming_22 : decode cX2_readNaming 22 = .ok (.bipush 61, 2) := by decide +kernel
theorem dX2_readNaming_24 : decode cX2_readNaming 24 = .ok (.invokevirtual 110, 3) := by decide +kernel
theorem dX2_readNaming_27 : decode cX2_readNaming 27 = .ok (.aload_n 0, 1) := by decide +kernel
theorem dX2_readNaming_28 : decode cX2_readNaming 28 = .ok (.getfield 28, 3) := by decide +kernel
theorem dX2_readNaming_31 : decode cX2_readNaming 31 = .ok (.iconst 3, 1) := by decide +kernel
theorem dX2_readNaming_32 : decode cX2_readNaming 32 = .ok (.iload_n 1, 1) := by decide +kernel
theorem dX2_readNaming_33 : decode cX2_readNaming 33 = .ok (.aload_n 0, 1) := by decide +kernel
theorem dX2_readNaming_34 : decode cX2_readNaming 34 = .ok (.iconst 1, 1) := by decide +kernel
theorem dX2_readNaming_35 : decode cX2_readNaming 35 = .ok (.invokevirtual 122, 3) := by decide +kernel
theorem dX2_readNaming_38 : decode cX2_readNaming 38 = .ok (.iload_n 2, 1) := by decide +kernel
theorem dX2_readNaming_39 : decode cX2_readNaming 39 = .ok (.invokevirtual 114, 3) := by decide +kernel
theorem dX2_readNaming_42 : decode cX2_readNaming 42 = .ok (.goto 14, 3) := by decide +kernel
theorem dX2_readNaming_45 : decode cX2_readNaming 45 = .ok (.aload_n 0, 1) := by decide +kernel
theorem dX2_readNaming_46 : decode cX2_readNaming 46 = .ok (.bipush 61, 2) := by decide +kernel
theorem dX2_readNaming_48 : decode cX2_readNaming 48 = .ok (.invokevirtual 110, 3) := by decide +kernel
theorem dX2_readNaming_51 : decode cX2_readNaming 51 = .ok (.aload_n 0, 1) := by decide +kernel
theorem dX2_readNaming_52 : decode cX2_readNaming 52 = .ok (.iload_n 1, 1) := by decide +kernel
theorem dX2_readNaming_53 : decode cX2_readNaming 53 = .ok (.invokevirtual 126, 3) := by decide +kernel
theorem dX2_readNaming_56 : decode cX2_readNaming 56 = .ok (.aload_n 0, 1) := by decide +kernel
theorem dX2_readNaming_57 : decode cX2_readNaming 57 = .ok (.bipush 59, 2) := by decide +kernel
theorem dX2_readNaming_59 : decode cX2_readNaming 59 = .ok (.invokevirtual 110, 3) := by decide +kernel
theorem dX2_readNaming_62 : decode cX2_readNaming 62 = .ok (.return_, 1) := by decide +kernel
theorem dX2_readValue_0 : decode cX2_readValue 0 = .ok (.aload_n 0, 1) := by decide +kernel
theorem dX2_readValue_1 : decode cX2_readValue 1 = .ok (.ldc 129, 2) := by decide +kernel
theorem dX2_readValue_3 : decode cX2_readValue 3 = .ok (.invokevirtual 91, 3) := by decide +kernel
theorem dX2_readValue_6 : decode cX2_readValue 6 = .ok (.ifCond .eq 25, 3) := by decide +kernel
theorem dX2_readValue_9 : decode cX2_readValue 9 = .ok (.aload_n 0, 1) := by decide +kernel
theorem dX2_readValue_10 : decode cX2_readValue 10 = .ok (.invokevirtual 47, 3) := by decide +kernel
theorem dX2_readValue_13 : decode cX2_readValue 13 = .ok (.aload_n 0, 1) := by decide +kernel
theorem dX2_readValue_14 : decode cX2_readValue 14 = .ok (.getfield 28, 3) := by decide +kernel
theorem dX2_readValue_17 : decode cX2_readValue 17 = .ok (.iconst 0, 1) := by decide +kernel
theorem dX2_readValue_18 : decode cX2_readValue 18 = .ok (.iload_n 1, 1) := by decide +kernel
theorem dX2_readValue_19 : decode cX2_readValue 19 = .ok (.iconst (-1), 1) := by decide +kernel
theorem dX2_readValue_20 : decode cX2_readValue 20 = .ok (.aload_n 0, 1) := by decide +kernel
theorem dX2_readValue_21 : decode cX2_readValue 21 = .ok (.iconst 0, 1) := by decide +kernel
theorem dX2_readValue_22 : decode cX2_readValue 22 = .ok (.bipush 7, 2) := by decide +kernel
theorem dX2_readValue_24 : decode cX2_readValue 24 = .ok (.invokevirtual 107, 3) := by decide +kernel
theorem dX2_readValue_27 : decode cX2_readValue 27 = .ok (.invokevirtual 114, 3) := by decide +kernel
theorem dX2_readValue_30 : decode cX2_readValue 30 = .ok (.return_, 1) := by decide +kernel
theorem dX2_readValue_31 : decode cX2_readValue 31 = .ok (.aload_n 0, 1) := by decide +kernel
theorem dX2_readValue_32 : decode cX2_readValue 32 = .ok (.iconst 1, 1) := by decide +kernel
theorem dX2_readValue_33 : decode cX2_readValue 33 = .ok (.invokevirtual 122, 3) := by decide +kernel
theorem dX2_readValue_36 : decode cX2_readValue 36 = .ok (.istore_n 2, 1) := by decide +kernel
theorem dX2_readValue_37 : decode cX2_readValue 37 = .ok (.iload_n 2, 1) := by decide +kernel
theorem dX2_readValue_38 : decode cX2_readValue 38 = .ok (.iconst (-1), 1) := by decide +kernel
theorem dX2_readValue_39 : decode cX2_readValue 39 = .ok (.if_icmp .eq 36, 3) := by decide +kernel
theorem dX2_readValue_42 : decode cX2_readValue 42 = .ok (.aload_n 0, 1) := by decide +kernel
theorem dX2_readValue_43 : decode cX2_readValue 43 = .ok (.bipush 46, 2) := by decide +kernel
theorem dX2_readValue_45 : decode cX2_readValue 45 = .ok (.invokevirtual 50, 3) := by decide +kernel
theorem dX2_readValue_48 : decode cX2_readValue 48 = .ok (.ifCond .eq 27, 3) := by decide +kernel
theorem dX2_readValue_51 : decode cX2_readValue 51 = .ok (.aload_n 0, 1) := by decide +kernel
theorem dX2_readValue_52 : decode cX2_readValue 52 = .ok (.invokevirtual 47, 3) := by decide +kernel
theorem dX2_readValue_55 : decode cX2_readValue 55 = .ok (.aload_n 0, 1) := by decide +kernel
theorem dX2_readValue_56 : decode cX2_readValue 56 = .ok (.getfield 28, 3) := by decide +kernel
theorem dX2_readValue_59 : decode cX2_readValue 59 = .ok (.iconst 2, 1) := by decide +kernel
theorem dX2_readValue_60 : decode cX2_readValue 60 = .ok (.iload_n 1, 1) := by decide +kernel
theorem dX2_readValue_61 : decode cX2_readValue 61 = .ok (.iload_n 2, 1) := by decide +kernel
theorem dX2_readValue_62 : decode cX2_readValue 62 = .ok (.aload_n 0, 1) := by decide +kernel
theorem dX2_readValue_63 : decode cX2_readValue 63 = .ok (.iconst 0, 1) := by decide +kernel
theorem dX2_readValue_64 : decode cX2_readValue 64 = .ok (.bipush 6, 2) := by decide +kernel
theorem dX2_readValue_66 : decode cX2_readValue 66 = .ok (.invokevirtual 107, 3) := by decide +kernel
theorem dX2_readValue_69 : decode cX2_readValue 69 = .ok (.invokevirtual 114, 3) := by decide +kernel
theorem dX2_readValue_72 : decode cX2_readValue 72 = .ok (.goto 14, 3) := by decide +kernel
theorem dX2_readValue_75 : decode cX2_readValue 75 = .ok (.aload_n 0, 1) := by decide +kernel
theorem dX2_readValue_76 : decode cX2_readValue 76 = .ok (.getfield 28, 3) := by decide +kernel
theorem dX2_readValue_79 : decode cX2_readValue 79 = .ok (.iconst 1, 1) := by decide +kernel
theorem dX2_readValue_80 : decode cX2_readValue 80 = .ok (.iload_n 1, 1) := by decide +kernel
theorem dX2_readValue_81 : decode cX2_readValue 81 = .ok (.iload_n 2, 1) := by decide +kernel
theorem dX2_readValue_82 : decode cX2_readValue 82 = .ok (.iconst 0, 1) := by decide +kernel
theorem dX2_readValue_83 : decode cX2_readValue 83 = .ok (.invokevirtual 114, 3) := by decide +kernel
theorem dX2_readValue_86 : decode cX2_readValue 86 = .ok (.return_, 1) := by decide +kernel
theorem dX3_init_0 : decode cX3_init 0 = .ok (.aload_n 0, 1) := by decide +kernel
theorem dX3_init_1 : decode cX3_init 1 = .ok (.invokespecial 3, 3) := by decide +kernel
theorem dX3_init_4 : decode cX3_init 4 = .ok (.aload_n 0, 1) := by decide +kernel
theorem dX3_init_5 : decode cX3_init 5 = .ok (.bipush 77, 2) := by decide +kernel
theorem dX3_init_7 : decode cX3_init 7 = .ok (.newarray .int, 2) := by decide +kernel
theorem dX3_init_9 : decode cX3_init 9 = .ok (.putfield 11, 3) := by decide +kernel
theorem dX3_init_12 : decode cX3_init 12 = .ok (.aload_n 0, 1) := by decide +kernel
theorem dX3_init_13 : decode cX3_init 13 = .ok (.bipush 77, 2) := by decide +kernel
theorem dX3_init_15 : decode cX3_init 15 = .ok (.newarray .int, 2) := by decide +kernel
theorem dX3_init_17 : decode cX3_init 17 = .ok (.putfield 15, 3) := by decide +kernel
theorem dX3_init_20 : decode cX3_init 20 = .ok (.aload_n 0, 1) := by decide +kernel
theorem dX3_init_21 : decode cX3_init 21 = .ok (.bipush 64, 2) := by decide +kernel
theorem dX3_init_23 : decode cX3_init 23 = .ok (.newarray .int, 2) := by decide +kernel
theorem dX3_init_25 : decode cX3_init 25 = .ok (.putfield 18, 3) := by decide +kernel
theorem dX3_init_28 : decode cX3_init 28 = .ok (.aload_n 0, 1) := by decide +kernel
theorem dX3_init_29 : decode cX3_init 29 = .ok (.bipush 13, 2) := by decide +kernel
theorem dX3_init_31 : decode cX3_init 31 = .ok (.newarray .int, 2) := by decide +kernel
theorem dX3_init_33 : decode cX3_init 33 = .ok (.putfield 21, 3) := by decide +kernel
theorem dX3_init_36 : decode cX3_init 36 = .ok (.aload_n 0, 1) := by decide +kernel
theorem dX3_init_37 : decode cX3_init 37 = .ok (.invokevirtual 24, 3) := by decide +kernel
theorem dX3_init_40 : decode cX3_init 40 = .ok (.return_, 1) := by decide +kernel
theorem dX3_row_0 : decode cX3_row 0 = .ok (.iload_n 0, 1) := by decide +kernel
theorem dX3_row_1 : decode cX3_row 1 = .ok (.iconst 4, 1) := by decide +kernel
theorem dX3_row_2 : decode cX3_row 2 = .ok (.idiv, 1) := by decide +kernel
theorem dX3_row_3 : decode cX3_row 3 = .ok (.iconst 4, 1) := by decide +kernel
theorem dX3_row_4 : decode cX3_row 4 = .ok (.imul, 1) := by decide +kernel
theorem dX3_row_5 : decode cX3_row 5 = .ok (.iload_n 1, 1) := by decide +kernel
theorem dX3_row_6 : decode cX3_row 6 = .ok (.iadd, 1) := by decide +kernel
theorem dX3_row_7 : decode cX3_row 7 = .ok (.ireturn, 1) := by decide +kernel
theorem dX3_clear_0 : decode cX3_clear 0 = .ok (.iconst 0, 1) := by decide +kernel
theorem dX3_clear_1 : decode cX3_clear 1 = .ok (.istore_n 1, 1) := by decide +kernel
theorem dX3_clear_2 : decode cX3_clear 2 = .ok (.iload_n 1, 1) := by decide +kernel
theorem dX3_clear_3 : decode cX3_clear 3 = .ok (.aload_n 0, 1) := by decide +kernel
theorem dX3_clear_4 : decode cX3_clear 4 = .ok (.getfield 11, 3) := by decide +kernel
theorem dX3_clear_7 : decode cX3_clear 7 = .ok (.arraylength, 1) := by decide +kernel
theorem dX3_clear_8 : decode cX3_clear 8 = .ok (.if_icmp .ge 23, 3) := by decide +kernel
theorem dX3_clear_11 : decode cX3_clear 11 = .ok (.aload_n 0, 1) := by decide +kernel
theorem dX3_clear_12 : decode cX3_clear 12 = .ok (.getfield 11, 3) := by decide +kernel
theorem dX3_clear_15 : decode cX3_clear 15 = .ok (.iload_n 1, 1) := by decide +kernel
theorem dX3_clear_16 : decode cX3_clear 16 = .ok (.iload_n 1, 1) := by decide +kernel
theorem dX3_clear_17 : decode cX3_clear 17 = .ok (.iastore, 1) := by decide +kernel
theorem dX3_clear_18 : decode cX3_clear 18 = .ok (.aload_n 0, 1) := by decide +kernel
theorem dX3_clear_19 : decode cX3_clear 19 = .ok (.getfield 15, 3) := by decide +kernel
