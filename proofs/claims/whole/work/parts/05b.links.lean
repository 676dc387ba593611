theorem ml_RX0_109 : az_MV RX0 109 yX0_shade cX0_shade 6 (Option.none : Option Jvm.ClassFile.FieldType) 3 := ⟨Or.inl tb467, tb469, tb5, tb126, tb470, ⟨by decide +kernel, by decide +kernel, by decide +kernel⟩⟩
theorem tb471 : Cond.methodLink "TreadRing$Heap" 88 (⟨"TreadRing$Rings", "colourAt", "(I)I"⟩ : MethodName) ∈ az_TB := az_tb (i := 471) (by decide +kernel) (by decide +kernel)
theorem tb472 : Cond.instanceMethod (⟨"TreadRing$Rings", "colourAt", "(I)I"⟩ : MethodName) ∈ az_TB := az_tb (i := 472) (by decide +kernel) (by decide +kernel)
theorem tb473 : Cond.selects "TreadRing$Rings" (⟨"TreadRing$Rings", "colourAt", "(I)I"⟩ : MethodName) (⟨"TreadRing$Rings", "colourAt", "(I)I"⟩ : MethodName) ∈ az_TB := az_tb (i := 473) (by decide +kernel) (by decide +kernel)
theorem tb474 : Cond.code (⟨"TreadRing$Rings", "colourAt", "(I)I"⟩ : MethodName) prog_5_method_5_code 2 (Option.some .int) ∈ az_TB := az_tb (i := 474) (by decide +kernel) (by decide +kernel)
theorem ml_RX0_88 : az_MV RX0 88 yX3_colourAt cX3_colourAt 2 (Option.some .int) 1 := ⟨Or.inl tb471, tb472, tb473, tb127, tb474, ⟨by decide +kernel, by decide +kernel, by decide +kernel⟩⟩
theorem tb475 : Cond.methodLink "TreadRing$Heap" 116 (⟨"TreadRing$Heap", "sizeAt", "(I)I"⟩ : MethodName) ∈ az_TB := az_tb (i := 475) (by decide +kernel) (by decide +kernel)
theorem tb476 : Cond.instanceMethod (⟨"TreadRing$Heap", "sizeAt", "(I)I"⟩ : MethodName) ∈ az_TB := az_tb (i := 476) (by decide +kernel) (by decide +kernel)
theorem tb477 : Cond.selects "TreadRing$Heap" (⟨"TreadRing$Heap", "sizeAt", "(I)I"⟩ : MethodName) (⟨"TreadRing$Heap", "sizeAt", "(I)I"⟩ : MethodName) ∈ az_TB := az_tb (i := 477) (by decide +kernel) (by decide +kernel)
theorem tb478 : Cond.code (⟨"TreadRing$Heap", "sizeAt", "(I)I"⟩ : MethodName) prog_2_method_5_code 2 (Option.some .int) ∈ az_TB := az_tb (i := 478) (by decide +kernel) (by decide +kernel)
theorem ml_RX0_116 : az_MV RX0 116 yX0_sizeAt cX0_sizeAt 2 (Option.some .int) 1 := ⟨Or.inl tb475, tb476, tb477, tb126, tb478, ⟨by decide +kernel, by decide +kernel, by decide +kernel⟩⟩
theorem tb479 : Cond.methodLink "TreadRing$Heap" 96 (⟨"TreadRing$Rings", "row", "(II)I"⟩ : MethodName) ∈ az_TB := az_tb (i := 479) (by decide +kernel) (by decide +kernel)
theorem tb480 : Cond.static (⟨"TreadRing$Rings", "row", "(II)I"⟩ : MethodName) ∈ az_TB := az_tb (i := 480) (by decide +kernel) (by decide +kernel)
theorem tb481 : Cond.code (⟨"TreadRing$Rings", "row", "(II)I"⟩ : MethodName) prog_5_method_2_code 2 (Option.some .int) ∈ az_TB := az_tb (i := 481) (by decide +kernel) (by decide +kernel)
theorem ml_RX0_96 : az_MS RX0 96 yX3_row cX3_row 2 (Option.some .int) 2 := ⟨tb479, tb480, tb127, tb481, ⟨by decide +kernel, by decide +kernel, by decide +kernel⟩⟩
theorem tb482 : Cond.methodLink "TreadRing$Heap" 105 (⟨"TreadRing$Rings", "move", "(IIZ)V"⟩ : MethodName) ∈ az_TB := az_tb (i := 482) (by decide +kernel) (by decide +kernel)
theorem tb483 : Cond.instanceMethod (⟨"TreadRing$Rings", "move", "(IIZ)V"⟩ : MethodName) ∈ az_TB := az_tb (i := 483) (by decide +kernel) (by decide +kernel)
theorem tb484 : Cond.selects "TreadRing$Rings" (⟨"TreadRing$Rings", "move", "(IIZ)V"⟩ : MethodName) (⟨"TreadRing$Rings", "move", "(IIZ)V"⟩ : MethodName) ∈ az_TB := az_tb (i := 484) (by decide +kernel) (by decide +kernel)
theorem tb485 : Cond.code (⟨"TreadRing$Rings", "move", "(IIZ)V"⟩ : MethodName) prog_5_method_9_code 8 (Option.none : Option Jvm.ClassFile.FieldType) ∈ az_TB := az_tb (i := 485) (by decide +kernel) (by decide +kernel)
theorem ml_RX0_105 : az_MV RX0 105 yX3_move cX3_move 8 (Option.none : Option Jvm.ClassFile.FieldType) 3 := ⟨Or.inl tb482, tb483, tb484, tb127, tb485, ⟨by decide +kernel, by decide +kernel, by decide +kernel⟩⟩
theorem tb486 : Cond.methodLink "TreadRing$Heap" 113 (⟨"TreadRing$Heap", "finish", "()V"⟩ : MethodName) ∈ az_TB := az_tb (i := 486) (by decide +kernel) (by decide +kernel)
theorem tb488 : Cond.instanceMethod (⟨"TreadRing$Heap", "finish", "()V"⟩ : MethodName) ∈ az_TB := az_tb (i := 488) (by decide +kernel) (by decide +kernel)
theorem tb6 : Cond.selects "TreadRing$Heap" (⟨"TreadRing$Heap", "finish", "()V"⟩ : MethodName) (⟨"TreadRing$Heap", "finish", "()V"⟩ : MethodName) ∈ az_TB := az_tb (i := 6) (by decide +kernel) (by decide +kernel)
theorem tb489 : Cond.code (⟨"TreadRing$Heap", "finish", "()V"⟩ : MethodName) prog_2_method_14_code 6 (Option.none : Option Jvm.ClassFile.FieldType) ∈ az_TB := az_tb (i := 489) (by decide +kernel) (by decide +kernel)
theorem ml_RX0_113 : az_MV RX0 113 yX0_finish cX0_finish 6 (Option.none : Option Jvm.ClassFile.FieldType) 0 := ⟨Or.inl tb486, tb488, tb6, tb126, tb489, ⟨by decide +kernel, by decide +kernel, by decide +kernel⟩⟩
theorem tb490 : Cond.methodLink "TreadRing$Heap" 99 (⟨"TreadRing$Rings", "count", "(I)I"⟩ : MethodName) ∈ az_TB := az_tb (i := 490) (by decide +kernel) (by decide +kernel)
theorem tb491 : Cond.instanceMethod (⟨"TreadRing$Rings", "count", "(I)I"⟩ : MethodName) ∈ az_TB := az_tb (i := 491) (by decide +kernel) (by decide +kernel)
theorem tb492 : Cond.selects "TreadRing$Rings" (⟨"TreadRing$Rings", "count", "(I)I"⟩ : MethodName) (⟨"TreadRing$Rings", "count", "(I)I"⟩ : MethodName) ∈ az_TB := az_tb (i := 492) (by decide +kernel) (by decide +kernel)
theorem tb493 : Cond.code (⟨"TreadRing$Rings", "count", "(I)I"⟩ : MethodName) prog_5_method_6_code 2 (Option.some .int) ∈ az_TB := az_tb (i := 493) (by decide +kernel) (by decide +kernel)
theorem ml_RX0_99 : az_MV RX0 99 yX3_count cX3_count 2 (Option.some .int) 1 := ⟨Or.inl tb490, tb491, tb492, tb127, tb493, ⟨by decide +kernel, by decide +kernel, by decide +kernel⟩⟩
theorem tb494 : Cond.methodLink "TreadRing$Heap" 102 (⟨"TreadRing$Rings", "first", "(I)I"⟩ : MethodName) ∈ az_TB := az_tb (i := 494) (by decide +kernel) (by decide +kernel)
theorem tb495 : Cond.instanceMethod (⟨"TreadRing$Rings", "first", "(I)I"⟩ : MethodName) ∈ az_TB := az_tb (i := 495) (by decide +kernel) (by decide +kernel)
theorem tb496 : Cond.selects "TreadRing$Rings" (⟨"TreadRing$Rings", "first", "(I)I"⟩ : MethodName) (⟨"TreadRing$Rings", "first", "(I)I"⟩ : MethodName) ∈ az_TB := az_tb (i := 496) (by decide +kernel) (by decide +kernel)
theorem tb497 : Cond.code (⟨"TreadRing$Rings", "first", "(I)I"⟩ : MethodName) prog_5_method_7_code 2 (Option.some .int) ∈ az_TB := az_tb (i := 497) (by decide +kernel) (by decide +kernel)
theorem ml_RX0_102 : az_MV RX0 102 yX3_first cX3_first 2 (Option.some .int) 1 := ⟨Or.inl tb494, tb495, tb496, tb127, tb497, ⟨by decide +kernel, by decide +kernel, by decide +kernel⟩⟩
theorem tb498 : Cond.methodLink "TreadRing$Heap" 126 (⟨"TreadRing$Heap", "forget", "([III)I"⟩ : MethodName) ∈ az_TB := az_tb (i := 498) (by decide +kernel) (by decide +kernel)
theorem tb500 : Cond.instanceMethod (⟨"TreadRing$Heap", "forget", "([III)I"⟩ : MethodName) ∈ az_TB := az_tb (i := 500) (by decide +kernel) (by decide +kernel)
theorem tb7 : Cond.selects "TreadRing$Heap" (⟨"TreadRing$Heap", "forget", "([III)I"⟩ : MethodName) (⟨"TreadRing$Heap", "forget", "([III)I"⟩ : MethodName) ∈ az_TB := az_tb (i := 7) (by decide +kernel) (by decide +kernel)
theorem tb501 : Cond.code (⟨"TreadRing$Heap", "forget", "([III)I"⟩ : MethodName) prog_2_method_15_code 6 (Option.some .int) ∈ az_TB := az_tb (i := 501) (by decide +kernel) (by decide +kernel)
theorem ml_RX0_126 : az_MV RX0 126 yX0_forget cX0_forget 6 (Option.some .int) 3 := ⟨Or.inl tb498, tb500, tb7, tb126, tb501, ⟨by decide +kernel, by decide +kernel, by decide +kernel⟩⟩
theorem tb502 : Cond.methodLink "TreadRing$Heap" 130 (⟨"TreadRing$Heap", "objects", "()I"⟩ : MethodName) ∈ az_TB := az_tb (i := 502) (by decide +kernel) (by decide +kernel)
theorem tb503 : Cond.instanceMethod (⟨"TreadRing$Heap", "objects", "()I"⟩ : MethodName) ∈ az_TB := az_tb (i := 503) (by decide +kernel) (by decide +kernel)
theorem tb504 : Cond.selects "TreadRing$Heap" (⟨"TreadRing$Heap", "objects", "()I"⟩ : MethodName) (⟨"TreadRing$Heap", "objects", "()I"⟩ : MethodName) ∈ az_TB := az_tb (i := 504) (by decide +kernel) (by decide +kernel)
theorem tb505 : Cond.code (⟨"TreadRing$Heap", "objects", "()I"⟩ : MethodName) prog_2_method_24_code 3 (Option.some .int) ∈ az_TB := az_tb (i := 505) (by decide +kernel) (by decide +kernel)
theorem ml_RX0_130 : az_MV RX0 130 yX0_objects cX0_objects 3 (Option.some .int) 0 := ⟨Or.inl tb502, tb503, tb504, tb126, tb505, ⟨by decide +kernel, by decide +kernel, by decide +kernel⟩⟩
theorem tb506 : Cond.methodLink "TreadRing$Heap" 137 (⟨"TreadRing$Heap", "findSlot", "(I)I"⟩ : MethodName) ∈ az_TB := az_tb (i := 506) (by decide +kernel) (by decide +kernel)
theorem tb508 : Cond.instanceMethod (⟨"TreadRing$Heap", "findSlot", "(I)I"⟩ : MethodName) ∈ az_TB := az_tb (i := 508) (by decide +kernel) (by decide +kernel)
theorem tb8 : Cond.selects "TreadRing$Heap" (⟨"TreadRing$Heap", "findSlot", "(I)I"⟩ : MethodName) (⟨"TreadRing$Heap", "findSlot", "(I)I"⟩ : MethodName) ∈ az_TB := az_tb (i := 8) (by decide +kernel) (by decide +kernel)
theorem tb509 : Cond.code (⟨"TreadRing$Heap", "findSlot", "(I)I"⟩ : MethodName) prog_2_method_17_code 4 (Option.some .int) ∈ az_TB := az_tb (i := 509) (by decide +kernel) (by decide +kernel)
theorem ml_RX0_137 : az_MV RX0 137 yX0_findSlot cX0_findSlot 4 (Option.some .int) 1 := ⟨Or.inl tb506, tb508, tb8, tb126, tb509, ⟨by decide +kernel, by decide +kernel, by decide +kernel⟩⟩
theorem tb510 : Cond.methodLink "TreadRing$Heap" 147 (⟨"TreadRing$Heap", "findPage", "(I)I"⟩ : MethodName) ∈ az_TB := az_tb (i := 510) (by decide +kernel) (by decide +kernel)
theorem tb512 : Cond.instanceMethod (⟨"TreadRing$Heap", "findPage", "(I)I"⟩ : MethodName) ∈ az_TB := az_tb (i := 512) (by decide +kernel) (by decide +kernel)
theorem tb9 : Cond.selects "TreadRing$Heap" (⟨"TreadRing$Heap", "findPage", "(I)I"⟩ : MethodName) (⟨"TreadRing$Heap", "findPage", "(I)I"⟩ : MethodName) ∈ az_TB := az_tb (i := 9) (by decide +kernel) (by decide +kernel)
theorem tb513 : Cond.code (⟨"TreadRing$Heap", "findPage", "(I)I"⟩ : MethodName) prog_2_method_18_code 3 (Option.some .int) ∈ az_TB := az_tb (i := 513) (by decide +kernel) (by decide +kernel)
theorem ml_RX0_147 : az_MV RX0 147 yX0_findPage cX0_findPage 3 (Option.some .int) 1 := ⟨Or.inl tb510, tb512, tb9, tb126, tb513, ⟨by decide +kernel, by decide +kernel, by decide +kernel⟩⟩
theorem tb514 : Cond.methodLink "TreadRing$Heap" 150 (⟨"TreadRing$Heap", "resize", "(II)V"⟩ : MethodName) ∈ az_TB := az_tb (i := 514) (by decide +kernel) (by decide +kernel)
theorem tb516 : Cond.instanceMethod (⟨"TreadRing$Heap", "resize", "(II)V"⟩ : MethodName) ∈ az_TB := az_tb (i := 516) (by decide +kernel) (by decide +kernel)
theorem tb10 : Cond.selects "TreadRing$Heap" (⟨"TreadRing$Heap", "resize", "(II)V"⟩ : MethodName) (⟨"TreadRing$Heap", "resize", "(II)V"⟩ : MethodName) ∈ az_TB := az_tb (i := 10) (by decide +kernel) (by decide +kernel)
theorem tb517 : Cond.code (⟨"TreadRing$Heap", "resize", "(II)V"⟩ : MethodName) prog_2_method_19_code 6 (Option.none : Option Jvm.ClassFile.FieldType) ∈ az_TB := az_tb (i := 517) (by decide +kernel) (by decide +kernel)
theorem ml_RX0_150 : az_MV RX0 150 yX0_resize cX0_resize 6 (Option.none : Option Jvm.ClassFile.FieldType) 2 := ⟨Or.inl tb514, tb516, tb10, tb126, tb517, ⟨by decide +kernel, by decide +kernel, by decide +kernel⟩⟩
theorem tb519 : Cond.methodLink "TreadRing$Heap" 141 (⟨"TreadRing$Heap", "begin", "()V"⟩ : MethodName) ∈ az_TB := az_tb (i := 519) (by decide +kernel) (by decide +kernel)
theorem tb520 : Cond.instanceMethod (⟨"TreadRing$Heap", "begin", "()V"⟩ : MethodName) ∈ az_TB := az_tb (i := 520) (by decide +kernel) (by decide +kernel)
theorem tb521 : Cond.selects "TreadRing$Heap" (⟨"TreadRing$Heap", "begin", "()V"⟩ : MethodName) (⟨"TreadRing$Heap", "begin", "()V"⟩ : MethodName) ∈ az_TB := az_tb (i := 521) (by decide +kernel) (by decide +kernel)
theorem tb522 : Cond.code (⟨"TreadRing$Heap", "begin", "()V"⟩ : MethodName) prog_2_method_9_code 4 (Option.none : Option Jvm.ClassFile.FieldType) ∈ az_TB := az_tb (i := 522) (by decide +kernel) (by decide +kernel)
theorem ml_RX0_141 : az_MV RX0 141 yX0_begin cX0_begin 4 (Option.none : Option Jvm.ClassFile.FieldType) 0 := ⟨Or.inl tb519, tb520, tb521, tb126, tb522, ⟨by decide +kernel, by decide +kernel, by decide +kernel⟩⟩
theorem tb523 : Cond.methodLink "TreadRing$Heap" 144 (⟨"java/util/Arrays", "fill", "([IIII)V"⟩ : MethodName) ∈ az_TB := az_tb (i := 523) (by decide +kernel) (by decide +kernel)
theorem tb524 : Cond.static (⟨"java/util/Arrays", "fill", "([IIII)V"⟩ : MethodName) ∈ az_TB := az_tb (i := 524) (by decide +kernel) (by decide +kernel)
theorem tb525 : Cond.code (⟨"java/util/Arrays", "fill", "([IIII)V"⟩ : MethodName) prog_15_method_104_code 5 (Option.none : Option Jvm.ClassFile.FieldType) ∈ az_TB := az_tb (i := 525) (by decide +kernel) (by decide +kernel)
theorem ml_RX0_144 : az_MS RX0 144 yJ7_fill_fda19 cJ7_fill_fda19 5 (Option.none : Option Jvm.ClassFile.FieldType) 4 := ⟨tb523, tb524, tb128, tb525, ⟨by decide +kernel, by decide +kernel, by decide +kernel⟩⟩
theorem tb526 : Cond.methodLink "java/util/Arrays" 13 (⟨"java/util/Arrays", "rangeCheck", "(III)V"⟩ : MethodName) ∈ az_TB := az_tb (i := 526) (by decide +kernel) (by decide +kernel)
theorem tb527 : Cond.static (⟨"java/util/Arrays", "rangeCheck", "(III)V"⟩ : MethodName) ∈ az_TB := az_tb (i := 527) (by decide +kernel) (by decide +kernel)
theorem tb528 : Cond.code (⟨"java/util/Arrays", "rangeCheck", "(III)V"⟩ : MethodName) prog_15_method_30_code 3 (Option.none : Option Jvm.ClassFile.FieldType) ∈ az_TB := az_tb (i := 528) (by decide +kernel) (by decide +kernel)
theorem ml_RJ7_13 : az_MS RJ7 13 yJ7_rangeCheck_23922 cJ7_rangeCheck_23922 3 (Option.none : Option Jvm.ClassFile.FieldType) 3 := ⟨tb526, tb527, tb128, tb528, ⟨by decide +kernel, by decide +kernel, by decide +kernel⟩⟩
theorem tb529 : Cond.methodLink "TreadRingLaw" 23 (⟨"TreadRing", "load", "(III)I"⟩ : MethodName) ∈ az_TB := az_tb (i := 529) (by decide +kernel) (by decide +kernel)
theorem tb530 : Cond.instanceMethod (⟨"TreadRing", "load", "(III)I"⟩ : MethodName) ∈ az_TB := az_tb (i := 530) (by decide +kernel) (by decide +kernel)
theorem tb531 : Cond.selects "TreadRing" (⟨"TreadRing", "load", "(III)I"⟩ : MethodName) (⟨"TreadRing", "load", "(III)I"⟩ : MethodName) ∈ az_TB := az_tb (i := 531) (by decide +kernel) (by decide +kernel)
theorem tb532 : Cond.code (⟨"TreadRing", "load", "(III)I"⟩ : MethodName) prog_1_method_4_code 4 (Option.some .int) ∈ az_TB := az_tb (i := 532) (by decide +kernel) (by decide +kernel)
theorem ml_RL_23 : az_MV RL 23 yX6_load cX6_load 4 (Option.some .int) 3 := ⟨Or.inl tb529, tb530, tb531, tb125, tb532, ⟨by decide +kernel, by decide +kernel, by decide +kernel⟩⟩
theorem tb533 : Cond.methodLink "TreadRing" 105 (⟨"TreadRing$Heap", "fieldOfRoot", "(II)I"⟩ : MethodName) ∈ az_TB := az_tb (i := 533) (by decide +kernel) (by decide +kernel)
theorem tb534 : Cond.instanceMethod (⟨"TreadRing$Heap", "fieldOfRoot", "(II)I"⟩ : MethodName) ∈ az_TB := az_tb (i := 534) (by decide +kernel) (by decide +kernel)
theorem tb535 : Cond.selects "TreadRing$Heap" (⟨"TreadRing$Heap", "fieldOfRoot", "(II)I"⟩ : MethodName) (⟨"TreadRing$Heap", "fieldOfRoot", "(II)I"⟩ : MethodName) ∈ az_TB := az_tb (i := 535) (by decide +kernel) (by decide +kernel)
theorem tb536 : Cond.code (⟨"TreadRing$Heap", "fieldOfRoot", "(II)I"⟩ : MethodName) prog_2_method_8_code 3 (Option.some .int) ∈ az_TB := az_tb (i := 536) (by decide +kernel) (by decide +kernel)
theorem ml_RX6_105 : az_MV RX6 105 yX0_fieldOfRoot cX0_fieldOfRoot 3 (Option.some .int) 2 := ⟨Or.inl tb533, tb534, tb535, tb126, tb536, ⟨by decide +kernel, by decide +kernel, by decide +kernel⟩⟩
theorem tb537 : Cond.methodLink "TreadRing$Heap" 92 (⟨"TreadRing$Heap", "fieldCell", "(II)I"⟩ : MethodName) ∈ az_TB := az_tb (i := 537) (by decide +kernel) (by decide +kernel)
theorem tb538 : Cond.instanceMethod (⟨"TreadRing$Heap", "fieldCell", "(II)I"⟩ : MethodName) ∈ az_TB := az_tb (i := 538) (by decide +kernel) (by decide +kernel)
theorem tb539 : Cond.selects "TreadRing$Heap" (⟨"TreadRing$Heap", "fieldCell", "(II)I"⟩ : MethodName) (⟨"TreadRing$Heap", "fieldCell", "(II)I"⟩ : MethodName) ∈ az_TB := az_tb (i := 539) (by decide +kernel) (by decide +kernel)
theorem tb540 : Cond.code (⟨"TreadRing$Heap", "fieldCell", "(II)I"⟩ : MethodName) prog_2_method_7_code 3 (Option.some .int) ∈ az_TB := az_tb (i := 540) (by decide +kernel) (by decide +kernel)
theorem ml_RX0_92 : az_MV RX0 92 yX0_fieldCell cX0_fieldCell 3 (Option.some .int) 2 := ⟨Or.inl tb537, tb538, tb539, tb126, tb540, ⟨by decide +kernel, by decide +kernel, by decide +kernel⟩⟩
theorem tb541 : Cond.methodLink "TreadRing" 108 (⟨"TreadRing$Heap", "fetch", "(III)I"⟩ : MethodName) ∈ az_TB := az_tb (i := 541) (by decide +kernel) (by decide +kernel)
theorem tb542 : Cond.instanceMethod (⟨"TreadRing$Heap", "fetch", "(III)I"⟩ : MethodName) ∈ az_TB := az_tb (i := 542) (by decide +kernel) (by decide +kernel)
theorem tb543 : Cond.selects "TreadRing$Heap" (⟨"TreadRing$Heap", "fetch", "(III)I"⟩ : MethodName) (⟨"TreadRing$Heap", "fetch", "(III)I"⟩ : MethodName) ∈ az_TB := az_tb (i := 543) (by decide +kernel) (by decide +kernel)
theorem tb544 : Cond.code (⟨"TreadRing$Heap", "fetch", "(III)I"⟩ : MethodName) prog_2_method_20_code 5 (Option.some .int) ∈ az_TB := az_tb (i := 544) (by decide +kernel) (by decide +kernel)
theorem ml_RX6_108 : az_MV RX6 108 yX0_fetch cX0_fetch 5 (Option.some .int) 3 := ⟨Or.inl tb541, tb542, tb543, tb126, tb544, ⟨by decide +kernel, by decide +kernel, by decide +kernel⟩⟩
theorem tb545 : Cond.methodLink "TreadRing$Heap" 154 (⟨"TreadRing$Heap", "fieldOfRoot", "(II)I"⟩ : MethodName) ∈ az_TB := az_tb (i := 545) (by decide +kernel) (by decide +kernel)
theorem ml_RX0_154 : az_MV RX0 154 yX0_fieldOfRoot cX0_fieldOfRoot 3 (Option.some .int) 2 := ⟨Or.inl tb545, tb534, tb535, tb126, tb536, ⟨by decide +kernel, by decide +kernel, by decide +kernel⟩⟩
theorem tb546 : Cond.methodLink "TreadRingLaw" 28 (⟨"TreadRing", "store", "(III)Z"⟩ : MethodName) ∈ az_TB := az_tb (i := 546) (by decide +kernel) (by decide +kernel)
theorem tb547 : Cond.instanceMethod (⟨"TreadRing", "store", "(III)Z"⟩ : MethodName) ∈ az_TB := az_tb (i := 547) (by decide +kernel) (by decide +kernel)
theorem tb548 : Cond.selects "TreadRing" (⟨"TreadRing", "store", "(III)Z"⟩ : MethodName) (⟨"TreadRing", "store", "(III)Z"⟩ : MethodName) ∈ az_TB := az_tb (i := 548) (by decide +kernel) (by decide +kernel)
theorem tb549 : Cond.code (⟨"TreadRing", "store", "(III)Z"⟩ : MethodName) prog_1_method_5_code 4 (Option.some .boolean) ∈ az_TB := az_tb (i := 549) (by decide +kernel) (by decide +kernel)
theorem ml_RL_28 : az_MV RL 28 yX6_store cX6_store 4 (Option.some .boolean) 3 := ⟨Or.inl tb546, tb547, tb548, tb125, tb549, ⟨by decide +kernel, by decide +kernel, by decide +kernel⟩⟩
theorem tb550 : Cond.methodLink "TreadRing" 112 (⟨"TreadRing", "isRootOrNone", "(I)Z"⟩ : MethodName) ∈ az_TB := az_tb (i := 550) (by decide +kernel) (by decide +kernel)
theorem tb551 : Cond.static (⟨"TreadRing", "isRootOrNone", "(I)Z"⟩ : MethodName) ∈ az_TB := az_tb (i := 551) (by decide +kernel) (by decide +kernel)
theorem tb552 : Cond.code (⟨"TreadRing", "isRootOrNone", "(I)Z"⟩ : MethodName) prog_1_method_55_code 1 (Option.some .boolean) ∈ az_TB := az_tb (i := 552) (by decide +kernel) (by decide +kernel)
theorem ml_RX6_112 : az_MS RX6 112 yX6_isRootOrNone cX6_isRootOrNone 1 (Option.some .boolean) 1 := ⟨tb550, tb551, tb125, tb552, ⟨by decide +kernel, by decide +kernel, by decide +kernel⟩⟩
theorem tb553 : Cond.methodLink "TreadRing" 115 (⟨"TreadRing$Heap", "put", "(III)Z"⟩ : MethodName) ∈ az_TB := az_tb (i := 553) (by decide +kernel) (by decide +kernel)
theorem tb554 : Cond.instanceMethod (⟨"TreadRing$Heap", "put", "(III)Z"⟩ : MethodName) ∈ az_TB := az_tb (i := 554) (by decide +kernel) (by decide +kernel)
theorem tb555 : Cond.selects "TreadRing$Heap" (⟨"TreadRing$Heap", "put", "(III)Z"⟩ : MethodName) (⟨"TreadRing$Heap", "put", "(III)Z"⟩ : MethodName) ∈ az_TB := az_tb (i := 555) (by decide +kernel) (by decide +kernel)
theorem tb556 : Cond.code (⟨"TreadRing$Heap", "put", "(III)Z"⟩ : MethodName) prog_2_method_21_code 5 (Option.some .boolean) ∈ az_TB := az_tb (i := 556) (by decide +kernel) (by decide +kernel)
theorem ml_RX6_115 : az_MV RX6 115 yX0_put cX0_put 5 (Option.some .boolean) 3 := ⟨Or.inl tb553, tb554, tb555, tb126, tb556, ⟨by decide +kernel, by decide +kernel, by decide +kernel⟩⟩
theorem tb557 : Cond.methodLink "TreadRing$Heap" 157 (⟨"TreadRing$Heap", "rootOrNone", "(I)I"⟩ : MethodName) ∈ az_TB := az_tb (i := 557) (by decide +kernel) (by decide +kernel)
theorem tb558 : Cond.instanceMethod (⟨"TreadRing$Heap", "rootOrNone", "(I)I"⟩ : MethodName) ∈ az_TB := az_tb (i := 558) (by decide +kernel) (by decide +kernel)
theorem tb559 : Cond.selects "TreadRing$Heap" (⟨"TreadRing$Heap", "rootOrNone", "(I)I"⟩ : MethodName) (⟨"TreadRing$Heap", "rootOrNone", "(I)I"⟩ : MethodName) ∈ az_TB := az_tb (i := 559) (by decide +kernel) (by decide +kernel)
theorem tb560 : Cond.code (⟨"TreadRing$Heap", "rootOrNone", "(I)I"⟩ : MethodName) prog_2_method_6_code 2 (Option.some .int) ∈ az_TB := az_tb (i := 560) (by decide +kernel) (by decide +kernel)
theorem ml_RX0_157 : az_MV RX0 157 yX0_rootOrNone cX0_rootOrNone 2 (Option.some .int) 1 := ⟨Or.inl tb557, tb558, tb559, tb126, tb560, ⟨by decide +kernel, by decide +kernel, by decide +kernel⟩⟩
theorem tb561 : Cond.methodLink "TreadRingLaw" 33 (⟨"TreadRing", "copy", "(II)Z"⟩ : MethodName) ∈ az_TB := az_tb (i := 561) (by decide +kernel) (by decide +kernel)
theorem tb562 : Cond.instanceMethod (⟨"TreadRing", "copy", "(II)Z"⟩ : MethodName) ∈ az_TB := az_tb (i := 562) (by decide +kernel) (by decide +kernel)
theorem tb563 : Cond.selects "TreadRing" (⟨"TreadRing", "copy", "(II)Z"⟩ : MethodName) (⟨"TreadRing", "copy", "(II)Z"⟩ : MethodName) ∈ az_TB := az_tb (i := 563) (by decide +kernel) (by decide +kernel)
theorem tb564 : Cond.code (⟨"TreadRing", "copy", "(II)Z"⟩ : MethodName) prog_1_method_6_code 4 (Option.some .boolean) ∈ az_TB := az_tb (i := 564) (by decide +kernel) (by decide +kernel)
theorem ml_RL_33 : az_MV RL 33 yX6_copy cX6_copy 4 (Option.some .boolean) 2 := ⟨Or.inl tb561, tb562, tb563, tb125, tb564, ⟨by decide +kernel, by decide +kernel, by decide +kernel⟩⟩
theorem tb565 : Cond.methodLink "TreadRing" 122 (⟨"TreadRing$Heap", "rootOrNone", "(I)I"⟩ : MethodName) ∈ az_TB := az_tb (i := 565) (by decide +kernel) (by decide +kernel)
theorem ml_RX6_122 : az_MV RX6 122 yX0_rootOrNone cX0_rootOrNone 2 (Option.some .int) 1 := ⟨Or.inl tb565, tb558, tb559, tb126, tb560, ⟨by decide +kernel, by decide +kernel, by decide +kernel⟩⟩
theorem tb566 : Cond.methodLink "TreadRingLaw" 38 (⟨"TreadRing", "weak", "(II)Z"⟩ : MethodName) ∈ az_TB := az_tb (i := 566) (by decide +kernel) (by decide +kernel)
theorem tb567 : Cond.instanceMethod (⟨"TreadRing", "weak", "(II)Z"⟩ : MethodName) ∈ az_TB := az_tb (i := 567) (by decide +kernel) (by decide +kernel)
theorem tb568 : Cond.selects "TreadRing" (⟨"TreadRing", "weak", "(II)Z"⟩ : MethodName) (⟨"TreadRing", "weak", "(II)Z"⟩ : MethodName) ∈ az_TB := az_tb (i := 568) (by decide +kernel) (by decide +kernel)
theorem tb569 : Cond.code (⟨"TreadRing", "weak", "(II)Z"⟩ : MethodName) prog_1_method_7_code 4 (Option.some .boolean) ∈ az_TB := az_tb (i := 569) (by decide +kernel) (by decide +kernel)
theorem ml_RL_38 : az_MV RL 38 yX6_weak cX6_weak 4 (Option.some .boolean) 2 := ⟨Or.inl tb566, tb567, tb568, tb125, tb569, ⟨by decide +kernel, by decide +kernel, by decide +kernel⟩⟩
theorem tb570 : Cond.methodLink "TreadRing" 126 (⟨"TreadRing", "isWeak", "(I)Z"⟩ : MethodName) ∈ az_TB := az_tb (i := 570) (by decide +kernel) (by decide +kernel)
theorem tb571 : Cond.static (⟨"TreadRing", "isWeak", "(I)Z"⟩ : MethodName) ∈ az_TB := az_tb (i := 571) (by decide +kernel) (by decide +kernel)
theorem tb572 : Cond.code (⟨"TreadRing", "isWeak", "(I)Z"⟩ : MethodName) prog_1_method_56_code 1 (Option.some .boolean) ∈ az_TB := az_tb (i := 572) (by decide +kernel) (by decide +kernel)
theorem ml_RX6_126 : az_MS RX6 126 yX6_isWeak cX6_isWeak 1 (Option.some .boolean) 1 := ⟨tb570, tb571, tb125, tb572, ⟨by decide +kernel, by decide +kernel, by decide +kernel⟩⟩
theorem tb573 : Cond.methodLink "TreadRingLaw" 42 (⟨"TreadRing", "strong", "(II)I"⟩ : MethodName) ∈ az_TB := az_tb (i := 573) (by decide +kernel) (by decide +kernel)
theorem tb574 : Cond.instanceMethod (⟨"TreadRing", "strong", "(II)I"⟩ : MethodName) ∈ az_TB := az_tb (i := 574) (by decide +kernel) (by decide +kernel)
theorem tb575 : Cond.selects "TreadRing" (⟨"TreadRing", "strong", "(II)I"⟩ : MethodName) (⟨"TreadRing", "strong", "(II)I"⟩ : MethodName) ∈ az_TB := az_tb (i := 575) (by decide +kernel) (by decide +kernel)
theorem tb576 : Cond.code (⟨"TreadRing", "strong", "(II)I"⟩ : MethodName) prog_1_method_8_code 3 (Option.some .int) ∈ az_TB := az_tb (i := 576) (by decide +kernel) (by decide +kernel)
theorem ml_RL_42 : az_MV RL 42 yX6_strong cX6_strong 3 (Option.some .int) 2 := ⟨Or.inl tb573, tb574, tb575, tb125, tb576, ⟨by decide +kernel, by decide +kernel, by decide +kernel⟩⟩
theorem tb577 : Cond.methodLink "TreadRing" 132 (⟨"TreadRing$Heap", "strengthen", "(II)I"⟩ : MethodName) ∈ az_TB := az_tb (i := 577) (by decide +kernel) (by decide +kernel)
theorem tb578 : Cond.instanceMethod (⟨"TreadRing$Heap", "strengthen", "(II)I"⟩ : MethodName) ∈ az_TB := az_tb (i := 578) (by decide +kernel) (by decide +kernel)
theorem tb579 : Cond.selects "TreadRing$Heap" (⟨"TreadRing$Heap", "strengthen", "(II)I"⟩ : MethodName) (⟨"TreadRing$Heap", "strengthen", "(II)I"⟩ : MethodName) ∈ az_TB := az_tb (i := 579) (by decide +kernel) (by decide +kernel)
theorem tb580 : Cond.code (⟨"TreadRing$Heap", "strengthen", "(II)I"⟩ : MethodName) prog_2_method_22_code 3 (Option.some .int) ∈ az_TB := az_tb (i := 580) (by decide +kernel) (by decide +kernel)
theorem ml_RX6_132 : az_MV RX6 132 yX0_strengthen cX0_strengthen 3 (Option.some .int) 2 := ⟨Or.inl tb577, tb578, tb579, tb126, tb580, ⟨by decide +kernel, by decide +kernel, by decide +kernel⟩⟩
theorem tb581 : Cond.methodLink "TreadRingLaw" 46 (⟨"TreadRing", "start", "()Z"⟩ : MethodName) ∈ az_TB := az_tb (i := 581) (by decide +kernel) (by decide +kernel)
theorem tb582 : Cond.instanceMethod (⟨"TreadRing", "start", "()Z"⟩ : MethodName) ∈ az_TB := az_tb (i := 582) (by decide +kernel) (by decide +kernel)
theorem tb583 : Cond.selects "TreadRing" (⟨"TreadRing", "start", "()Z"⟩ : MethodName) (⟨"TreadRing", "start", "()Z"⟩ : MethodName) ∈ az_TB := az_tb (i := 583) (by decide +kernel) (by decide +kernel)
theorem tb584 : Cond.code (⟨"TreadRing", "start", "()Z"⟩ : MethodName) prog_1_method_9_code 1 (Option.some .boolean) ∈ az_TB := az_tb (i := 584) (by decide +kernel) (by decide +kernel)
theorem ml_RL_46 : az_MV RL 46 yX6_start cX6_start 1 (Option.some .boolean) 0 := ⟨Or.inl tb581, tb582, tb583, tb125, tb584, ⟨by decide +kernel, by decide +kernel, by decide +kernel⟩⟩
theorem tb585 : Cond.methodLink "TreadRing" 139 (⟨"TreadRing$Heap", "begin", "()V"⟩ : MethodName) ∈ az_TB := az_tb (i := 585) (by decide +kernel) (by decide +kernel)
theorem ml_RX6_139 : az_MV RX6 139 yX0_begin cX0_begin 4 (Option.none : Option Jvm.ClassFile.FieldType) 0 := ⟨Or.inl tb585, tb520, tb521, tb126, tb522, ⟨by decide +kernel, by decide +kernel, by decide +kernel⟩⟩
theorem tb586 : Cond.methodLink "TreadRingLaw" 51 (⟨"TreadRing", "work", "(I)I"⟩ : MethodName) ∈ az_TB := az_tb (i := 586) (by decide +kernel) (by decide +kernel)
theorem tb587 : Cond.instanceMethod (⟨"TreadRing", "work", "(I)I"⟩ : MethodName) ∈ az_TB := az_tb (i := 587) (by decide +kernel) (by decide +kernel)
theorem tb588 : Cond.selects "TreadRing" (⟨"TreadRing", "work", "(I)I"⟩ : MethodName) (⟨"TreadRing", "work", "(I)I"⟩ : MethodName) ∈ az_TB := az_tb (i := 588) (by decide +kernel) (by decide +kernel)
theorem tb589 : Cond.code (⟨"TreadRing", "work", "(I)I"⟩ : MethodName) prog_1_method_10_code 2 (Option.some .int) ∈ az_TB := az_tb (i := 589) (by decide +kernel) (by decide +kernel)
theorem ml_RL_51 : az_MV RL 51 yX6_work cX6_work 2 (Option.some .int) 1 := ⟨Or.inl tb586, tb587, tb588, tb125, tb589, ⟨by decide +kernel, by decide +kernel, by decide +kernel⟩⟩
theorem tb590 : Cond.methodLink "TreadRing" 142 (⟨"TreadRing$Heap", "advance", "(I)I"⟩ : MethodName) ∈ az_TB := az_tb (i := 590) (by decide +kernel) (by decide +kernel)
theorem ml_RX6_142 : az_MV RX6 142 yX0_advance cX0_advance 3 (Option.some .int) 1 := ⟨Or.inl tb590, tb456, tb457, tb126, tb458, ⟨by decide +kernel, by decide +kernel, by decide +kernel⟩⟩
theorem tb591 : Cond.methodLink "TreadRingLaw" 56 (⟨"TreadRing", "turn", "(II)I"⟩ : MethodName) ∈ az_TB := az_tb (i := 591) (by decide +kernel) (by decide +kernel)
theorem tb592 : Cond.instanceMethod (⟨"TreadRing", "turn", "(II)I"⟩ : MethodName) ∈ az_TB := az_tb (i := 592) (by decide +kernel) (by decide +kernel)
theorem tb593 : Cond.selects "TreadRing" (⟨"TreadRing", "turn", "(II)I"⟩ : MethodName) (⟨"TreadRing", "turn", "(II)I"⟩ : MethodName) ∈ az_TB := az_tb (i := 593) (by decide +kernel) (by decide +kernel)
theorem tb594 : Cond.code (⟨"TreadRing", "turn", "(II)I"⟩ : MethodName) prog_1_method_11_code 6 (Option.some .int) ∈ az_TB := az_tb (i := 594) (by decide +kernel) (by decide +kernel)
theorem ml_RL_56 : az_MV RL 56 yX6_turn cX6_turn 6 (Option.some .int) 2 := ⟨Or.inl tb591, tb592, tb593, tb125, tb594, ⟨by decide +kernel, by decide +kernel, by decide +kernel⟩⟩
theorem tb595 : Cond.methodLink "TreadRingLaw" 60 (⟨"TreadRing", "feed", "(IIIII)I"⟩ : MethodName) ∈ az_TB := az_tb (i := 595) (by decide +kernel) (by decide +kernel)
theorem tb596 : Cond.instanceMethod (⟨"TreadRing", "feed", "(IIIII)I"⟩ : MethodName) ∈ az_TB := az_tb (i := 596) (by decide +kernel) (by decide +kernel)
theorem tb597 : Cond.selects "TreadRing" (⟨"TreadRing", "feed", "(IIIII)I"⟩ : MethodName) (⟨"TreadRing", "feed", "(IIIII)I"⟩ : MethodName) ∈ az_TB := az_tb (i := 597) (by decide +kernel) (by decide +kernel)
theorem tb598 : Cond.code (⟨"TreadRing", "feed", "(IIIII)I"⟩ : MethodName) prog_1_method_12_code 6 (Option.some .int) ∈ az_TB := az_tb (i := 598) (by decide +kernel) (by decide +kernel)
theorem ml_RL_60 : az_MV RL 60 yX6_feed cX6_feed 6 (Option.some .int) 5 := ⟨Or.inl tb595, tb596, tb597, tb125, tb598, ⟨by decide +kernel, by decide +kernel, by decide +kernel⟩⟩
theorem tb599 : Cond.methodLink "TreadRing" 148 (⟨"TreadRing", "feedFour", "(I)V"⟩ : MethodName) ∈ az_TB := az_tb (i := 599) (by decide +kernel) (by decide +kernel)
theorem tb601 : Cond.instanceMethod (⟨"TreadRing", "feedFour", "(I)V"⟩ : MethodName) ∈ az_TB := az_tb (i := 601) (by decide +kernel) (by decide +kernel)
theorem tb11 : Cond.selects "TreadRing" (⟨"TreadRing", "feedFour", "(I)V"⟩ : MethodName) (⟨"TreadRing", "feedFour", "(I)V"⟩ : MethodName) ∈ az_TB := az_tb (i := 11) (by decide +kernel) (by decide +kernel)
theorem tb602 : Cond.code (⟨"TreadRing", "feedFour", "(I)V"⟩ : MethodName) prog_1_method_45_code 3 (Option.none : Option Jvm.ClassFile.FieldType) ∈ az_TB := az_tb (i := 602) (by decide +kernel) (by decide +kernel)
theorem ml_RX6_148 : az_MV RX6 148 yX6_feedFour cX6_feedFour 3 (Option.none : Option Jvm.ClassFile.FieldType) 1 := ⟨Or.inl tb599, tb601, tb11, tb125, tb602, ⟨by decide +kernel, by decide +kernel, by decide +kernel⟩⟩
theorem tb603 : Cond.methodLink "TreadRingLaw" 65 (⟨"TreadRing", "cut", "(I)I"⟩ : MethodName) ∈ az_TB := az_tb (i := 603) (by decide +kernel) (by decide +kernel)
theorem tb604 : Cond.instanceMethod (⟨"TreadRing", "cut", "(I)I"⟩ : MethodName) ∈ az_TB := az_tb (i := 604) (by decide +kernel) (by decide +kernel)
theorem tb605 : Cond.selects "TreadRing" (⟨"TreadRing", "cut", "(I)I"⟩ : MethodName) (⟨"TreadRing", "cut", "(I)I"⟩ : MethodName) ∈ az_TB := az_tb (i := 605) (by decide +kernel) (by decide +kernel)
theorem tb606 : Cond.code (⟨"TreadRing", "cut", "(I)I"⟩ : MethodName) prog_1_method_13_code 2 (Option.some .int) ∈ az_TB := az_tb (i := 606) (by decide +kernel) (by decide +kernel)
theorem ml_RL_65 : az_MV RL 65 yX6_cut cX6_cut 2 (Option.some .int) 1 := ⟨Or.inl tb603, tb604, tb605, tb125, tb606, ⟨by decide +kernel, by decide +kernel, by decide +kernel⟩⟩
theorem tb607 : Cond.methodLink "TreadRingLaw" 69 (⟨"TreadRing", "program", "()I"⟩ : MethodName) ∈ az_TB := az_tb (i := 607) (by decide +kernel) (by decide +kernel)
theorem tb608 : Cond.instanceMethod (⟨"TreadRing", "program", "()I"⟩ : MethodName) ∈ az_TB := az_tb (i := 608) (by decide +kernel) (by decide +kernel)
theorem tb609 : Cond.selects "TreadRing" (⟨"TreadRing", "program", "()I"⟩ : MethodName) (⟨"TreadRing", "program", "()I"⟩ : MethodName) ∈ az_TB := az_tb (i := 609) (by decide +kernel) (by decide +kernel)
theorem tb610 : Cond.code (⟨"TreadRing", "program", "()I"⟩ : MethodName) prog_1_method_14_code 3 (Option.some .int) ∈ az_TB := az_tb (i := 610) (by decide +kernel) (by decide +kernel)
theorem ml_RL_69 : az_MV RL 69 yX6_program cX6_program 3 (Option.some .int) 0 := ⟨Or.inl tb607, tb608, tb609, tb125, tb610, ⟨by decide +kernel, by decide +kernel, by decide +kernel⟩⟩
theorem tb611 : Cond.methodLink "TreadRing" 151 (⟨"TreadRing$Reader", "read", "([IILTreadRing$Script;)V"⟩ : MethodName) ∈ az_TB := az_tb (i := 611) (by decide +kernel) (by decide +kernel)
theorem tb612 : Cond.instanceMethod (⟨"TreadRing$Reader", "read", "([IILTreadRing$Script;)V"⟩ : MethodName) ∈ az_TB := az_tb (i := 612) (by decide +kernel) (by decide +kernel)
theorem tb613 : Cond.selects "TreadRing$Reader" (⟨"TreadRing$Reader", "read", "([IILTreadRing$Script;)V"⟩ : MethodName) (⟨"TreadRing$Reader", "read", "([IILTreadRing$Script;)V"⟩ : MethodName) ∈ az_TB := az_tb (i := 613) (by decide +kernel) (by decide +kernel)
theorem tb614 : Cond.code (⟨"TreadRing$Reader", "read", "([IILTreadRing$Script;)V"⟩ : MethodName) prog_4_method_2_code 5 (Option.none : Option Jvm.ClassFile.FieldType) ∈ az_TB := az_tb (i := 614) (by decide +kernel) (by decide +kernel)
theorem ml_RX6_151 : az_MV RX6 151 yX2_read cX2_read 5 (Option.none : Option Jvm.ClassFile.FieldType) 3 := ⟨Or.inl tb611, tb612, tb613, tb130, tb614, ⟨by decide +kernel, by decide +kernel, by decide +kernel⟩⟩
theorem tb615 : Cond.methodLink "TreadRing$Reader" 47 (⟨"TreadRing$Reader", "advanceToken", "()V"⟩ : MethodName) ∈ az_TB := az_tb (i := 615) (by decide +kernel) (by decide +kernel)
theorem tb617 : Cond.instanceMethod (⟨"TreadRing$Reader", "advanceToken", "()V"⟩ : MethodName) ∈ az_TB := az_tb (i := 617) (by decide +kernel) (by decide +kernel)
theorem tb12 : Cond.selects "TreadRing$Reader" (⟨"TreadRing$Reader", "advanceToken", "()V"⟩ : MethodName) (⟨"TreadRing$Reader", "advanceToken", "()V"⟩ : MethodName) ∈ az_TB := az_tb (i := 12) (by decide +kernel) (by decide +kernel)
theorem tb618 : Cond.code (⟨"TreadRing$Reader", "advanceToken", "()V"⟩ : MethodName) prog_4_method_3_code 1 (Option.none : Option Jvm.ClassFile.FieldType) ∈ az_TB := az_tb (i := 618) (by decide +kernel) (by decide +kernel)
theorem ml_RX2_47 : az_MV RX2 47 yX2_advanceToken cX2_advanceToken 1 (Option.none : Option Jvm.ClassFile.FieldType) 0 := ⟨Or.inl tb615, tb617, tb12, tb130, tb618, ⟨by decide +kernel, by decide +kernel, by decide +kernel⟩⟩
theorem tb619 : Cond.methodLink "TreadRing$Reader" 64 (⟨"java/lang/Math", "min", "(II)I"⟩ : MethodName) ∈ az_TB := az_tb (i := 619) (by decide +kernel) (by decide +kernel)
theorem ml_RX2_64 : az_MS RX2 64 yJ9_min_7cf53 cJ9_min_7cf53 2 (Option.some .int) 2 := ⟨tb619, tb449, tb135, tb450, ⟨by decide +kernel, by decide +kernel, by decide +kernel⟩⟩
theorem tb620 : Cond.methodLink "TreadRing$Reader" 70 (⟨"TreadRing$Reader", "isLetter", "(I)Z"⟩ : MethodName) ∈ az_TB := az_tb (i := 620) (by decide +kernel) (by decide +kernel)
theorem tb622 : Cond.instanceMethod (⟨"TreadRing$Reader", "isLetter", "(I)Z"⟩ : MethodName) ∈ az_TB := az_tb (i := 622) (by decide +kernel) (by decide +kernel)
theorem tb13 : Cond.selects "TreadRing$Reader" (⟨"TreadRing$Reader", "isLetter", "(I)Z"⟩ : MethodName) (⟨"TreadRing$Reader", "isLetter", "(I)Z"⟩ : MethodName) ∈ az_TB := az_tb (i := 13) (by decide +kernel) (by decide +kernel)
theorem tb623 : Cond.code (⟨"TreadRing$Reader", "isLetter", "(I)Z"⟩ : MethodName) prog_4_method_4_code 2 (Option.some .boolean) ∈ az_TB := az_tb (i := 623) (by decide +kernel) (by decide +kernel)
theorem ml_RX2_70 : az_MV RX2 70 yX2_isLetter cX2_isLetter 2 (Option.some .boolean) 1 := ⟨Or.inl tb620, tb622, tb13, tb130, tb623, ⟨by decide +kernel, by decide +kernel, by decide +kernel⟩⟩
theorem tb624 : Cond.methodLink "TreadRing$Reader" 74 (⟨"TreadRing$Reader", "isDigit", "(I)Z"⟩ : MethodName) ∈ az_TB := az_tb (i := 624) (by decide +kernel) (by decide +kernel)
theorem tb626 : Cond.instanceMethod (⟨"TreadRing$Reader", "isDigit", "(I)Z"⟩ : MethodName) ∈ az_TB := az_tb (i := 626) (by decide +kernel) (by decide +kernel)
theorem tb14 : Cond.selects "TreadRing$Reader" (⟨"TreadRing$Reader", "isDigit", "(I)Z"⟩ : MethodName) (⟨"TreadRing$Reader", "isDigit", "(I)Z"⟩ : MethodName) ∈ az_TB := az_tb (i := 14) (by decide +kernel) (by decide +kernel)
theorem tb627 : Cond.code (⟨"TreadRing$Reader", "isDigit", "(I)Z"⟩ : MethodName) prog_4_method_5_code 2 (Option.some .boolean) ∈ az_TB := az_tb (i := 627) (by decide +kernel) (by decide +kernel)
theorem ml_RX2_74 : az_MV RX2 74 yX2_isDigit cX2_isDigit 2 (Option.some .boolean) 1 := ⟨Or.inl tb624, tb626, tb14, tb130, tb627, ⟨by decide +kernel, by decide +kernel, by decide +kernel⟩⟩
theorem tb628 : Cond.methodLink "TreadRing$Reader" 50 (⟨"TreadRing$Reader", "isSign", "(C)Z"⟩ : MethodName) ∈ az_TB := az_tb (i := 628) (by decide +kernel) (by decide +kernel)
theorem tb630 : Cond.instanceMethod (⟨"TreadRing$Reader", "isSign", "(C)Z"⟩ : MethodName) ∈ az_TB := az_tb (i := 630) (by decide +kernel) (by decide +kernel)
theorem tb15 : Cond.selects "TreadRing$Reader" (⟨"TreadRing$Reader", "isSign", "(C)Z"⟩ : MethodName) (⟨"TreadRing$Reader", "isSign", "(C)Z"⟩ : MethodName) ∈ az_TB := az_tb (i := 15) (by decide +kernel) (by decide +kernel)
theorem tb631 : Cond.code (⟨"TreadRing$Reader", "isSign", "(C)Z"⟩ : MethodName) prog_4_method_6_code 2 (Option.some .boolean) ∈ az_TB := az_tb (i := 631) (by decide +kernel) (by decide +kernel)
theorem ml_RX2_50 : az_MV RX2 50 yX2_isSign cX2_isSign 2 (Option.some .boolean) 1 := ⟨Or.inl tb628, tb630, tb15, tb130, tb631, ⟨by decide +kernel, by decide +kernel, by decide +kernel⟩⟩
theorem tb632 : Cond.methodLink "TreadRing$Reader" 54 (⟨"TreadRing$Reader", "closeBlock", "()V"⟩ : MethodName) ∈ az_TB := az_tb (i := 632) (by decide +kernel) (by decide +kernel)
theorem tb634 : Cond.instanceMethod (⟨"TreadRing$Reader", "closeBlock", "()V"⟩ : MethodName) ∈ az_TB := az_tb (i := 634) (by decide +kernel) (by decide +kernel)
theorem tb16 : Cond.selects "TreadRing$Reader" (⟨"TreadRing$Reader", "closeBlock", "()V"⟩ : MethodName) (⟨"TreadRing$Reader", "closeBlock", "()V"⟩ : MethodName) ∈ az_TB := az_tb (i := 16) (by decide +kernel) (by decide +kernel)
theorem tb635 : Cond.code (⟨"TreadRing$Reader", "closeBlock", "()V"⟩ : MethodName) prog_4_method_13_code 1 (Option.none : Option Jvm.ClassFile.FieldType) ∈ az_TB := az_tb (i := 635) (by decide +kernel) (by decide +kernel)
theorem ml_RX2_54 : az_MV RX2 54 yX2_closeBlock cX2_closeBlock 1 (Option.none : Option Jvm.ClassFile.FieldType) 0 := ⟨Or.inl tb632, tb634, tb16, tb130, tb635, ⟨by decide +kernel, by decide +kernel, by decide +kernel⟩⟩
theorem tb636 : Cond.methodLink "TreadRing$Reader" 60 (⟨"TreadRing$Reader", "note", "(I)V"⟩ : MethodName) ∈ az_TB := az_tb (i := 636) (by decide +kernel) (by decide +kernel)
theorem tb638 : Cond.instanceMethod (⟨"TreadRing$Reader", "note", "(I)V"⟩ : MethodName) ∈ az_TB := az_tb (i := 638) (by decide +kernel) (by decide +kernel)
theorem tb17 : Cond.selects "TreadRing$Reader" (⟨"TreadRing$Reader", "note", "(I)V"⟩ : MethodName) (⟨"TreadRing$Reader", "note", "(I)V"⟩ : MethodName) ∈ az_TB := az_tb (i := 17) (by decide +kernel) (by decide +kernel)
theorem tb639 : Cond.code (⟨"TreadRing$Reader", "note", "(I)V"⟩ : MethodName) prog_4_method_9_code 2 (Option.none : Option Jvm.ClassFile.FieldType) ∈ az_TB := az_tb (i := 639) (by decide +kernel) (by decide +kernel)
theorem ml_RX2_60 : az_MV RX2 60 yX2_note cX2_note 2 (Option.none : Option Jvm.ClassFile.FieldType) 1 := ⟨Or.inl tb636, tb638, tb17, tb130, tb639, ⟨by decide +kernel, by decide +kernel, by decide +kernel⟩⟩
theorem tb640 : Cond.methodLink "TreadRing$Reader" 57 (⟨"TreadRing$Reader", "readItem", "()V"⟩ : MethodName) ∈ az_TB := az_tb (i := 640) (by decide +kernel) (by decide +kernel)
theorem tb642 : Cond.instanceMethod (⟨"TreadRing$Reader", "readItem", "()V"⟩ : MethodName) ∈ az_TB := az_tb (i := 642) (by decide +kernel) (by decide +kernel)
theorem tb18 : Cond.selects "TreadRing$Reader" (⟨"TreadRing$Reader", "readItem", "()V"⟩ : MethodName) (⟨"TreadRing$Reader", "readItem", "()V"⟩ : MethodName) ∈ az_TB := az_tb (i := 18) (by decide +kernel) (by decide +kernel)
theorem tb643 : Cond.code (⟨"TreadRing$Reader", "readItem", "()V"⟩ : MethodName) prog_4_method_14_code 5 (Option.none : Option Jvm.ClassFile.FieldType) ∈ az_TB := az_tb (i := 643) (by decide +kernel) (by decide +kernel)
theorem ml_RX2_57 : az_MV RX2 57 yX2_readItem cX2_readItem 5 (Option.none : Option Jvm.ClassFile.FieldType) 0 := ⟨Or.inl tb640, tb642, tb18, tb130, tb643, ⟨by decide +kernel, by decide +kernel, by decide +kernel⟩⟩
theorem tb644 : Cond.methodLink "TreadRing$Reader" 86 (⟨"TreadRing$Reader", "rootHere", "()I"⟩ : MethodName) ∈ az_TB := az_tb (i := 644) (by decide +kernel) (by decide +kernel)
theorem tb646 : Cond.instanceMethod (⟨"TreadRing$Reader", "rootHere", "()I"⟩ : MethodName) ∈ az_TB := az_tb (i := 646) (by decide +kernel) (by decide +kernel)
theorem tb19 : Cond.selects "TreadRing$Reader" (⟨"TreadRing$Reader", "rootHere", "()I"⟩ : MethodName) (⟨"TreadRing$Reader", "rootHere", "()I"⟩ : MethodName) ∈ az_TB := az_tb (i := 19) (by decide +kernel) (by decide +kernel)
theorem tb647 : Cond.code (⟨"TreadRing$Reader", "rootHere", "()I"⟩ : MethodName) prog_4_method_8_code 1 (Option.some .int) ∈ az_TB := az_tb (i := 647) (by decide +kernel) (by decide +kernel)
theorem ml_RX2_86 : az_MV RX2 86 yX2_rootHere cX2_rootHere 1 (Option.some .int) 0 := ⟨Or.inl tb644, tb646, tb19, tb130, tb647, ⟨by decide +kernel, by decide +kernel, by decide +kernel⟩⟩
theorem tb649 : Cond.methodLink "TreadRing$Reader" 91 (⟨"TreadRing$Reader", "isWord", "(Ljava/lang/String;)Z"⟩ : MethodName) ∈ az_TB := az_tb (i := 649) (by decide +kernel) (by decide +kernel)
theorem tb651 : Cond.instanceMethod (⟨"TreadRing$Reader", "isWord", "(Ljava/lang/String;)Z"⟩ : MethodName) ∈ az_TB := az_tb (i := 651) (by decide +kernel) (by decide +kernel)
theorem tb20 : Cond.selects "TreadRing$Reader" (⟨"TreadRing$Reader", "isWord", "(Ljava/lang/String;)Z"⟩ : MethodName) (⟨"TreadRing$Reader", "isWord", "(Ljava/lang/String;)Z"⟩ : MethodName) ∈ az_TB := az_tb (i := 20) (by decide +kernel) (by decide +kernel)
theorem tb652 : Cond.code (⟨"TreadRing$Reader", "isWord", "(Ljava/lang/String;)Z"⟩ : MethodName) prog_4_method_7_code 3 (Option.some .boolean) ∈ az_TB := az_tb (i := 652) (by decide +kernel) (by decide +kernel)
theorem ml_RX2_91 : az_MV RX2 91 yX2_isWord cX2_isWord 3 (Option.some .boolean) 1 := ⟨Or.inl tb649, tb651, tb20, tb130, tb652, ⟨by decide +kernel, by decide +kernel, by decide +kernel⟩⟩
theorem tb136 : Cond.initialized "java/lang/String" ∈ az_TB := az_tb (i := 136) (by decide +kernel) (by decide +kernel)
theorem tb653 : Cond.methodLink "TreadRing$Reader" 77 (⟨"java/lang/String", "length", "()I"⟩ : MethodName) ∈ az_TB := az_tb (i := 653) (by decide +kernel) (by decide +kernel)
theorem tb654 : Cond.instanceMethod (⟨"java/lang/String", "length", "()I"⟩ : MethodName) ∈ az_TB := az_tb (i := 654) (by decide +kernel) (by decide +kernel)
theorem tb655 : Cond.selects "java/lang/String" (⟨"java/lang/String", "length", "()I"⟩ : MethodName) (⟨"java/lang/String", "length", "()I"⟩ : MethodName) ∈ az_TB := az_tb (i := 655) (by decide +kernel) (by decide +kernel)
theorem tb656 : Cond.code (⟨"java/lang/String", "length", "()I"⟩ : MethodName) prog_11_method_54_code 1 (Option.some .int) ∈ az_TB := az_tb (i := 656) (by decide +kernel) (by decide +kernel)
theorem ml_RX2_77 : az_MV RX2 77 yJ0_length_8abf5 cJ0_length_8abf5 1 (Option.some .int) 0 := ⟨Or.inl tb653, tb654, tb655, tb136, tb656, ⟨by decide +kernel, by decide +kernel, by decide +kernel⟩⟩
theorem tb657 : Cond.methodLink "java/lang/String" 335 (⟨"java/lang/String", "coder", "()B"⟩ : MethodName) ∈ az_TB := az_tb (i := 657) (by decide +kernel) (by decide +kernel)
theorem tb658 : Cond.instanceMethod (⟨"java/lang/String", "coder", "()B"⟩ : MethodName) ∈ az_TB := az_tb (i := 658) (by decide +kernel) (by decide +kernel)
theorem tb659 : Cond.selects "java/lang/String" (⟨"java/lang/String", "coder", "()B"⟩ : MethodName) (⟨"java/lang/String", "coder", "()B"⟩ : MethodName) ∈ az_TB := az_tb (i := 659) (by decide +kernel) (by decide +kernel)
theorem tb660 : Cond.code (⟨"java/lang/String", "coder", "()B"⟩ : MethodName) prog_11_method_152_code 1 (Option.some .byte) ∈ az_TB := az_tb (i := 660) (by decide +kernel) (by decide +kernel)
theorem ml_RJ0_335 : az_MV RJ0 335 yJ0_coder_7d493 cJ0_coder_7d493 1 (Option.some .byte) 0 := ⟨Or.inl tb657, tb658, tb659, tb136, tb660, ⟨by decide +kernel, by decide +kernel, by decide +kernel⟩⟩
theorem tb663 : Cond.methodLink "TreadRing$Reader" 82 (⟨"java/lang/String", "charAt", "(I)C"⟩ : MethodName) ∈ az_TB := az_tb (i := 663) (by decide +kernel) (by decide +kernel)
theorem tb664 : Cond.instanceMethod (⟨"java/lang/String", "charAt", "(I)C"⟩ : MethodName) ∈ az_TB := az_tb (i := 664) (by decide +kernel) (by decide +kernel)
theorem tb665 : Cond.selects "java/lang/String" (⟨"java/lang/String", "charAt", "(I)C"⟩ : MethodName) (⟨"java/lang/String", "charAt", "(I)C"⟩ : MethodName) ∈ az_TB := az_tb (i := 665) (by decide +kernel) (by decide +kernel)
theorem tb666 : Cond.code (⟨"java/lang/String", "charAt", "(I)C"⟩ : MethodName) prog_11_method_56_code 2 (Option.some .char) ∈ az_TB := az_tb (i := 666) (by decide +kernel) (by decide +kernel)
theorem ml_RX2_82 : az_MV RX2 82 yJ0_charAt_5068e cJ0_charAt_5068e 2 (Option.some .char) 1 := ⟨Or.inl tb663, tb664, tb665, tb136, tb666, ⟨by decide +kernel, by decide +kernel, by decide +kernel⟩⟩
theorem tb667 : Cond.methodLink "java/lang/String" 492 (⟨"java/lang/String", "isLatin1", "()Z"⟩ : MethodName) ∈ az_TB := az_tb (i := 667) (by decide +kernel) (by decide +kernel)
theorem tb668 : Cond.instanceMethod (⟨"java/lang/String", "isLatin1", "()Z"⟩ : MethodName) ∈ az_TB := az_tb (i := 668) (by decide +kernel) (by decide +kernel)
theorem tb669 : Cond.selects "java/lang/String" (⟨"java/lang/String", "isLatin1", "()Z"⟩ : MethodName) (⟨"java/lang/String", "isLatin1", "()Z"⟩ : MethodName) ∈ az_TB := az_tb (i := 669) (by decide +kernel) (by decide +kernel)
theorem tb670 : Cond.code (⟨"java/lang/String", "isLatin1", "()Z"⟩ : MethodName) prog_11_method_154_code 1 (Option.some .boolean) ∈ az_TB := az_tb (i := 670) (by decide +kernel) (by decide +kernel)
theorem ml_RJ0_492 : az_MV RJ0 492 yJ0_isLatin1_aae02 cJ0_isLatin1_aae02 1 (Option.some .boolean) 0 := ⟨Or.inl tb667, tb668, tb669, tb136, tb670, ⟨by decide +kernel, by decide +kernel, by decide +kernel⟩⟩
theorem tb137 : Cond.initialized "java/lang/StringLatin1" ∈ az_TB := az_tb (i := 137) (by decide +kernel) (by decide +kernel)
theorem tb671 : Cond.methodLink "java/lang/String" 495 (⟨"java/lang/StringLatin1", "charAt", "([BI)C"⟩ : MethodName) ∈ az_TB := az_tb (i := 671) (by decide +kernel) (by decide +kernel)
theorem tb672 : Cond.static (⟨"java/lang/StringLatin1", "charAt", "([BI)C"⟩ : MethodName) ∈ az_TB := az_tb (i := 672) (by decide +kernel) (by decide +kernel)
theorem tb673 : Cond.code (⟨"java/lang/StringLatin1", "charAt", "([BI)C"⟩ : MethodName) prog_12_method_2_code 2 (Option.some .char) ∈ az_TB := az_tb (i := 673) (by decide +kernel) (by decide +kernel)
theorem ml_RJ0_495 : az_MS RJ0 495 yJ1_charAt_3b067 cJ1_charAt_3b067 2 (Option.some .char) 2 := ⟨tb671, tb672, tb137, tb673, ⟨by decide +kernel, by decide +kernel, by decide +kernel⟩⟩
theorem tb674 : Cond.methodLink "java/lang/StringLatin1" 9 (⟨"java/lang/String", "checkIndex", "(II)V"⟩ : MethodName) ∈ az_TB := az_tb (i := 674) (by decide +kernel) (by decide +kernel)
theorem tb675 : Cond.static (⟨"java/lang/String", "checkIndex", "(II)V"⟩ : MethodName) ∈ az_TB := az_tb (i := 675) (by decide +kernel) (by decide +kernel)
theorem tb676 : Cond.code (⟨"java/lang/String", "checkIndex", "(II)V"⟩ : MethodName) prog_11_method_155_code 2 (Option.none : Option Jvm.ClassFile.FieldType) ∈ az_TB := az_tb (i := 676) (by decide +kernel) (by decide +kernel)
theorem ml_RJ1_9 : az_MS RJ1 9 yJ0_checkIndex_df160 cJ0_checkIndex_df160 2 (Option.none : Option Jvm.ClassFile.FieldType) 2 := ⟨tb674, tb675, tb136, tb676, ⟨by decide +kernel, by decide +kernel, by decide +kernel⟩⟩
theorem tb138 : Cond.initialized "jdk/internal/util/Preconditions" ∈ az_TB := az_tb (i := 138) (by decide +kernel) (by decide +kernel)
theorem tb679 : Cond.methodLink "java/lang/String" 1059 (⟨"jdk/internal/util/Preconditions", "checkIndex", "(IILjava/util/function/BiFunction;)I"⟩ : MethodName) ∈ az_TB := az_tb (i := 679) (by decide +kernel) (by decide +kernel)
theorem tb680 : Cond.static (⟨"jdk/internal/util/Preconditions", "checkIndex", "(IILjava/util/function/BiFunction;)I"⟩ : MethodName) ∈ az_TB := az_tb (i := 680) (by decide +kernel) (by decide +kernel)
theorem tb681 : Cond.code (⟨"jdk/internal/util/Preconditions", "checkIndex", "(IILjava/util/function/BiFunction;)I"⟩ : MethodName) prog_16_method_11_code 3 (Option.some .int) ∈ az_TB := az_tb (i := 681) (by decide +kernel) (by decide +kernel)
theorem ml_RJ0_1059 : az_MS RJ0 1059 yJ3_checkIndex_8e157 cJ3_checkIndex_8e157 3 (Option.some .int) 3 := ⟨tb679, tb680, tb138, tb681, ⟨by decide +kernel, by decide +kernel, by decide +kernel⟩⟩
theorem tb703 : Cond.methodLink "TreadRing$Reader" 104 (⟨"TreadRing$Reader", "readNaming", "(I)V"⟩ : MethodName) ∈ az_TB := az_tb (i := 703) (by decide +kernel) (by decide +kernel)
theorem tb705 : Cond.instanceMethod (⟨"TreadRing$Reader", "readNaming", "(I)V"⟩ : MethodName) ∈ az_TB := az_tb (i := 705) (by decide +kernel) (by decide +kernel)
theorem tb21 : Cond.selects "TreadRing$Reader" (⟨"TreadRing$Reader", "readNaming", "(I)V"⟩ : MethodName) (⟨"TreadRing$Reader", "readNaming", "(I)V"⟩ : MethodName) ∈ az_TB := az_tb (i := 21) (by decide +kernel) (by decide +kernel)
theorem tb706 : Cond.code (⟨"TreadRing$Reader", "readNaming", "(I)V"⟩ : MethodName) prog_4_method_16_code 3 (Option.none : Option Jvm.ClassFile.FieldType) ∈ az_TB := az_tb (i := 706) (by decide +kernel) (by decide +kernel)
theorem ml_RX2_104 : az_MV RX2 104 yX2_readNaming cX2_readNaming 3 (Option.none : Option Jvm.ClassFile.FieldType) 1 := ⟨Or.inl tb703, tb705, tb21, tb130, tb706, ⟨by decide +kernel, by decide +kernel, by decide +kernel⟩⟩
theorem tb707 : Cond.methodLink "TreadRing$Reader" 107 (⟨"TreadRing$Reader", "readNumber", "(II)I"⟩ : MethodName) ∈ az_TB := az_tb (i := 707) (by decide +kernel) (by decide +kernel)
theorem tb709 : Cond.instanceMethod (⟨"TreadRing$Reader", "readNumber", "(II)I"⟩ : MethodName) ∈ az_TB := az_tb (i := 709) (by decide +kernel) (by decide +kernel)
theorem tb22 : Cond.selects "TreadRing$Reader" (⟨"TreadRing$Reader", "readNumber", "(II)I"⟩ : MethodName) (⟨"TreadRing$Reader", "readNumber", "(II)I"⟩ : MethodName) ∈ az_TB := az_tb (i := 22) (by decide +kernel) (by decide +kernel)
theorem tb710 : Cond.code (⟨"TreadRing$Reader", "readNumber", "(II)I"⟩ : MethodName) prog_4_method_12_code 5 (Option.some .int) ∈ az_TB := az_tb (i := 710) (by decide +kernel) (by decide +kernel)
theorem ml_RX2_107 : az_MV RX2 107 yX2_readNumber cX2_readNumber 5 (Option.some .int) 2 := ⟨Or.inl tb707, tb709, tb22, tb130, tb710, ⟨by decide +kernel, by decide +kernel, by decide +kernel⟩⟩
theorem tb711 : Cond.methodLink "TreadRing$Reader" 110 (⟨"TreadRing$Reader", "readSign", "(C)V"⟩ : MethodName) ∈ az_TB := az_tb (i := 711) (by decide +kernel) (by decide +kernel)
theorem tb713 : Cond.instanceMethod (⟨"TreadRing$Reader", "readSign", "(C)V"⟩ : MethodName) ∈ az_TB := az_tb (i := 713) (by decide +kernel) (by decide +kernel)
theorem tb23 : Cond.selects "TreadRing$Reader" (⟨"TreadRing$Reader", "readSign", "(C)V"⟩ : MethodName) (⟨"TreadRing$Reader", "readSign", "(C)V"⟩ : MethodName) ∈ az_TB := az_tb (i := 23) (by decide +kernel) (by decide +kernel)
theorem tb714 : Cond.code (⟨"TreadRing$Reader", "readSign", "(C)V"⟩ : MethodName) prog_4_method_10_code 2 (Option.none : Option Jvm.ClassFile.FieldType) ∈ az_TB := az_tb (i := 714) (by decide +kernel) (by decide +kernel)
theorem ml_RX2_110 : az_MV RX2 110 yX2_readSign cX2_readSign 2 (Option.none : Option Jvm.ClassFile.FieldType) 1 := ⟨Or.inl tb711, tb713, tb23, tb130, tb714, ⟨by decide +kernel, by decide +kernel, by decide +kernel⟩⟩
theorem tb715 : Cond.methodLink "TreadRing$Reader" 122 (⟨"TreadRing$Reader", "readRoot", "(Z)I"⟩ : MethodName) ∈ az_TB := az_tb (i := 715) (by decide +kernel) (by decide +kernel)
theorem tb717 : Cond.instanceMethod (⟨"TreadRing$Reader", "readRoot", "(Z)I"⟩ : MethodName) ∈ az_TB := az_tb (i := 717) (by decide +kernel) (by decide +kernel)
theorem tb24 : Cond.selects "TreadRing$Reader" (⟨"TreadRing$Reader", "readRoot", "(Z)I"⟩ : MethodName) (⟨"TreadRing$Reader", "readRoot", "(Z)I"⟩ : MethodName) ∈ az_TB := az_tb (i := 24) (by decide +kernel) (by decide +kernel)
theorem tb718 : Cond.code (⟨"TreadRing$Reader", "readRoot", "(Z)I"⟩ : MethodName) prog_4_method_11_code 3 (Option.some .int) ∈ az_TB := az_tb (i := 718) (by decide +kernel) (by decide +kernel)
theorem ml_RX2_122 : az_MV RX2 122 yX2_readRoot cX2_readRoot 3 (Option.some .int) 1 := ⟨Or.inl tb715, tb717, tb24, tb130, tb718, ⟨by decide +kernel, by decide +kernel, by decide +kernel⟩⟩
theorem tb720 : Cond.methodLink "TreadRing$Reader" 114 (⟨"TreadRing$Script", "add", "(IIII)V"⟩ : MethodName) ∈ az_TB := az_tb (i := 720) (by decide +kernel) (by decide +kernel)
theorem tb721 : Cond.instanceMethod (⟨"TreadRing$Script", "add", "(IIII)V"⟩ : MethodName) ∈ az_TB := az_tb (i := 721) (by decide +kernel) (by decide +kernel)
theorem tb722 : Cond.selects "TreadRing$Script" (⟨"TreadRing$Script", "add", "(IIII)V"⟩ : MethodName) (⟨"TreadRing$Script", "add", "(IIII)V"⟩ : MethodName) ∈ az_TB := az_tb (i := 722) (by decide +kernel) (by decide +kernel)
theorem tb723 : Cond.code (⟨"TreadRing$Script", "add", "(IIII)V"⟩ : MethodName) prog_7_method_2_code 5 (Option.none : Option Jvm.ClassFile.FieldType) ∈ az_TB := az_tb (i := 723) (by decide +kernel) (by decide +kernel)
theorem ml_RX2_114 : az_MV RX2 114 yX5_add cX5_add 5 (Option.none : Option Jvm.ClassFile.FieldType) 4 := ⟨Or.inl tb720, tb721, tb722, tb131, tb723, ⟨by decide +kernel, by decide +kernel, by decide +kernel⟩⟩
theorem tb724 : Cond.methodLink "TreadRing$Reader" 126 (⟨"TreadRing$Reader", "readValue", "(I)V"⟩ : MethodName) ∈ az_TB := az_tb (i := 724) (by decide +kernel) (by decide +kernel)
theorem tb726 : Cond.instanceMethod (⟨"TreadRing$Reader", "readValue", "(I)V"⟩ : MethodName) ∈ az_TB := az_tb (i := 726) (by decide +kernel) (by decide +kernel)
theorem tb25 : Cond.selects "TreadRing$Reader" (⟨"TreadRing$Reader", "readValue", "(I)V"⟩ : MethodName) (⟨"TreadRing$Reader", "readValue", "(I)V"⟩ : MethodName) ∈ az_TB := az_tb (i := 25) (by decide +kernel) (by decide +kernel)
theorem tb727 : Cond.code (⟨"TreadRing$Reader", "readValue", "(I)V"⟩ : MethodName) prog_4_method_17_code 3 (Option.none : Option Jvm.ClassFile.FieldType) ∈ az_TB := az_tb (i := 727) (by decide +kernel) (by decide +kernel)
theorem ml_RX2_126 : az_MV RX2 126 yX2_readValue cX2_readValue 3 (Option.none : Option Jvm.ClassFile.FieldType) 1 := ⟨Or.inl tb724, tb726, tb25, tb130, tb727, ⟨by decide +kernel, by decide +kernel, by decide +kernel⟩⟩
theorem tb729 : Cond.methodLink "TreadRing$Reader" 118 (⟨"TreadRing$Reader", "openBlock", "(III)V"⟩ : MethodName) ∈ az_TB := az_tb (i := 729) (by decide +kernel) (by decide +kernel)
theorem tb731 : Cond.instanceMethod (⟨"TreadRing$Reader", "openBlock", "(III)V"⟩ : MethodName) ∈ az_TB := az_tb (i := 731) (by decide +kernel) (by decide +kernel)
theorem tb26 : Cond.selects "TreadRing$Reader" (⟨"TreadRing$Reader", "openBlock", "(III)V"⟩ : MethodName) (⟨"TreadRing$Reader", "openBlock", "(III)V"⟩ : MethodName) ∈ az_TB := az_tb (i := 26) (by decide +kernel) (by decide +kernel)
theorem tb732 : Cond.code (⟨"TreadRing$Reader", "openBlock", "(III)V"⟩ : MethodName) prog_4_method_15_code 4 (Option.none : Option Jvm.ClassFile.FieldType) ∈ az_TB := az_tb (i := 732) (by decide +kernel) (by decide +kernel)
theorem ml_RX2_118 : az_MV RX2 118 yX2_openBlock cX2_openBlock 4 (Option.none : Option Jvm.ClassFile.FieldType) 3 := ⟨Or.inl tb729, tb731, tb26, tb130, tb732, ⟨by decide +kernel, by decide +kernel, by decide +kernel⟩⟩
theorem tb734 : Cond.methodLink "TreadRingLaw" 74 (⟨"TreadRing", "fault", "(I)I"⟩ : MethodName) ∈ az_TB := az_tb (i := 734) (by decide +kernel) (by decide +kernel)
theorem tb735 : Cond.instanceMethod (⟨"TreadRing", "fault", "(I)I"⟩ : MethodName) ∈ az_TB := az_tb (i := 735) (by decide +kernel) (by decide +kernel)
theorem tb736 : Cond.selects "TreadRing" (⟨"TreadRing", "fault", "(I)I"⟩ : MethodName) (⟨"TreadRing", "fault", "(I)I"⟩ : MethodName) ∈ az_TB := az_tb (i := 736) (by decide +kernel) (by decide +kernel)
theorem tb737 : Cond.code (⟨"TreadRing", "fault", "(I)I"⟩ : MethodName) prog_1_method_15_code 2 (Option.some .int) ∈ az_TB := az_tb (i := 737) (by decide +kernel) (by decide +kernel)
theorem ml_RL_74 : az_MV RL 74 yX6_fault cX6_fault 2 (Option.some .int) 1 := ⟨Or.inl tb734, tb735, tb736, tb125, tb737, ⟨by decide +kernel, by decide +kernel, by decide +kernel⟩⟩
theorem tb738 : Cond.methodLink "TreadRingLaw" 78 (⟨"TreadRing", "run", "()I"⟩ : MethodName) ∈ az_TB := az_tb (i := 738) (by decide +kernel) (by decide +kernel)
theorem tb739 : Cond.instanceMethod (⟨"TreadRing", "run", "()I"⟩ : MethodName) ∈ az_TB := az_tb (i := 739) (by decide +kernel) (by decide +kernel)
theorem tb740 : Cond.selects "TreadRing" (⟨"TreadRing", "run", "()I"⟩ : MethodName) (⟨"TreadRing", "run", "()I"⟩ : MethodName) ∈ az_TB := az_tb (i := 740) (by decide +kernel) (by decide +kernel)
theorem tb741 : Cond.code (⟨"TreadRing", "run", "()I"⟩ : MethodName) prog_1_method_16_code 1 (Option.some .int) ∈ az_TB := az_tb (i := 741) (by decide +kernel) (by decide +kernel)
theorem ml_RL_78 : az_MV RL 78 yX6_run cX6_run 1 (Option.some .int) 0 := ⟨Or.inl tb738, tb739, tb740, tb125, tb741, ⟨by decide +kernel, by decide +kernel, by decide +kernel⟩⟩
theorem tb742 : Cond.methodLink "TreadRing" 164 (⟨"TreadRing$Runner", "prepare", "(LTreadRing$Heap;LTreadRing$Script;)V"⟩ : MethodName) ∈ az_TB := az_tb (i := 742) (by decide +kernel) (by decide +kernel)
theorem tb743 : Cond.instanceMethod (⟨"TreadRing$Runner", "prepare", "(LTreadRing$Heap;LTreadRing$Script;)V"⟩ : MethodName) ∈ az_TB := az_tb (i := 743) (by decide +kernel) (by decide +kernel)
theorem tb744 : Cond.selects "TreadRing$Runner" (⟨"TreadRing$Runner", "prepare", "(LTreadRing$Heap;LTreadRing$Script;)V"⟩ : MethodName) (⟨"TreadRing$Runner", "prepare", "(LTreadRing$Heap;LTreadRing$Script;)V"⟩ : MethodName) ∈ az_TB := az_tb (i := 744) (by decide +kernel) (by decide +kernel)
theorem tb745 : Cond.code (⟨"TreadRing$Runner", "prepare", "(LTreadRing$Heap;LTreadRing$Script;)V"⟩ : MethodName) prog_6_method_2_code 3 (Option.none : Option Jvm.ClassFile.FieldType) ∈ az_TB := az_tb (i := 745) (by decide +kernel) (by decide +kernel)
theorem ml_RX6_164 : az_MV RX6 164 yX4_prepare cX4_prepare 3 (Option.none : Option Jvm.ClassFile.FieldType) 2 := ⟨Or.inl tb742, tb743, tb744, tb132, tb745, ⟨by decide +kernel, by decide +kernel, by decide +kernel⟩⟩
theorem tb748 : Cond.instanceMethod (⟨"TreadRing$Runner", "goThrough", "(III)V"⟩ : MethodName) ∈ az_TB := az_tb (i := 748) (by decide +kernel) (by decide +kernel)
theorem tb27 : Cond.selects "TreadRing$Runner" (⟨"TreadRing$Runner", "goThrough", "(III)V"⟩ : MethodName) (⟨"TreadRing$Runner", "goThrough", "(III)V"⟩ : MethodName) ∈ az_TB := az_tb (i := 27) (by decide +kernel) (by decide +kernel)
theorem tb749 : Cond.code (⟨"TreadRing$Runner", "goThrough", "(III)V"⟩ : MethodName) prog_6_method_3_code 7 (Option.none : Option Jvm.ClassFile.FieldType) ∈ az_TB := az_tb (i := 749) (by decide +kernel) (by decide +kernel)
theorem ml_RX6_167 : az_MV RX6 167 yX4_goThrough cX4_goThrough 7 (Option.none : Option Jvm.ClassFile.FieldType) 3 := ⟨Or.inr ⟨"TreadRing", az_nw_mem (i := 622) (by decide +kernel) rfl⟩, tb748, tb27, tb132, tb749, ⟨by decide +kernel, by decide +kernel, by decide +kernel⟩⟩
theorem tb750 : Cond.methodLink "TreadRing$Runner" 39 (⟨"TreadRing$Runner", "goThrough", "(III)V"⟩ : MethodName) ∈ az_TB := az_tb (i := 750) (by decide +kernel) (by decide +kernel)
theorem ml_RX4_39 : az_MV RX4 39 yX4_goThrough cX4_goThrough 7 (Option.none : Option Jvm.ClassFile.FieldType) 3 := ⟨Or.inl tb750, tb748, tb27, tb132, tb749, ⟨by decide +kernel, by decide +kernel, by decide +kernel⟩⟩
theorem tb751 : Cond.methodLink "TreadRing$Runner" 49 (⟨"TreadRing$Runner", "go", "(I)V"⟩ : MethodName) ∈ az_TB := az_tb (i := 751) (by decide +kernel) (by decide +kernel)
theorem tb753 : Cond.instanceMethod (⟨"TreadRing$Runner", "go", "(I)V"⟩ : MethodName) ∈ az_TB := az_tb (i := 753) (by decide +kernel) (by decide +kernel)
theorem tb28 : Cond.selects "TreadRing$Runner" (⟨"TreadRing$Runner", "go", "(I)V"⟩ : MethodName) (⟨"TreadRing$Runner", "go", "(I)V"⟩ : MethodName) ∈ az_TB := az_tb (i := 28) (by decide +kernel) (by decide +kernel)
theorem tb754 : Cond.code (⟨"TreadRing$Runner", "go", "(I)V"⟩ : MethodName) prog_6_method_4_code 6 (Option.none : Option Jvm.ClassFile.FieldType) ∈ az_TB := az_tb (i := 754) (by decide +kernel) (by decide +kernel)
theorem ml_RX4_49 : az_MV RX4 49 yX4_go cX4_go 6 (Option.none : Option Jvm.ClassFile.FieldType) 1 := ⟨Or.inl tb751, tb753, tb28, tb132, tb754, ⟨by decide +kernel, by decide +kernel, by decide +kernel⟩⟩
theorem tb755 : Cond.methodLink "TreadRing$Runner" 62 (⟨"TreadRing$Heap", "build", "(II)I"⟩ : MethodName) ∈ az_TB := az_tb (i := 755) (by decide +kernel) (by decide +kernel)
theorem ml_RX4_62 : az_MV RX4 62 yX0_build cX0_build 5 (Option.some .int) 2 := ⟨Or.inl tb755, tb452, tb453, tb126, tb454, ⟨by decide +kernel, by decide +kernel, by decide +kernel⟩⟩
theorem tb756 : Cond.methodLink "TreadRing$Runner" 65 (⟨"TreadRing$Heap", "rootOrNone", "(I)I"⟩ : MethodName) ∈ az_TB := az_tb (i := 756) (by decide +kernel) (by decide +kernel)
theorem ml_RX4_65 : az_MV RX4 65 yX0_rootOrNone cX0_rootOrNone 2 (Option.some .int) 1 := ⟨Or.inl tb756, tb558, tb559, tb126, tb560, ⟨by decide +kernel, by decide +kernel, by decide +kernel⟩⟩
theorem tb757 : Cond.methodLink "TreadRing$Runner" 69 (⟨"TreadRing$Heap", "fetch", "(III)I"⟩ : MethodName) ∈ az_TB := az_tb (i := 757) (by decide +kernel) (by decide +kernel)
theorem ml_RX4_69 : az_MV RX4 69 yX0_fetch cX0_fetch 5 (Option.some .int) 3 := ⟨Or.inl tb757, tb542, tb543, tb126, tb544, ⟨by decide +kernel, by decide +kernel, by decide +kernel⟩⟩
theorem tb758 : Cond.methodLink "TreadRing$Runner" 73 (⟨"TreadRing$Heap", "put", "(III)Z"⟩ : MethodName) ∈ az_TB := az_tb (i := 758) (by decide +kernel) (by decide +kernel)
theorem ml_RX4_73 : az_MV RX4 73 yX0_put cX0_put 5 (Option.some .boolean) 3 := ⟨Or.inl tb758, tb554, tb555, tb126, tb556, ⟨by decide +kernel, by decide +kernel, by decide +kernel⟩⟩
theorem tb759 : Cond.methodLink "TreadRing$Runner" 77 (⟨"TreadRing$Heap", "advance", "(I)I"⟩ : MethodName) ∈ az_TB := az_tb (i := 759) (by decide +kernel) (by decide +kernel)
theorem ml_RX4_77 : az_MV RX4 77 yX0_advance cX0_advance 3 (Option.some .int) 1 := ⟨Or.inl tb759, tb456, tb457, tb126, tb458, ⟨by decide +kernel, by decide +kernel, by decide +kernel⟩⟩
theorem tb760 : Cond.methodLink "TreadRing$Runner" 53 (⟨"java/lang/Math", "max", "(II)I"⟩ : MethodName) ∈ az_TB := az_tb (i := 760) (by decide +kernel) (by decide +kernel)
theorem tb761 : Cond.static (⟨"java/lang/Math", "max", "(II)I"⟩ : MethodName) ∈ az_TB := az_tb (i := 761) (by decide +kernel) (by decide +kernel)
theorem tb762 : Cond.code (⟨"java/lang/Math", "max", "(II)I"⟩ : MethodName) prog_10_method_65_code 2 (Option.some .int) ∈ az_TB := az_tb (i := 762) (by decide +kernel) (by decide +kernel)
theorem ml_RX4_53 : az_MS RX4 53 yJ9_max_7cf53 cJ9_max_7cf53 2 (Option.some .int) 2 := ⟨tb760, tb761, tb135, tb762, ⟨by decide +kernel, by decide +kernel, by decide +kernel⟩⟩
theorem tb763 : Cond.methodLink "TreadRingLaw" 82 (⟨"TreadRing", "runBy", "(II)I"⟩ : MethodName) ∈ az_TB := az_tb (i := 763) (by decide +kernel) (by decide +kernel)
theorem tb764 : Cond.instanceMethod (⟨"TreadRing", "runBy", "(II)I"⟩ : MethodName) ∈ az_TB := az_tb (i := 764) (by decide +kernel) (by decide +kernel)
theorem tb765 : Cond.selects "TreadRing" (⟨"TreadRing", "runBy", "(II)I"⟩ : MethodName) (⟨"TreadRing", "runBy", "(II)I"⟩ : MethodName) ∈ az_TB := az_tb (i := 765) (by decide +kernel) (by decide +kernel)
theorem tb766 : Cond.code (⟨"TreadRing", "runBy", "(II)I"⟩ : MethodName) prog_1_method_17_code 3 (Option.some .int) ∈ az_TB := az_tb (i := 766) (by decide +kernel) (by decide +kernel)
theorem ml_RL_82 : az_MV RL 82 yX6_runBy cX6_runBy 3 (Option.some .int) 2 := ⟨Or.inl tb763, tb764, tb765, tb125, tb766, ⟨by decide +kernel, by decide +kernel, by decide +kernel⟩⟩
theorem tb767 : Cond.methodLink "TreadRing" 174 (⟨"TreadRing", "runApart", "(II)V"⟩ : MethodName) ∈ az_TB := az_tb (i := 767) (by decide +kernel) (by decide +kernel)
theorem tb769 : Cond.instanceMethod (⟨"TreadRing", "runApart", "(II)V"⟩ : MethodName) ∈ az_TB := az_tb (i := 769) (by decide +kernel) (by decide +kernel)
theorem tb29 : Cond.selects "TreadRing" (⟨"TreadRing", "runApart", "(II)V"⟩ : MethodName) (⟨"TreadRing", "runApart", "(II)V"⟩ : MethodName) ∈ az_TB := az_tb (i := 29) (by decide +kernel) (by decide +kernel)
theorem tb770 : Cond.code (⟨"TreadRing", "runApart", "(II)V"⟩ : MethodName) prog_1_method_50_code 3 (Option.none : Option Jvm.ClassFile.FieldType) ∈ az_TB := az_tb (i := 770) (by decide +kernel) (by decide +kernel)
theorem ml_RX6_174 : az_MV RX6 174 yX6_runApart cX6_runApart 3 (Option.none : Option Jvm.ClassFile.FieldType) 2 := ⟨Or.inl tb767, tb769, tb29, tb125, tb770, ⟨by decide +kernel, by decide +kernel, by decide +kernel⟩⟩
theorem tb771 : Cond.methodLink "TreadRing" 277 (⟨"TreadRing", "beginApart", "(I)V"⟩ : MethodName) ∈ az_TB := az_tb (i := 771) (by decide +kernel) (by decide +kernel)
theorem tb773 : Cond.instanceMethod (⟨"TreadRing", "beginApart", "(I)V"⟩ : MethodName) ∈ az_TB := az_tb (i := 773) (by decide +kernel) (by decide +kernel)
theorem tb30 : Cond.selects "TreadRing" (⟨"TreadRing", "beginApart", "(I)V"⟩ : MethodName) (⟨"TreadRing", "beginApart", "(I)V"⟩ : MethodName) ∈ az_TB := az_tb (i := 30) (by decide +kernel) (by decide +kernel)
theorem tb774 : Cond.code (⟨"TreadRing", "beginApart", "(I)V"⟩ : MethodName) prog_1_method_49_code 2 (Option.none : Option Jvm.ClassFile.FieldType) ∈ az_TB := az_tb (i := 774) (by decide +kernel) (by decide +kernel)
theorem ml_RX6_277 : az_MV RX6 277 yX6_beginApart cX6_beginApart 2 (Option.none : Option Jvm.ClassFile.FieldType) 1 := ⟨Or.inl tb771, tb773, tb30, tb125, tb774, ⟨by decide +kernel, by decide +kernel, by decide +kernel⟩⟩
theorem tb776 : Cond.methodLink "TreadRing" 297 (⟨"TreadRing", "noteTrial", "()V"⟩ : MethodName) ∈ az_TB := az_tb (i := 776) (by decide +kernel) (by decide +kernel)
theorem tb778 : Cond.instanceMethod (⟨"TreadRing", "noteTrial", "()V"⟩ : MethodName) ∈ az_TB := az_tb (i := 778) (by decide +kernel) (by decide +kernel)
theorem tb31 : Cond.selects "TreadRing" (⟨"TreadRing", "noteTrial", "()V"⟩ : MethodName) (⟨"TreadRing", "noteTrial", "()V"⟩ : MethodName) ∈ az_TB := az_tb (i := 31) (by decide +kernel) (by decide +kernel)
theorem tb779 : Cond.code (⟨"TreadRing", "noteTrial", "()V"⟩ : MethodName) prog_1_method_47_code 1 (Option.none : Option Jvm.ClassFile.FieldType) ∈ az_TB := az_tb (i := 779) (by decide +kernel) (by decide +kernel)
theorem ml_RX6_297 : az_MV RX6 297 yX6_noteTrial cX6_noteTrial 1 (Option.none : Option Jvm.ClassFile.FieldType) 0 := ⟨Or.inl tb776, tb778, tb31, tb125, tb779, ⟨by decide +kernel, by decide +kernel, by decide +kernel⟩⟩
theorem tb780 : Cond.methodLink "TreadRing" 300 (⟨"java/lang/System", "arraycopy", "(Ljava/lang/Object;ILjava/lang/Object;II)V"⟩ : MethodName) ∈ az_TB := az_tb (i := 780) (by decide +kernel) (by decide +kernel)
theorem cp_RX6_300 : Cond.methodLink RX6 300 arraycopyName ∈ az_TB ∧ Cond.native arraycopyName ∈ az_TB ∧ Cond.static arraycopyName ∈ az_TB ∧ Cond.initialized "java/lang/System" ∈ az_TB := ⟨tb780, tb446, tb445, tb134⟩
theorem tb781 : Cond.methodLink "TreadRing" 178 (⟨"TreadRing", "onTrial", "(I)I"⟩ : MethodName) ∈ az_TB := az_tb (i := 781) (by decide +kernel) (by decide +kernel)
theorem tb783 : Cond.instanceMethod (⟨"TreadRing", "onTrial", "(I)I"⟩ : MethodName) ∈ az_TB := az_tb (i := 783) (by decide +kernel) (by decide +kernel)
theorem tb32 : Cond.selects "TreadRing" (⟨"TreadRing", "onTrial", "(I)I"⟩ : MethodName) (⟨"TreadRing", "onTrial", "(I)I"⟩ : MethodName) ∈ az_TB := az_tb (i := 32) (by decide +kernel) (by decide +kernel)
theorem tb784 : Cond.code (⟨"TreadRing", "onTrial", "(I)I"⟩ : MethodName) prog_1_method_48_code 2 (Option.some .int) ∈ az_TB := az_tb (i := 784) (by decide +kernel) (by decide +kernel)
theorem ml_RX6_178 : az_MV RX6 178 yX6_onTrial cX6_onTrial 2 (Option.some .int) 1 := ⟨Or.inl tb781, tb783, tb32, tb125, tb784, ⟨by decide +kernel, by decide +kernel, by decide +kernel⟩⟩
theorem tb785 : Cond.methodLink "TreadRing" 181 (⟨"TreadRing$Heap", "objects", "()I"⟩ : MethodName) ∈ az_TB := az_tb (i := 785) (by decide +kernel) (by decide +kernel)
theorem ml_RX6_181 : az_MV RX6 181 yX0_objects cX0_objects 3 (Option.some .int) 0 := ⟨Or.inl tb785, tb503, tb504, tb126, tb505, ⟨by decide +kernel, by decide +kernel, by decide +kernel⟩⟩
theorem tb786 : Cond.methodLink "TreadRing" 185 (⟨"TreadRing$Reach", "spread", "(LTreadRing$Heap;III)V"⟩ : MethodName) ∈ az_TB := az_tb (i := 786) (by decide +kernel) (by decide +kernel)
theorem tb787 : Cond.instanceMethod (⟨"TreadRing$Reach", "spread", "(LTreadRing$Heap;III)V"⟩ : MethodName) ∈ az_TB := az_tb (i := 787) (by decide +kernel) (by decide +kernel)
theorem tb788 : Cond.selects "TreadRing$Reach" (⟨"TreadRing$Reach", "spread", "(LTreadRing$Heap;III)V"⟩ : MethodName) (⟨"TreadRing$Reach", "spread", "(LTreadRing$Heap;III)V"⟩ : MethodName) ∈ az_TB := az_tb (i := 788) (by decide +kernel) (by decide +kernel)
theorem tb789 : Cond.code (⟨"TreadRing$Reach", "spread", "(LTreadRing$Heap;III)V"⟩ : MethodName) prog_3_method_2_code 8 (Option.none : Option Jvm.ClassFile.FieldType) ∈ az_TB := az_tb (i := 789) (by decide +kernel) (by decide +kernel)
theorem ml_RX6_185 : az_MV RX6 185 yX1_spread cX1_spread 8 (Option.none : Option Jvm.ClassFile.FieldType) 4 := ⟨Or.inl tb786, tb787, tb788, tb129, tb789, ⟨by decide +kernel, by decide +kernel, by decide +kernel⟩⟩
theorem tb790 : Cond.methodLink "TreadRing$Reach" 22 (⟨"java/util/Arrays", "fill", "([II)V"⟩ : MethodName) ∈ az_TB := az_tb (i := 790) (by decide +kernel) (by decide +kernel)
theorem ml_RX1_22 : az_MS RX1 22 yJ7_fill_53178 cJ7_fill_53178 4 (Option.none : Option Jvm.ClassFile.FieldType) 2 := ⟨tb790, tb166, tb128, tb167, ⟨by decide +kernel, by decide +kernel, by decide +kernel⟩⟩
theorem tb791 : Cond.methodLink "TreadRing$Reach" 33 (⟨"TreadRing$Reach", "visit", "(II)V"⟩ : MethodName) ∈ az_TB := az_tb (i := 791) (by decide +kernel) (by decide +kernel)
theorem tb793 : Cond.instanceMethod (⟨"TreadRing$Reach", "visit", "(II)V"⟩ : MethodName) ∈ az_TB := az_tb (i := 793) (by decide +kernel) (by decide +kernel)
theorem tb33 : Cond.selects "TreadRing$Reach" (⟨"TreadRing$Reach", "visit", "(II)V"⟩ : MethodName) (⟨"TreadRing$Reach", "visit", "(II)V"⟩ : MethodName) ∈ az_TB := az_tb (i := 33) (by decide +kernel) (by decide +kernel)
theorem tb794 : Cond.code (⟨"TreadRing$Reach", "visit", "(II)V"⟩ : MethodName) prog_3_method_3_code 3 (Option.none : Option Jvm.ClassFile.FieldType) ∈ az_TB := az_tb (i := 794) (by decide +kernel) (by decide +kernel)
theorem ml_RX1_33 : az_MV RX1 33 yX1_visit cX1_visit 3 (Option.none : Option Jvm.ClassFile.FieldType) 2 := ⟨Or.inl tb791, tb793, tb33, tb129, tb794, ⟨by decide +kernel, by decide +kernel, by decide +kernel⟩⟩
theorem tb795 : Cond.methodLink "TreadRingLaw" 86 (⟨"TreadRing", "cheapest", "(I)I"⟩ : MethodName) ∈ az_TB := az_tb (i := 795) (by decide +kernel) (by decide +kernel)
theorem tb796 : Cond.instanceMethod (⟨"TreadRing", "cheapest", "(I)I"⟩ : MethodName) ∈ az_TB := az_tb (i := 796) (by decide +kernel) (by decide +kernel)
theorem tb797 : Cond.selects "TreadRing" (⟨"TreadRing", "cheapest", "(I)I"⟩ : MethodName) (⟨"TreadRing", "cheapest", "(I)I"⟩ : MethodName) ∈ az_TB := az_tb (i := 797) (by decide +kernel) (by decide +kernel)
theorem tb798 : Cond.code (⟨"TreadRing", "cheapest", "(I)I"⟩ : MethodName) prog_1_method_18_code 6 (Option.some .int) ∈ az_TB := az_tb (i := 798) (by decide +kernel) (by decide +kernel)
theorem ml_RL_86 : az_MV RL 86 yX6_cheapest cX6_cheapest 6 (Option.some .int) 1 := ⟨Or.inl tb795, tb796, tb797, tb125, tb798, ⟨by decide +kernel, by decide +kernel, by decide +kernel⟩⟩
theorem tb799 : Cond.methodLink "TreadRingLaw" 90 (⟨"TreadRing", "suits", "()I"⟩ : MethodName) ∈ az_TB := az_tb (i := 799) (by decide +kernel) (by decide +kernel)
theorem tb800 : Cond.instanceMethod (⟨"TreadRing", "suits", "()I"⟩ : MethodName) ∈ az_TB := az_tb (i := 800) (by decide +kernel) (by decide +kernel)
theorem tb801 : Cond.selects "TreadRing" (⟨"TreadRing", "suits", "()I"⟩ : MethodName) (⟨"TreadRing", "suits", "()I"⟩ : MethodName) ∈ az_TB := az_tb (i := 801) (by decide +kernel) (by decide +kernel)
theorem tb802 : Cond.code (⟨"TreadRing", "suits", "()I"⟩ : MethodName) prog_1_method_19_code 2 (Option.some .int) ∈ az_TB := az_tb (i := 802) (by decide +kernel) (by decide +kernel)
theorem ml_RL_90 : az_MV RL 90 yX6_suits cX6_suits 2 (Option.some .int) 0 := ⟨Or.inl tb799, tb800, tb801, tb125, tb802, ⟨by decide +kernel, by decide +kernel, by decide +kernel⟩⟩
theorem tb803 : Cond.methodLink "TreadRingLaw" 94 (⟨"TreadRing", "undo", "()Z"⟩ : MethodName) ∈ az_TB := az_tb (i := 803) (by decide +kernel) (by decide +kernel)
theorem tb804 : Cond.instanceMethod (⟨"TreadRing", "undo", "()Z"⟩ : MethodName) ∈ az_TB := az_tb (i := 804) (by decide +kernel) (by decide +kernel)
theorem tb805 : Cond.selects "TreadRing" (⟨"TreadRing", "undo", "()Z"⟩ : MethodName) (⟨"TreadRing", "undo", "()Z"⟩ : MethodName) ∈ az_TB := az_tb (i := 805) (by decide +kernel) (by decide +kernel)
theorem tb806 : Cond.code (⟨"TreadRing", "undo", "()Z"⟩ : MethodName) prog_1_method_20_code 1 (Option.some .boolean) ∈ az_TB := az_tb (i := 806) (by decide +kernel) (by decide +kernel)
theorem ml_RL_94 : az_MV RL 94 yX6_undo cX6_undo 1 (Option.some .boolean) 0 := ⟨Or.inl tb803, tb804, tb805, tb125, tb806, ⟨by decide +kernel, by decide +kernel, by decide +kernel⟩⟩
theorem tb807 : Cond.methodLink "TreadRingLaw" 98 (⟨"TreadRing", "redo", "()Z"⟩ : MethodName) ∈ az_TB := az_tb (i := 807) (by decide +kernel) (by decide +kernel)
theorem tb808 : Cond.instanceMethod (⟨"TreadRing", "redo", "()Z"⟩ : MethodName) ∈ az_TB := az_tb (i := 808) (by decide +kernel) (by decide +kernel)
theorem tb809 : Cond.selects "TreadRing" (⟨"TreadRing", "redo", "()Z"⟩ : MethodName) (⟨"TreadRing", "redo", "()Z"⟩ : MethodName) ∈ az_TB := az_tb (i := 809) (by decide +kernel) (by decide +kernel)
theorem tb810 : Cond.code (⟨"TreadRing", "redo", "()Z"⟩ : MethodName) prog_1_method_21_code 1 (Option.some .boolean) ∈ az_TB := az_tb (i := 810) (by decide +kernel) (by decide +kernel)
theorem ml_RL_98 : az_MV RL 98 yX6_redo cX6_redo 1 (Option.some .boolean) 0 := ⟨Or.inl tb807, tb808, tb809, tb125, tb810, ⟨by decide +kernel, by decide +kernel, by decide +kernel⟩⟩
theorem tb811 : Cond.methodLink "TreadRingLaw" 102 (⟨"TreadRing", "root", "(I)I"⟩ : MethodName) ∈ az_TB := az_tb (i := 811) (by decide +kernel) (by decide +kernel)
theorem tb812 : Cond.instanceMethod (⟨"TreadRing", "root", "(I)I"⟩ : MethodName) ∈ az_TB := az_tb (i := 812) (by decide +kernel) (by decide +kernel)
theorem tb813 : Cond.selects "TreadRing" (⟨"TreadRing", "root", "(I)I"⟩ : MethodName) (⟨"TreadRing", "root", "(I)I"⟩ : MethodName) ∈ az_TB := az_tb (i := 813) (by decide +kernel) (by decide +kernel)
theorem tb814 : Cond.code (⟨"TreadRing", "root", "(I)I"⟩ : MethodName) prog_1_method_22_code 2 (Option.some .int) ∈ az_TB := az_tb (i := 814) (by decide +kernel) (by decide +kernel)
theorem ml_RL_102 : az_MV RL 102 yX6_root cX6_root 2 (Option.some .int) 1 := ⟨Or.inl tb811, tb812, tb813, tb125, tb814, ⟨by decide +kernel, by decide +kernel, by decide +kernel⟩⟩
theorem tb815 : Cond.methodLink "TreadRingLaw" 106 (⟨"TreadRing", "weakly", "(I)I"⟩ : MethodName) ∈ az_TB := az_tb (i := 815) (by decide +kernel) (by decide +kernel)
theorem tb816 : Cond.instanceMethod (⟨"TreadRing", "weakly", "(I)I"⟩ : MethodName) ∈ az_TB := az_tb (i := 816) (by decide +kernel) (by decide +kernel)
theorem tb817 : Cond.selects "TreadRing" (⟨"TreadRing", "weakly", "(I)I"⟩ : MethodName) (⟨"TreadRing", "weakly", "(I)I"⟩ : MethodName) ∈ az_TB := az_tb (i := 817) (by decide +kernel) (by decide +kernel)
theorem tb818 : Cond.code (⟨"TreadRing", "weakly", "(I)I"⟩ : MethodName) prog_1_method_23_code 2 (Option.some .int) ∈ az_TB := az_tb (i := 818) (by decide +kernel) (by decide +kernel)
theorem ml_RL_106 : az_MV RL 106 yX6_weakly cX6_weakly 2 (Option.some .int) 1 := ⟨Or.inl tb815, tb816, tb817, tb125, tb818, ⟨by decide +kernel, by decide +kernel, by decide +kernel⟩⟩
theorem tb819 : Cond.methodLink "TreadRingLaw" 110 (⟨"TreadRing", "told", "(II)I"⟩ : MethodName) ∈ az_TB := az_tb (i := 819) (by decide +kernel) (by decide +kernel)
theorem tb820 : Cond.instanceMethod (⟨"TreadRing", "told", "(II)I"⟩ : MethodName) ∈ az_TB := az_tb (i := 820) (by decide +kernel) (by decide +kernel)
theorem tb821 : Cond.selects "TreadRing" (⟨"TreadRing", "told", "(II)I"⟩ : MethodName) (⟨"TreadRing", "told", "(II)I"⟩ : MethodName) ∈ az_TB := az_tb (i := 821) (by decide +kernel) (by decide +kernel)
theorem tb822 : Cond.code (⟨"TreadRing", "told", "(II)I"⟩ : MethodName) prog_1_method_24_code 3 (Option.some .int) ∈ az_TB := az_tb (i := 822) (by decide +kernel) (by decide +kernel)
theorem ml_RL_110 : az_MV RL 110 yX6_told cX6_told 3 (Option.some .int) 2 := ⟨Or.inl tb819, tb820, tb821, tb125, tb822, ⟨by decide +kernel, by decide +kernel, by decide +kernel⟩⟩
theorem tb823 : Cond.methodLink "TreadRing" 192 (⟨"TreadRing$Heap", "toldCycles", "()I"⟩ : MethodName) ∈ az_TB := az_tb (i := 823) (by decide +kernel) (by decide +kernel)
theorem tb824 : Cond.instanceMethod (⟨"TreadRing$Heap", "toldCycles", "()I"⟩ : MethodName) ∈ az_TB := az_tb (i := 824) (by decide +kernel) (by decide +kernel)
theorem tb825 : Cond.selects "TreadRing$Heap" (⟨"TreadRing$Heap", "toldCycles", "()I"⟩ : MethodName) (⟨"TreadRing$Heap", "toldCycles", "()I"⟩ : MethodName) ∈ az_TB := az_tb (i := 825) (by decide +kernel) (by decide +kernel)
theorem tb826 : Cond.code (⟨"TreadRing$Heap", "toldCycles", "()I"⟩ : MethodName) prog_2_method_26_code 1 (Option.some .int) ∈ az_TB := az_tb (i := 826) (by decide +kernel) (by decide +kernel)
theorem ml_RX6_192 : az_MV RX6 192 yX0_toldCycles cX0_toldCycles 1 (Option.some .int) 0 := ⟨Or.inl tb823, tb824, tb825, tb126, tb826, ⟨by decide +kernel, by decide +kernel, by decide +kernel⟩⟩
theorem tb827 : Cond.methodLink "TreadRing$Heap" 160 (⟨"java/lang/Math", "min", "(II)I"⟩ : MethodName) ∈ az_TB := az_tb (i := 827) (by decide +kernel) (by decide +kernel)
theorem ml_RX0_160 : az_MS RX0 160 yJ9_min_7cf53 cJ9_min_7cf53 2 (Option.some .int) 2 := ⟨tb827, tb449, tb135, tb450, ⟨by decide +kernel, by decide +kernel, by decide +kernel⟩⟩
theorem tb828 : Cond.methodLink "TreadRing" 195 (⟨"TreadRing$Heap", "toldPart", "(II)I"⟩ : MethodName) ∈ az_TB := az_tb (i := 828) (by decide +kernel) (by decide +kernel)
theorem tb829 : Cond.instanceMethod (⟨"TreadRing$Heap", "toldPart", "(II)I"⟩ : MethodName) ∈ az_TB := az_tb (i := 829) (by decide +kernel) (by decide +kernel)
theorem tb830 : Cond.selects "TreadRing$Heap" (⟨"TreadRing$Heap", "toldPart", "(II)I"⟩ : MethodName) (⟨"TreadRing$Heap", "toldPart", "(II)I"⟩ : MethodName) ∈ az_TB := az_tb (i := 830) (by decide +kernel) (by decide +kernel)
theorem tb831 : Cond.code (⟨"TreadRing$Heap", "toldPart", "(II)I"⟩ : MethodName) prog_2_method_27_code 3 (Option.some .int) ∈ az_TB := az_tb (i := 831) (by decide +kernel) (by decide +kernel)
theorem ml_RX6_195 : az_MV RX6 195 yX0_toldPart cX0_toldPart 3 (Option.some .int) 2 := ⟨Or.inl tb828, tb829, tb830, tb126, tb831, ⟨by decide +kernel, by decide +kernel, by decide +kernel⟩⟩
theorem tb832 : Cond.methodLink "TreadRingLaw" 114 (⟨"TreadRing", "image", "(I)I"⟩ : MethodName) ∈ az_TB := az_tb (i := 832) (by decide +kernel) (by decide +kernel)
theorem tb833 : Cond.instanceMethod (⟨"TreadRing", "image", "(I)I"⟩ : MethodName) ∈ az_TB := az_tb (i := 833) (by decide +kernel) (by decide +kernel)
theorem tb834 : Cond.selects "TreadRing" (⟨"TreadRing", "image", "(I)I"⟩ : MethodName) (⟨"TreadRing", "image", "(I)I"⟩ : MethodName) ∈ az_TB := az_tb (i := 834) (by decide +kernel) (by decide +kernel)
theorem tb835 : Cond.code (⟨"TreadRing", "image", "(I)I"⟩ : MethodName) prog_1_method_25_code 2 (Option.some .int) ∈ az_TB := az_tb (i := 835) (by decide +kernel) (by decide +kernel)
theorem ml_RL_114 : az_MV RL 114 yX6_image cX6_image 2 (Option.some .int) 1 := ⟨Or.inl tb832, tb833, tb834, tb125, tb835, ⟨by decide +kernel, by decide +kernel, by decide +kernel⟩⟩
theorem tb836 : Cond.methodLink "TreadRingLaw" 118 (⟨"TreadRing", "back", "(I)I"⟩ : MethodName) ∈ az_TB := az_tb (i := 836) (by decide +kernel) (by decide +kernel)
theorem tb837 : Cond.instanceMethod (⟨"TreadRing", "back", "(I)I"⟩ : MethodName) ∈ az_TB := az_tb (i := 837) (by decide +kernel) (by decide +kernel)
theorem tb838 : Cond.selects "TreadRing" (⟨"TreadRing", "back", "(I)I"⟩ : MethodName) (⟨"TreadRing", "back", "(I)I"⟩ : MethodName) ∈ az_TB := az_tb (i := 838) (by decide +kernel) (by decide +kernel)
theorem tb839 : Cond.code (⟨"TreadRing", "back", "(I)I"⟩ : MethodName) prog_1_method_26_code 2 (Option.some .int) ∈ az_TB := az_tb (i := 839) (by decide +kernel) (by decide +kernel)
theorem ml_RL_118 : az_MV RL 118 yX6_back cX6_back 2 (Option.some .int) 1 := ⟨Or.inl tb836, tb837, tb838, tb125, tb839, ⟨by decide +kernel, by decide +kernel, by decide +kernel⟩⟩
theorem tb840 : Cond.methodLink "TreadRingLaw" 122 (⟨"TreadRing", "field", "(II)I"⟩ : MethodName) ∈ az_TB := az_tb (i := 840) (by decide +kernel) (by decide +kernel)
theorem tb841 : Cond.instanceMethod (⟨"TreadRing", "field", "(II)I"⟩ : MethodName) ∈ az_TB := az_tb (i := 841) (by decide +kernel) (by decide +kernel)
theorem tb842 : Cond.selects "TreadRing" (⟨"TreadRing", "field", "(II)I"⟩ : MethodName) (⟨"TreadRing", "field", "(II)I"⟩ : MethodName) ∈ az_TB := az_tb (i := 842) (by decide +kernel) (by decide +kernel)
theorem tb843 : Cond.code (⟨"TreadRing", "field", "(II)I"⟩ : MethodName) prog_1_method_27_code 4 (Option.some .int) ∈ az_TB := az_tb (i := 843) (by decide +kernel) (by decide +kernel)
theorem ml_RL_122 : az_MV RL 122 yX6_field cX6_field 4 (Option.some .int) 2 := ⟨Or.inl tb840, tb841, tb842, tb125, tb843, ⟨by decide +kernel, by decide +kernel, by decide +kernel⟩⟩
theorem tb844 : Cond.methodLink "TreadRing" 202 (⟨"TreadRing$Heap", "fieldCell", "(II)I"⟩ : MethodName) ∈ az_TB := az_tb (i := 844) (by decide +kernel) (by decide +kernel)
theorem ml_RX6_202 : az_MV RX6 202 yX0_fieldCell cX0_fieldCell 3 (Option.some .int) 2 := ⟨Or.inl tb844, tb538, tb539, tb126, tb540, ⟨by decide +kernel, by decide +kernel, by decide +kernel⟩⟩
theorem tb845 : Cond.methodLink "TreadRingLaw" 126 (⟨"TreadRing", "slot", "(II)I"⟩ : MethodName) ∈ az_TB := az_tb (i := 845) (by decide +kernel) (by decide +kernel)
theorem tb846 : Cond.instanceMethod (⟨"TreadRing", "slot", "(II)I"⟩ : MethodName) ∈ az_TB := az_tb (i := 846) (by decide +kernel) (by decide +kernel)
theorem tb847 : Cond.selects "TreadRing" (⟨"TreadRing", "slot", "(II)I"⟩ : MethodName) (⟨"TreadRing", "slot", "(II)I"⟩ : MethodName) ∈ az_TB := az_tb (i := 847) (by decide +kernel) (by decide +kernel)
theorem tb848 : Cond.code (⟨"TreadRing", "slot", "(II)I"⟩ : MethodName) prog_1_method_28_code 5 (Option.some .int) ∈ az_TB := az_tb (i := 848) (by decide +kernel) (by decide +kernel)
theorem ml_RL_126 : az_MV RL 126 yX6_slot cX6_slot 5 (Option.some .int) 2 := ⟨Or.inl tb845, tb846, tb847, tb125, tb848, ⟨by decide +kernel, by decide +kernel, by decide +kernel⟩⟩
theorem tb849 : Cond.methodLink "TreadRing" 212 (⟨"TreadRing$Rings", "colourAt", "(I)I"⟩ : MethodName) ∈ az_TB := az_tb (i := 849) (by decide +kernel) (by decide +kernel)
theorem ml_RX6_212 : az_MV RX6 212 yX3_colourAt cX3_colourAt 2 (Option.some .int) 1 := ⟨Or.inl tb849, tb472, tb473, tb127, tb474, ⟨by decide +kernel, by decide +kernel, by decide +kernel⟩⟩
theorem tb850 : Cond.methodLink "TreadRing" 217 (⟨"TreadRing$Heap", "sizeAt", "(I)I"⟩ : MethodName) ∈ az_TB := az_tb (i := 850) (by decide +kernel) (by decide +kernel)
theorem ml_RX6_217 : az_MV RX6 217 yX0_sizeAt cX0_sizeAt 2 (Option.some .int) 1 := ⟨Or.inl tb850, tb476, tb477, tb126, tb478, ⟨by decide +kernel, by decide +kernel, by decide +kernel⟩⟩
theorem tb851 : Cond.methodLink "TreadRing" 220 (⟨"TreadRing$Heap", "namedBy", "(I)I"⟩ : MethodName) ∈ az_TB := az_tb (i := 851) (by decide +kernel) (by decide +kernel)
theorem tb852 : Cond.instanceMethod (⟨"TreadRing$Heap", "namedBy", "(I)I"⟩ : MethodName) ∈ az_TB := az_tb (i := 852) (by decide +kernel) (by decide +kernel)
theorem tb853 : Cond.selects "TreadRing$Heap" (⟨"TreadRing$Heap", "namedBy", "(I)I"⟩ : MethodName) (⟨"TreadRing$Heap", "namedBy", "(I)I"⟩ : MethodName) ∈ az_TB := az_tb (i := 853) (by decide +kernel) (by decide +kernel)
theorem tb854 : Cond.code (⟨"TreadRing$Heap", "namedBy", "(I)I"⟩ : MethodName) prog_2_method_28_code 4 (Option.some .int) ∈ az_TB := az_tb (i := 854) (by decide +kernel) (by decide +kernel)
theorem ml_RX6_220 : az_MV RX6 220 yX0_namedBy cX0_namedBy 4 (Option.some .int) 1 := ⟨Or.inl tb851, tb852, tb853, tb126, tb854, ⟨by decide +kernel, by decide +kernel, by decide +kernel⟩⟩
theorem tb855 : Cond.methodLink "TreadRingLaw" 130 (⟨"TreadRing", "ring", "(II)I"⟩ : MethodName) ∈ az_TB := az_tb (i := 855) (by decide +kernel) (by decide +kernel)
theorem tb856 : Cond.instanceMethod (⟨"TreadRing", "ring", "(II)I"⟩ : MethodName) ∈ az_TB := az_tb (i := 856) (by decide +kernel) (by decide +kernel)
theorem tb857 : Cond.selects "TreadRing" (⟨"TreadRing", "ring", "(II)I"⟩ : MethodName) (⟨"TreadRing", "ring", "(II)I"⟩ : MethodName) ∈ az_TB := az_tb (i := 857) (by decide +kernel) (by decide +kernel)
theorem tb858 : Cond.code (⟨"TreadRing", "ring", "(II)I"⟩ : MethodName) prog_1_method_29_code 3 (Option.some .int) ∈ az_TB := az_tb (i := 858) (by decide +kernel) (by decide +kernel)
theorem ml_RL_130 : az_MV RL 130 yX6_ring cX6_ring 3 (Option.some .int) 2 := ⟨Or.inl tb855, tb856, tb857, tb125, tb858, ⟨by decide +kernel, by decide +kernel, by decide +kernel⟩⟩
theorem tb859 : Cond.methodLink "TreadRing" 232 (⟨"TreadRing", "isSize", "(I)Z"⟩ : MethodName) ∈ az_TB := az_tb (i := 859) (by decide +kernel) (by decide +kernel)
theorem tb860 : Cond.static (⟨"TreadRing", "isSize", "(I)Z"⟩ : MethodName) ∈ az_TB := az_tb (i := 860) (by decide +kernel) (by decide +kernel)
theorem tb861 : Cond.code (⟨"TreadRing", "isSize", "(I)Z"⟩ : MethodName) prog_1_method_58_code 1 (Option.some .boolean) ∈ az_TB := az_tb (i := 861) (by decide +kernel) (by decide +kernel)
theorem ml_RX6_232 : az_MS RX6 232 yX6_isSize cX6_isSize 1 (Option.some .boolean) 1 := ⟨tb859, tb860, tb125, tb861, ⟨by decide +kernel, by decide +kernel, by decide +kernel⟩⟩
theorem tb862 : Cond.methodLink "TreadRing" 235 (⟨"TreadRing$Rings", "addressAt", "(II)I"⟩ : MethodName) ∈ az_TB := az_tb (i := 862) (by decide +kernel) (by decide +kernel)
theorem tb863 : Cond.instanceMethod (⟨"TreadRing$Rings", "addressAt", "(II)I"⟩ : MethodName) ∈ az_TB := az_tb (i := 863) (by decide +kernel) (by decide +kernel)
theorem tb864 : Cond.selects "TreadRing$Rings" (⟨"TreadRing$Rings", "addressAt", "(II)I"⟩ : MethodName) (⟨"TreadRing$Rings", "addressAt", "(II)I"⟩ : MethodName) ∈ az_TB := az_tb (i := 864) (by decide +kernel) (by decide +kernel)
theorem tb865 : Cond.code (⟨"TreadRing$Rings", "addressAt", "(II)I"⟩ : MethodName) prog_5_method_8_code 8 (Option.some .int) ∈ az_TB := az_tb (i := 865) (by decide +kernel) (by decide +kernel)
theorem ml_RX6_235 : az_MV RX6 235 yX3_addressAt cX3_addressAt 8 (Option.some .int) 2 := ⟨Or.inl tb862, tb863, tb864, tb127, tb865, ⟨by decide +kernel, by decide +kernel, by decide +kernel⟩⟩
theorem tb866 : Cond.methodLink "TreadRing$Rings" 39 (⟨"TreadRing$Rings", "row", "(II)I"⟩ : MethodName) ∈ az_TB := az_tb (i := 866) (by decide +kernel) (by decide +kernel)
theorem ml_RX3_39 : az_MS RX3 39 yX3_row cX3_row 2 (Option.some .int) 2 := ⟨tb866, tb480, tb127, tb481, ⟨by decide +kernel, by decide +kernel, by decide +kernel⟩⟩
theorem tb867 : Cond.methodLink "TreadRingLaw" 134 (⟨"TreadRing", "many", "(II)I"⟩ : MethodName) ∈ az_TB := az_tb (i := 867) (by decide +kernel) (by decide +kernel)
theorem tb868 : Cond.instanceMethod (⟨"TreadRing", "many", "(II)I"⟩ : MethodName) ∈ az_TB := az_tb (i := 868) (by decide +kernel) (by decide +kernel)
theorem tb869 : Cond.selects "TreadRing" (⟨"TreadRing", "many", "(II)I"⟩ : MethodName) (⟨"TreadRing", "many", "(II)I"⟩ : MethodName) ∈ az_TB := az_tb (i := 869) (by decide +kernel) (by decide +kernel)
theorem tb870 : Cond.code (⟨"TreadRing", "many", "(II)I"⟩ : MethodName) prog_1_method_30_code 3 (Option.some .int) ∈ az_TB := az_tb (i := 870) (by decide +kernel) (by decide +kernel)
theorem ml_RL_134 : az_MV RL 134 yX6_many cX6_many 3 (Option.some .int) 2 := ⟨Or.inl tb867, tb868, tb869, tb125, tb870, ⟨by decide +kernel, by decide +kernel, by decide +kernel⟩⟩
theorem tb871 : Cond.methodLink "TreadRing" 238 (⟨"TreadRing$Rings", "row", "(II)I"⟩ : MethodName) ∈ az_TB := az_tb (i := 871) (by decide +kernel) (by decide +kernel)
theorem ml_RX6_238 : az_MS RX6 238 yX3_row cX3_row 2 (Option.some .int) 2 := ⟨tb871, tb480, tb127, tb481, ⟨by decide +kernel, by decide +kernel, by decide +kernel⟩⟩
theorem tb872 : Cond.methodLink "TreadRing" 241 (⟨"TreadRing$Rings", "count", "(I)I"⟩ : MethodName) ∈ az_TB := az_tb (i := 872) (by decide +kernel) (by decide +kernel)
theorem ml_RX6_241 : az_MV RX6 241 yX3_count cX3_count 2 (Option.some .int) 1 := ⟨Or.inl tb872, tb491, tb492, tb127, tb493, ⟨by decide +kernel, by decide +kernel, by decide +kernel⟩⟩
theorem tb873 : Cond.methodLink "TreadRingLaw" 138 (⟨"TreadRing", "page", "(II)I"⟩ : MethodName) ∈ az_TB := az_tb (i := 873) (by decide +kernel) (by decide +kernel)
theorem tb874 : Cond.instanceMethod (⟨"TreadRing", "page", "(II)I"⟩ : MethodName) ∈ az_TB := az_tb (i := 874) (by decide +kernel) (by decide +kernel)
theorem tb875 : Cond.selects "TreadRing" (⟨"TreadRing", "page", "(II)I"⟩ : MethodName) (⟨"TreadRing", "page", "(II)I"⟩ : MethodName) ∈ az_TB := az_tb (i := 875) (by decide +kernel) (by decide +kernel)
theorem tb876 : Cond.code (⟨"TreadRing", "page", "(II)I"⟩ : MethodName) prog_1_method_31_code 5 (Option.some .int) ∈ az_TB := az_tb (i := 876) (by decide +kernel) (by decide +kernel)
theorem ml_RL_138 : az_MV RL 138 yX6_page cX6_page 5 (Option.some .int) 2 := ⟨Or.inl tb873, tb874, tb875, tb125, tb876, ⟨by decide +kernel, by decide +kernel, by decide +kernel⟩⟩
theorem tb877 : Cond.methodLink "TreadRingLaw" 142 (⟨"TreadRing", "grey", "(I)I"⟩ : MethodName) ∈ az_TB := az_tb (i := 877) (by decide +kernel) (by decide +kernel)
theorem tb878 : Cond.instanceMethod (⟨"TreadRing", "grey", "(I)I"⟩ : MethodName) ∈ az_TB := az_tb (i := 878) (by decide +kernel) (by decide +kernel)
theorem tb879 : Cond.selects "TreadRing" (⟨"TreadRing", "grey", "(I)I"⟩ : MethodName) (⟨"TreadRing", "grey", "(I)I"⟩ : MethodName) ∈ az_TB := az_tb (i := 879) (by decide +kernel) (by decide +kernel)
theorem tb880 : Cond.code (⟨"TreadRing", "grey", "(I)I"⟩ : MethodName) prog_1_method_32_code 2 (Option.some .int) ∈ az_TB := az_tb (i := 880) (by decide +kernel) (by decide +kernel)
theorem ml_RL_142 : az_MV RL 142 yX6_grey cX6_grey 2 (Option.some .int) 1 := ⟨Or.inl tb877, tb878, tb879, tb125, tb880, ⟨by decide +kernel, by decide +kernel, by decide +kernel⟩⟩
theorem tb881 : Cond.methodLink "TreadRing" 253 (⟨"TreadRing$Heap", "greyAt", "(I)I"⟩ : MethodName) ∈ az_TB := az_tb (i := 881) (by decide +kernel) (by decide +kernel)
theorem tb882 : Cond.instanceMethod (⟨"TreadRing$Heap", "greyAt", "(I)I"⟩ : MethodName) ∈ az_TB := az_tb (i := 882) (by decide +kernel) (by decide +kernel)
theorem tb883 : Cond.selects "TreadRing$Heap" (⟨"TreadRing$Heap", "greyAt", "(I)I"⟩ : MethodName) (⟨"TreadRing$Heap", "greyAt", "(I)I"⟩ : MethodName) ∈ az_TB := az_tb (i := 883) (by decide +kernel) (by decide +kernel)
theorem tb884 : Cond.code (⟨"TreadRing$Heap", "greyAt", "(I)I"⟩ : MethodName) prog_2_method_23_code 6 (Option.some .int) ∈ az_TB := az_tb (i := 884) (by decide +kernel) (by decide +kernel)
theorem ml_RX6_253 : az_MV RX6 253 yX0_greyAt cX0_greyAt 6 (Option.some .int) 1 := ⟨Or.inl tb881, tb882, tb883, tb126, tb884, ⟨by decide +kernel, by decide +kernel, by decide +kernel⟩⟩
theorem tb885 : Cond.methodLink "TreadRingLaw" 146 (⟨"TreadRing", "live", "(I)I"⟩ : MethodName) ∈ az_TB := az_tb (i := 885) (by decide +kernel) (by decide +kernel)
theorem tb886 : Cond.instanceMethod (⟨"TreadRing", "live", "(I)I"⟩ : MethodName) ∈ az_TB := az_tb (i := 886) (by decide +kernel) (by decide +kernel)
theorem tb887 : Cond.selects "TreadRing" (⟨"TreadRing", "live", "(I)I"⟩ : MethodName) (⟨"TreadRing", "live", "(I)I"⟩ : MethodName) ∈ az_TB := az_tb (i := 887) (by decide +kernel) (by decide +kernel)
theorem tb888 : Cond.code (⟨"TreadRing", "live", "(I)I"⟩ : MethodName) prog_1_method_33_code 3 (Option.some .int) ∈ az_TB := az_tb (i := 888) (by decide +kernel) (by decide +kernel)
theorem ml_RL_146 : az_MV RL 146 yX6_live cX6_live 3 (Option.some .int) 1 := ⟨Or.inl tb885, tb886, tb887, tb125, tb888, ⟨by decide +kernel, by decide +kernel, by decide +kernel⟩⟩
theorem tb889 : Cond.methodLink "TreadRing" 256 (⟨"TreadRing$Reach", "foundCells", "(LTreadRing$Heap;)I"⟩ : MethodName) ∈ az_TB := az_tb (i := 889) (by decide +kernel) (by decide +kernel)
theorem tb890 : Cond.instanceMethod (⟨"TreadRing$Reach", "foundCells", "(LTreadRing$Heap;)I"⟩ : MethodName) ∈ az_TB := az_tb (i := 890) (by decide +kernel) (by decide +kernel)
theorem tb891 : Cond.selects "TreadRing$Reach" (⟨"TreadRing$Reach", "foundCells", "(LTreadRing$Heap;)I"⟩ : MethodName) (⟨"TreadRing$Reach", "foundCells", "(LTreadRing$Heap;)I"⟩ : MethodName) ∈ az_TB := az_tb (i := 891) (by decide +kernel) (by decide +kernel)
theorem tb892 : Cond.code (⟨"TreadRing$Reach", "foundCells", "(LTreadRing$Heap;)I"⟩ : MethodName) prog_3_method_4_code 4 (Option.some .int) ∈ az_TB := az_tb (i := 892) (by decide +kernel) (by decide +kernel)
theorem ml_RX6_256 : az_MV RX6 256 yX1_foundCells cX1_foundCells 4 (Option.some .int) 1 := ⟨Or.inl tb889, tb890, tb891, tb129, tb892, ⟨by decide +kernel, by decide +kernel, by decide +kernel⟩⟩
theorem tb893 : Cond.methodLink "TreadRing$Reach" 40 (⟨"TreadRing$Heap", "sizeAt", "(I)I"⟩ : MethodName) ∈ az_TB := az_tb (i := 893) (by decide +kernel) (by decide +kernel)
theorem ml_RX1_40 : az_MV RX1 40 yX0_sizeAt cX0_sizeAt 2 (Option.some .int) 1 := ⟨Or.inl tb893, tb476, tb477, tb126, tb478, ⟨by decide +kernel, by decide +kernel, by decide +kernel⟩⟩
theorem tb894 : Cond.methodLink "TreadRing" 260 (⟨"TreadRing$Reach", "floating", "(LTreadRing$Heap;)I"⟩ : MethodName) ∈ az_TB := az_tb (i := 894) (by decide +kernel) (by decide +kernel)
theorem tb895 : Cond.instanceMethod (⟨"TreadRing$Reach", "floating", "(LTreadRing$Heap;)I"⟩ : MethodName) ∈ az_TB := az_tb (i := 895) (by decide +kernel) (by decide +kernel)
theorem tb896 : Cond.selects "TreadRing$Reach" (⟨"TreadRing$Reach", "floating", "(LTreadRing$Heap;)I"⟩ : MethodName) (⟨"TreadRing$Reach", "floating", "(LTreadRing$Heap;)I"⟩ : MethodName) ∈ az_TB := az_tb (i := 896) (by decide +kernel) (by decide +kernel)
theorem tb897 : Cond.code (⟨"TreadRing$Reach", "floating", "(LTreadRing$Heap;)I"⟩ : MethodName) prog_3_method_5_code 4 (Option.some .int) ∈ az_TB := az_tb (i := 897) (by decide +kernel) (by decide +kernel)
theorem ml_RX6_260 : az_MV RX6 260 yX1_floating cX1_floating 4 (Option.some .int) 1 := ⟨Or.inl tb894, tb895, tb896, tb129, tb897, ⟨by decide +kernel, by decide +kernel, by decide +kernel⟩⟩
theorem tb898 : Cond.methodLink "TreadRing$Reach" 48 (⟨"TreadRing$Rings", "colourAt", "(I)I"⟩ : MethodName) ∈ az_TB := az_tb (i := 898) (by decide +kernel) (by decide +kernel)
theorem ml_RX1_48 : az_MV RX1 48 yX3_colourAt cX3_colourAt 2 (Option.some .int) 1 := ⟨Or.inl tb898, tb472, tb473, tb127, tb474, ⟨by decide +kernel, by decide +kernel, by decide +kernel⟩⟩
theorem tb899 : Cond.methodLink "TreadRingLaw" 150 (⟨"TreadRing", "path", "(II)I"⟩ : MethodName) ∈ az_TB := az_tb (i := 899) (by decide +kernel) (by decide +kernel)
theorem tb900 : Cond.instanceMethod (⟨"TreadRing", "path", "(II)I"⟩ : MethodName) ∈ az_TB := az_tb (i := 900) (by decide +kernel) (by decide +kernel)
theorem tb901 : Cond.selects "TreadRing" (⟨"TreadRing", "path", "(II)I"⟩ : MethodName) (⟨"TreadRing", "path", "(II)I"⟩ : MethodName) ∈ az_TB := az_tb (i := 901) (by decide +kernel) (by decide +kernel)
theorem tb902 : Cond.code (⟨"TreadRing", "path", "(II)I"⟩ : MethodName) prog_1_method_34_code 3 (Option.some .int) ∈ az_TB := az_tb (i := 902) (by decide +kernel) (by decide +kernel)
theorem ml_RL_150 : az_MV RL 150 yX6_path cX6_path 3 (Option.some .int) 2 := ⟨Or.inl tb899, tb900, tb901, tb125, tb902, ⟨by decide +kernel, by decide +kernel, by decide +kernel⟩⟩
theorem tb903 : Cond.methodLink "TreadRing" 263 (⟨"TreadRing$Heap", "isObject", "(I)Z"⟩ : MethodName) ∈ az_TB := az_tb (i := 903) (by decide +kernel) (by decide +kernel)
theorem tb904 : Cond.instanceMethod (⟨"TreadRing$Heap", "isObject", "(I)Z"⟩ : MethodName) ∈ az_TB := az_tb (i := 904) (by decide +kernel) (by decide +kernel)
theorem tb905 : Cond.selects "TreadRing$Heap" (⟨"TreadRing$Heap", "isObject", "(I)Z"⟩ : MethodName) (⟨"TreadRing$Heap", "isObject", "(I)Z"⟩ : MethodName) ∈ az_TB := az_tb (i := 905) (by decide +kernel) (by decide +kernel)
theorem tb906 : Cond.code (⟨"TreadRing$Heap", "isObject", "(I)Z"⟩ : MethodName) prog_2_method_4_code 2 (Option.some .boolean) ∈ az_TB := az_tb (i := 906) (by decide +kernel) (by decide +kernel)
theorem ml_RX6_263 : az_MV RX6 263 yX0_isObject cX0_isObject 2 (Option.some .boolean) 1 := ⟨Or.inl tb903, tb904, tb905, tb126, tb906, ⟨by decide +kernel, by decide +kernel, by decide +kernel⟩⟩
theorem tb907 : Cond.methodLink "TreadRingLaw" 154 (⟨"TreadRing", "retained", "(I)I"⟩ : MethodName) ∈ az_TB := az_tb (i := 907) (by decide +kernel) (by decide +kernel)
theorem tb908 : Cond.instanceMethod (⟨"TreadRing", "retained", "(I)I"⟩ : MethodName) ∈ az_TB := az_tb (i := 908) (by decide +kernel) (by decide +kernel)
theorem tb909 : Cond.selects "TreadRing" (⟨"TreadRing", "retained", "(I)I"⟩ : MethodName) (⟨"TreadRing", "retained", "(I)I"⟩ : MethodName) ∈ az_TB := az_tb (i := 909) (by decide +kernel) (by decide +kernel)
theorem tb910 : Cond.code (⟨"TreadRing", "retained", "(I)I"⟩ : MethodName) prog_1_method_35_code 3 (Option.some .int) ∈ az_TB := az_tb (i := 910) (by decide +kernel) (by decide +kernel)
theorem ml_RL_154 : az_MV RL 154 yX6_retained cX6_retained 3 (Option.some .int) 1 := ⟨Or.inl tb907, tb908, tb909, tb125, tb910, ⟨by decide +kernel, by decide +kernel, by decide +kernel⟩⟩
theorem tb911 : Cond.methodLink "TreadRingLaw" 158 (⟨"TreadRing", "end", "(I)I"⟩ : MethodName) ∈ az_TB := az_tb (i := 911) (by decide +kernel) (by decide +kernel)
theorem tb912 : Cond.instanceMethod (⟨"TreadRing", "end", "(I)I"⟩ : MethodName) ∈ az_TB := az_tb (i := 912) (by decide +kernel) (by decide +kernel)
theorem tb913 : Cond.selects "TreadRing" (⟨"TreadRing", "end", "(I)I"⟩ : MethodName) (⟨"TreadRing", "end", "(I)I"⟩ : MethodName) ∈ az_TB := az_tb (i := 913) (by decide +kernel) (by decide +kernel)
theorem tb914 : Cond.code (⟨"TreadRing", "end", "(I)I"⟩ : MethodName) prog_1_method_36_code 2 (Option.some .int) ∈ az_TB := az_tb (i := 914) (by decide +kernel) (by decide +kernel)
theorem ml_RL_158 : az_MV RL 158 yX6_end cX6_end 2 (Option.some .int) 1 := ⟨Or.inl tb911, tb912, tb913, tb125, tb914, ⟨by decide +kernel, by decide +kernel, by decide +kernel⟩⟩
theorem tb915 : Cond.methodLink "TreadRing" 266 (⟨"TreadRing", "beginTrial", "()V"⟩ : MethodName) ∈ az_TB := az_tb (i := 915) (by decide +kernel) (by decide +kernel)
theorem tb917 : Cond.instanceMethod (⟨"TreadRing", "beginTrial", "()V"⟩ : MethodName) ∈ az_TB := az_tb (i := 917) (by decide +kernel) (by decide +kernel)
theorem tb34 : Cond.selects "TreadRing" (⟨"TreadRing", "beginTrial", "()V"⟩ : MethodName) (⟨"TreadRing", "beginTrial", "()V"⟩ : MethodName) ∈ az_TB := az_tb (i := 34) (by decide +kernel) (by decide +kernel)
theorem tb918 : Cond.code (⟨"TreadRing", "beginTrial", "()V"⟩ : MethodName) prog_1_method_46_code 1 (Option.none : Option Jvm.ClassFile.FieldType) ∈ az_TB := az_tb (i := 918) (by decide +kernel) (by decide +kernel)
theorem ml_RX6_266 : az_MV RX6 266 yX6_beginTrial cX6_beginTrial 1 (Option.none : Option Jvm.ClassFile.FieldType) 0 := ⟨Or.inl tb915, tb917, tb34, tb125, tb918, ⟨by decide +kernel, by decide +kernel, by decide +kernel⟩⟩
theorem tb919 : Cond.methodLink "TreadRing" 270 (⟨"TreadRing$Heap", "objectCells", "()I"⟩ : MethodName) ∈ az_TB := az_tb (i := 919) (by decide +kernel) (by decide +kernel)
theorem tb920 : Cond.instanceMethod (⟨"TreadRing$Heap", "objectCells", "()I"⟩ : MethodName) ∈ az_TB := az_tb (i := 920) (by decide +kernel) (by decide +kernel)
theorem tb921 : Cond.selects "TreadRing$Heap" (⟨"TreadRing$Heap", "objectCells", "()I"⟩ : MethodName) (⟨"TreadRing$Heap", "objectCells", "()I"⟩ : MethodName) ∈ az_TB := az_tb (i := 921) (by decide +kernel) (by decide +kernel)
theorem tb922 : Cond.code (⟨"TreadRing$Heap", "objectCells", "()I"⟩ : MethodName) prog_2_method_25_code 3 (Option.some .int) ∈ az_TB := az_tb (i := 922) (by decide +kernel) (by decide +kernel)
theorem ml_RX6_270 : az_MV RX6 270 yX0_objectCells cX0_objectCells 3 (Option.some .int) 0 := ⟨Or.inl tb919, tb920, tb921, tb126, tb922, ⟨by decide +kernel, by decide +kernel, by decide +kernel⟩⟩
theorem tb923 : Cond.methodLink "TreadRingLaw" 162 (⟨"TreadRing", "room", "(II)I"⟩ : MethodName) ∈ az_TB := az_tb (i := 923) (by decide +kernel) (by decide +kernel)
theorem tb924 : Cond.instanceMethod (⟨"TreadRing", "room", "(II)I"⟩ : MethodName) ∈ az_TB := az_tb (i := 924) (by decide +kernel) (by decide +kernel)
theorem tb925 : Cond.selects "TreadRing" (⟨"TreadRing", "room", "(II)I"⟩ : MethodName) (⟨"TreadRing", "room", "(II)I"⟩ : MethodName) ∈ az_TB := az_tb (i := 925) (by decide +kernel) (by decide +kernel)
theorem tb926 : Cond.code (⟨"TreadRing", "room", "(II)I"⟩ : MethodName) prog_1_method_37_code 3 (Option.some .int) ∈ az_TB := az_tb (i := 926) (by decide +kernel) (by decide +kernel)
theorem ml_RL_162 : az_MV RL 162 yX6_room cX6_room 3 (Option.some .int) 2 := ⟨Or.inl tb923, tb924, tb925, tb125, tb926, ⟨by decide +kernel, by decide +kernel, by decide +kernel⟩⟩
theorem tb927 : Cond.methodLink "TreadRing" 273 (⟨"TreadRing", "makeOnTrial", "(IIZ)I"⟩ : MethodName) ∈ az_TB := az_tb (i := 927) (by decide +kernel) (by decide +kernel)
theorem tb929 : Cond.instanceMethod (⟨"TreadRing", "makeOnTrial", "(IIZ)I"⟩ : MethodName) ∈ az_TB := az_tb (i := 929) (by decide +kernel) (by decide +kernel)
theorem tb35 : Cond.selects "TreadRing" (⟨"TreadRing", "makeOnTrial", "(IIZ)I"⟩ : MethodName) (⟨"TreadRing", "makeOnTrial", "(IIZ)I"⟩ : MethodName) ∈ az_TB := az_tb (i := 35) (by decide +kernel) (by decide +kernel)
theorem tb930 : Cond.code (⟨"TreadRing", "makeOnTrial", "(IIZ)I"⟩ : MethodName) prog_1_method_51_code 6 (Option.some .int) ∈ az_TB := az_tb (i := 930) (by decide +kernel) (by decide +kernel)
theorem ml_RX6_273 : az_MV RX6 273 yX6_makeOnTrial cX6_makeOnTrial 6 (Option.some .int) 3 := ⟨Or.inl tb927, tb929, tb35, tb125, tb930, ⟨by decide +kernel, by decide +kernel, by decide +kernel⟩⟩
theorem tb931 : Cond.methodLink "TreadRingLaw" 166 (⟨"TreadRing", "pace", "(II)I"⟩ : MethodName) ∈ az_TB := az_tb (i := 931) (by decide +kernel) (by decide +kernel)
theorem tb932 : Cond.instanceMethod (⟨"TreadRing", "pace", "(II)I"⟩ : MethodName) ∈ az_TB := az_tb (i := 932) (by decide +kernel) (by decide +kernel)
theorem tb933 : Cond.selects "TreadRing" (⟨"TreadRing", "pace", "(II)I"⟩ : MethodName) (⟨"TreadRing", "pace", "(II)I"⟩ : MethodName) ∈ az_TB := az_tb (i := 933) (by decide +kernel) (by decide +kernel)
theorem tb934 : Cond.code (⟨"TreadRing", "pace", "(II)I"⟩ : MethodName) prog_1_method_38_code 4 (Option.some .int) ∈ az_TB := az_tb (i := 934) (by decide +kernel) (by decide +kernel)
theorem ml_RL_166 : az_MV RL 166 yX6_pace cX6_pace 4 (Option.some .int) 2 := ⟨Or.inl tb931, tb932, tb933, tb125, tb934, ⟨by decide +kernel, by decide +kernel, by decide +kernel⟩⟩
theorem tb935 : Cond.methodLink "TreadRingLaw" 170 (⟨"TreadRing", "game", "(IIII)I"⟩ : MethodName) ∈ az_TB := az_tb (i := 935) (by decide +kernel) (by decide +kernel)
theorem tb936 : Cond.instanceMethod (⟨"TreadRing", "game", "(IIII)I"⟩ : MethodName) ∈ az_TB := az_tb (i := 936) (by decide +kernel) (by decide +kernel)
theorem tb937 : Cond.selects "TreadRing" (⟨"TreadRing", "game", "(IIII)I"⟩ : MethodName) (⟨"TreadRing", "game", "(IIII)I"⟩ : MethodName) ∈ az_TB := az_tb (i := 937) (by decide +kernel) (by decide +kernel)
theorem tb938 : Cond.code (⟨"TreadRing", "game", "(IIII)I"⟩ : MethodName) prog_1_method_39_code 5 (Option.some .int) ∈ az_TB := az_tb (i := 938) (by decide +kernel) (by decide +kernel)
theorem ml_RL_170 : az_MV RL 170 yX6_game cX6_game 5 (Option.some .int) 4 := ⟨Or.inl tb935, tb936, tb937, tb125, tb938, ⟨by decide +kernel, by decide +kernel, by decide +kernel⟩⟩
theorem tb939 : Cond.methodLink "TreadRing" 280 (⟨"TreadRing", "playOnTrial", "(II)V"⟩ : MethodName) ∈ az_TB := az_tb (i := 939) (by decide +kernel) (by decide +kernel)
theorem tb941 : Cond.instanceMethod (⟨"TreadRing", "playOnTrial", "(II)V"⟩ : MethodName) ∈ az_TB := az_tb (i := 941) (by decide +kernel) (by decide +kernel)
theorem tb36 : Cond.selects "TreadRing" (⟨"TreadRing", "playOnTrial", "(II)V"⟩ : MethodName) (⟨"TreadRing", "playOnTrial", "(II)V"⟩ : MethodName) ∈ az_TB := az_tb (i := 36) (by decide +kernel) (by decide +kernel)
theorem tb942 : Cond.code (⟨"TreadRing", "playOnTrial", "(II)V"⟩ : MethodName) prog_1_method_52_code 9 (Option.none : Option Jvm.ClassFile.FieldType) ∈ az_TB := az_tb (i := 942) (by decide +kernel) (by decide +kernel)
theorem ml_RX6_280 : az_MV RX6 280 yX6_playOnTrial cX6_playOnTrial 9 (Option.none : Option Jvm.ClassFile.FieldType) 2 := ⟨Or.inl tb939, tb941, tb36, tb125, tb942, ⟨by decide +kernel, by decide +kernel, by decide +kernel⟩⟩
theorem tb943 : Cond.methodLink "TreadRing" 306 (⟨"TreadRing", "drawn", "(I)I"⟩ : MethodName) ∈ az_TB := az_tb (i := 943) (by decide +kernel) (by decide +kernel)
theorem tb944 : Cond.static (⟨"TreadRing", "drawn", "(I)I"⟩ : MethodName) ∈ az_TB := az_tb (i := 944) (by decide +kernel) (by decide +kernel)
theorem tb945 : Cond.code (⟨"TreadRing", "drawn", "(I)I"⟩ : MethodName) prog_1_method_53_code 1 (Option.some .int) ∈ az_TB := az_tb (i := 945) (by decide +kernel) (by decide +kernel)
theorem ml_RX6_306 : az_MS RX6 306 yX6_drawn cX6_drawn 1 (Option.some .int) 1 := ⟨tb943, tb944, tb125, tb945, ⟨by decide +kernel, by decide +kernel, by decide +kernel⟩⟩
theorem tb946 : Cond.methodLink "TreadRingLaw" 175 (⟨"TreadRing", "law", "(I)I"⟩ : MethodName) ∈ az_TB := az_tb (i := 946) (by decide +kernel) (by decide +kernel)
theorem tb947 : Cond.instanceMethod (⟨"TreadRing", "law", "(I)I"⟩ : MethodName) ∈ az_TB := az_tb (i := 947) (by decide +kernel) (by decide +kernel)
theorem tb948 : Cond.selects "TreadRing" (⟨"TreadRing", "law", "(I)I"⟩ : MethodName) (⟨"TreadRing", "law", "(I)I"⟩ : MethodName) ∈ az_TB := az_tb (i := 948) (by decide +kernel) (by decide +kernel)
theorem tb949 : Cond.code (⟨"TreadRing", "law", "(I)I"⟩ : MethodName) prog_1_method_40_code 2 (Option.some .int) ∈ az_TB := az_tb (i := 949) (by decide +kernel) (by decide +kernel)
theorem ml_RL_175 : az_MV RL 175 yX6_law cX6_law 2 (Option.some .int) 1 := ⟨Or.inl tb946, tb947, tb948, tb125, tb949, ⟨by decide +kernel, by decide +kernel, by decide +kernel⟩⟩
theorem tb950 : Cond.methodLink "TreadRing" 283 (⟨"TreadRing$Heap", "blackOverEcru", "()I"⟩ : MethodName) ∈ az_TB := az_tb (i := 950) (by decide +kernel) (by decide +kernel)
theorem tb951 : Cond.instanceMethod (⟨"TreadRing$Heap", "blackOverEcru", "()I"⟩ : MethodName) ∈ az_TB := az_tb (i := 951) (by decide +kernel) (by decide +kernel)
theorem tb952 : Cond.selects "TreadRing$Heap" (⟨"TreadRing$Heap", "blackOverEcru", "()I"⟩ : MethodName) (⟨"TreadRing$Heap", "blackOverEcru", "()I"⟩ : MethodName) ∈ az_TB := az_tb (i := 952) (by decide +kernel) (by decide +kernel)
theorem tb953 : Cond.code (⟨"TreadRing$Heap", "blackOverEcru", "()I"⟩ : MethodName) prog_2_method_29_code 3 (Option.some .int) ∈ az_TB := az_tb (i := 953) (by decide +kernel) (by decide +kernel)
theorem ml_RX6_283 : az_MV RX6 283 yX0_blackOverEcru cX0_blackOverEcru 3 (Option.some .int) 0 := ⟨Or.inl tb950, tb951, tb952, tb126, tb953, ⟨by decide +kernel, by decide +kernel, by decide +kernel⟩⟩
theorem tb954 : Cond.methodLink "TreadRing$Heap" 165 (⟨"TreadRing$Heap", "namesOf", "(I[III)I"⟩ : MethodName) ∈ az_TB := az_tb (i := 954) (by decide +kernel) (by decide +kernel)
theorem tb956 : Cond.instanceMethod (⟨"TreadRing$Heap", "namesOf", "(I[III)I"⟩ : MethodName) ∈ az_TB := az_tb (i := 956) (by decide +kernel) (by decide +kernel)
theorem tb37 : Cond.selects "TreadRing$Heap" (⟨"TreadRing$Heap", "namesOf", "(I[III)I"⟩ : MethodName) (⟨"TreadRing$Heap", "namesOf", "(I[III)I"⟩ : MethodName) ∈ az_TB := az_tb (i := 37) (by decide +kernel) (by decide +kernel)
theorem tb957 : Cond.code (⟨"TreadRing$Heap", "namesOf", "(I[III)I"⟩ : MethodName) prog_2_method_31_code 7 (Option.some .int) ∈ az_TB := az_tb (i := 957) (by decide +kernel) (by decide +kernel)
theorem ml_RX0_165 : az_MV RX0 165 yX0_namesOf cX0_namesOf 7 (Option.some .int) 4 := ⟨Or.inl tb954, tb956, tb37, tb126, tb957, ⟨by decide +kernel, by decide +kernel, by decide +kernel⟩⟩
theorem tb958 : Cond.methodLink "TreadRing" 286 (⟨"TreadRing$Heap", "namesOfFree", "()I"⟩ : MethodName) ∈ az_TB := az_tb (i := 958) (by decide +kernel) (by decide +kernel)
theorem tb959 : Cond.instanceMethod (⟨"TreadRing$Heap", "namesOfFree", "()I"⟩ : MethodName) ∈ az_TB := az_tb (i := 959) (by decide +kernel) (by decide +kernel)
theorem tb960 : Cond.selects "TreadRing$Heap" (⟨"TreadRing$Heap", "namesOfFree", "()I"⟩ : MethodName) (⟨"TreadRing$Heap", "namesOfFree", "()I"⟩ : MethodName) ∈ az_TB := az_tb (i := 960) (by decide +kernel) (by decide +kernel)
theorem tb961 : Cond.code (⟨"TreadRing$Heap", "namesOfFree", "()I"⟩ : MethodName) prog_2_method_30_code 3 (Option.some .int) ∈ az_TB := az_tb (i := 961) (by decide +kernel) (by decide +kernel)
theorem ml_RX6_286 : az_MV RX6 286 yX0_namesOfFree cX0_namesOfFree 3 (Option.some .int) 0 := ⟨Or.inl tb958, tb959, tb960, tb126, tb961, ⟨by decide +kernel, by decide +kernel, by decide +kernel⟩⟩
theorem tb962 : Cond.methodLink "TreadRing$Heap" 169 (⟨"TreadRing$Heap", "isObject", "(I)Z"⟩ : MethodName) ∈ az_TB := az_tb (i := 962) (by decide +kernel) (by decide +kernel)
theorem ml_RX0_169 : az_MV RX0 169 yX0_isObject cX0_isObject 2 (Option.some .boolean) 1 := ⟨Or.inl tb962, tb904, tb905, tb126, tb906, ⟨by decide +kernel, by decide +kernel, by decide +kernel⟩⟩
theorem tb963 : Cond.methodLink "TreadRingLaw" 179 (⟨"TreadRing", "about", "(I)I"⟩ : MethodName) ∈ az_TB := az_tb (i := 963) (by decide +kernel) (by decide +kernel)
theorem tb964 : Cond.instanceMethod (⟨"TreadRing", "about", "(I)I"⟩ : MethodName) ∈ az_TB := az_tb (i := 964) (by decide +kernel) (by decide +kernel)
theorem tb965 : Cond.selects "TreadRing" (⟨"TreadRing", "about", "(I)I"⟩ : MethodName) (⟨"TreadRing", "about", "(I)I"⟩ : MethodName) ∈ az_TB := az_tb (i := 965) (by decide +kernel) (by decide +kernel)
theorem tb966 : Cond.code (⟨"TreadRing", "about", "(I)I"⟩ : MethodName) prog_1_method_41_code 3 (Option.some .int) ∈ az_TB := az_tb (i := 966) (by decide +kernel) (by decide +kernel)
theorem ml_RL_179 : az_MV RL 179 yX6_about cX6_about 3 (Option.some .int) 1 := ⟨Or.inl tb963, tb964, tb965, tb125, tb966, ⟨by decide +kernel, by decide +kernel, by decide +kernel⟩⟩
theorem tb133 : Cond.initialized "TreadRingModel" ∈ az_TB := az_tb (i := 133) (by decide +kernel) (by decide +kernel)
theorem tb969 : Cond.methodLink "TreadRingLaw" 12 (⟨"TreadRingModel", "<init>", "()V"⟩ : MethodName) ∈ az_TB := az_tb (i := 969) (by decide +kernel) (by decide +kernel)
theorem tb970 : Cond.instanceMethod (⟨"TreadRingModel", "<init>", "()V"⟩ : MethodName) ∈ az_TB := az_tb (i := 970) (by decide +kernel) (by decide +kernel)
theorem tb971 : Cond.code (⟨"TreadRingModel", "<init>", "()V"⟩ : MethodName) prog_9_method_1_code 1 (Option.none : Option Jvm.ClassFile.FieldType) ∈ az_TB := az_tb (i := 971) (by decide +kernel) (by decide +kernel)
theorem ml_RL_12 : az_MI RL 12 yX7_init cX7_init 1 0 := ⟨Or.inl tb969, rfl, tb970, tb133, tb971, ⟨by decide +kernel, by decide +kernel, by decide +kernel⟩⟩
theorem tb972 : Cond.methodLink "TreadRingModel" 1 (⟨"java/lang/Object", "<init>", "()V"⟩ : MethodName) ∈ az_TB := az_tb (i := 972) (by decide +kernel) (by decide +kernel)
theorem oi_RX7 : Cond.methodLink RX7 1 objectInit ∈ az_TB ∧ Cond.instanceMethod objectInit ∈ az_TB ∧ Cond.code objectInit ⟨#[0xb1]⟩ 1 none ∈ az_TB := ⟨tb972, tb146, tb147⟩
theorem tb973 : Cond.methodLink "TreadRingModel" 90 (⟨"TreadRingModel", "beginAnew", "(I)V"⟩ : MethodName) ∈ az_TB := az_tb (i := 973) (by decide +kernel) (by decide +kernel)
theorem tb975 : Cond.instanceMethod (⟨"TreadRingModel", "beginAnew", "(I)V"⟩ : MethodName) ∈ az_TB := az_tb (i := 975) (by decide +kernel) (by decide +kernel)
theorem tb38 : Cond.selects "TreadRingModel" (⟨"TreadRingModel", "beginAnew", "(I)V"⟩ : MethodName) (⟨"TreadRingModel", "beginAnew", "(I)V"⟩ : MethodName) ∈ az_TB := az_tb (i := 38) (by decide +kernel) (by decide +kernel)
theorem tb976 : Cond.code (⟨"TreadRingModel", "beginAnew", "(I)V"⟩ : MethodName) prog_9_method_2_code 3 (Option.none : Option Jvm.ClassFile.FieldType) ∈ az_TB := az_tb (i := 976) (by decide +kernel) (by decide +kernel)
theorem ml_RX7_90 : az_MV RX7 90 yX7_beginAnew cX7_beginAnew 3 (Option.none : Option Jvm.ClassFile.FieldType) 1 := ⟨Or.inl tb973, tb975, tb38, tb133, tb976, ⟨by decide +kernel, by decide +kernel, by decide +kernel⟩⟩
theorem tb1116 : Cond.methodLink "TreadRingLaw" 22 (⟨"TreadRingModel", "make", "(II)I"⟩ : MethodName) ∈ az_TB := az_tb (i := 1116) (by decide +kernel) (by decide +kernel)
theorem tb1117 : Cond.instanceMethod (⟨"TreadRingModel", "make", "(II)I"⟩ : MethodName) ∈ az_TB := az_tb (i := 1117) (by decide +kernel) (by decide +kernel)
theorem tb1118 : Cond.selects "TreadRingModel" (⟨"TreadRingModel", "make", "(II)I"⟩ : MethodName) (⟨"TreadRingModel", "make", "(II)I"⟩ : MethodName) ∈ az_TB := az_tb (i := 1118) (by decide +kernel) (by decide +kernel)
theorem tb1119 : Cond.code (⟨"TreadRingModel", "make", "(II)I"⟩ : MethodName) prog_9_method_45_code 3 (Option.some .int) ∈ az_TB := az_tb (i := 1119) (by decide +kernel) (by decide +kernel)
theorem ml_RL_22 : az_MV RL 22 yX7_make cX7_make 3 (Option.some .int) 2 := ⟨Or.inl tb1116, tb1117, tb1118, tb133, tb1119, ⟨by decide +kernel, by decide +kernel, by decide +kernel⟩⟩
theorem tb1120 : Cond.methodLink "TreadRingModel" 216 (⟨"TreadRingModel", "isRoot", "(I)Z"⟩ : MethodName) ∈ az_TB := az_tb (i := 1120) (by decide +kernel) (by decide +kernel)
theorem tb1121 : Cond.static (⟨"TreadRingModel", "isRoot", "(I)Z"⟩ : MethodName) ∈ az_TB := az_tb (i := 1121) (by decide +kernel) (by decide +kernel)
theorem tb1122 : Cond.code (⟨"TreadRingModel", "isRoot", "(I)Z"⟩ : MethodName) prog_9_method_4_code 1 (Option.some .boolean) ∈ az_TB := az_tb (i := 1122) (by decide +kernel) (by decide +kernel)
theorem ml_RX7_216 : az_MS RX7 216 yX7_isRoot cX7_isRoot 1 (Option.some .boolean) 1 := ⟨tb1120, tb1121, tb133, tb1122, ⟨by decide +kernel, by decide +kernel, by decide +kernel⟩⟩
theorem tb1123 : Cond.methodLink "TreadRingModel" 94 (⟨"TreadRingModel", "isIn", "(III)Z"⟩ : MethodName) ∈ az_TB := az_tb (i := 1123) (by decide +kernel) (by decide +kernel)
theorem tb1124 : Cond.static (⟨"TreadRingModel", "isIn", "(III)Z"⟩ : MethodName) ∈ az_TB := az_tb (i := 1124) (by decide +kernel) (by decide +kernel)
theorem tb1125 : Cond.code (⟨"TreadRingModel", "isIn", "(III)Z"⟩ : MethodName) prog_9_method_3_code 3 (Option.some .boolean) ∈ az_TB := az_tb (i := 1125) (by decide +kernel) (by decide +kernel)
theorem ml_RX7_94 : az_MS RX7 94 yX7_isIn cX7_isIn 3 (Option.some .boolean) 3 := ⟨tb1123, tb1124, tb133, tb1125, ⟨by decide +kernel, by decide +kernel, by decide +kernel⟩⟩
theorem tb1126 : Cond.methodLink "TreadRingModel" 219 (⟨"TreadRingModel", "keepAct", "()V"⟩ : MethodName) ∈ az_TB := az_tb (i := 1126) (by decide +kernel) (by decide +kernel)
theorem tb1128 : Cond.instanceMethod (⟨"TreadRingModel", "keepAct", "()V"⟩ : MethodName) ∈ az_TB := az_tb (i := 1128) (by decide +kernel) (by decide +kernel)
theorem tb39 : Cond.selects "TreadRingModel" (⟨"TreadRingModel", "keepAct", "()V"⟩ : MethodName) (⟨"TreadRingModel", "keepAct", "()V"⟩ : MethodName) ∈ az_TB := az_tb (i := 39) (by decide +kernel) (by decide +kernel)
theorem tb1129 : Cond.code (⟨"TreadRingModel", "keepAct", "()V"⟩ : MethodName) prog_9_method_134_code 2 (Option.none : Option Jvm.ClassFile.FieldType) ∈ az_TB := az_tb (i := 1129) (by decide +kernel) (by decide +kernel)
theorem ml_RX7_219 : az_MV RX7 219 yX7_keepAct cX7_keepAct 2 (Option.none : Option Jvm.ClassFile.FieldType) 0 := ⟨Or.inl tb1126, tb1128, tb39, tb133, tb1129, ⟨by decide +kernel, by decide +kernel, by decide +kernel⟩⟩
theorem tb1130 : Cond.methodLink "TreadRingModel" 222 (⟨"TreadRingModel", "goMake", "(II)I"⟩ : MethodName) ∈ az_TB := az_tb (i := 1130) (by decide +kernel) (by decide +kernel)
theorem tb1132 : Cond.instanceMethod (⟨"TreadRingModel", "goMake", "(II)I"⟩ : MethodName) ∈ az_TB := az_tb (i := 1132) (by decide +kernel) (by decide +kernel)
theorem tb40 : Cond.selects "TreadRingModel" (⟨"TreadRingModel", "goMake", "(II)I"⟩ : MethodName) (⟨"TreadRingModel", "goMake", "(II)I"⟩ : MethodName) ∈ az_TB := az_tb (i := 40) (by decide +kernel) (by decide +kernel)
theorem tb1133 : Cond.code (⟨"TreadRingModel", "goMake", "(II)I"⟩ : MethodName) prog_9_method_44_code 7 (Option.some .int) ∈ az_TB := az_tb (i := 1133) (by decide +kernel) (by decide +kernel)
theorem ml_RX7_222 : az_MV RX7 222 yX7_goMake cX7_goMake 7 (Option.some .int) 2 := ⟨Or.inl tb1130, tb1132, tb40, tb133, tb1133, ⟨by decide +kernel, by decide +kernel, by decide +kernel⟩⟩
theorem tb1134 : Cond.methodLink "TreadRingModel" 181 (⟨"TreadRingModel", "runs", "()Z"⟩ : MethodName) ∈ az_TB := az_tb (i := 1134) (by decide +kernel) (by decide +kernel)
theorem tb1136 : Cond.instanceMethod (⟨"TreadRingModel", "runs", "()Z"⟩ : MethodName) ∈ az_TB := az_tb (i := 1136) (by decide +kernel) (by decide +kernel)
theorem tb41 : Cond.selects "TreadRingModel" (⟨"TreadRingModel", "runs", "()Z"⟩ : MethodName) (⟨"TreadRingModel", "runs", "()Z"⟩ : MethodName) ∈ az_TB := az_tb (i := 41) (by decide +kernel) (by decide +kernel)
theorem tb1137 : Cond.code (⟨"TreadRingModel", "runs", "()Z"⟩ : MethodName) prog_9_method_6_code 1 (Option.some .boolean) ∈ az_TB := az_tb (i := 1137) (by decide +kernel) (by decide +kernel)
theorem ml_RX7_181 : az_MV RX7 181 yX7_runs cX7_runs 1 (Option.some .boolean) 0 := ⟨Or.inl tb1134, tb1136, tb41, tb133, tb1137, ⟨by decide +kernel, by decide +kernel, by decide +kernel⟩⟩
theorem tb1138 : Cond.methodLink "TreadRingModel" 189 (⟨"TreadRingModel", "goSteps", "(I)I"⟩ : MethodName) ∈ az_TB := az_tb (i := 1138) (by decide +kernel) (by decide +kernel)
theorem tb1140 : Cond.instanceMethod (⟨"TreadRingModel", "goSteps", "(I)I"⟩ : MethodName) ∈ az_TB := az_tb (i := 1140) (by decide +kernel) (by decide +kernel)
theorem tb42 : Cond.selects "TreadRingModel" (⟨"TreadRingModel", "goSteps", "(I)I"⟩ : MethodName) (⟨"TreadRingModel", "goSteps", "(I)I"⟩ : MethodName) ∈ az_TB := az_tb (i := 42) (by decide +kernel) (by decide +kernel)
theorem tb1141 : Cond.code (⟨"TreadRingModel", "goSteps", "(I)I"⟩ : MethodName) prog_9_method_37_code 3 (Option.some .int) ∈ az_TB := az_tb (i := 1141) (by decide +kernel) (by decide +kernel)
theorem ml_RX7_189 : az_MV RX7 189 yX7_goSteps cX7_goSteps 3 (Option.some .int) 1 := ⟨Or.inl tb1138, tb1140, tb42, tb133, tb1141, ⟨by decide +kernel, by decide +kernel, by decide +kernel⟩⟩
theorem tb1142 : Cond.methodLink "TreadRingModel" 185 (⟨"TreadRingModel", "goStep", "()V"⟩ : MethodName) ∈ az_TB := az_tb (i := 1142) (by decide +kernel) (by decide +kernel)
theorem tb1144 : Cond.instanceMethod (⟨"TreadRingModel", "goStep", "()V"⟩ : MethodName) ∈ az_TB := az_tb (i := 1144) (by decide +kernel) (by decide +kernel)
theorem tb43 : Cond.selects "TreadRingModel" (⟨"TreadRingModel", "goStep", "()V"⟩ : MethodName) (⟨"TreadRingModel", "goStep", "()V"⟩ : MethodName) ∈ az_TB := az_tb (i := 43) (by decide +kernel) (by decide +kernel)
theorem tb1145 : Cond.code (⟨"TreadRingModel", "goStep", "()V"⟩ : MethodName) prog_9_method_36_code 3 (Option.none : Option Jvm.ClassFile.FieldType) ∈ az_TB := az_tb (i := 1145) (by decide +kernel) (by decide +kernel)
theorem ml_RX7_185 : az_MV RX7 185 yX7_goStep cX7_goStep 3 (Option.none : Option Jvm.ClassFile.FieldType) 0 := ⟨Or.inl tb1142, tb1144, tb43, tb133, tb1145, ⟨by decide +kernel, by decide +kernel, by decide +kernel⟩⟩
theorem tb1146 : Cond.methodLink "TreadRingModel" 175 (⟨"TreadRingModel", "clearOut", "()V"⟩ : MethodName) ∈ az_TB := az_tb (i := 1146) (by decide +kernel) (by decide +kernel)
theorem tb1148 : Cond.instanceMethod (⟨"TreadRingModel", "clearOut", "()V"⟩ : MethodName) ∈ az_TB := az_tb (i := 1148) (by decide +kernel) (by decide +kernel)
theorem tb44 : Cond.selects "TreadRingModel" (⟨"TreadRingModel", "clearOut", "()V"⟩ : MethodName) (⟨"TreadRingModel", "clearOut", "()V"⟩ : MethodName) ∈ az_TB := az_tb (i := 44) (by decide +kernel) (by decide +kernel)
theorem tb1149 : Cond.code (⟨"TreadRingModel", "clearOut", "()V"⟩ : MethodName) prog_9_method_34_code 2 (Option.none : Option Jvm.ClassFile.FieldType) ∈ az_TB := az_tb (i := 1149) (by decide +kernel) (by decide +kernel)
theorem ml_RX7_175 : az_MV RX7 175 yX7_clearOut cX7_clearOut 2 (Option.none : Option Jvm.ClassFile.FieldType) 0 := ⟨Or.inl tb1146, tb1148, tb44, tb133, tb1149, ⟨by decide +kernel, by decide +kernel, by decide +kernel⟩⟩
theorem tb1150 : Cond.methodLink "TreadRingModel" 178 (⟨"TreadRingModel", "nextGrey", "()I"⟩ : MethodName) ∈ az_TB := az_tb (i := 1150) (by decide +kernel) (by decide +kernel)
theorem tb1152 : Cond.instanceMethod (⟨"TreadRingModel", "nextGrey", "()I"⟩ : MethodName) ∈ az_TB := az_tb (i := 1152) (by decide +kernel) (by decide +kernel)
theorem tb45 : Cond.selects "TreadRingModel" (⟨"TreadRingModel", "nextGrey", "()I"⟩ : MethodName) (⟨"TreadRingModel", "nextGrey", "()I"⟩ : MethodName) ∈ az_TB := az_tb (i := 45) (by decide +kernel) (by decide +kernel)
theorem tb1153 : Cond.code (⟨"TreadRingModel", "nextGrey", "()I"⟩ : MethodName) prog_9_method_35_code 3 (Option.some .int) ∈ az_TB := az_tb (i := 1153) (by decide +kernel) (by decide +kernel)
theorem ml_RX7_178 : az_MV RX7 178 yX7_nextGrey cX7_nextGrey 3 (Option.some .int) 0 := ⟨Or.inl tb1150, tb1152, tb45, tb133, tb1153, ⟨by decide +kernel, by decide +kernel, by decide +kernel⟩⟩
theorem tb1154 : Cond.methodLink "TreadRingModel" 102 (⟨"TreadRingModel", "isSlot", "(I)Z"⟩ : MethodName) ∈ az_TB := az_tb (i := 1154) (by decide +kernel) (by decide +kernel)
theorem tb1156 : Cond.instanceMethod (⟨"TreadRingModel", "isSlot", "(I)Z"⟩ : MethodName) ∈ az_TB := az_tb (i := 1156) (by decide +kernel) (by decide +kernel)
theorem tb46 : Cond.selects "TreadRingModel" (⟨"TreadRingModel", "isSlot", "(I)Z"⟩ : MethodName) (⟨"TreadRingModel", "isSlot", "(I)Z"⟩ : MethodName) ∈ az_TB := az_tb (i := 46) (by decide +kernel) (by decide +kernel)
theorem tb1157 : Cond.code (⟨"TreadRingModel", "isSlot", "(I)Z"⟩ : MethodName) prog_9_method_9_code 2 (Option.some .boolean) ∈ az_TB := az_tb (i := 1157) (by decide +kernel) (by decide +kernel)
theorem ml_RX7_102 : az_MV RX7 102 yX7_isSlot cX7_isSlot 2 (Option.some .boolean) 1 := ⟨Or.inl tb1154, tb1156, tb46, tb133, tb1157, ⟨by decide +kernel, by decide +kernel, by decide +kernel⟩⟩
theorem tb1158 : Cond.methodLink "TreadRingModel" 98 (⟨"TreadRingModel", "sizeAt", "(I)I"⟩ : MethodName) ∈ az_TB := az_tb (i := 1158) (by decide +kernel) (by decide +kernel)
theorem tb1160 : Cond.instanceMethod (⟨"TreadRingModel", "sizeAt", "(I)I"⟩ : MethodName) ∈ az_TB := az_tb (i := 1160) (by decide +kernel) (by decide +kernel)
