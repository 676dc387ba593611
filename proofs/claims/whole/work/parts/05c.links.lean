theorem tb47 : Cond.selects "TreadRingModel" (⟨"TreadRingModel", "sizeAt", "(I)I"⟩ : MethodName) (⟨"TreadRingModel", "sizeAt", "(I)I"⟩ : MethodName) ∈ az_TB := az_tb (i := 47) (by decide +kernel) (by decide +kernel)
theorem tb1161 : Cond.code (⟨"TreadRingModel", "sizeAt", "(I)I"⟩ : MethodName) prog_9_method_8_code 2 (Option.some .int) ∈ az_TB := az_tb (i := 1161) (by decide +kernel) (by decide +kernel)
theorem ml_RX7_98 : az_MV RX7 98 yX7_sizeAt cX7_sizeAt 2 (Option.some .int) 1 := ⟨Or.inl tb1158, tb1160, tb47, tb133, tb1161, ⟨by decide +kernel, by decide +kernel, by decide +kernel⟩⟩
theorem tb1162 : Cond.methodLink "TreadRingModel" 106 (⟨"TreadRingModel", "colourOf", "(I)I"⟩ : MethodName) ∈ az_TB := az_tb (i := 1162) (by decide +kernel) (by decide +kernel)
theorem tb1164 : Cond.instanceMethod (⟨"TreadRingModel", "colourOf", "(I)I"⟩ : MethodName) ∈ az_TB := az_tb (i := 1164) (by decide +kernel) (by decide +kernel)
theorem tb48 : Cond.selects "TreadRingModel" (⟨"TreadRingModel", "colourOf", "(I)I"⟩ : MethodName) (⟨"TreadRingModel", "colourOf", "(I)I"⟩ : MethodName) ∈ az_TB := az_tb (i := 48) (by decide +kernel) (by decide +kernel)
theorem tb1165 : Cond.code (⟨"TreadRingModel", "colourOf", "(I)I"⟩ : MethodName) prog_9_method_7_code 2 (Option.some .int) ∈ az_TB := az_tb (i := 1165) (by decide +kernel) (by decide +kernel)
theorem ml_RX7_106 : az_MV RX7 106 yX7_colourOf cX7_colourOf 2 (Option.some .int) 1 := ⟨Or.inl tb1162, tb1164, tb48, tb133, tb1165, ⟨by decide +kernel, by decide +kernel, by decide +kernel⟩⟩
theorem tb1166 : Cond.methodLink "TreadRingModel" 171 (⟨"TreadRingModel", "isAhead", "(II)Z"⟩ : MethodName) ∈ az_TB := az_tb (i := 1166) (by decide +kernel) (by decide +kernel)
theorem tb1168 : Cond.instanceMethod (⟨"TreadRingModel", "isAhead", "(II)Z"⟩ : MethodName) ∈ az_TB := az_tb (i := 1168) (by decide +kernel) (by decide +kernel)
theorem tb49 : Cond.selects "TreadRingModel" (⟨"TreadRingModel", "isAhead", "(II)Z"⟩ : MethodName) (⟨"TreadRingModel", "isAhead", "(II)Z"⟩ : MethodName) ∈ az_TB := az_tb (i := 49) (by decide +kernel) (by decide +kernel)
theorem tb1169 : Cond.code (⟨"TreadRingModel", "isAhead", "(II)Z"⟩ : MethodName) prog_9_method_33_code 4 (Option.some .boolean) ∈ az_TB := az_tb (i := 1169) (by decide +kernel) (by decide +kernel)
theorem ml_RX7_171 : az_MV RX7 171 yX7_isAhead cX7_isAhead 4 (Option.some .boolean) 2 := ⟨Or.inl tb1166, tb1168, tb49, tb133, tb1169, ⟨by decide +kernel, by decide +kernel, by decide +kernel⟩⟩
theorem tb1170 : Cond.methodLink "TreadRingModel" 161 (⟨"TreadRingModel", "fieldAt", "(II)I"⟩ : MethodName) ∈ az_TB := az_tb (i := 1170) (by decide +kernel) (by decide +kernel)
theorem tb1171 : Cond.static (⟨"TreadRingModel", "fieldAt", "(II)I"⟩ : MethodName) ∈ az_TB := az_tb (i := 1171) (by decide +kernel) (by decide +kernel)
theorem tb1172 : Cond.code (⟨"TreadRingModel", "fieldAt", "(II)I"⟩ : MethodName) prog_9_method_12_code 2 (Option.some .int) ∈ az_TB := az_tb (i := 1172) (by decide +kernel) (by decide +kernel)
theorem ml_RX7_161 : az_MS RX7 161 yX7_fieldAt cX7_fieldAt 2 (Option.some .int) 2 := ⟨tb1170, tb1171, tb133, tb1172, ⟨by decide +kernel, by decide +kernel, by decide +kernel⟩⟩
theorem tb1173 : Cond.methodLink "TreadRingModel" 142 (⟨"TreadRingModel", "grey", "(IZ)V"⟩ : MethodName) ∈ az_TB := az_tb (i := 1173) (by decide +kernel) (by decide +kernel)
theorem tb1175 : Cond.instanceMethod (⟨"TreadRingModel", "grey", "(IZ)V"⟩ : MethodName) ∈ az_TB := az_tb (i := 1175) (by decide +kernel) (by decide +kernel)
theorem tb50 : Cond.selects "TreadRingModel" (⟨"TreadRingModel", "grey", "(IZ)V"⟩ : MethodName) (⟨"TreadRingModel", "grey", "(IZ)V"⟩ : MethodName) ∈ az_TB := az_tb (i := 50) (by decide +kernel) (by decide +kernel)
theorem tb1176 : Cond.code (⟨"TreadRingModel", "grey", "(IZ)V"⟩ : MethodName) prog_9_method_26_code 3 (Option.none : Option Jvm.ClassFile.FieldType) ∈ az_TB := az_tb (i := 1176) (by decide +kernel) (by decide +kernel)
theorem ml_RX7_142 : az_MV RX7 142 yX7_grey cX7_grey 3 (Option.none : Option Jvm.ClassFile.FieldType) 2 := ⟨Or.inl tb1173, tb1175, tb50, tb133, tb1176, ⟨by decide +kernel, by decide +kernel, by decide +kernel⟩⟩
theorem tb1177 : Cond.methodLink "TreadRingModel" 139 (⟨"TreadRingModel", "becomes", "(II)V"⟩ : MethodName) ∈ az_TB := az_tb (i := 1177) (by decide +kernel) (by decide +kernel)
theorem tb1179 : Cond.instanceMethod (⟨"TreadRingModel", "becomes", "(II)V"⟩ : MethodName) ∈ az_TB := az_tb (i := 1179) (by decide +kernel) (by decide +kernel)
theorem tb51 : Cond.selects "TreadRingModel" (⟨"TreadRingModel", "becomes", "(II)V"⟩ : MethodName) (⟨"TreadRingModel", "becomes", "(II)V"⟩ : MethodName) ∈ az_TB := az_tb (i := 51) (by decide +kernel) (by decide +kernel)
theorem tb1180 : Cond.code (⟨"TreadRingModel", "becomes", "(II)V"⟩ : MethodName) prog_9_method_24_code 4 (Option.none : Option Jvm.ClassFile.FieldType) ∈ az_TB := az_tb (i := 1180) (by decide +kernel) (by decide +kernel)
theorem ml_RX7_139 : az_MV RX7 139 yX7_becomes cX7_becomes 4 (Option.none : Option Jvm.ClassFile.FieldType) 2 := ⟨Or.inl tb1177, tb1179, tb51, tb133, tb1180, ⟨by decide +kernel, by decide +kernel, by decide +kernel⟩⟩
theorem tb1181 : Cond.methodLink "TreadRingModel" 125 (⟨"TreadRingModel", "ringOf", "(I)I"⟩ : MethodName) ∈ az_TB := az_tb (i := 1181) (by decide +kernel) (by decide +kernel)
theorem tb1182 : Cond.static (⟨"TreadRingModel", "ringOf", "(I)I"⟩ : MethodName) ∈ az_TB := az_tb (i := 1182) (by decide +kernel) (by decide +kernel)
theorem tb1183 : Cond.code (⟨"TreadRingModel", "ringOf", "(I)I"⟩ : MethodName) prog_9_method_13_code 1 (Option.some .int) ∈ az_TB := az_tb (i := 1183) (by decide +kernel) (by decide +kernel)
theorem ml_RX7_125 : az_MS RX7 125 yX7_ringOf cX7_ringOf 1 (Option.some .int) 1 := ⟨tb1181, tb1182, tb133, tb1183, ⟨by decide +kernel, by decide +kernel, by decide +kernel⟩⟩
theorem tb1184 : Cond.methodLink "TreadRingModel" 128 (⟨"TreadRingModel", "takeOut", "(II)V"⟩ : MethodName) ∈ az_TB := az_tb (i := 1184) (by decide +kernel) (by decide +kernel)
theorem tb1186 : Cond.instanceMethod (⟨"TreadRingModel", "takeOut", "(II)V"⟩ : MethodName) ∈ az_TB := az_tb (i := 1186) (by decide +kernel) (by decide +kernel)
theorem tb52 : Cond.selects "TreadRingModel" (⟨"TreadRingModel", "takeOut", "(II)V"⟩ : MethodName) (⟨"TreadRingModel", "takeOut", "(II)V"⟩ : MethodName) ∈ az_TB := az_tb (i := 52) (by decide +kernel) (by decide +kernel)
theorem tb1187 : Cond.code (⟨"TreadRingModel", "takeOut", "(II)V"⟩ : MethodName) prog_9_method_18_code 5 (Option.none : Option Jvm.ClassFile.FieldType) ∈ az_TB := az_tb (i := 1187) (by decide +kernel) (by decide +kernel)
theorem ml_RX7_128 : az_MV RX7 128 yX7_takeOut cX7_takeOut 5 (Option.none : Option Jvm.ClassFile.FieldType) 2 := ⟨Or.inl tb1184, tb1186, tb52, tb133, tb1187, ⟨by decide +kernel, by decide +kernel, by decide +kernel⟩⟩
theorem tb1188 : Cond.methodLink "TreadRingModel" 112 (⟨"TreadRingModel", "ringAt", "(II)I"⟩ : MethodName) ∈ az_TB := az_tb (i := 1188) (by decide +kernel) (by decide +kernel)
theorem tb1189 : Cond.static (⟨"TreadRingModel", "ringAt", "(II)I"⟩ : MethodName) ∈ az_TB := az_tb (i := 1189) (by decide +kernel) (by decide +kernel)
theorem tb1190 : Cond.code (⟨"TreadRingModel", "ringAt", "(II)I"⟩ : MethodName) prog_9_method_17_code 2 (Option.some .int) ∈ az_TB := az_tb (i := 1190) (by decide +kernel) (by decide +kernel)
theorem ml_RX7_112 : az_MS RX7 112 yX7_ringAt cX7_ringAt 2 (Option.some .int) 2 := ⟨tb1188, tb1189, tb133, tb1190, ⟨by decide +kernel, by decide +kernel, by decide +kernel⟩⟩
theorem tb1191 : Cond.methodLink "TreadRingModel" 116 (⟨"TreadRingModel", "longOf", "(I)I"⟩ : MethodName) ∈ az_TB := az_tb (i := 1191) (by decide +kernel) (by decide +kernel)
theorem tb1193 : Cond.instanceMethod (⟨"TreadRingModel", "longOf", "(I)I"⟩ : MethodName) ∈ az_TB := az_tb (i := 1193) (by decide +kernel) (by decide +kernel)
theorem tb53 : Cond.selects "TreadRingModel" (⟨"TreadRingModel", "longOf", "(I)I"⟩ : MethodName) (⟨"TreadRingModel", "longOf", "(I)I"⟩ : MethodName) ∈ az_TB := az_tb (i := 53) (by decide +kernel) (by decide +kernel)
theorem tb1194 : Cond.code (⟨"TreadRingModel", "longOf", "(I)I"⟩ : MethodName) prog_9_method_16_code 2 (Option.some .int) ∈ az_TB := az_tb (i := 1194) (by decide +kernel) (by decide +kernel)
theorem ml_RX7_116 : az_MV RX7 116 yX7_longOf cX7_longOf 2 (Option.some .int) 1 := ⟨Or.inl tb1191, tb1193, tb53, tb133, tb1194, ⟨by decide +kernel, by decide +kernel, by decide +kernel⟩⟩
theorem tb1195 : Cond.methodLink "TreadRingModel" 132 (⟨"TreadRingModel", "placeOf", "(II)I"⟩ : MethodName) ∈ az_TB := az_tb (i := 1195) (by decide +kernel) (by decide +kernel)
theorem tb1197 : Cond.instanceMethod (⟨"TreadRingModel", "placeOf", "(II)I"⟩ : MethodName) ∈ az_TB := az_tb (i := 1197) (by decide +kernel) (by decide +kernel)
theorem tb54 : Cond.selects "TreadRingModel" (⟨"TreadRingModel", "placeOf", "(II)I"⟩ : MethodName) (⟨"TreadRingModel", "placeOf", "(II)I"⟩ : MethodName) ∈ az_TB := az_tb (i := 54) (by decide +kernel) (by decide +kernel)
theorem tb1198 : Cond.code (⟨"TreadRingModel", "placeOf", "(II)I"⟩ : MethodName) prog_9_method_20_code 4 (Option.some .int) ∈ az_TB := az_tb (i := 1198) (by decide +kernel) (by decide +kernel)
theorem ml_RX7_132 : az_MV RX7 132 yX7_placeOf cX7_placeOf 4 (Option.some .int) 2 := ⟨Or.inl tb1195, tb1197, tb54, tb133, tb1198, ⟨by decide +kernel, by decide +kernel, by decide +kernel⟩⟩
theorem tb1199 : Cond.methodLink "TreadRingModel" 135 (⟨"TreadRingModel", "putIn", "(III)V"⟩ : MethodName) ∈ az_TB := az_tb (i := 1199) (by decide +kernel) (by decide +kernel)
theorem tb1201 : Cond.instanceMethod (⟨"TreadRingModel", "putIn", "(III)V"⟩ : MethodName) ∈ az_TB := az_tb (i := 1201) (by decide +kernel) (by decide +kernel)
theorem tb55 : Cond.selects "TreadRingModel" (⟨"TreadRingModel", "putIn", "(III)V"⟩ : MethodName) (⟨"TreadRingModel", "putIn", "(III)V"⟩ : MethodName) ∈ az_TB := az_tb (i := 55) (by decide +kernel) (by decide +kernel)
theorem tb1202 : Cond.code (⟨"TreadRingModel", "putIn", "(III)V"⟩ : MethodName) prog_9_method_19_code 5 (Option.none : Option Jvm.ClassFile.FieldType) ∈ az_TB := az_tb (i := 1202) (by decide +kernel) (by decide +kernel)
theorem ml_RX7_135 : az_MV RX7 135 yX7_putIn cX7_putIn 5 (Option.none : Option Jvm.ClassFile.FieldType) 3 := ⟨Or.inl tb1199, tb1201, tb55, tb133, tb1202, ⟨by decide +kernel, by decide +kernel, by decide +kernel⟩⟩
theorem tb1203 : Cond.methodLink "TreadRingModel" 122 (⟨"TreadRingModel", "countAll", "(I)I"⟩ : MethodName) ∈ az_TB := az_tb (i := 1203) (by decide +kernel) (by decide +kernel)
theorem tb1205 : Cond.instanceMethod (⟨"TreadRingModel", "countAll", "(I)I"⟩ : MethodName) ∈ az_TB := az_tb (i := 1205) (by decide +kernel) (by decide +kernel)
theorem tb56 : Cond.selects "TreadRingModel" (⟨"TreadRingModel", "countAll", "(I)I"⟩ : MethodName) (⟨"TreadRingModel", "countAll", "(I)I"⟩ : MethodName) ∈ az_TB := az_tb (i := 56) (by decide +kernel) (by decide +kernel)
theorem tb1206 : Cond.code (⟨"TreadRingModel", "countAll", "(I)I"⟩ : MethodName) prog_9_method_22_code 4 (Option.some .int) ∈ az_TB := az_tb (i := 1206) (by decide +kernel) (by decide +kernel)
theorem ml_RX7_122 : az_MV RX7 122 yX7_countAll cX7_countAll 4 (Option.some .int) 1 := ⟨Or.inl tb1203, tb1205, tb56, tb133, tb1206, ⟨by decide +kernel, by decide +kernel, by decide +kernel⟩⟩
theorem tb1207 : Cond.methodLink "TreadRingModel" 119 (⟨"TreadRingModel", "countOf", "(II)I"⟩ : MethodName) ∈ az_TB := az_tb (i := 1207) (by decide +kernel) (by decide +kernel)
theorem tb1209 : Cond.instanceMethod (⟨"TreadRingModel", "countOf", "(II)I"⟩ : MethodName) ∈ az_TB := az_tb (i := 1209) (by decide +kernel) (by decide +kernel)
theorem tb57 : Cond.selects "TreadRingModel" (⟨"TreadRingModel", "countOf", "(II)I"⟩ : MethodName) (⟨"TreadRingModel", "countOf", "(II)I"⟩ : MethodName) ∈ az_TB := az_tb (i := 57) (by decide +kernel) (by decide +kernel)
theorem tb1210 : Cond.code (⟨"TreadRingModel", "countOf", "(II)I"⟩ : MethodName) prog_9_method_21_code 5 (Option.some .int) ∈ az_TB := az_tb (i := 1210) (by decide +kernel) (by decide +kernel)
theorem ml_RX7_119 : az_MV RX7 119 yX7_countOf cX7_countOf 5 (Option.some .int) 2 := ⟨Or.inl tb1207, tb1209, tb57, tb133, tb1210, ⟨by decide +kernel, by decide +kernel, by decide +kernel⟩⟩
theorem tb1211 : Cond.methodLink "TreadRingModel" 149 (⟨"TreadRingModel", "greyRoots", "()V"⟩ : MethodName) ∈ az_TB := az_tb (i := 1211) (by decide +kernel) (by decide +kernel)
theorem tb1213 : Cond.instanceMethod (⟨"TreadRingModel", "greyRoots", "()V"⟩ : MethodName) ∈ az_TB := az_tb (i := 1213) (by decide +kernel) (by decide +kernel)
theorem tb58 : Cond.selects "TreadRingModel" (⟨"TreadRingModel", "greyRoots", "()V"⟩ : MethodName) (⟨"TreadRingModel", "greyRoots", "()V"⟩ : MethodName) ∈ az_TB := az_tb (i := 58) (by decide +kernel) (by decide +kernel)
theorem tb1214 : Cond.code (⟨"TreadRingModel", "greyRoots", "()V"⟩ : MethodName) prog_9_method_27_code 2 (Option.none : Option Jvm.ClassFile.FieldType) ∈ az_TB := az_tb (i := 1214) (by decide +kernel) (by decide +kernel)
theorem ml_RX7_149 : az_MV RX7 149 yX7_greyRoots cX7_greyRoots 2 (Option.none : Option Jvm.ClassFile.FieldType) 0 := ⟨Or.inl tb1211, tb1213, tb58, tb133, tb1214, ⟨by decide +kernel, by decide +kernel, by decide +kernel⟩⟩
theorem tb1215 : Cond.methodLink "TreadRingModel" 152 (⟨"TreadRingModel", "goEnd", "()V"⟩ : MethodName) ∈ az_TB := az_tb (i := 1215) (by decide +kernel) (by decide +kernel)
theorem tb1217 : Cond.instanceMethod (⟨"TreadRingModel", "goEnd", "()V"⟩ : MethodName) ∈ az_TB := az_tb (i := 1217) (by decide +kernel) (by decide +kernel)
theorem tb59 : Cond.selects "TreadRingModel" (⟨"TreadRingModel", "goEnd", "()V"⟩ : MethodName) (⟨"TreadRingModel", "goEnd", "()V"⟩ : MethodName) ∈ az_TB := az_tb (i := 59) (by decide +kernel) (by decide +kernel)
theorem tb1218 : Cond.code (⟨"TreadRingModel", "goEnd", "()V"⟩ : MethodName) prog_9_method_30_code 3 (Option.none : Option Jvm.ClassFile.FieldType) ∈ az_TB := az_tb (i := 1218) (by decide +kernel) (by decide +kernel)
theorem ml_RX7_152 : az_MV RX7 152 yX7_goEnd cX7_goEnd 3 (Option.none : Option Jvm.ClassFile.FieldType) 0 := ⟨Or.inl tb1215, tb1217, tb59, tb133, tb1218, ⟨by decide +kernel, by decide +kernel, by decide +kernel⟩⟩
theorem tb1219 : Cond.methodLink "TreadRingModel" 155 (⟨"TreadRingModel", "lose", "(II)V"⟩ : MethodName) ∈ az_TB := az_tb (i := 1219) (by decide +kernel) (by decide +kernel)
theorem tb1221 : Cond.instanceMethod (⟨"TreadRingModel", "lose", "(II)V"⟩ : MethodName) ∈ az_TB := az_tb (i := 1221) (by decide +kernel) (by decide +kernel)
theorem tb60 : Cond.selects "TreadRingModel" (⟨"TreadRingModel", "lose", "(II)V"⟩ : MethodName) (⟨"TreadRingModel", "lose", "(II)V"⟩ : MethodName) ∈ az_TB := az_tb (i := 60) (by decide +kernel) (by decide +kernel)
theorem tb1222 : Cond.code (⟨"TreadRingModel", "lose", "(II)V"⟩ : MethodName) prog_9_method_31_code 3 (Option.none : Option Jvm.ClassFile.FieldType) ∈ az_TB := az_tb (i := 1222) (by decide +kernel) (by decide +kernel)
theorem ml_RX7_155 : az_MV RX7 155 yX7_lose cX7_lose 3 (Option.none : Option Jvm.ClassFile.FieldType) 2 := ⟨Or.inl tb1219, tb1221, tb60, tb133, tb1222, ⟨by decide +kernel, by decide +kernel, by decide +kernel⟩⟩
theorem tb1223 : Cond.methodLink "TreadRingModel" 158 (⟨"TreadRingModel", "isEcru", "(I)Z"⟩ : MethodName) ∈ az_TB := az_tb (i := 1223) (by decide +kernel) (by decide +kernel)
theorem tb1225 : Cond.instanceMethod (⟨"TreadRingModel", "isEcru", "(I)Z"⟩ : MethodName) ∈ az_TB := az_tb (i := 1225) (by decide +kernel) (by decide +kernel)
theorem tb61 : Cond.selects "TreadRingModel" (⟨"TreadRingModel", "isEcru", "(I)Z"⟩ : MethodName) (⟨"TreadRingModel", "isEcru", "(I)Z"⟩ : MethodName) ∈ az_TB := az_tb (i := 61) (by decide +kernel) (by decide +kernel)
theorem tb1226 : Cond.code (⟨"TreadRingModel", "isEcru", "(I)Z"⟩ : MethodName) prog_9_method_29_code 2 (Option.some .boolean) ∈ az_TB := az_tb (i := 1226) (by decide +kernel) (by decide +kernel)
theorem ml_RX7_158 : az_MV RX7 158 yX7_isEcru cX7_isEcru 2 (Option.some .boolean) 1 := ⟨Or.inl tb1223, tb1225, tb61, tb133, tb1226, ⟨by decide +kernel, by decide +kernel, by decide +kernel⟩⟩
theorem tb1227 : Cond.methodLink "TreadRingModel" 109 (⟨"TreadRingModel", "isObject", "(I)Z"⟩ : MethodName) ∈ az_TB := az_tb (i := 1227) (by decide +kernel) (by decide +kernel)
theorem tb1229 : Cond.instanceMethod (⟨"TreadRingModel", "isObject", "(I)Z"⟩ : MethodName) ∈ az_TB := az_tb (i := 1229) (by decide +kernel) (by decide +kernel)
theorem tb62 : Cond.selects "TreadRingModel" (⟨"TreadRingModel", "isObject", "(I)Z"⟩ : MethodName) (⟨"TreadRingModel", "isObject", "(I)Z"⟩ : MethodName) ∈ az_TB := az_tb (i := 62) (by decide +kernel) (by decide +kernel)
theorem tb1230 : Cond.code (⟨"TreadRingModel", "isObject", "(I)Z"⟩ : MethodName) prog_9_method_10_code 2 (Option.some .boolean) ∈ az_TB := az_tb (i := 1230) (by decide +kernel) (by decide +kernel)
theorem ml_RX7_109 : az_MV RX7 109 yX7_isObject cX7_isObject 2 (Option.some .boolean) 1 := ⟨Or.inl tb1227, tb1229, tb62, tb133, tb1230, ⟨by decide +kernel, by decide +kernel, by decide +kernel⟩⟩
theorem tb1231 : Cond.methodLink "TreadRingModel" 146 (⟨"TreadRingModel", "turnAll", "(II)I"⟩ : MethodName) ∈ az_TB := az_tb (i := 1231) (by decide +kernel) (by decide +kernel)
theorem tb1233 : Cond.instanceMethod (⟨"TreadRingModel", "turnAll", "(II)I"⟩ : MethodName) ∈ az_TB := az_tb (i := 1233) (by decide +kernel) (by decide +kernel)
theorem tb63 : Cond.selects "TreadRingModel" (⟨"TreadRingModel", "turnAll", "(II)I"⟩ : MethodName) (⟨"TreadRingModel", "turnAll", "(II)I"⟩ : MethodName) ∈ az_TB := az_tb (i := 63) (by decide +kernel) (by decide +kernel)
theorem tb1234 : Cond.code (⟨"TreadRingModel", "turnAll", "(II)I"⟩ : MethodName) prog_9_method_25_code 5 (Option.some .int) ∈ az_TB := az_tb (i := 1234) (by decide +kernel) (by decide +kernel)
theorem ml_RX7_146 : az_MV RX7 146 yX7_turnAll cX7_turnAll 5 (Option.some .int) 2 := ⟨Or.inl tb1231, tb1233, tb63, tb133, tb1234, ⟨by decide +kernel, by decide +kernel, by decide +kernel⟩⟩
theorem tb1235 : Cond.methodLink "TreadRingModel" 164 (⟨"TreadRingModel", "objectsNow", "()I"⟩ : MethodName) ∈ az_TB := az_tb (i := 1235) (by decide +kernel) (by decide +kernel)
theorem tb1237 : Cond.instanceMethod (⟨"TreadRingModel", "objectsNow", "()I"⟩ : MethodName) ∈ az_TB := az_tb (i := 1237) (by decide +kernel) (by decide +kernel)
theorem tb64 : Cond.selects "TreadRingModel" (⟨"TreadRingModel", "objectsNow", "()I"⟩ : MethodName) (⟨"TreadRingModel", "objectsNow", "()I"⟩ : MethodName) ∈ az_TB := az_tb (i := 64) (by decide +kernel) (by decide +kernel)
theorem tb1238 : Cond.code (⟨"TreadRingModel", "objectsNow", "()I"⟩ : MethodName) prog_9_method_23_code 1 (Option.some .int) ∈ az_TB := az_tb (i := 1238) (by decide +kernel) (by decide +kernel)
theorem ml_RX7_164 : az_MV RX7 164 yX7_objectsNow cX7_objectsNow 1 (Option.some .int) 0 := ⟨Or.inl tb1235, tb1237, tb64, tb133, tb1238, ⟨by decide +kernel, by decide +kernel, by decide +kernel⟩⟩
theorem tb1239 : Cond.methodLink "TreadRingModel" 168 (⟨"TreadRingModel", "tell", "(III)V"⟩ : MethodName) ∈ az_TB := az_tb (i := 1239) (by decide +kernel) (by decide +kernel)
theorem tb1241 : Cond.instanceMethod (⟨"TreadRingModel", "tell", "(III)V"⟩ : MethodName) ∈ az_TB := az_tb (i := 1241) (by decide +kernel) (by decide +kernel)
theorem tb65 : Cond.selects "TreadRingModel" (⟨"TreadRingModel", "tell", "(III)V"⟩ : MethodName) (⟨"TreadRingModel", "tell", "(III)V"⟩ : MethodName) ∈ az_TB := az_tb (i := 65) (by decide +kernel) (by decide +kernel)
theorem tb1242 : Cond.code (⟨"TreadRingModel", "tell", "(III)V"⟩ : MethodName) prog_9_method_32_code 5 (Option.none : Option Jvm.ClassFile.FieldType) ∈ az_TB := az_tb (i := 1242) (by decide +kernel) (by decide +kernel)
theorem ml_RX7_168 : az_MV RX7 168 yX7_tell cX7_tell 5 (Option.none : Option Jvm.ClassFile.FieldType) 3 := ⟨Or.inl tb1239, tb1241, tb65, tb133, tb1242, ⟨by decide +kernel, by decide +kernel, by decide +kernel⟩⟩
theorem tb1243 : Cond.methodLink "TreadRingModel" 210 (⟨"TreadRingModel", "sizeFor", "(I)I"⟩ : MethodName) ∈ az_TB := az_tb (i := 1243) (by decide +kernel) (by decide +kernel)
theorem tb1244 : Cond.static (⟨"TreadRingModel", "sizeFor", "(I)I"⟩ : MethodName) ∈ az_TB := az_tb (i := 1244) (by decide +kernel) (by decide +kernel)
theorem tb1245 : Cond.code (⟨"TreadRingModel", "sizeFor", "(I)I"⟩ : MethodName) prog_9_method_15_code 1 (Option.some .int) ∈ az_TB := az_tb (i := 1245) (by decide +kernel) (by decide +kernel)
theorem ml_RX7_210 : az_MS RX7 210 yX7_sizeFor cX7_sizeFor 1 (Option.some .int) 1 := ⟨tb1243, tb1244, tb133, tb1245, ⟨by decide +kernel, by decide +kernel, by decide +kernel⟩⟩
theorem tb1246 : Cond.methodLink "TreadRingModel" 213 (⟨"TreadRingModel", "find", "(I)Z"⟩ : MethodName) ∈ az_TB := az_tb (i := 1246) (by decide +kernel) (by decide +kernel)
theorem tb1248 : Cond.instanceMethod (⟨"TreadRingModel", "find", "(I)Z"⟩ : MethodName) ∈ az_TB := az_tb (i := 1248) (by decide +kernel) (by decide +kernel)
theorem tb66 : Cond.selects "TreadRingModel" (⟨"TreadRingModel", "find", "(I)Z"⟩ : MethodName) (⟨"TreadRingModel", "find", "(I)Z"⟩ : MethodName) ∈ az_TB := az_tb (i := 66) (by decide +kernel) (by decide +kernel)
theorem tb1249 : Cond.code (⟨"TreadRingModel", "find", "(I)Z"⟩ : MethodName) prog_9_method_43_code 2 (Option.some .boolean) ∈ az_TB := az_tb (i := 1249) (by decide +kernel) (by decide +kernel)
theorem ml_RX7_213 : az_MV RX7 213 yX7_find cX7_find 2 (Option.some .boolean) 1 := ⟨Or.inl tb1246, tb1248, tb66, tb133, tb1249, ⟨by decide +kernel, by decide +kernel, by decide +kernel⟩⟩
theorem tb1250 : Cond.methodLink "TreadRingModel" 201 (⟨"TreadRingModel", "look", "(I)Z"⟩ : MethodName) ∈ az_TB := az_tb (i := 1250) (by decide +kernel) (by decide +kernel)
theorem tb1252 : Cond.instanceMethod (⟨"TreadRingModel", "look", "(I)Z"⟩ : MethodName) ∈ az_TB := az_tb (i := 1252) (by decide +kernel) (by decide +kernel)
theorem tb67 : Cond.selects "TreadRingModel" (⟨"TreadRingModel", "look", "(I)Z"⟩ : MethodName) (⟨"TreadRingModel", "look", "(I)Z"⟩ : MethodName) ∈ az_TB := az_tb (i := 67) (by decide +kernel) (by decide +kernel)
theorem tb1253 : Cond.code (⟨"TreadRingModel", "look", "(I)Z"⟩ : MethodName) prog_9_method_42_code 3 (Option.some .boolean) ∈ az_TB := az_tb (i := 1253) (by decide +kernel) (by decide +kernel)
theorem ml_RX7_201 : az_MV RX7 201 yX7_look cX7_look 3 (Option.some .boolean) 1 := ⟨Or.inl tb1250, tb1252, tb67, tb133, tb1253, ⟨by decide +kernel, by decide +kernel, by decide +kernel⟩⟩
theorem tb1254 : Cond.methodLink "TreadRingModel" 192 (⟨"TreadRingModel", "takePage", "(II)V"⟩ : MethodName) ∈ az_TB := az_tb (i := 1254) (by decide +kernel) (by decide +kernel)
theorem tb1256 : Cond.instanceMethod (⟨"TreadRingModel", "takePage", "(II)V"⟩ : MethodName) ∈ az_TB := az_tb (i := 1256) (by decide +kernel) (by decide +kernel)
theorem tb68 : Cond.selects "TreadRingModel" (⟨"TreadRingModel", "takePage", "(II)V"⟩ : MethodName) (⟨"TreadRingModel", "takePage", "(II)V"⟩ : MethodName) ∈ az_TB := az_tb (i := 68) (by decide +kernel) (by decide +kernel)
theorem tb1257 : Cond.code (⟨"TreadRingModel", "takePage", "(II)V"⟩ : MethodName) prog_9_method_41_code 5 (Option.none : Option Jvm.ClassFile.FieldType) ∈ az_TB := az_tb (i := 1257) (by decide +kernel) (by decide +kernel)
theorem ml_RX7_192 : az_MV RX7 192 yX7_takePage cX7_takePage 5 (Option.none : Option Jvm.ClassFile.FieldType) 2 := ⟨Or.inl tb1254, tb1256, tb68, tb133, tb1257, ⟨by decide +kernel, by decide +kernel, by decide +kernel⟩⟩
theorem tb1258 : Cond.methodLink "TreadRingModel" 195 (⟨"TreadRingModel", "isPageFree", "(I)Z"⟩ : MethodName) ∈ az_TB := az_tb (i := 1258) (by decide +kernel) (by decide +kernel)
theorem tb1260 : Cond.instanceMethod (⟨"TreadRingModel", "isPageFree", "(I)Z"⟩ : MethodName) ∈ az_TB := az_tb (i := 1260) (by decide +kernel) (by decide +kernel)
theorem tb69 : Cond.selects "TreadRingModel" (⟨"TreadRingModel", "isPageFree", "(I)Z"⟩ : MethodName) (⟨"TreadRingModel", "isPageFree", "(I)Z"⟩ : MethodName) ∈ az_TB := az_tb (i := 69) (by decide +kernel) (by decide +kernel)
theorem tb1261 : Cond.code (⟨"TreadRingModel", "isPageFree", "(I)Z"⟩ : MethodName) prog_9_method_39_code 4 (Option.some .boolean) ∈ az_TB := az_tb (i := 1261) (by decide +kernel) (by decide +kernel)
theorem ml_RX7_195 : az_MV RX7 195 yX7_isPageFree cX7_isPageFree 4 (Option.some .boolean) 1 := ⟨Or.inl tb1258, tb1260, tb69, tb133, tb1261, ⟨by decide +kernel, by decide +kernel, by decide +kernel⟩⟩
theorem tb1262 : Cond.methodLink "TreadRingModel" 198 (⟨"TreadRingModel", "giveUp", "(I)V"⟩ : MethodName) ∈ az_TB := az_tb (i := 1262) (by decide +kernel) (by decide +kernel)
theorem tb1264 : Cond.instanceMethod (⟨"TreadRingModel", "giveUp", "(I)V"⟩ : MethodName) ∈ az_TB := az_tb (i := 1264) (by decide +kernel) (by decide +kernel)
theorem tb70 : Cond.selects "TreadRingModel" (⟨"TreadRingModel", "giveUp", "(I)V"⟩ : MethodName) (⟨"TreadRingModel", "giveUp", "(I)V"⟩ : MethodName) ∈ az_TB := az_tb (i := 70) (by decide +kernel) (by decide +kernel)
theorem tb1265 : Cond.code (⟨"TreadRingModel", "giveUp", "(I)V"⟩ : MethodName) prog_9_method_40_code 4 (Option.none : Option Jvm.ClassFile.FieldType) ∈ az_TB := az_tb (i := 1265) (by decide +kernel) (by decide +kernel)
theorem ml_RX7_198 : az_MV RX7 198 yX7_giveUp cX7_giveUp 4 (Option.none : Option Jvm.ClassFile.FieldType) 1 := ⟨Or.inl tb1262, tb1264, tb70, tb133, tb1265, ⟨by decide +kernel, by decide +kernel, by decide +kernel⟩⟩
theorem tb1266 : Cond.methodLink "TreadRingModel" 204 (⟨"TreadRingModel", "force", "()V"⟩ : MethodName) ∈ az_TB := az_tb (i := 1266) (by decide +kernel) (by decide +kernel)
theorem tb1268 : Cond.instanceMethod (⟨"TreadRingModel", "force", "()V"⟩ : MethodName) ∈ az_TB := az_tb (i := 1268) (by decide +kernel) (by decide +kernel)
theorem tb71 : Cond.selects "TreadRingModel" (⟨"TreadRingModel", "force", "()V"⟩ : MethodName) (⟨"TreadRingModel", "force", "()V"⟩ : MethodName) ∈ az_TB := az_tb (i := 71) (by decide +kernel) (by decide +kernel)
theorem tb1269 : Cond.code (⟨"TreadRingModel", "force", "()V"⟩ : MethodName) prog_9_method_38_code 1 (Option.none : Option Jvm.ClassFile.FieldType) ∈ az_TB := az_tb (i := 1269) (by decide +kernel) (by decide +kernel)
theorem ml_RX7_204 : az_MV RX7 204 yX7_force cX7_force 1 (Option.none : Option Jvm.ClassFile.FieldType) 0 := ⟨Or.inl tb1266, tb1268, tb71, tb133, tb1269, ⟨by decide +kernel, by decide +kernel, by decide +kernel⟩⟩
theorem tb1271 : Cond.methodLink "TreadRingModel" 207 (⟨"TreadRingModel", "goStart", "()V"⟩ : MethodName) ∈ az_TB := az_tb (i := 1271) (by decide +kernel) (by decide +kernel)
theorem tb1273 : Cond.instanceMethod (⟨"TreadRingModel", "goStart", "()V"⟩ : MethodName) ∈ az_TB := az_tb (i := 1273) (by decide +kernel) (by decide +kernel)
theorem tb72 : Cond.selects "TreadRingModel" (⟨"TreadRingModel", "goStart", "()V"⟩ : MethodName) (⟨"TreadRingModel", "goStart", "()V"⟩ : MethodName) ∈ az_TB := az_tb (i := 72) (by decide +kernel) (by decide +kernel)
theorem tb1274 : Cond.code (⟨"TreadRingModel", "goStart", "()V"⟩ : MethodName) prog_9_method_28_code 1 (Option.none : Option Jvm.ClassFile.FieldType) ∈ az_TB := az_tb (i := 1274) (by decide +kernel) (by decide +kernel)
theorem ml_RX7_207 : az_MV RX7 207 yX7_goStart cX7_goStart 1 (Option.none : Option Jvm.ClassFile.FieldType) 0 := ⟨Or.inl tb1271, tb1273, tb72, tb133, tb1274, ⟨by decide +kernel, by decide +kernel, by decide +kernel⟩⟩
theorem tb1275 : Cond.methodLink "TreadRingLaw" 27 (⟨"TreadRingModel", "load", "(III)I"⟩ : MethodName) ∈ az_TB := az_tb (i := 1275) (by decide +kernel) (by decide +kernel)
theorem tb1276 : Cond.instanceMethod (⟨"TreadRingModel", "load", "(III)I"⟩ : MethodName) ∈ az_TB := az_tb (i := 1276) (by decide +kernel) (by decide +kernel)
theorem tb1277 : Cond.selects "TreadRingModel" (⟨"TreadRingModel", "load", "(III)I"⟩ : MethodName) (⟨"TreadRingModel", "load", "(III)I"⟩ : MethodName) ∈ az_TB := az_tb (i := 1277) (by decide +kernel) (by decide +kernel)
theorem tb1278 : Cond.code (⟨"TreadRingModel", "load", "(III)I"⟩ : MethodName) prog_9_method_48_code 4 (Option.some .int) ∈ az_TB := az_tb (i := 1278) (by decide +kernel) (by decide +kernel)
theorem ml_RL_27 : az_MV RL 27 yX7_load cX7_load 4 (Option.some .int) 3 := ⟨Or.inl tb1275, tb1276, tb1277, tb133, tb1278, ⟨by decide +kernel, by decide +kernel, by decide +kernel⟩⟩
theorem tb1279 : Cond.methodLink "TreadRingModel" 228 (⟨"TreadRingModel", "canLoad", "(III)Z"⟩ : MethodName) ∈ az_TB := az_tb (i := 1279) (by decide +kernel) (by decide +kernel)
theorem tb1281 : Cond.instanceMethod (⟨"TreadRingModel", "canLoad", "(III)Z"⟩ : MethodName) ∈ az_TB := az_tb (i := 1281) (by decide +kernel) (by decide +kernel)
theorem tb73 : Cond.selects "TreadRingModel" (⟨"TreadRingModel", "canLoad", "(III)Z"⟩ : MethodName) (⟨"TreadRingModel", "canLoad", "(III)Z"⟩ : MethodName) ∈ az_TB := az_tb (i := 73) (by decide +kernel) (by decide +kernel)
theorem tb1282 : Cond.code (⟨"TreadRingModel", "canLoad", "(III)Z"⟩ : MethodName) prog_9_method_46_code 4 (Option.some .boolean) ∈ az_TB := az_tb (i := 1282) (by decide +kernel) (by decide +kernel)
theorem ml_RX7_228 : az_MV RX7 228 yX7_canLoad cX7_canLoad 4 (Option.some .boolean) 3 := ⟨Or.inl tb1279, tb1281, tb73, tb133, tb1282, ⟨by decide +kernel, by decide +kernel, by decide +kernel⟩⟩
theorem tb1283 : Cond.methodLink "TreadRingModel" 225 (⟨"TreadRingModel", "hasField", "(II)Z"⟩ : MethodName) ∈ az_TB := az_tb (i := 1283) (by decide +kernel) (by decide +kernel)
theorem tb1285 : Cond.instanceMethod (⟨"TreadRingModel", "hasField", "(II)Z"⟩ : MethodName) ∈ az_TB := az_tb (i := 1285) (by decide +kernel) (by decide +kernel)
theorem tb74 : Cond.selects "TreadRingModel" (⟨"TreadRingModel", "hasField", "(II)Z"⟩ : MethodName) (⟨"TreadRingModel", "hasField", "(II)Z"⟩ : MethodName) ∈ az_TB := az_tb (i := 74) (by decide +kernel) (by decide +kernel)
theorem tb1286 : Cond.code (⟨"TreadRingModel", "hasField", "(II)Z"⟩ : MethodName) prog_9_method_11_code 3 (Option.some .boolean) ∈ az_TB := az_tb (i := 1286) (by decide +kernel) (by decide +kernel)
theorem ml_RX7_225 : az_MV RX7 225 yX7_hasField cX7_hasField 3 (Option.some .boolean) 2 := ⟨Or.inl tb1283, tb1285, tb74, tb133, tb1286, ⟨by decide +kernel, by decide +kernel, by decide +kernel⟩⟩
theorem tb1287 : Cond.methodLink "TreadRingModel" 231 (⟨"TreadRingModel", "goLoad", "(III)I"⟩ : MethodName) ∈ az_TB := az_tb (i := 1287) (by decide +kernel) (by decide +kernel)
theorem tb1289 : Cond.instanceMethod (⟨"TreadRingModel", "goLoad", "(III)I"⟩ : MethodName) ∈ az_TB := az_tb (i := 1289) (by decide +kernel) (by decide +kernel)
theorem tb75 : Cond.selects "TreadRingModel" (⟨"TreadRingModel", "goLoad", "(III)I"⟩ : MethodName) (⟨"TreadRingModel", "goLoad", "(III)I"⟩ : MethodName) ∈ az_TB := az_tb (i := 75) (by decide +kernel) (by decide +kernel)
theorem tb1290 : Cond.code (⟨"TreadRingModel", "goLoad", "(III)I"⟩ : MethodName) prog_9_method_47_code 5 (Option.some .int) ∈ az_TB := az_tb (i := 1290) (by decide +kernel) (by decide +kernel)
theorem ml_RX7_231 : az_MV RX7 231 yX7_goLoad cX7_goLoad 5 (Option.some .int) 3 := ⟨Or.inl tb1287, tb1289, tb75, tb133, tb1290, ⟨by decide +kernel, by decide +kernel, by decide +kernel⟩⟩
theorem tb1291 : Cond.methodLink "TreadRingLaw" 32 (⟨"TreadRingModel", "store", "(III)Z"⟩ : MethodName) ∈ az_TB := az_tb (i := 1291) (by decide +kernel) (by decide +kernel)
theorem tb1292 : Cond.instanceMethod (⟨"TreadRingModel", "store", "(III)Z"⟩ : MethodName) ∈ az_TB := az_tb (i := 1292) (by decide +kernel) (by decide +kernel)
theorem tb1293 : Cond.selects "TreadRingModel" (⟨"TreadRingModel", "store", "(III)Z"⟩ : MethodName) (⟨"TreadRingModel", "store", "(III)Z"⟩ : MethodName) ∈ az_TB := az_tb (i := 1293) (by decide +kernel) (by decide +kernel)
theorem tb1294 : Cond.code (⟨"TreadRingModel", "store", "(III)Z"⟩ : MethodName) prog_9_method_53_code 4 (Option.some .boolean) ∈ az_TB := az_tb (i := 1294) (by decide +kernel) (by decide +kernel)
theorem ml_RL_32 : az_MV RL 32 yX7_store cX7_store 4 (Option.some .boolean) 3 := ⟨Or.inl tb1291, tb1292, tb1293, tb133, tb1294, ⟨by decide +kernel, by decide +kernel, by decide +kernel⟩⟩
theorem tb1295 : Cond.methodLink "TreadRingModel" 241 (⟨"TreadRingModel", "canStore", "(III)Z"⟩ : MethodName) ∈ az_TB := az_tb (i := 1295) (by decide +kernel) (by decide +kernel)
theorem tb1297 : Cond.instanceMethod (⟨"TreadRingModel", "canStore", "(III)Z"⟩ : MethodName) ∈ az_TB := az_tb (i := 1297) (by decide +kernel) (by decide +kernel)
theorem tb76 : Cond.selects "TreadRingModel" (⟨"TreadRingModel", "canStore", "(III)Z"⟩ : MethodName) (⟨"TreadRingModel", "canStore", "(III)Z"⟩ : MethodName) ∈ az_TB := az_tb (i := 76) (by decide +kernel) (by decide +kernel)
theorem tb1298 : Cond.code (⟨"TreadRingModel", "canStore", "(III)Z"⟩ : MethodName) prog_9_method_51_code 4 (Option.some .boolean) ∈ az_TB := az_tb (i := 1298) (by decide +kernel) (by decide +kernel)
theorem ml_RX7_241 : az_MV RX7 241 yX7_canStore cX7_canStore 4 (Option.some .boolean) 3 := ⟨Or.inl tb1295, tb1297, tb76, tb133, tb1298, ⟨by decide +kernel, by decide +kernel, by decide +kernel⟩⟩
theorem tb1299 : Cond.methodLink "TreadRingModel" 235 (⟨"TreadRingModel", "isRootOrNone", "(I)Z"⟩ : MethodName) ∈ az_TB := az_tb (i := 1299) (by decide +kernel) (by decide +kernel)
theorem tb1300 : Cond.static (⟨"TreadRingModel", "isRootOrNone", "(I)Z"⟩ : MethodName) ∈ az_TB := az_tb (i := 1300) (by decide +kernel) (by decide +kernel)
theorem tb1301 : Cond.code (⟨"TreadRingModel", "isRootOrNone", "(I)Z"⟩ : MethodName) prog_9_method_50_code 1 (Option.some .boolean) ∈ az_TB := az_tb (i := 1301) (by decide +kernel) (by decide +kernel)
theorem ml_RX7_235 : az_MS RX7 235 yX7_isRootOrNone cX7_isRootOrNone 1 (Option.some .boolean) 1 := ⟨tb1299, tb1300, tb133, tb1301, ⟨by decide +kernel, by decide +kernel, by decide +kernel⟩⟩
theorem tb1302 : Cond.methodLink "TreadRingModel" 244 (⟨"TreadRingModel", "goStore", "(III)V"⟩ : MethodName) ∈ az_TB := az_tb (i := 1302) (by decide +kernel) (by decide +kernel)
theorem tb1304 : Cond.instanceMethod (⟨"TreadRingModel", "goStore", "(III)V"⟩ : MethodName) ∈ az_TB := az_tb (i := 1304) (by decide +kernel) (by decide +kernel)
theorem tb77 : Cond.selects "TreadRingModel" (⟨"TreadRingModel", "goStore", "(III)V"⟩ : MethodName) (⟨"TreadRingModel", "goStore", "(III)V"⟩ : MethodName) ∈ az_TB := az_tb (i := 77) (by decide +kernel) (by decide +kernel)
theorem tb1305 : Cond.code (⟨"TreadRingModel", "goStore", "(III)V"⟩ : MethodName) prog_9_method_52_code 6 (Option.none : Option Jvm.ClassFile.FieldType) ∈ az_TB := az_tb (i := 1305) (by decide +kernel) (by decide +kernel)
theorem ml_RX7_244 : az_MV RX7 244 yX7_goStore cX7_goStore 6 (Option.none : Option Jvm.ClassFile.FieldType) 3 := ⟨Or.inl tb1302, tb1304, tb77, tb133, tb1305, ⟨by decide +kernel, by decide +kernel, by decide +kernel⟩⟩
theorem tb1306 : Cond.methodLink "TreadRingModel" 238 (⟨"TreadRingModel", "named", "(I)I"⟩ : MethodName) ∈ az_TB := az_tb (i := 1306) (by decide +kernel) (by decide +kernel)
theorem tb1308 : Cond.instanceMethod (⟨"TreadRingModel", "named", "(I)I"⟩ : MethodName) ∈ az_TB := az_tb (i := 1308) (by decide +kernel) (by decide +kernel)
theorem tb78 : Cond.selects "TreadRingModel" (⟨"TreadRingModel", "named", "(I)I"⟩ : MethodName) (⟨"TreadRingModel", "named", "(I)I"⟩ : MethodName) ∈ az_TB := az_tb (i := 78) (by decide +kernel) (by decide +kernel)
theorem tb1309 : Cond.code (⟨"TreadRingModel", "named", "(I)I"⟩ : MethodName) prog_9_method_49_code 2 (Option.some .int) ∈ az_TB := az_tb (i := 1309) (by decide +kernel) (by decide +kernel)
theorem ml_RX7_238 : az_MV RX7 238 yX7_named cX7_named 2 (Option.some .int) 1 := ⟨Or.inl tb1306, tb1308, tb78, tb133, tb1309, ⟨by decide +kernel, by decide +kernel, by decide +kernel⟩⟩
theorem tb1310 : Cond.methodLink "TreadRingLaw" 37 (⟨"TreadRingModel", "copy", "(II)Z"⟩ : MethodName) ∈ az_TB := az_tb (i := 1310) (by decide +kernel) (by decide +kernel)
theorem tb1311 : Cond.instanceMethod (⟨"TreadRingModel", "copy", "(II)Z"⟩ : MethodName) ∈ az_TB := az_tb (i := 1311) (by decide +kernel) (by decide +kernel)
theorem tb1312 : Cond.selects "TreadRingModel" (⟨"TreadRingModel", "copy", "(II)Z"⟩ : MethodName) (⟨"TreadRingModel", "copy", "(II)Z"⟩ : MethodName) ∈ az_TB := az_tb (i := 1312) (by decide +kernel) (by decide +kernel)
theorem tb1313 : Cond.code (⟨"TreadRingModel", "copy", "(II)Z"⟩ : MethodName) prog_9_method_54_code 3 (Option.some .boolean) ∈ az_TB := az_tb (i := 1313) (by decide +kernel) (by decide +kernel)
theorem ml_RL_37 : az_MV RL 37 yX7_copy cX7_copy 3 (Option.some .boolean) 2 := ⟨Or.inl tb1310, tb1311, tb1312, tb133, tb1313, ⟨by decide +kernel, by decide +kernel, by decide +kernel⟩⟩
theorem tb1314 : Cond.methodLink "TreadRingLaw" 41 (⟨"TreadRingModel", "weak", "(II)Z"⟩ : MethodName) ∈ az_TB := az_tb (i := 1314) (by decide +kernel) (by decide +kernel)
theorem tb1315 : Cond.instanceMethod (⟨"TreadRingModel", "weak", "(II)Z"⟩ : MethodName) ∈ az_TB := az_tb (i := 1315) (by decide +kernel) (by decide +kernel)
theorem tb1316 : Cond.selects "TreadRingModel" (⟨"TreadRingModel", "weak", "(II)Z"⟩ : MethodName) (⟨"TreadRingModel", "weak", "(II)Z"⟩ : MethodName) ∈ az_TB := az_tb (i := 1316) (by decide +kernel) (by decide +kernel)
theorem tb1317 : Cond.code (⟨"TreadRingModel", "weak", "(II)Z"⟩ : MethodName) prog_9_method_55_code 3 (Option.some .boolean) ∈ az_TB := az_tb (i := 1317) (by decide +kernel) (by decide +kernel)
theorem ml_RL_41 : az_MV RL 41 yX7_weak cX7_weak 3 (Option.some .boolean) 2 := ⟨Or.inl tb1314, tb1315, tb1316, tb133, tb1317, ⟨by decide +kernel, by decide +kernel, by decide +kernel⟩⟩
theorem tb1318 : Cond.methodLink "TreadRingModel" 247 (⟨"TreadRingModel", "isWeak", "(I)Z"⟩ : MethodName) ∈ az_TB := az_tb (i := 1318) (by decide +kernel) (by decide +kernel)
theorem tb1319 : Cond.static (⟨"TreadRingModel", "isWeak", "(I)Z"⟩ : MethodName) ∈ az_TB := az_tb (i := 1319) (by decide +kernel) (by decide +kernel)
theorem tb1320 : Cond.code (⟨"TreadRingModel", "isWeak", "(I)Z"⟩ : MethodName) prog_9_method_5_code 1 (Option.some .boolean) ∈ az_TB := az_tb (i := 1320) (by decide +kernel) (by decide +kernel)
theorem ml_RX7_247 : az_MS RX7 247 yX7_isWeak cX7_isWeak 1 (Option.some .boolean) 1 := ⟨tb1318, tb1319, tb133, tb1320, ⟨by decide +kernel, by decide +kernel, by decide +kernel⟩⟩
theorem tb1321 : Cond.methodLink "TreadRingLaw" 45 (⟨"TreadRingModel", "strong", "(II)I"⟩ : MethodName) ∈ az_TB := az_tb (i := 1321) (by decide +kernel) (by decide +kernel)
theorem tb1322 : Cond.instanceMethod (⟨"TreadRingModel", "strong", "(II)I"⟩ : MethodName) ∈ az_TB := az_tb (i := 1322) (by decide +kernel) (by decide +kernel)
theorem tb1323 : Cond.selects "TreadRingModel" (⟨"TreadRingModel", "strong", "(II)I"⟩ : MethodName) (⟨"TreadRingModel", "strong", "(II)I"⟩ : MethodName) ∈ az_TB := az_tb (i := 1323) (by decide +kernel) (by decide +kernel)
theorem tb1324 : Cond.code (⟨"TreadRingModel", "strong", "(II)I"⟩ : MethodName) prog_9_method_56_code 4 (Option.some .int) ∈ az_TB := az_tb (i := 1324) (by decide +kernel) (by decide +kernel)
theorem ml_RL_45 : az_MV RL 45 yX7_strong cX7_strong 4 (Option.some .int) 2 := ⟨Or.inl tb1321, tb1322, tb1323, tb133, tb1324, ⟨by decide +kernel, by decide +kernel, by decide +kernel⟩⟩
theorem tb1325 : Cond.methodLink "TreadRingLaw" 50 (⟨"TreadRingModel", "start", "()Z"⟩ : MethodName) ∈ az_TB := az_tb (i := 1325) (by decide +kernel) (by decide +kernel)
theorem tb1326 : Cond.instanceMethod (⟨"TreadRingModel", "start", "()Z"⟩ : MethodName) ∈ az_TB := az_tb (i := 1326) (by decide +kernel) (by decide +kernel)
theorem tb1327 : Cond.selects "TreadRingModel" (⟨"TreadRingModel", "start", "()Z"⟩ : MethodName) (⟨"TreadRingModel", "start", "()Z"⟩ : MethodName) ∈ az_TB := az_tb (i := 1327) (by decide +kernel) (by decide +kernel)
theorem tb1328 : Cond.code (⟨"TreadRingModel", "start", "()Z"⟩ : MethodName) prog_9_method_57_code 1 (Option.some .boolean) ∈ az_TB := az_tb (i := 1328) (by decide +kernel) (by decide +kernel)
theorem ml_RL_50 : az_MV RL 50 yX7_start cX7_start 1 (Option.some .boolean) 0 := ⟨Or.inl tb1325, tb1326, tb1327, tb133, tb1328, ⟨by decide +kernel, by decide +kernel, by decide +kernel⟩⟩
theorem tb1329 : Cond.methodLink "TreadRingLaw" 55 (⟨"TreadRingModel", "work", "(I)I"⟩ : MethodName) ∈ az_TB := az_tb (i := 1329) (by decide +kernel) (by decide +kernel)
theorem tb1330 : Cond.instanceMethod (⟨"TreadRingModel", "work", "(I)I"⟩ : MethodName) ∈ az_TB := az_tb (i := 1330) (by decide +kernel) (by decide +kernel)
theorem tb1331 : Cond.selects "TreadRingModel" (⟨"TreadRingModel", "work", "(I)I"⟩ : MethodName) (⟨"TreadRingModel", "work", "(I)I"⟩ : MethodName) ∈ az_TB := az_tb (i := 1331) (by decide +kernel) (by decide +kernel)
theorem tb1332 : Cond.code (⟨"TreadRingModel", "work", "(I)I"⟩ : MethodName) prog_9_method_58_code 2 (Option.some .int) ∈ az_TB := az_tb (i := 1332) (by decide +kernel) (by decide +kernel)
theorem ml_RL_55 : az_MV RL 55 yX7_work cX7_work 2 (Option.some .int) 1 := ⟨Or.inl tb1329, tb1330, tb1331, tb133, tb1332, ⟨by decide +kernel, by decide +kernel, by decide +kernel⟩⟩
theorem tb1333 : Cond.methodLink "TreadRingLaw" 59 (⟨"TreadRingModel", "turn", "(II)I"⟩ : MethodName) ∈ az_TB := az_tb (i := 1333) (by decide +kernel) (by decide +kernel)
theorem tb1334 : Cond.instanceMethod (⟨"TreadRingModel", "turn", "(II)I"⟩ : MethodName) ∈ az_TB := az_tb (i := 1334) (by decide +kernel) (by decide +kernel)
theorem tb1335 : Cond.selects "TreadRingModel" (⟨"TreadRingModel", "turn", "(II)I"⟩ : MethodName) (⟨"TreadRingModel", "turn", "(II)I"⟩ : MethodName) ∈ az_TB := az_tb (i := 1335) (by decide +kernel) (by decide +kernel)
theorem tb1336 : Cond.code (⟨"TreadRingModel", "turn", "(II)I"⟩ : MethodName) prog_9_method_59_code 4 (Option.some .int) ∈ az_TB := az_tb (i := 1336) (by decide +kernel) (by decide +kernel)
theorem ml_RL_59 : az_MV RL 59 yX7_turn cX7_turn 4 (Option.some .int) 2 := ⟨Or.inl tb1333, tb1334, tb1335, tb133, tb1336, ⟨by decide +kernel, by decide +kernel, by decide +kernel⟩⟩
theorem tb1337 : Cond.methodLink "TreadRingLaw" 17 (⟨"TreadRingModel", "open", "(I)Z"⟩ : MethodName) ∈ az_TB := az_tb (i := 1337) (by decide +kernel) (by decide +kernel)
theorem tb1338 : Cond.instanceMethod (⟨"TreadRingModel", "open", "(I)Z"⟩ : MethodName) ∈ az_TB := az_tb (i := 1338) (by decide +kernel) (by decide +kernel)
theorem tb1339 : Cond.selects "TreadRingModel" (⟨"TreadRingModel", "open", "(I)Z"⟩ : MethodName) (⟨"TreadRingModel", "open", "(I)Z"⟩ : MethodName) ∈ az_TB := az_tb (i := 1339) (by decide +kernel) (by decide +kernel)
theorem tb1340 : Cond.code (⟨"TreadRingModel", "open", "(I)Z"⟩ : MethodName) prog_9_method_60_code 2 (Option.some .boolean) ∈ az_TB := az_tb (i := 1340) (by decide +kernel) (by decide +kernel)
theorem ml_RL_17 : az_MV RL 17 yX7_open cX7_open 2 (Option.some .boolean) 1 := ⟨Or.inl tb1337, tb1338, tb1339, tb133, tb1340, ⟨by decide +kernel, by decide +kernel, by decide +kernel⟩⟩
theorem tb1341 : Cond.methodLink "TreadRingLaw" 153 (⟨"TreadRingModel", "path", "(II)I"⟩ : MethodName) ∈ az_TB := az_tb (i := 1341) (by decide +kernel) (by decide +kernel)
theorem tb1342 : Cond.instanceMethod (⟨"TreadRingModel", "path", "(II)I"⟩ : MethodName) ∈ az_TB := az_tb (i := 1342) (by decide +kernel) (by decide +kernel)
theorem tb1343 : Cond.selects "TreadRingModel" (⟨"TreadRingModel", "path", "(II)I"⟩ : MethodName) (⟨"TreadRingModel", "path", "(II)I"⟩ : MethodName) ∈ az_TB := az_tb (i := 1343) (by decide +kernel) (by decide +kernel)
theorem tb1344 : Cond.code (⟨"TreadRingModel", "path", "(II)I"⟩ : MethodName) prog_9_method_65_code 3 (Option.some .int) ∈ az_TB := az_tb (i := 1344) (by decide +kernel) (by decide +kernel)
theorem ml_RL_153 : az_MV RL 153 yX7_path cX7_path 3 (Option.some .int) 2 := ⟨Or.inl tb1341, tb1342, tb1343, tb133, tb1344, ⟨by decide +kernel, by decide +kernel, by decide +kernel⟩⟩
theorem tb1345 : Cond.methodLink "TreadRingModel" 262 (⟨"TreadRingModel", "clearReached", "()V"⟩ : MethodName) ∈ az_TB := az_tb (i := 1345) (by decide +kernel) (by decide +kernel)
theorem tb1347 : Cond.instanceMethod (⟨"TreadRingModel", "clearReached", "()V"⟩ : MethodName) ∈ az_TB := az_tb (i := 1347) (by decide +kernel) (by decide +kernel)
theorem tb79 : Cond.selects "TreadRingModel" (⟨"TreadRingModel", "clearReached", "()V"⟩ : MethodName) (⟨"TreadRingModel", "clearReached", "()V"⟩ : MethodName) ∈ az_TB := az_tb (i := 79) (by decide +kernel) (by decide +kernel)
theorem tb1348 : Cond.code (⟨"TreadRingModel", "clearReached", "()V"⟩ : MethodName) prog_9_method_62_code 2 (Option.none : Option Jvm.ClassFile.FieldType) ∈ az_TB := az_tb (i := 1348) (by decide +kernel) (by decide +kernel)
theorem ml_RX7_262 : az_MV RX7 262 yX7_clearReached cX7_clearReached 2 (Option.none : Option Jvm.ClassFile.FieldType) 0 := ⟨Or.inl tb1345, tb1347, tb79, tb133, tb1348, ⟨by decide +kernel, by decide +kernel, by decide +kernel⟩⟩
theorem tb1349 : Cond.methodLink "TreadRingModel" 259 (⟨"TreadRingModel", "meet", "(III)V"⟩ : MethodName) ∈ az_TB := az_tb (i := 1349) (by decide +kernel) (by decide +kernel)
theorem tb1351 : Cond.instanceMethod (⟨"TreadRingModel", "meet", "(III)V"⟩ : MethodName) ∈ az_TB := az_tb (i := 1351) (by decide +kernel) (by decide +kernel)
theorem tb80 : Cond.selects "TreadRingModel" (⟨"TreadRingModel", "meet", "(III)V"⟩ : MethodName) (⟨"TreadRingModel", "meet", "(III)V"⟩ : MethodName) ∈ az_TB := az_tb (i := 80) (by decide +kernel) (by decide +kernel)
theorem tb1352 : Cond.code (⟨"TreadRingModel", "meet", "(III)V"⟩ : MethodName) prog_9_method_61_code 4 (Option.none : Option Jvm.ClassFile.FieldType) ∈ az_TB := az_tb (i := 1352) (by decide +kernel) (by decide +kernel)
theorem ml_RX7_259 : az_MV RX7 259 yX7_meet cX7_meet 4 (Option.none : Option Jvm.ClassFile.FieldType) 3 := ⟨Or.inl tb1349, tb1351, tb80, tb133, tb1352, ⟨by decide +kernel, by decide +kernel, by decide +kernel⟩⟩
theorem tb1353 : Cond.methodLink "TreadRingModel" 265 (⟨"TreadRingModel", "follow", "(I)V"⟩ : MethodName) ∈ az_TB := az_tb (i := 1353) (by decide +kernel) (by decide +kernel)
theorem tb1355 : Cond.instanceMethod (⟨"TreadRingModel", "follow", "(I)V"⟩ : MethodName) ∈ az_TB := az_tb (i := 1355) (by decide +kernel) (by decide +kernel)
theorem tb81 : Cond.selects "TreadRingModel" (⟨"TreadRingModel", "follow", "(I)V"⟩ : MethodName) (⟨"TreadRingModel", "follow", "(I)V"⟩ : MethodName) ∈ az_TB := az_tb (i := 81) (by decide +kernel) (by decide +kernel)
theorem tb1356 : Cond.code (⟨"TreadRingModel", "follow", "(I)V"⟩ : MethodName) prog_9_method_63_code 5 (Option.none : Option Jvm.ClassFile.FieldType) ∈ az_TB := az_tb (i := 1356) (by decide +kernel) (by decide +kernel)
theorem ml_RX7_265 : az_MV RX7 265 yX7_follow cX7_follow 5 (Option.none : Option Jvm.ClassFile.FieldType) 1 := ⟨Or.inl tb1353, tb1355, tb81, tb133, tb1356, ⟨by decide +kernel, by decide +kernel, by decide +kernel⟩⟩
theorem tb1357 : Cond.methodLink "TreadRingLaw" 157 (⟨"TreadRingModel", "retained", "(I)I"⟩ : MethodName) ∈ az_TB := az_tb (i := 1357) (by decide +kernel) (by decide +kernel)
theorem tb1358 : Cond.instanceMethod (⟨"TreadRingModel", "retained", "(I)I"⟩ : MethodName) ∈ az_TB := az_tb (i := 1358) (by decide +kernel) (by decide +kernel)
theorem tb1359 : Cond.selects "TreadRingModel" (⟨"TreadRingModel", "retained", "(I)I"⟩ : MethodName) (⟨"TreadRingModel", "retained", "(I)I"⟩ : MethodName) ∈ az_TB := az_tb (i := 1359) (by decide +kernel) (by decide +kernel)
theorem tb1360 : Cond.code (⟨"TreadRingModel", "retained", "(I)I"⟩ : MethodName) prog_9_method_66_code 3 (Option.some .int) ∈ az_TB := az_tb (i := 1360) (by decide +kernel) (by decide +kernel)
theorem ml_RL_157 : az_MV RL 157 yX7_retained cX7_retained 3 (Option.some .int) 1 := ⟨Or.inl tb1357, tb1358, tb1359, tb133, tb1360, ⟨by decide +kernel, by decide +kernel, by decide +kernel⟩⟩
theorem tb1361 : Cond.methodLink "TreadRingModel" 268 (⟨"TreadRingModel", "reach", "(I)I"⟩ : MethodName) ∈ az_TB := az_tb (i := 1361) (by decide +kernel) (by decide +kernel)
theorem tb1363 : Cond.instanceMethod (⟨"TreadRingModel", "reach", "(I)I"⟩ : MethodName) ∈ az_TB := az_tb (i := 1363) (by decide +kernel) (by decide +kernel)
theorem tb82 : Cond.selects "TreadRingModel" (⟨"TreadRingModel", "reach", "(I)I"⟩ : MethodName) (⟨"TreadRingModel", "reach", "(I)I"⟩ : MethodName) ∈ az_TB := az_tb (i := 82) (by decide +kernel) (by decide +kernel)
theorem tb1364 : Cond.code (⟨"TreadRingModel", "reach", "(I)I"⟩ : MethodName) prog_9_method_64_code 3 (Option.some .int) ∈ az_TB := az_tb (i := 1364) (by decide +kernel) (by decide +kernel)
theorem ml_RX7_268 : az_MV RX7 268 yX7_reach cX7_reach 3 (Option.some .int) 1 := ⟨Or.inl tb1361, tb1363, tb82, tb133, tb1364, ⟨by decide +kernel, by decide +kernel, by decide +kernel⟩⟩
theorem tb1365 : Cond.methodLink "TreadRingLaw" 149 (⟨"TreadRingModel", "live", "(I)I"⟩ : MethodName) ∈ az_TB := az_tb (i := 1365) (by decide +kernel) (by decide +kernel)
theorem tb1366 : Cond.instanceMethod (⟨"TreadRingModel", "live", "(I)I"⟩ : MethodName) ∈ az_TB := az_tb (i := 1366) (by decide +kernel) (by decide +kernel)
theorem tb1367 : Cond.selects "TreadRingModel" (⟨"TreadRingModel", "live", "(I)I"⟩ : MethodName) (⟨"TreadRingModel", "live", "(I)I"⟩ : MethodName) ∈ az_TB := az_tb (i := 1367) (by decide +kernel) (by decide +kernel)
theorem tb1368 : Cond.code (⟨"TreadRingModel", "live", "(I)I"⟩ : MethodName) prog_9_method_67_code 6 (Option.some .int) ∈ az_TB := az_tb (i := 1368) (by decide +kernel) (by decide +kernel)
theorem ml_RL_149 : az_MV RL 149 yX7_live cX7_live 6 (Option.some .int) 1 := ⟨Or.inl tb1365, tb1366, tb1367, tb133, tb1368, ⟨by decide +kernel, by decide +kernel, by decide +kernel⟩⟩
theorem tb1369 : Cond.methodLink "TreadRingLaw" 105 (⟨"TreadRingModel", "root", "(I)I"⟩ : MethodName) ∈ az_TB := az_tb (i := 1369) (by decide +kernel) (by decide +kernel)
theorem tb1370 : Cond.instanceMethod (⟨"TreadRingModel", "root", "(I)I"⟩ : MethodName) ∈ az_TB := az_tb (i := 1370) (by decide +kernel) (by decide +kernel)
theorem tb1371 : Cond.selects "TreadRingModel" (⟨"TreadRingModel", "root", "(I)I"⟩ : MethodName) (⟨"TreadRingModel", "root", "(I)I"⟩ : MethodName) ∈ az_TB := az_tb (i := 1371) (by decide +kernel) (by decide +kernel)
theorem tb1372 : Cond.code (⟨"TreadRingModel", "root", "(I)I"⟩ : MethodName) prog_9_method_68_code 2 (Option.some .int) ∈ az_TB := az_tb (i := 1372) (by decide +kernel) (by decide +kernel)
theorem ml_RL_105 : az_MV RL 105 yX7_root cX7_root 2 (Option.some .int) 1 := ⟨Or.inl tb1369, tb1370, tb1371, tb133, tb1372, ⟨by decide +kernel, by decide +kernel, by decide +kernel⟩⟩
theorem tb1373 : Cond.methodLink "TreadRingLaw" 109 (⟨"TreadRingModel", "weakly", "(I)I"⟩ : MethodName) ∈ az_TB := az_tb (i := 1373) (by decide +kernel) (by decide +kernel)
theorem tb1374 : Cond.instanceMethod (⟨"TreadRingModel", "weakly", "(I)I"⟩ : MethodName) ∈ az_TB := az_tb (i := 1374) (by decide +kernel) (by decide +kernel)
theorem tb1375 : Cond.selects "TreadRingModel" (⟨"TreadRingModel", "weakly", "(I)I"⟩ : MethodName) (⟨"TreadRingModel", "weakly", "(I)I"⟩ : MethodName) ∈ az_TB := az_tb (i := 1375) (by decide +kernel) (by decide +kernel)
theorem tb1376 : Cond.code (⟨"TreadRingModel", "weakly", "(I)I"⟩ : MethodName) prog_9_method_69_code 2 (Option.some .int) ∈ az_TB := az_tb (i := 1376) (by decide +kernel) (by decide +kernel)
theorem ml_RL_109 : az_MV RL 109 yX7_weakly cX7_weakly 2 (Option.some .int) 1 := ⟨Or.inl tb1373, tb1374, tb1375, tb133, tb1376, ⟨by decide +kernel, by decide +kernel, by decide +kernel⟩⟩
theorem tb1377 : Cond.methodLink "TreadRingLaw" 113 (⟨"TreadRingModel", "told", "(II)I"⟩ : MethodName) ∈ az_TB := az_tb (i := 1377) (by decide +kernel) (by decide +kernel)
theorem tb1378 : Cond.instanceMethod (⟨"TreadRingModel", "told", "(II)I"⟩ : MethodName) ∈ az_TB := az_tb (i := 1378) (by decide +kernel) (by decide +kernel)
theorem tb1379 : Cond.selects "TreadRingModel" (⟨"TreadRingModel", "told", "(II)I"⟩ : MethodName) (⟨"TreadRingModel", "told", "(II)I"⟩ : MethodName) ∈ az_TB := az_tb (i := 1379) (by decide +kernel) (by decide +kernel)
theorem tb1380 : Cond.code (⟨"TreadRingModel", "told", "(II)I"⟩ : MethodName) prog_9_method_70_code 3 (Option.some .int) ∈ az_TB := az_tb (i := 1380) (by decide +kernel) (by decide +kernel)
theorem ml_RL_113 : az_MV RL 113 yX7_told cX7_told 3 (Option.some .int) 2 := ⟨Or.inl tb1377, tb1378, tb1379, tb133, tb1380, ⟨by decide +kernel, by decide +kernel, by decide +kernel⟩⟩
theorem tb1381 : Cond.methodLink "TreadRingLaw" 125 (⟨"TreadRingModel", "field", "(II)I"⟩ : MethodName) ∈ az_TB := az_tb (i := 1381) (by decide +kernel) (by decide +kernel)
theorem tb1382 : Cond.instanceMethod (⟨"TreadRingModel", "field", "(II)I"⟩ : MethodName) ∈ az_TB := az_tb (i := 1382) (by decide +kernel) (by decide +kernel)
theorem tb1383 : Cond.selects "TreadRingModel" (⟨"TreadRingModel", "field", "(II)I"⟩ : MethodName) (⟨"TreadRingModel", "field", "(II)I"⟩ : MethodName) ∈ az_TB := az_tb (i := 1383) (by decide +kernel) (by decide +kernel)
theorem tb1384 : Cond.code (⟨"TreadRingModel", "field", "(II)I"⟩ : MethodName) prog_9_method_71_code 3 (Option.some .int) ∈ az_TB := az_tb (i := 1384) (by decide +kernel) (by decide +kernel)
theorem ml_RL_125 : az_MV RL 125 yX7_field cX7_field 3 (Option.some .int) 2 := ⟨Or.inl tb1381, tb1382, tb1383, tb133, tb1384, ⟨by decide +kernel, by decide +kernel, by decide +kernel⟩⟩
theorem tb1385 : Cond.methodLink "TreadRingLaw" 129 (⟨"TreadRingModel", "slot", "(II)I"⟩ : MethodName) ∈ az_TB := az_tb (i := 1385) (by decide +kernel) (by decide +kernel)
theorem tb1386 : Cond.instanceMethod (⟨"TreadRingModel", "slot", "(II)I"⟩ : MethodName) ∈ az_TB := az_tb (i := 1386) (by decide +kernel) (by decide +kernel)
theorem tb1387 : Cond.selects "TreadRingModel" (⟨"TreadRingModel", "slot", "(II)I"⟩ : MethodName) (⟨"TreadRingModel", "slot", "(II)I"⟩ : MethodName) ∈ az_TB := az_tb (i := 1387) (by decide +kernel) (by decide +kernel)
theorem tb1388 : Cond.code (⟨"TreadRingModel", "slot", "(II)I"⟩ : MethodName) prog_9_method_73_code 3 (Option.some .int) ∈ az_TB := az_tb (i := 1388) (by decide +kernel) (by decide +kernel)
theorem ml_RL_129 : az_MV RL 129 yX7_slot cX7_slot 3 (Option.some .int) 2 := ⟨Or.inl tb1385, tb1386, tb1387, tb133, tb1388, ⟨by decide +kernel, by decide +kernel, by decide +kernel⟩⟩
theorem tb1389 : Cond.methodLink "TreadRingModel" 271 (⟨"TreadRingModel", "namedBy", "(I)I"⟩ : MethodName) ∈ az_TB := az_tb (i := 1389) (by decide +kernel) (by decide +kernel)
theorem tb1391 : Cond.instanceMethod (⟨"TreadRingModel", "namedBy", "(I)I"⟩ : MethodName) ∈ az_TB := az_tb (i := 1391) (by decide +kernel) (by decide +kernel)
theorem tb83 : Cond.selects "TreadRingModel" (⟨"TreadRingModel", "namedBy", "(I)I"⟩ : MethodName) (⟨"TreadRingModel", "namedBy", "(I)I"⟩ : MethodName) ∈ az_TB := az_tb (i := 83) (by decide +kernel) (by decide +kernel)
theorem tb1392 : Cond.code (⟨"TreadRingModel", "namedBy", "(I)I"⟩ : MethodName) prog_9_method_72_code 4 (Option.some .int) ∈ az_TB := az_tb (i := 1392) (by decide +kernel) (by decide +kernel)
theorem ml_RX7_271 : az_MV RX7 271 yX7_namedBy cX7_namedBy 4 (Option.some .int) 1 := ⟨Or.inl tb1389, tb1391, tb83, tb133, tb1392, ⟨by decide +kernel, by decide +kernel, by decide +kernel⟩⟩
theorem tb1393 : Cond.methodLink "TreadRingLaw" 133 (⟨"TreadRingModel", "ring", "(II)I"⟩ : MethodName) ∈ az_TB := az_tb (i := 1393) (by decide +kernel) (by decide +kernel)
theorem tb1394 : Cond.instanceMethod (⟨"TreadRingModel", "ring", "(II)I"⟩ : MethodName) ∈ az_TB := az_tb (i := 1394) (by decide +kernel) (by decide +kernel)
theorem tb1395 : Cond.selects "TreadRingModel" (⟨"TreadRingModel", "ring", "(II)I"⟩ : MethodName) (⟨"TreadRingModel", "ring", "(II)I"⟩ : MethodName) ∈ az_TB := az_tb (i := 1395) (by decide +kernel) (by decide +kernel)
theorem tb1396 : Cond.code (⟨"TreadRingModel", "ring", "(II)I"⟩ : MethodName) prog_9_method_75_code 3 (Option.some .int) ∈ az_TB := az_tb (i := 1396) (by decide +kernel) (by decide +kernel)
theorem ml_RL_133 : az_MV RL 133 yX7_ring cX7_ring 3 (Option.some .int) 2 := ⟨Or.inl tb1393, tb1394, tb1395, tb133, tb1396, ⟨by decide +kernel, by decide +kernel, by decide +kernel⟩⟩
theorem tb1397 : Cond.methodLink "TreadRingModel" 274 (⟨"TreadRingModel", "isSize", "(I)Z"⟩ : MethodName) ∈ az_TB := az_tb (i := 1397) (by decide +kernel) (by decide +kernel)
theorem tb1398 : Cond.static (⟨"TreadRingModel", "isSize", "(I)Z"⟩ : MethodName) ∈ az_TB := az_tb (i := 1398) (by decide +kernel) (by decide +kernel)
theorem tb1399 : Cond.code (⟨"TreadRingModel", "isSize", "(I)Z"⟩ : MethodName) prog_9_method_74_code 1 (Option.some .boolean) ∈ az_TB := az_tb (i := 1399) (by decide +kernel) (by decide +kernel)
theorem ml_RX7_274 : az_MS RX7 274 yX7_isSize cX7_isSize 1 (Option.some .boolean) 1 := ⟨tb1397, tb1398, tb133, tb1399, ⟨by decide +kernel, by decide +kernel, by decide +kernel⟩⟩
theorem tb1400 : Cond.methodLink "TreadRingLaw" 137 (⟨"TreadRingModel", "many", "(II)I"⟩ : MethodName) ∈ az_TB := az_tb (i := 1400) (by decide +kernel) (by decide +kernel)
theorem tb1401 : Cond.instanceMethod (⟨"TreadRingModel", "many", "(II)I"⟩ : MethodName) ∈ az_TB := az_tb (i := 1401) (by decide +kernel) (by decide +kernel)
theorem tb1402 : Cond.selects "TreadRingModel" (⟨"TreadRingModel", "many", "(II)I"⟩ : MethodName) (⟨"TreadRingModel", "many", "(II)I"⟩ : MethodName) ∈ az_TB := az_tb (i := 1402) (by decide +kernel) (by decide +kernel)
theorem tb1403 : Cond.code (⟨"TreadRingModel", "many", "(II)I"⟩ : MethodName) prog_9_method_76_code 3 (Option.some .int) ∈ az_TB := az_tb (i := 1403) (by decide +kernel) (by decide +kernel)
theorem ml_RL_137 : az_MV RL 137 yX7_many cX7_many 3 (Option.some .int) 2 := ⟨Or.inl tb1400, tb1401, tb1402, tb133, tb1403, ⟨by decide +kernel, by decide +kernel, by decide +kernel⟩⟩
theorem tb1404 : Cond.methodLink "TreadRingLaw" 141 (⟨"TreadRingModel", "page", "(II)I"⟩ : MethodName) ∈ az_TB := az_tb (i := 1404) (by decide +kernel) (by decide +kernel)
theorem tb1405 : Cond.instanceMethod (⟨"TreadRingModel", "page", "(II)I"⟩ : MethodName) ∈ az_TB := az_tb (i := 1405) (by decide +kernel) (by decide +kernel)
theorem tb1406 : Cond.selects "TreadRingModel" (⟨"TreadRingModel", "page", "(II)I"⟩ : MethodName) (⟨"TreadRingModel", "page", "(II)I"⟩ : MethodName) ∈ az_TB := az_tb (i := 1406) (by decide +kernel) (by decide +kernel)
theorem tb1407 : Cond.code (⟨"TreadRingModel", "page", "(II)I"⟩ : MethodName) prog_9_method_77_code 6 (Option.some .int) ∈ az_TB := az_tb (i := 1407) (by decide +kernel) (by decide +kernel)
theorem ml_RL_141 : az_MV RL 141 yX7_page cX7_page 6 (Option.some .int) 2 := ⟨Or.inl tb1404, tb1405, tb1406, tb133, tb1407, ⟨by decide +kernel, by decide +kernel, by decide +kernel⟩⟩
theorem tb1408 : Cond.methodLink "TreadRingLaw" 145 (⟨"TreadRingModel", "grey", "(I)I"⟩ : MethodName) ∈ az_TB := az_tb (i := 1408) (by decide +kernel) (by decide +kernel)
theorem tb1409 : Cond.instanceMethod (⟨"TreadRingModel", "grey", "(I)I"⟩ : MethodName) ∈ az_TB := az_tb (i := 1409) (by decide +kernel) (by decide +kernel)
theorem tb1410 : Cond.selects "TreadRingModel" (⟨"TreadRingModel", "grey", "(I)I"⟩ : MethodName) (⟨"TreadRingModel", "grey", "(I)I"⟩ : MethodName) ∈ az_TB := az_tb (i := 1410) (by decide +kernel) (by decide +kernel)
theorem tb1411 : Cond.code (⟨"TreadRingModel", "grey", "(I)I"⟩ : MethodName) prog_9_method_78_code 4 (Option.some .int) ∈ az_TB := az_tb (i := 1411) (by decide +kernel) (by decide +kernel)
theorem ml_RL_145 : az_MV RL 145 yX7_grey_ cX7_grey_ 4 (Option.some .int) 1 := ⟨Or.inl tb1408, tb1409, tb1410, tb133, tb1411, ⟨by decide +kernel, by decide +kernel, by decide +kernel⟩⟩
theorem tb1412 : Cond.methodLink "TreadRingLaw" 178 (⟨"TreadRingModel", "law", "(I)I"⟩ : MethodName) ∈ az_TB := az_tb (i := 1412) (by decide +kernel) (by decide +kernel)
theorem tb1413 : Cond.instanceMethod (⟨"TreadRingModel", "law", "(I)I"⟩ : MethodName) ∈ az_TB := az_tb (i := 1413) (by decide +kernel) (by decide +kernel)
theorem tb1414 : Cond.selects "TreadRingModel" (⟨"TreadRingModel", "law", "(I)I"⟩ : MethodName) (⟨"TreadRingModel", "law", "(I)I"⟩ : MethodName) ∈ az_TB := az_tb (i := 1414) (by decide +kernel) (by decide +kernel)
theorem tb1415 : Cond.code (⟨"TreadRingModel", "law", "(I)I"⟩ : MethodName) prog_9_method_79_code 8 (Option.some .int) ∈ az_TB := az_tb (i := 1415) (by decide +kernel) (by decide +kernel)
theorem ml_RL_178 : az_MV RL 178 yX7_law cX7_law 8 (Option.some .int) 1 := ⟨Or.inl tb1412, tb1413, tb1414, tb133, tb1415, ⟨by decide +kernel, by decide +kernel, by decide +kernel⟩⟩
theorem tb1416 : Cond.methodLink "TreadRingModel" 277 (⟨"TreadRingModel", "isFreed", "(I)Z"⟩ : MethodName) ∈ az_TB := az_tb (i := 1416) (by decide +kernel) (by decide +kernel)
theorem tb1418 : Cond.instanceMethod (⟨"TreadRingModel", "isFreed", "(I)Z"⟩ : MethodName) ∈ az_TB := az_tb (i := 1418) (by decide +kernel) (by decide +kernel)
theorem tb84 : Cond.selects "TreadRingModel" (⟨"TreadRingModel", "isFreed", "(I)Z"⟩ : MethodName) (⟨"TreadRingModel", "isFreed", "(I)Z"⟩ : MethodName) ∈ az_TB := az_tb (i := 84) (by decide +kernel) (by decide +kernel)
theorem tb1419 : Cond.code (⟨"TreadRingModel", "isFreed", "(I)Z"⟩ : MethodName) prog_9_method_80_code 2 (Option.some .boolean) ∈ az_TB := az_tb (i := 1419) (by decide +kernel) (by decide +kernel)
theorem ml_RX7_277 : az_MV RX7 277 yX7_isFreed cX7_isFreed 2 (Option.some .boolean) 1 := ⟨Or.inl tb1416, tb1418, tb84, tb133, tb1419, ⟨by decide +kernel, by decide +kernel, by decide +kernel⟩⟩
theorem tb1420 : Cond.methodLink "TreadRingLaw" 161 (⟨"TreadRingModel", "end", "(I)I"⟩ : MethodName) ∈ az_TB := az_tb (i := 1420) (by decide +kernel) (by decide +kernel)
theorem tb1421 : Cond.instanceMethod (⟨"TreadRingModel", "end", "(I)I"⟩ : MethodName) ∈ az_TB := az_tb (i := 1421) (by decide +kernel) (by decide +kernel)
theorem tb1422 : Cond.selects "TreadRingModel" (⟨"TreadRingModel", "end", "(I)I"⟩ : MethodName) (⟨"TreadRingModel", "end", "(I)I"⟩ : MethodName) ∈ az_TB := az_tb (i := 1422) (by decide +kernel) (by decide +kernel)
theorem tb1423 : Cond.code (⟨"TreadRingModel", "end", "(I)I"⟩ : MethodName) prog_9_method_86_code 8 (Option.some .int) ∈ az_TB := az_tb (i := 1423) (by decide +kernel) (by decide +kernel)
theorem ml_RL_161 : az_MV RL 161 yX7_end cX7_end 8 (Option.some .int) 1 := ⟨Or.inl tb1420, tb1421, tb1422, tb133, tb1423, ⟨by decide +kernel, by decide +kernel, by decide +kernel⟩⟩
theorem tb1424 : Cond.methodLink "TreadRingModel" 283 (⟨"TreadRingModel", "putAside", "()V"⟩ : MethodName) ∈ az_TB := az_tb (i := 1424) (by decide +kernel) (by decide +kernel)
theorem tb1426 : Cond.instanceMethod (⟨"TreadRingModel", "putAside", "()V"⟩ : MethodName) ∈ az_TB := az_tb (i := 1426) (by decide +kernel) (by decide +kernel)
theorem tb85 : Cond.selects "TreadRingModel" (⟨"TreadRingModel", "putAside", "()V"⟩ : MethodName) (⟨"TreadRingModel", "putAside", "()V"⟩ : MethodName) ∈ az_TB := az_tb (i := 85) (by decide +kernel) (by decide +kernel)
theorem tb1427 : Cond.code (⟨"TreadRingModel", "putAside", "()V"⟩ : MethodName) prog_9_method_81_code 2 (Option.none : Option Jvm.ClassFile.FieldType) ∈ az_TB := az_tb (i := 1427) (by decide +kernel) (by decide +kernel)
theorem ml_RX7_283 : az_MV RX7 283 yX7_putAside cX7_putAside 2 (Option.none : Option Jvm.ClassFile.FieldType) 0 := ⟨Or.inl tb1424, tb1426, tb85, tb133, tb1427, ⟨by decide +kernel, by decide +kernel, by decide +kernel⟩⟩
theorem tb1428 : Cond.methodLink "TreadRingModel" 286 (⟨"TreadRingModel", "cellsFree", "()I"⟩ : MethodName) ∈ az_TB := az_tb (i := 1428) (by decide +kernel) (by decide +kernel)
theorem tb1430 : Cond.instanceMethod (⟨"TreadRingModel", "cellsFree", "()I"⟩ : MethodName) ∈ az_TB := az_tb (i := 1430) (by decide +kernel) (by decide +kernel)
theorem tb86 : Cond.selects "TreadRingModel" (⟨"TreadRingModel", "cellsFree", "()I"⟩ : MethodName) (⟨"TreadRingModel", "cellsFree", "()I"⟩ : MethodName) ∈ az_TB := az_tb (i := 86) (by decide +kernel) (by decide +kernel)
theorem tb1431 : Cond.code (⟨"TreadRingModel", "cellsFree", "()I"⟩ : MethodName) prog_9_method_85_code 3 (Option.some .int) ∈ az_TB := az_tb (i := 1431) (by decide +kernel) (by decide +kernel)
theorem ml_RX7_286 : az_MV RX7 286 yX7_cellsFree cX7_cellsFree 3 (Option.some .int) 0 := ⟨Or.inl tb1428, tb1430, tb86, tb133, tb1431, ⟨by decide +kernel, by decide +kernel, by decide +kernel⟩⟩
theorem tb1432 : Cond.methodLink "TreadRingModel" 280 (⟨"TreadRingModel", "sizeOfRing", "(I)I"⟩ : MethodName) ∈ az_TB := az_tb (i := 1432) (by decide +kernel) (by decide +kernel)
theorem tb1433 : Cond.static (⟨"TreadRingModel", "sizeOfRing", "(I)I"⟩ : MethodName) ∈ az_TB := az_tb (i := 1433) (by decide +kernel) (by decide +kernel)
theorem tb1434 : Cond.code (⟨"TreadRingModel", "sizeOfRing", "(I)I"⟩ : MethodName) prog_9_method_14_code 1 (Option.some .int) ∈ az_TB := az_tb (i := 1434) (by decide +kernel) (by decide +kernel)
theorem ml_RX7_280 : az_MS RX7 280 yX7_sizeOfRing cX7_sizeOfRing 1 (Option.some .int) 1 := ⟨tb1432, tb1433, tb133, tb1434, ⟨by decide +kernel, by decide +kernel, by decide +kernel⟩⟩
theorem tb1435 : Cond.methodLink "TreadRingModel" 289 (⟨"TreadRingModel", "bringBack", "()V"⟩ : MethodName) ∈ az_TB := az_tb (i := 1435) (by decide +kernel) (by decide +kernel)
theorem tb1437 : Cond.instanceMethod (⟨"TreadRingModel", "bringBack", "()V"⟩ : MethodName) ∈ az_TB := az_tb (i := 1437) (by decide +kernel) (by decide +kernel)
theorem tb87 : Cond.selects "TreadRingModel" (⟨"TreadRingModel", "bringBack", "()V"⟩ : MethodName) (⟨"TreadRingModel", "bringBack", "()V"⟩ : MethodName) ∈ az_TB := az_tb (i := 87) (by decide +kernel) (by decide +kernel)
theorem tb1438 : Cond.code (⟨"TreadRingModel", "bringBack", "()V"⟩ : MethodName) prog_9_method_82_code 2 (Option.none : Option Jvm.ClassFile.FieldType) ∈ az_TB := az_tb (i := 1438) (by decide +kernel) (by decide +kernel)
theorem ml_RX7_289 : az_MV RX7 289 yX7_bringBack cX7_bringBack 2 (Option.none : Option Jvm.ClassFile.FieldType) 0 := ⟨Or.inl tb1435, tb1437, tb87, tb133, tb1438, ⟨by decide +kernel, by decide +kernel, by decide +kernel⟩⟩
theorem tb1439 : Cond.methodLink "TreadRingLaw" 165 (⟨"TreadRingModel", "room", "(II)I"⟩ : MethodName) ∈ az_TB := az_tb (i := 1439) (by decide +kernel) (by decide +kernel)
theorem tb1440 : Cond.instanceMethod (⟨"TreadRingModel", "room", "(II)I"⟩ : MethodName) ∈ az_TB := az_tb (i := 1440) (by decide +kernel) (by decide +kernel)
theorem tb1441 : Cond.selects "TreadRingModel" (⟨"TreadRingModel", "room", "(II)I"⟩ : MethodName) (⟨"TreadRingModel", "room", "(II)I"⟩ : MethodName) ∈ az_TB := az_tb (i := 1441) (by decide +kernel) (by decide +kernel)
theorem tb1442 : Cond.code (⟨"TreadRingModel", "room", "(II)I"⟩ : MethodName) prog_9_method_88_code 4 (Option.some .int) ∈ az_TB := az_tb (i := 1442) (by decide +kernel) (by decide +kernel)
theorem ml_RL_165 : az_MV RL 165 yX7_room cX7_room 4 (Option.some .int) 2 := ⟨Or.inl tb1439, tb1440, tb1441, tb133, tb1442, ⟨by decide +kernel, by decide +kernel, by decide +kernel⟩⟩
theorem tb1443 : Cond.methodLink "TreadRingModel" 298 (⟨"TreadRingModel", "madeUpTo", "(IIZ)I"⟩ : MethodName) ∈ az_TB := az_tb (i := 1443) (by decide +kernel) (by decide +kernel)
theorem tb1445 : Cond.instanceMethod (⟨"TreadRingModel", "madeUpTo", "(IIZ)I"⟩ : MethodName) ∈ az_TB := az_tb (i := 1445) (by decide +kernel) (by decide +kernel)
theorem tb88 : Cond.selects "TreadRingModel" (⟨"TreadRingModel", "madeUpTo", "(IIZ)I"⟩ : MethodName) (⟨"TreadRingModel", "madeUpTo", "(IIZ)I"⟩ : MethodName) ∈ az_TB := az_tb (i := 88) (by decide +kernel) (by decide +kernel)
theorem tb1446 : Cond.code (⟨"TreadRingModel", "madeUpTo", "(IIZ)I"⟩ : MethodName) prog_9_method_87_code 5 (Option.some .int) ∈ az_TB := az_tb (i := 1446) (by decide +kernel) (by decide +kernel)
theorem ml_RX7_298 : az_MV RX7 298 yX7_madeUpTo cX7_madeUpTo 5 (Option.some .int) 3 := ⟨Or.inl tb1443, tb1445, tb88, tb133, tb1446, ⟨by decide +kernel, by decide +kernel, by decide +kernel⟩⟩
theorem tb1447 : Cond.methodLink "TreadRingModel" 292 (⟨"TreadRingModel", "putBase", "()V"⟩ : MethodName) ∈ az_TB := az_tb (i := 1447) (by decide +kernel) (by decide +kernel)
theorem tb1449 : Cond.instanceMethod (⟨"TreadRingModel", "putBase", "()V"⟩ : MethodName) ∈ az_TB := az_tb (i := 1449) (by decide +kernel) (by decide +kernel)
theorem tb89 : Cond.selects "TreadRingModel" (⟨"TreadRingModel", "putBase", "()V"⟩ : MethodName) (⟨"TreadRingModel", "putBase", "()V"⟩ : MethodName) ∈ az_TB := az_tb (i := 89) (by decide +kernel) (by decide +kernel)
theorem tb1450 : Cond.code (⟨"TreadRingModel", "putBase", "()V"⟩ : MethodName) prog_9_method_83_code 2 (Option.none : Option Jvm.ClassFile.FieldType) ∈ az_TB := az_tb (i := 1450) (by decide +kernel) (by decide +kernel)
theorem ml_RX7_292 : az_MV RX7 292 yX7_putBase cX7_putBase 2 (Option.none : Option Jvm.ClassFile.FieldType) 0 := ⟨Or.inl tb1447, tb1449, tb89, tb133, tb1450, ⟨by decide +kernel, by decide +kernel, by decide +kernel⟩⟩
theorem tb1451 : Cond.methodLink "TreadRingModel" 295 (⟨"TreadRingModel", "since", "(I)I"⟩ : MethodName) ∈ az_TB := az_tb (i := 1451) (by decide +kernel) (by decide +kernel)
theorem tb1453 : Cond.instanceMethod (⟨"TreadRingModel", "since", "(I)I"⟩ : MethodName) ∈ az_TB := az_tb (i := 1453) (by decide +kernel) (by decide +kernel)
theorem tb90 : Cond.selects "TreadRingModel" (⟨"TreadRingModel", "since", "(I)I"⟩ : MethodName) (⟨"TreadRingModel", "since", "(I)I"⟩ : MethodName) ∈ az_TB := az_tb (i := 90) (by decide +kernel) (by decide +kernel)
theorem tb1454 : Cond.code (⟨"TreadRingModel", "since", "(I)I"⟩ : MethodName) prog_9_method_84_code 2 (Option.some .int) ∈ az_TB := az_tb (i := 1454) (by decide +kernel) (by decide +kernel)
theorem ml_RX7_295 : az_MV RX7 295 yX7_since cX7_since 2 (Option.some .int) 1 := ⟨Or.inl tb1451, tb1453, tb90, tb133, tb1454, ⟨by decide +kernel, by decide +kernel, by decide +kernel⟩⟩
theorem tb1455 : Cond.methodLink "TreadRingLaw" 169 (⟨"TreadRingModel", "pace", "(II)I"⟩ : MethodName) ∈ az_TB := az_tb (i := 1455) (by decide +kernel) (by decide +kernel)
theorem tb1456 : Cond.instanceMethod (⟨"TreadRingModel", "pace", "(II)I"⟩ : MethodName) ∈ az_TB := az_tb (i := 1456) (by decide +kernel) (by decide +kernel)
theorem tb1457 : Cond.selects "TreadRingModel" (⟨"TreadRingModel", "pace", "(II)I"⟩ : MethodName) (⟨"TreadRingModel", "pace", "(II)I"⟩ : MethodName) ∈ az_TB := az_tb (i := 1457) (by decide +kernel) (by decide +kernel)
theorem tb1458 : Cond.code (⟨"TreadRingModel", "pace", "(II)I"⟩ : MethodName) prog_9_method_89_code 5 (Option.some .int) ∈ az_TB := az_tb (i := 1458) (by decide +kernel) (by decide +kernel)
theorem ml_RL_169 : az_MV RL 169 yX7_pace cX7_pace 5 (Option.some .int) 2 := ⟨Or.inl tb1455, tb1456, tb1457, tb133, tb1458, ⟨by decide +kernel, by decide +kernel, by decide +kernel⟩⟩
theorem tb1459 : Cond.methodLink "TreadRingLaw" 174 (⟨"TreadRingModel", "game", "(IIII)I"⟩ : MethodName) ∈ az_TB := az_tb (i := 1459) (by decide +kernel) (by decide +kernel)
theorem tb1460 : Cond.instanceMethod (⟨"TreadRingModel", "game", "(IIII)I"⟩ : MethodName) ∈ az_TB := az_tb (i := 1460) (by decide +kernel) (by decide +kernel)
theorem tb1461 : Cond.selects "TreadRingModel" (⟨"TreadRingModel", "game", "(IIII)I"⟩ : MethodName) (⟨"TreadRingModel", "game", "(IIII)I"⟩ : MethodName) ∈ az_TB := az_tb (i := 1461) (by decide +kernel) (by decide +kernel)
theorem tb1462 : Cond.code (⟨"TreadRingModel", "game", "(IIII)I"⟩ : MethodName) prog_9_method_93_code 6 (Option.some .int) ∈ az_TB := az_tb (i := 1462) (by decide +kernel) (by decide +kernel)
theorem ml_RL_174 : az_MV RL 174 yX7_game cX7_game 6 (Option.some .int) 4 := ⟨Or.inl tb1459, tb1460, tb1461, tb133, tb1462, ⟨by decide +kernel, by decide +kernel, by decide +kernel⟩⟩
theorem tb1463 : Cond.methodLink "TreadRingModel" 311 (⟨"TreadRingModel", "beginApart", "(I)V"⟩ : MethodName) ∈ az_TB := az_tb (i := 1463) (by decide +kernel) (by decide +kernel)
theorem tb1465 : Cond.instanceMethod (⟨"TreadRingModel", "beginApart", "(I)V"⟩ : MethodName) ∈ az_TB := az_tb (i := 1465) (by decide +kernel) (by decide +kernel)
theorem tb91 : Cond.selects "TreadRingModel" (⟨"TreadRingModel", "beginApart", "(I)V"⟩ : MethodName) (⟨"TreadRingModel", "beginApart", "(I)V"⟩ : MethodName) ∈ az_TB := az_tb (i := 91) (by decide +kernel) (by decide +kernel)
theorem tb1466 : Cond.code (⟨"TreadRingModel", "beginApart", "(I)V"⟩ : MethodName) prog_9_method_91_code 2 (Option.none : Option Jvm.ClassFile.FieldType) ∈ az_TB := az_tb (i := 1466) (by decide +kernel) (by decide +kernel)
theorem ml_RX7_311 : az_MV RX7 311 yX7_beginApart cX7_beginApart 2 (Option.none : Option Jvm.ClassFile.FieldType) 1 := ⟨Or.inl tb1463, tb1465, tb91, tb133, tb1466, ⟨by decide +kernel, by decide +kernel, by decide +kernel⟩⟩
theorem tb1467 : Cond.methodLink "TreadRingModel" 314 (⟨"TreadRingModel", "goOnce", "()V"⟩ : MethodName) ∈ az_TB := az_tb (i := 1467) (by decide +kernel) (by decide +kernel)
theorem tb1469 : Cond.instanceMethod (⟨"TreadRingModel", "goOnce", "()V"⟩ : MethodName) ∈ az_TB := az_tb (i := 1469) (by decide +kernel) (by decide +kernel)
theorem tb92 : Cond.selects "TreadRingModel" (⟨"TreadRingModel", "goOnce", "()V"⟩ : MethodName) (⟨"TreadRingModel", "goOnce", "()V"⟩ : MethodName) ∈ az_TB := az_tb (i := 92) (by decide +kernel) (by decide +kernel)
theorem tb1470 : Cond.code (⟨"TreadRingModel", "goOnce", "()V"⟩ : MethodName) prog_9_method_92_code 5 (Option.none : Option Jvm.ClassFile.FieldType) ∈ az_TB := az_tb (i := 1470) (by decide +kernel) (by decide +kernel)
theorem ml_RX7_314 : az_MV RX7 314 yX7_goOnce cX7_goOnce 5 (Option.none : Option Jvm.ClassFile.FieldType) 0 := ⟨Or.inl tb1467, tb1469, tb92, tb133, tb1470, ⟨by decide +kernel, by decide +kernel, by decide +kernel⟩⟩
theorem tb1471 : Cond.methodLink "TreadRingModel" 305 (⟨"TreadRingModel", "draw", "(I)I"⟩ : MethodName) ∈ az_TB := az_tb (i := 1471) (by decide +kernel) (by decide +kernel)
theorem tb1473 : Cond.instanceMethod (⟨"TreadRingModel", "draw", "(I)I"⟩ : MethodName) ∈ az_TB := az_tb (i := 1473) (by decide +kernel) (by decide +kernel)
theorem tb93 : Cond.selects "TreadRingModel" (⟨"TreadRingModel", "draw", "(I)I"⟩ : MethodName) (⟨"TreadRingModel", "draw", "(I)I"⟩ : MethodName) ∈ az_TB := az_tb (i := 93) (by decide +kernel) (by decide +kernel)
theorem tb1474 : Cond.code (⟨"TreadRingModel", "draw", "(I)I"⟩ : MethodName) prog_9_method_90_code 2 (Option.some .int) ∈ az_TB := az_tb (i := 1474) (by decide +kernel) (by decide +kernel)
theorem ml_RX7_305 : az_MV RX7 305 yX7_draw cX7_draw 2 (Option.some .int) 1 := ⟨Or.inl tb1471, tb1473, tb93, tb133, tb1474, ⟨by decide +kernel, by decide +kernel, by decide +kernel⟩⟩
theorem tb1475 : Cond.methodLink "TreadRingModel" 317 (⟨"TreadRingModel", "gameTells", "(I)I"⟩ : MethodName) ∈ az_TB := az_tb (i := 1475) (by decide +kernel) (by decide +kernel)
theorem tb1477 : Cond.instanceMethod (⟨"TreadRingModel", "gameTells", "(I)I"⟩ : MethodName) ∈ az_TB := az_tb (i := 1477) (by decide +kernel) (by decide +kernel)
theorem tb94 : Cond.selects "TreadRingModel" (⟨"TreadRingModel", "gameTells", "(I)I"⟩ : MethodName) (⟨"TreadRingModel", "gameTells", "(I)I"⟩ : MethodName) ∈ az_TB := az_tb (i := 94) (by decide +kernel) (by decide +kernel)
theorem tb1478 : Cond.code (⟨"TreadRingModel", "gameTells", "(I)I"⟩ : MethodName) prog_9_method_94_code 2 (Option.some .int) ∈ az_TB := az_tb (i := 1478) (by decide +kernel) (by decide +kernel)
theorem ml_RX7_317 : az_MV RX7 317 yX7_gameTells cX7_gameTells 2 (Option.some .int) 1 := ⟨Or.inl tb1475, tb1477, tb94, tb133, tb1478, ⟨by decide +kernel, by decide +kernel, by decide +kernel⟩⟩
theorem tb1479 : Cond.methodLink "TreadRingLaw" 64 (⟨"TreadRingModel", "feed", "(IIIII)I"⟩ : MethodName) ∈ az_TB := az_tb (i := 1479) (by decide +kernel) (by decide +kernel)
theorem tb1480 : Cond.instanceMethod (⟨"TreadRingModel", "feed", "(IIIII)I"⟩ : MethodName) ∈ az_TB := az_tb (i := 1480) (by decide +kernel) (by decide +kernel)
theorem tb1481 : Cond.selects "TreadRingModel" (⟨"TreadRingModel", "feed", "(IIIII)I"⟩ : MethodName) (⟨"TreadRingModel", "feed", "(IIIII)I"⟩ : MethodName) ∈ az_TB := az_tb (i := 1481) (by decide +kernel) (by decide +kernel)
theorem tb1482 : Cond.code (⟨"TreadRingModel", "feed", "(IIIII)I"⟩ : MethodName) prog_9_method_95_code 8 (Option.some .int) ∈ az_TB := az_tb (i := 1482) (by decide +kernel) (by decide +kernel)
theorem ml_RL_64 : az_MV RL 64 yX7_feed cX7_feed 8 (Option.some .int) 5 := ⟨Or.inl tb1479, tb1480, tb1481, tb133, tb1482, ⟨by decide +kernel, by decide +kernel, by decide +kernel⟩⟩
theorem tb1483 : Cond.methodLink "TreadRingLaw" 68 (⟨"TreadRingModel", "cut", "(I)I"⟩ : MethodName) ∈ az_TB := az_tb (i := 1483) (by decide +kernel) (by decide +kernel)
theorem tb1484 : Cond.instanceMethod (⟨"TreadRingModel", "cut", "(I)I"⟩ : MethodName) ∈ az_TB := az_tb (i := 1484) (by decide +kernel) (by decide +kernel)
theorem tb1485 : Cond.selects "TreadRingModel" (⟨"TreadRingModel", "cut", "(I)I"⟩ : MethodName) (⟨"TreadRingModel", "cut", "(I)I"⟩ : MethodName) ∈ az_TB := az_tb (i := 1485) (by decide +kernel) (by decide +kernel)
theorem tb1486 : Cond.code (⟨"TreadRingModel", "cut", "(I)I"⟩ : MethodName) prog_9_method_96_code 2 (Option.some .int) ∈ az_TB := az_tb (i := 1486) (by decide +kernel) (by decide +kernel)
theorem ml_RL_68 : az_MV RL 68 yX7_cut cX7_cut 2 (Option.some .int) 1 := ⟨Or.inl tb1483, tb1484, tb1485, tb133, tb1486, ⟨by decide +kernel, by decide +kernel, by decide +kernel⟩⟩
theorem tb1487 : Cond.methodLink "TreadRingLaw" 73 (⟨"TreadRingModel", "program", "()I"⟩ : MethodName) ∈ az_TB := az_tb (i := 1487) (by decide +kernel) (by decide +kernel)
theorem tb1488 : Cond.instanceMethod (⟨"TreadRingModel", "program", "()I"⟩ : MethodName) ∈ az_TB := az_tb (i := 1488) (by decide +kernel) (by decide +kernel)
theorem tb1489 : Cond.selects "TreadRingModel" (⟨"TreadRingModel", "program", "()I"⟩ : MethodName) (⟨"TreadRingModel", "program", "()I"⟩ : MethodName) ∈ az_TB := az_tb (i := 1489) (by decide +kernel) (by decide +kernel)
theorem tb1490 : Cond.code (⟨"TreadRingModel", "program", "()I"⟩ : MethodName) prog_9_method_121_code 2 (Option.some .int) ∈ az_TB := az_tb (i := 1490) (by decide +kernel) (by decide +kernel)
theorem ml_RL_73 : az_MV RL 73 yX7_program cX7_program 2 (Option.some .int) 0 := ⟨Or.inl tb1487, tb1488, tb1489, tb133, tb1490, ⟨by decide +kernel, by decide +kernel, by decide +kernel⟩⟩
theorem tb1491 : Cond.methodLink "TreadRingModel" 427 (⟨"TreadRingModel", "readAll", "()V"⟩ : MethodName) ∈ az_TB := az_tb (i := 1491) (by decide +kernel) (by decide +kernel)
theorem tb1493 : Cond.instanceMethod (⟨"TreadRingModel", "readAll", "()V"⟩ : MethodName) ∈ az_TB := az_tb (i := 1493) (by decide +kernel) (by decide +kernel)
theorem tb95 : Cond.selects "TreadRingModel" (⟨"TreadRingModel", "readAll", "()V"⟩ : MethodName) (⟨"TreadRingModel", "readAll", "()V"⟩ : MethodName) ∈ az_TB := az_tb (i := 95) (by decide +kernel) (by decide +kernel)
theorem tb1494 : Cond.code (⟨"TreadRingModel", "readAll", "()V"⟩ : MethodName) prog_9_method_120_code 1 (Option.none : Option Jvm.ClassFile.FieldType) ∈ az_TB := az_tb (i := 1494) (by decide +kernel) (by decide +kernel)
theorem ml_RX7_427 : az_MV RX7 427 yX7_readAll cX7_readAll 1 (Option.none : Option Jvm.ClassFile.FieldType) 0 := ⟨Or.inl tb1491, tb1493, tb95, tb133, tb1494, ⟨by decide +kernel, by decide +kernel, by decide +kernel⟩⟩
theorem tb1495 : Cond.methodLink "TreadRingModel" 371 (⟨"TreadRingModel", "scan", "()V"⟩ : MethodName) ∈ az_TB := az_tb (i := 1495) (by decide +kernel) (by decide +kernel)
theorem tb1497 : Cond.instanceMethod (⟨"TreadRingModel", "scan", "()V"⟩ : MethodName) ∈ az_TB := az_tb (i := 1497) (by decide +kernel) (by decide +kernel)
theorem tb96 : Cond.selects "TreadRingModel" (⟨"TreadRingModel", "scan", "()V"⟩ : MethodName) (⟨"TreadRingModel", "scan", "()V"⟩ : MethodName) ∈ az_TB := az_tb (i := 96) (by decide +kernel) (by decide +kernel)
theorem tb1498 : Cond.code (⟨"TreadRingModel", "scan", "()V"⟩ : MethodName) prog_9_method_102_code 1 (Option.none : Option Jvm.ClassFile.FieldType) ∈ az_TB := az_tb (i := 1498) (by decide +kernel) (by decide +kernel)
theorem ml_RX7_371 : az_MV RX7 371 yX7_scan cX7_scan 1 (Option.none : Option Jvm.ClassFile.FieldType) 0 := ⟨Or.inl tb1495, tb1497, tb96, tb133, tb1498, ⟨by decide +kernel, by decide +kernel, by decide +kernel⟩⟩
theorem tb1499 : Cond.methodLink "TreadRingModel" 332 (⟨"TreadRingModel", "isBlank", "(I)Z"⟩ : MethodName) ∈ az_TB := az_tb (i := 1499) (by decide +kernel) (by decide +kernel)
theorem tb1501 : Cond.instanceMethod (⟨"TreadRingModel", "isBlank", "(I)Z"⟩ : MethodName) ∈ az_TB := az_tb (i := 1501) (by decide +kernel) (by decide +kernel)
theorem tb97 : Cond.selects "TreadRingModel" (⟨"TreadRingModel", "isBlank", "(I)Z"⟩ : MethodName) (⟨"TreadRingModel", "isBlank", "(I)Z"⟩ : MethodName) ∈ az_TB := az_tb (i := 97) (by decide +kernel) (by decide +kernel)
theorem tb1502 : Cond.code (⟨"TreadRingModel", "isBlank", "(I)Z"⟩ : MethodName) prog_9_method_101_code 2 (Option.some .boolean) ∈ az_TB := az_tb (i := 1502) (by decide +kernel) (by decide +kernel)
theorem ml_RX7_332 : az_MV RX7 332 yX7_isBlank cX7_isBlank 2 (Option.some .boolean) 1 := ⟨Or.inl tb1499, tb1501, tb97, tb133, tb1502, ⟨by decide +kernel, by decide +kernel, by decide +kernel⟩⟩
theorem tb1503 : Cond.methodLink "TreadRingModel" 338 (⟨"TreadRingModel", "byteAt", "(I)I"⟩ : MethodName) ∈ az_TB := az_tb (i := 1503) (by decide +kernel) (by decide +kernel)
theorem tb1505 : Cond.instanceMethod (⟨"TreadRingModel", "byteAt", "(I)I"⟩ : MethodName) ∈ az_TB := az_tb (i := 1505) (by decide +kernel) (by decide +kernel)
theorem tb98 : Cond.selects "TreadRingModel" (⟨"TreadRingModel", "byteAt", "(I)I"⟩ : MethodName) (⟨"TreadRingModel", "byteAt", "(I)I"⟩ : MethodName) ∈ az_TB := az_tb (i := 98) (by decide +kernel) (by decide +kernel)
theorem tb1506 : Cond.code (⟨"TreadRingModel", "byteAt", "(I)I"⟩ : MethodName) prog_9_method_97_code 2 (Option.some .int) ∈ az_TB := az_tb (i := 1506) (by decide +kernel) (by decide +kernel)
theorem ml_RX7_338 : az_MV RX7 338 yX7_byteAt cX7_byteAt 2 (Option.some .int) 1 := ⟨Or.inl tb1503, tb1505, tb98, tb133, tb1506, ⟨by decide +kernel, by decide +kernel, by decide +kernel⟩⟩
theorem tb1507 : Cond.methodLink "TreadRingModel" 341 (⟨"TreadRingModel", "isLetter", "(I)Z"⟩ : MethodName) ∈ az_TB := az_tb (i := 1507) (by decide +kernel) (by decide +kernel)
theorem tb1508 : Cond.static (⟨"TreadRingModel", "isLetter", "(I)Z"⟩ : MethodName) ∈ az_TB := az_tb (i := 1508) (by decide +kernel) (by decide +kernel)
theorem tb1509 : Cond.code (⟨"TreadRingModel", "isLetter", "(I)Z"⟩ : MethodName) prog_9_method_98_code 1 (Option.some .boolean) ∈ az_TB := az_tb (i := 1509) (by decide +kernel) (by decide +kernel)
theorem ml_RX7_341 : az_MS RX7 341 yX7_isLetter cX7_isLetter 1 (Option.some .boolean) 1 := ⟨tb1507, tb1508, tb133, tb1509, ⟨by decide +kernel, by decide +kernel, by decide +kernel⟩⟩
theorem tb1510 : Cond.methodLink "TreadRingModel" 344 (⟨"TreadRingModel", "scanWord", "()V"⟩ : MethodName) ∈ az_TB := az_tb (i := 1510) (by decide +kernel) (by decide +kernel)
theorem tb1512 : Cond.instanceMethod (⟨"TreadRingModel", "scanWord", "()V"⟩ : MethodName) ∈ az_TB := az_tb (i := 1512) (by decide +kernel) (by decide +kernel)
theorem tb99 : Cond.selects "TreadRingModel" (⟨"TreadRingModel", "scanWord", "()V"⟩ : MethodName) (⟨"TreadRingModel", "scanWord", "()V"⟩ : MethodName) ∈ az_TB := az_tb (i := 99) (by decide +kernel) (by decide +kernel)
theorem tb1513 : Cond.code (⟨"TreadRingModel", "scanWord", "()V"⟩ : MethodName) prog_9_method_103_code 1 (Option.none : Option Jvm.ClassFile.FieldType) ∈ az_TB := az_tb (i := 1513) (by decide +kernel) (by decide +kernel)
theorem ml_RX7_344 : az_MV RX7 344 yX7_scanWord cX7_scanWord 1 (Option.none : Option Jvm.ClassFile.FieldType) 0 := ⟨Or.inl tb1510, tb1512, tb99, tb133, tb1513, ⟨by decide +kernel, by decide +kernel, by decide +kernel⟩⟩
theorem tb1514 : Cond.methodLink "TreadRingModel" 347 (⟨"TreadRingModel", "isDigit", "(I)Z"⟩ : MethodName) ∈ az_TB := az_tb (i := 1514) (by decide +kernel) (by decide +kernel)
theorem tb1515 : Cond.static (⟨"TreadRingModel", "isDigit", "(I)Z"⟩ : MethodName) ∈ az_TB := az_tb (i := 1515) (by decide +kernel) (by decide +kernel)
theorem tb1516 : Cond.code (⟨"TreadRingModel", "isDigit", "(I)Z"⟩ : MethodName) prog_9_method_99_code 1 (Option.some .boolean) ∈ az_TB := az_tb (i := 1516) (by decide +kernel) (by decide +kernel)
theorem ml_RX7_347 : az_MS RX7 347 yX7_isDigit cX7_isDigit 1 (Option.some .boolean) 1 := ⟨tb1514, tb1515, tb133, tb1516, ⟨by decide +kernel, by decide +kernel, by decide +kernel⟩⟩
theorem tb1517 : Cond.methodLink "TreadRingModel" 350 (⟨"TreadRingModel", "scanNumber", "()V"⟩ : MethodName) ∈ az_TB := az_tb (i := 1517) (by decide +kernel) (by decide +kernel)
theorem tb1519 : Cond.instanceMethod (⟨"TreadRingModel", "scanNumber", "()V"⟩ : MethodName) ∈ az_TB := az_tb (i := 1519) (by decide +kernel) (by decide +kernel)
theorem tb100 : Cond.selects "TreadRingModel" (⟨"TreadRingModel", "scanNumber", "()V"⟩ : MethodName) (⟨"TreadRingModel", "scanNumber", "()V"⟩ : MethodName) ∈ az_TB := az_tb (i := 100) (by decide +kernel) (by decide +kernel)
theorem tb1520 : Cond.code (⟨"TreadRingModel", "scanNumber", "()V"⟩ : MethodName) prog_9_method_104_code 1 (Option.none : Option Jvm.ClassFile.FieldType) ∈ az_TB := az_tb (i := 1520) (by decide +kernel) (by decide +kernel)
theorem ml_RX7_350 : az_MV RX7 350 yX7_scanNumber cX7_scanNumber 1 (Option.none : Option Jvm.ClassFile.FieldType) 0 := ⟨Or.inl tb1517, tb1519, tb100, tb133, tb1520, ⟨by decide +kernel, by decide +kernel, by decide +kernel⟩⟩
theorem tb1521 : Cond.methodLink "TreadRingModel" 353 (⟨"TreadRingModel", "isSign", "(I)Z"⟩ : MethodName) ∈ az_TB := az_tb (i := 1521) (by decide +kernel) (by decide +kernel)
theorem tb1522 : Cond.static (⟨"TreadRingModel", "isSign", "(I)Z"⟩ : MethodName) ∈ az_TB := az_tb (i := 1522) (by decide +kernel) (by decide +kernel)
theorem tb1523 : Cond.code (⟨"TreadRingModel", "isSign", "(I)Z"⟩ : MethodName) prog_9_method_100_code 1 (Option.some .boolean) ∈ az_TB := az_tb (i := 1523) (by decide +kernel) (by decide +kernel)
theorem ml_RX7_353 : az_MS RX7 353 yX7_isSign cX7_isSign 1 (Option.some .boolean) 1 := ⟨tb1521, tb1522, tb133, tb1523, ⟨by decide +kernel, by decide +kernel, by decide +kernel⟩⟩
theorem tb1524 : Cond.methodLink "TreadRingModel" 368 (⟨"TreadRingModel", "isAt", "(I)Z"⟩ : MethodName) ∈ az_TB := az_tb (i := 1524) (by decide +kernel) (by decide +kernel)
theorem tb1526 : Cond.instanceMethod (⟨"TreadRingModel", "isAt", "(I)Z"⟩ : MethodName) ∈ az_TB := az_tb (i := 1526) (by decide +kernel) (by decide +kernel)
theorem tb101 : Cond.selects "TreadRingModel" (⟨"TreadRingModel", "isAt", "(I)Z"⟩ : MethodName) (⟨"TreadRingModel", "isAt", "(I)Z"⟩ : MethodName) ∈ az_TB := az_tb (i := 101) (by decide +kernel) (by decide +kernel)
theorem tb1527 : Cond.code (⟨"TreadRingModel", "isAt", "(I)Z"⟩ : MethodName) prog_9_method_106_code 2 (Option.some .boolean) ∈ az_TB := az_tb (i := 1527) (by decide +kernel) (by decide +kernel)
theorem ml_RX7_368 : az_MV RX7 368 yX7_isAt cX7_isAt 2 (Option.some .boolean) 1 := ⟨Or.inl tb1524, tb1526, tb101, tb133, tb1527, ⟨by decide +kernel, by decide +kernel, by decide +kernel⟩⟩
theorem tb1528 : Cond.methodLink "TreadRingModel" 424 (⟨"TreadRingModel", "readItem", "()V"⟩ : MethodName) ∈ az_TB := az_tb (i := 1528) (by decide +kernel) (by decide +kernel)
theorem tb1530 : Cond.instanceMethod (⟨"TreadRingModel", "readItem", "()V"⟩ : MethodName) ∈ az_TB := az_tb (i := 1530) (by decide +kernel) (by decide +kernel)
theorem tb102 : Cond.selects "TreadRingModel" (⟨"TreadRingModel", "readItem", "()V"⟩ : MethodName) (⟨"TreadRingModel", "readItem", "()V"⟩ : MethodName) ∈ az_TB := az_tb (i := 102) (by decide +kernel) (by decide +kernel)
theorem tb1531 : Cond.code (⟨"TreadRingModel", "readItem", "()V"⟩ : MethodName) prog_9_method_114_code 1 (Option.none : Option Jvm.ClassFile.FieldType) ∈ az_TB := az_tb (i := 1531) (by decide +kernel) (by decide +kernel)
theorem ml_RX7_424 : az_MV RX7 424 yX7_readItem cX7_readItem 1 (Option.none : Option Jvm.ClassFile.FieldType) 0 := ⟨Or.inl tb1528, tb1530, tb102, tb133, tb1531, ⟨by decide +kernel, by decide +kernel, by decide +kernel⟩⟩
theorem tb1532 : Cond.methodLink "TreadRingModel" 388 (⟨"TreadRingModel", "canBegin", "()Z"⟩ : MethodName) ∈ az_TB := az_tb (i := 1532) (by decide +kernel) (by decide +kernel)
theorem tb1534 : Cond.instanceMethod (⟨"TreadRingModel", "canBegin", "()Z"⟩ : MethodName) ∈ az_TB := az_tb (i := 1534) (by decide +kernel) (by decide +kernel)
theorem tb103 : Cond.selects "TreadRingModel" (⟨"TreadRingModel", "canBegin", "()Z"⟩ : MethodName) (⟨"TreadRingModel", "canBegin", "()Z"⟩ : MethodName) ∈ az_TB := az_tb (i := 103) (by decide +kernel) (by decide +kernel)
theorem tb1535 : Cond.code (⟨"TreadRingModel", "canBegin", "()Z"⟩ : MethodName) prog_9_method_113_code 1 (Option.some .boolean) ∈ az_TB := az_tb (i := 1535) (by decide +kernel) (by decide +kernel)
theorem ml_RX7_388 : az_MV RX7 388 yX7_canBegin cX7_canBegin 1 (Option.some .boolean) 0 := ⟨Or.inl tb1532, tb1534, tb103, tb133, tb1535, ⟨by decide +kernel, by decide +kernel, by decide +kernel⟩⟩
theorem tb1536 : Cond.methodLink "TreadRingModel" 377 (⟨"TreadRingModel", "isLetterHere", "()Z"⟩ : MethodName) ∈ az_TB := az_tb (i := 1536) (by decide +kernel) (by decide +kernel)
theorem tb1538 : Cond.instanceMethod (⟨"TreadRingModel", "isLetterHere", "()Z"⟩ : MethodName) ∈ az_TB := az_tb (i := 1538) (by decide +kernel) (by decide +kernel)
theorem tb104 : Cond.selects "TreadRingModel" (⟨"TreadRingModel", "isLetterHere", "()Z"⟩ : MethodName) (⟨"TreadRingModel", "isLetterHere", "()Z"⟩ : MethodName) ∈ az_TB := az_tb (i := 104) (by decide +kernel) (by decide +kernel)
theorem tb1539 : Cond.code (⟨"TreadRingModel", "isLetterHere", "()Z"⟩ : MethodName) prog_9_method_110_code 1 (Option.some .boolean) ∈ az_TB := az_tb (i := 1539) (by decide +kernel) (by decide +kernel)
theorem ml_RX7_377 : az_MV RX7 377 yX7_isLetterHere cX7_isLetterHere 1 (Option.some .boolean) 0 := ⟨Or.inl tb1536, tb1538, tb104, tb133, tb1539, ⟨by decide +kernel, by decide +kernel, by decide +kernel⟩⟩
theorem tb1541 : Cond.methodLink "TreadRingModel" 384 (⟨"TreadRingModel", "isWord", "(I)Z"⟩ : MethodName) ∈ az_TB := az_tb (i := 1541) (by decide +kernel) (by decide +kernel)
theorem tb1543 : Cond.instanceMethod (⟨"TreadRingModel", "isWord", "(I)Z"⟩ : MethodName) ∈ az_TB := az_tb (i := 1543) (by decide +kernel) (by decide +kernel)
theorem tb105 : Cond.selects "TreadRingModel" (⟨"TreadRingModel", "isWord", "(I)Z"⟩ : MethodName) (⟨"TreadRingModel", "isWord", "(I)Z"⟩ : MethodName) ∈ az_TB := az_tb (i := 105) (by decide +kernel) (by decide +kernel)
theorem tb1544 : Cond.code (⟨"TreadRingModel", "isWord", "(I)Z"⟩ : MethodName) prog_9_method_107_code 2 (Option.some .boolean) ∈ az_TB := az_tb (i := 1544) (by decide +kernel) (by decide +kernel)
theorem ml_RX7_384 : az_MV RX7 384 yX7_isWord cX7_isWord 2 (Option.some .boolean) 1 := ⟨Or.inl tb1541, tb1543, tb105, tb133, tb1544, ⟨by decide +kernel, by decide +kernel, by decide +kernel⟩⟩
theorem tb1546 : Cond.methodLink "TreadRingModel" 374 (⟨"TreadRingModel", "fail", "(I)V"⟩ : MethodName) ∈ az_TB := az_tb (i := 1546) (by decide +kernel) (by decide +kernel)
theorem tb1548 : Cond.instanceMethod (⟨"TreadRingModel", "fail", "(I)V"⟩ : MethodName) ∈ az_TB := az_tb (i := 1548) (by decide +kernel) (by decide +kernel)
theorem tb106 : Cond.selects "TreadRingModel" (⟨"TreadRingModel", "fail", "(I)V"⟩ : MethodName) (⟨"TreadRingModel", "fail", "(I)V"⟩ : MethodName) ∈ az_TB := az_tb (i := 106) (by decide +kernel) (by decide +kernel)
theorem tb1549 : Cond.code (⟨"TreadRingModel", "fail", "(I)V"⟩ : MethodName) prog_9_method_105_code 2 (Option.none : Option Jvm.ClassFile.FieldType) ∈ az_TB := az_tb (i := 1549) (by decide +kernel) (by decide +kernel)
theorem ml_RX7_374 : az_MV RX7 374 yX7_fail cX7_fail 2 (Option.none : Option Jvm.ClassFile.FieldType) 1 := ⟨Or.inl tb1546, tb1548, tb106, tb133, tb1549, ⟨by decide +kernel, by decide +kernel, by decide +kernel⟩⟩
theorem tb1550 : Cond.methodLink "TreadRingModel" 394 (⟨"TreadRingModel", "readStep", "()V"⟩ : MethodName) ∈ az_TB := az_tb (i := 1550) (by decide +kernel) (by decide +kernel)
theorem tb1552 : Cond.instanceMethod (⟨"TreadRingModel", "readStep", "()V"⟩ : MethodName) ∈ az_TB := az_tb (i := 1552) (by decide +kernel) (by decide +kernel)
theorem tb107 : Cond.selects "TreadRingModel" (⟨"TreadRingModel", "readStep", "()V"⟩ : MethodName) (⟨"TreadRingModel", "readStep", "()V"⟩ : MethodName) ∈ az_TB := az_tb (i := 107) (by decide +kernel) (by decide +kernel)
theorem tb1553 : Cond.code (⟨"TreadRingModel", "readStep", "()V"⟩ : MethodName) prog_9_method_115_code 2 (Option.none : Option Jvm.ClassFile.FieldType) ∈ az_TB := az_tb (i := 1553) (by decide +kernel) (by decide +kernel)
theorem ml_RX7_394 : az_MV RX7 394 yX7_readStep cX7_readStep 2 (Option.none : Option Jvm.ClassFile.FieldType) 0 := ⟨Or.inl tb1550, tb1552, tb107, tb133, tb1553, ⟨by decide +kernel, by decide +kernel, by decide +kernel⟩⟩
theorem tb1554 : Cond.methodLink "TreadRingModel" 404 (⟨"TreadRingModel", "numeral", "(II)I"⟩ : MethodName) ∈ az_TB := az_tb (i := 1554) (by decide +kernel) (by decide +kernel)
theorem tb1556 : Cond.instanceMethod (⟨"TreadRingModel", "numeral", "(II)I"⟩ : MethodName) ∈ az_TB := az_tb (i := 1556) (by decide +kernel) (by decide +kernel)
theorem tb108 : Cond.selects "TreadRingModel" (⟨"TreadRingModel", "numeral", "(II)I"⟩ : MethodName) (⟨"TreadRingModel", "numeral", "(II)I"⟩ : MethodName) ∈ az_TB := az_tb (i := 108) (by decide +kernel) (by decide +kernel)
theorem tb1557 : Cond.code (⟨"TreadRingModel", "numeral", "(II)I"⟩ : MethodName) prog_9_method_109_code 4 (Option.some .int) ∈ az_TB := az_tb (i := 1557) (by decide +kernel) (by decide +kernel)
theorem ml_RX7_404 : az_MV RX7 404 yX7_numeral cX7_numeral 4 (Option.some .int) 2 := ⟨Or.inl tb1554, tb1556, tb108, tb133, tb1557, ⟨by decide +kernel, by decide +kernel, by decide +kernel⟩⟩
theorem tb1558 : Cond.methodLink "TreadRingModel" 407 (⟨"TreadRingModel", "need", "(I)V"⟩ : MethodName) ∈ az_TB := az_tb (i := 1558) (by decide +kernel) (by decide +kernel)
theorem tb1560 : Cond.instanceMethod (⟨"TreadRingModel", "need", "(I)V"⟩ : MethodName) ∈ az_TB := az_tb (i := 1560) (by decide +kernel) (by decide +kernel)
theorem tb109 : Cond.selects "TreadRingModel" (⟨"TreadRingModel", "need", "(I)V"⟩ : MethodName) (⟨"TreadRingModel", "need", "(I)V"⟩ : MethodName) ∈ az_TB := az_tb (i := 109) (by decide +kernel) (by decide +kernel)
theorem tb1561 : Cond.code (⟨"TreadRingModel", "need", "(I)V"⟩ : MethodName) prog_9_method_108_code 2 (Option.none : Option Jvm.ClassFile.FieldType) ∈ az_TB := az_tb (i := 1561) (by decide +kernel) (by decide +kernel)
theorem ml_RX7_407 : az_MV RX7 407 yX7_need cX7_need 2 (Option.none : Option Jvm.ClassFile.FieldType) 1 := ⟨Or.inl tb1558, tb1560, tb109, tb133, tb1561, ⟨by decide +kernel, by decide +kernel, by decide +kernel⟩⟩
theorem tb1562 : Cond.methodLink "TreadRingModel" 410 (⟨"TreadRingModel", "lay", "(IIII)V"⟩ : MethodName) ∈ az_TB := az_tb (i := 1562) (by decide +kernel) (by decide +kernel)
theorem tb1564 : Cond.instanceMethod (⟨"TreadRingModel", "lay", "(IIII)V"⟩ : MethodName) ∈ az_TB := az_tb (i := 1564) (by decide +kernel) (by decide +kernel)
theorem tb110 : Cond.selects "TreadRingModel" (⟨"TreadRingModel", "lay", "(IIII)V"⟩ : MethodName) (⟨"TreadRingModel", "lay", "(IIII)V"⟩ : MethodName) ∈ az_TB := az_tb (i := 110) (by decide +kernel) (by decide +kernel)
theorem tb1565 : Cond.code (⟨"TreadRingModel", "lay", "(IIII)V"⟩ : MethodName) prog_9_method_112_code 5 (Option.none : Option Jvm.ClassFile.FieldType) ∈ az_TB := az_tb (i := 1565) (by decide +kernel) (by decide +kernel)
theorem ml_RX7_410 : az_MV RX7 410 yX7_lay cX7_lay 5 (Option.none : Option Jvm.ClassFile.FieldType) 4 := ⟨Or.inl tb1562, tb1564, tb110, tb133, tb1565, ⟨by decide +kernel, by decide +kernel, by decide +kernel⟩⟩
theorem tb1566 : Cond.methodLink "TreadRingModel" 397 (⟨"TreadRingModel", "readBlock", "(Z)V"⟩ : MethodName) ∈ az_TB := az_tb (i := 1566) (by decide +kernel) (by decide +kernel)
theorem tb1568 : Cond.instanceMethod (⟨"TreadRingModel", "readBlock", "(Z)V"⟩ : MethodName) ∈ az_TB := az_tb (i := 1568) (by decide +kernel) (by decide +kernel)
theorem tb111 : Cond.selects "TreadRingModel" (⟨"TreadRingModel", "readBlock", "(Z)V"⟩ : MethodName) (⟨"TreadRingModel", "readBlock", "(Z)V"⟩ : MethodName) ∈ az_TB := az_tb (i := 111) (by decide +kernel) (by decide +kernel)
theorem tb1569 : Cond.code (⟨"TreadRingModel", "readBlock", "(Z)V"⟩ : MethodName) prog_9_method_116_code 3 (Option.none : Option Jvm.ClassFile.FieldType) ∈ az_TB := az_tb (i := 1569) (by decide +kernel) (by decide +kernel)
theorem ml_RX7_397 : az_MV RX7 397 yX7_readBlock cX7_readBlock 3 (Option.none : Option Jvm.ClassFile.FieldType) 1 := ⟨Or.inl tb1566, tb1568, tb111, tb133, tb1569, ⟨by decide +kernel, by decide +kernel, by decide +kernel⟩⟩
theorem tb1570 : Cond.methodLink "TreadRingModel" 414 (⟨"TreadRingModel", "letter", "()I"⟩ : MethodName) ∈ az_TB := az_tb (i := 1570) (by decide +kernel) (by decide +kernel)
theorem tb1572 : Cond.instanceMethod (⟨"TreadRingModel", "letter", "()I"⟩ : MethodName) ∈ az_TB := az_tb (i := 1572) (by decide +kernel) (by decide +kernel)
theorem tb112 : Cond.selects "TreadRingModel" (⟨"TreadRingModel", "letter", "()I"⟩ : MethodName) (⟨"TreadRingModel", "letter", "()I"⟩ : MethodName) ∈ az_TB := az_tb (i := 112) (by decide +kernel) (by decide +kernel)
theorem tb1573 : Cond.code (⟨"TreadRingModel", "letter", "()I"⟩ : MethodName) prog_9_method_111_code 2 (Option.some .int) ∈ az_TB := az_tb (i := 1573) (by decide +kernel) (by decide +kernel)
theorem ml_RX7_414 : az_MV RX7 414 yX7_letter cX7_letter 2 (Option.some .int) 0 := ⟨Or.inl tb1570, tb1572, tb112, tb133, tb1573, ⟨by decide +kernel, by decide +kernel, by decide +kernel⟩⟩
theorem tb1574 : Cond.methodLink "TreadRingModel" 401 (⟨"TreadRingModel", "readDeed", "()V"⟩ : MethodName) ∈ az_TB := az_tb (i := 1574) (by decide +kernel) (by decide +kernel)
theorem tb1576 : Cond.instanceMethod (⟨"TreadRingModel", "readDeed", "()V"⟩ : MethodName) ∈ az_TB := az_tb (i := 1576) (by decide +kernel) (by decide +kernel)
theorem tb113 : Cond.selects "TreadRingModel" (⟨"TreadRingModel", "readDeed", "()V"⟩ : MethodName) (⟨"TreadRingModel", "readDeed", "()V"⟩ : MethodName) ∈ az_TB := az_tb (i := 113) (by decide +kernel) (by decide +kernel)
theorem tb1577 : Cond.code (⟨"TreadRingModel", "readDeed", "()V"⟩ : MethodName) prog_9_method_117_code 2 (Option.none : Option Jvm.ClassFile.FieldType) ∈ az_TB := az_tb (i := 1577) (by decide +kernel) (by decide +kernel)
theorem ml_RX7_401 : az_MV RX7 401 yX7_readDeed cX7_readDeed 2 (Option.none : Option Jvm.ClassFile.FieldType) 0 := ⟨Or.inl tb1574, tb1576, tb113, tb133, tb1577, ⟨by decide +kernel, by decide +kernel, by decide +kernel⟩⟩
theorem tb1578 : Cond.methodLink "TreadRingModel" 417 (⟨"TreadRingModel", "readStore", "(I)V"⟩ : MethodName) ∈ az_TB := az_tb (i := 1578) (by decide +kernel) (by decide +kernel)
theorem tb1580 : Cond.instanceMethod (⟨"TreadRingModel", "readStore", "(I)V"⟩ : MethodName) ∈ az_TB := az_tb (i := 1580) (by decide +kernel) (by decide +kernel)
theorem tb114 : Cond.selects "TreadRingModel" (⟨"TreadRingModel", "readStore", "(I)V"⟩ : MethodName) (⟨"TreadRingModel", "readStore", "(I)V"⟩ : MethodName) ∈ az_TB := az_tb (i := 114) (by decide +kernel) (by decide +kernel)
theorem tb1581 : Cond.code (⟨"TreadRingModel", "readStore", "(I)V"⟩ : MethodName) prog_9_method_118_code 3 (Option.none : Option Jvm.ClassFile.FieldType) ∈ az_TB := az_tb (i := 1581) (by decide +kernel) (by decide +kernel)
theorem ml_RX7_417 : az_MV RX7 417 yX7_readStore cX7_readStore 3 (Option.none : Option Jvm.ClassFile.FieldType) 1 := ⟨Or.inl tb1578, tb1580, tb114, tb133, tb1581, ⟨by decide +kernel, by decide +kernel, by decide +kernel⟩⟩
theorem tb1583 : Cond.methodLink "TreadRingModel" 420 (⟨"TreadRingModel", "readNaming", "(I)V"⟩ : MethodName) ∈ az_TB := az_tb (i := 1583) (by decide +kernel) (by decide +kernel)
theorem tb1585 : Cond.instanceMethod (⟨"TreadRingModel", "readNaming", "(I)V"⟩ : MethodName) ∈ az_TB := az_tb (i := 1585) (by decide +kernel) (by decide +kernel)
theorem tb115 : Cond.selects "TreadRingModel" (⟨"TreadRingModel", "readNaming", "(I)V"⟩ : MethodName) (⟨"TreadRingModel", "readNaming", "(I)V"⟩ : MethodName) ∈ az_TB := az_tb (i := 115) (by decide +kernel) (by decide +kernel)
theorem tb1586 : Cond.code (⟨"TreadRingModel", "readNaming", "(I)V"⟩ : MethodName) prog_9_method_119_code 3 (Option.none : Option Jvm.ClassFile.FieldType) ∈ az_TB := az_tb (i := 1586) (by decide +kernel) (by decide +kernel)
theorem ml_RX7_420 : az_MV RX7 420 yX7_readNaming cX7_readNaming 3 (Option.none : Option Jvm.ClassFile.FieldType) 1 := ⟨Or.inl tb1583, tb1585, tb115, tb133, tb1586, ⟨by decide +kernel, by decide +kernel, by decide +kernel⟩⟩
theorem tb1587 : Cond.methodLink "TreadRingLaw" 77 (⟨"TreadRingModel", "fault", "(I)I"⟩ : MethodName) ∈ az_TB := az_tb (i := 1587) (by decide +kernel) (by decide +kernel)
theorem tb1588 : Cond.instanceMethod (⟨"TreadRingModel", "fault", "(I)I"⟩ : MethodName) ∈ az_TB := az_tb (i := 1588) (by decide +kernel) (by decide +kernel)
theorem tb1589 : Cond.selects "TreadRingModel" (⟨"TreadRingModel", "fault", "(I)I"⟩ : MethodName) (⟨"TreadRingModel", "fault", "(I)I"⟩ : MethodName) ∈ az_TB := az_tb (i := 1589) (by decide +kernel) (by decide +kernel)
theorem tb1590 : Cond.code (⟨"TreadRingModel", "fault", "(I)I"⟩ : MethodName) prog_9_method_122_code 2 (Option.some .int) ∈ az_TB := az_tb (i := 1590) (by decide +kernel) (by decide +kernel)
theorem ml_RL_77 : az_MV RL 77 yX7_fault cX7_fault 2 (Option.some .int) 1 := ⟨Or.inl tb1587, tb1588, tb1589, tb133, tb1590, ⟨by decide +kernel, by decide +kernel, by decide +kernel⟩⟩
theorem tb1591 : Cond.methodLink "TreadRingLaw" 81 (⟨"TreadRingModel", "run", "()I"⟩ : MethodName) ∈ az_TB := az_tb (i := 1591) (by decide +kernel) (by decide +kernel)
theorem tb1592 : Cond.instanceMethod (⟨"TreadRingModel", "run", "()I"⟩ : MethodName) ∈ az_TB := az_tb (i := 1592) (by decide +kernel) (by decide +kernel)
theorem tb1593 : Cond.selects "TreadRingModel" (⟨"TreadRingModel", "run", "()I"⟩ : MethodName) (⟨"TreadRingModel", "run", "()I"⟩ : MethodName) ∈ az_TB := az_tb (i := 1593) (by decide +kernel) (by decide +kernel)
theorem tb1594 : Cond.code (⟨"TreadRingModel", "run", "()I"⟩ : MethodName) prog_9_method_128_code 1 (Option.some .int) ∈ az_TB := az_tb (i := 1594) (by decide +kernel) (by decide +kernel)
theorem ml_RL_81 : az_MV RL 81 yX7_run cX7_run 1 (Option.some .int) 0 := ⟨Or.inl tb1591, tb1592, tb1593, tb133, tb1594, ⟨by decide +kernel, by decide +kernel, by decide +kernel⟩⟩
theorem tb1595 : Cond.methodLink "TreadRingModel" 454 (⟨"TreadRingModel", "goRun", "()I"⟩ : MethodName) ∈ az_TB := az_tb (i := 1595) (by decide +kernel) (by decide +kernel)
theorem tb1597 : Cond.instanceMethod (⟨"TreadRingModel", "goRun", "()I"⟩ : MethodName) ∈ az_TB := az_tb (i := 1597) (by decide +kernel) (by decide +kernel)
theorem tb116 : Cond.selects "TreadRingModel" (⟨"TreadRingModel", "goRun", "()I"⟩ : MethodName) (⟨"TreadRingModel", "goRun", "()I"⟩ : MethodName) ∈ az_TB := az_tb (i := 116) (by decide +kernel) (by decide +kernel)
theorem tb1598 : Cond.code (⟨"TreadRingModel", "goRun", "()I"⟩ : MethodName) prog_9_method_127_code 2 (Option.some .int) ∈ az_TB := az_tb (i := 1598) (by decide +kernel) (by decide +kernel)
theorem ml_RX7_454 : az_MV RX7 454 yX7_goRun cX7_goRun 2 (Option.some .int) 0 := ⟨Or.inl tb1595, tb1597, tb116, tb133, tb1598, ⟨by decide +kernel, by decide +kernel, by decide +kernel⟩⟩
theorem tb1599 : Cond.methodLink "TreadRingModel" 442 (⟨"TreadRingModel", "leaveBlocks", "()V"⟩ : MethodName) ∈ az_TB := az_tb (i := 1599) (by decide +kernel) (by decide +kernel)
theorem tb1601 : Cond.instanceMethod (⟨"TreadRingModel", "leaveBlocks", "()V"⟩ : MethodName) ∈ az_TB := az_tb (i := 1601) (by decide +kernel) (by decide +kernel)
theorem tb117 : Cond.selects "TreadRingModel" (⟨"TreadRingModel", "leaveBlocks", "()V"⟩ : MethodName) (⟨"TreadRingModel", "leaveBlocks", "()V"⟩ : MethodName) ∈ az_TB := az_tb (i := 117) (by decide +kernel) (by decide +kernel)
theorem tb1602 : Cond.code (⟨"TreadRingModel", "leaveBlocks", "()V"⟩ : MethodName) prog_9_method_123_code 1 (Option.none : Option Jvm.ClassFile.FieldType) ∈ az_TB := az_tb (i := 1602) (by decide +kernel) (by decide +kernel)
theorem ml_RX7_442 : az_MV RX7 442 yX7_leaveBlocks cX7_leaveBlocks 1 (Option.none : Option Jvm.ClassFile.FieldType) 0 := ⟨Or.inl tb1599, tb1601, tb117, tb133, tb1602, ⟨by decide +kernel, by decide +kernel, by decide +kernel⟩⟩
theorem tb1603 : Cond.methodLink "TreadRingModel" 445 (⟨"TreadRingModel", "enter", "(I)V"⟩ : MethodName) ∈ az_TB := az_tb (i := 1603) (by decide +kernel) (by decide +kernel)
theorem tb1605 : Cond.instanceMethod (⟨"TreadRingModel", "enter", "(I)V"⟩ : MethodName) ∈ az_TB := az_tb (i := 1605) (by decide +kernel) (by decide +kernel)
theorem tb118 : Cond.selects "TreadRingModel" (⟨"TreadRingModel", "enter", "(I)V"⟩ : MethodName) (⟨"TreadRingModel", "enter", "(I)V"⟩ : MethodName) ∈ az_TB := az_tb (i := 118) (by decide +kernel) (by decide +kernel)
theorem tb1606 : Cond.code (⟨"TreadRingModel", "enter", "(I)V"⟩ : MethodName) prog_9_method_124_code 2 (Option.none : Option Jvm.ClassFile.FieldType) ∈ az_TB := az_tb (i := 1606) (by decide +kernel) (by decide +kernel)
theorem ml_RX7_445 : az_MV RX7 445 yX7_enter cX7_enter 2 (Option.none : Option Jvm.ClassFile.FieldType) 1 := ⟨Or.inl tb1603, tb1605, tb118, tb133, tb1606, ⟨by decide +kernel, by decide +kernel, by decide +kernel⟩⟩
theorem tb1607 : Cond.methodLink "TreadRingModel" 448 (⟨"TreadRingModel", "canGo", "()Z"⟩ : MethodName) ∈ az_TB := az_tb (i := 1607) (by decide +kernel) (by decide +kernel)
theorem tb1609 : Cond.instanceMethod (⟨"TreadRingModel", "canGo", "()Z"⟩ : MethodName) ∈ az_TB := az_tb (i := 1609) (by decide +kernel) (by decide +kernel)
theorem tb119 : Cond.selects "TreadRingModel" (⟨"TreadRingModel", "canGo", "()Z"⟩ : MethodName) (⟨"TreadRingModel", "canGo", "()Z"⟩ : MethodName) ∈ az_TB := az_tb (i := 119) (by decide +kernel) (by decide +kernel)
theorem tb1610 : Cond.code (⟨"TreadRingModel", "canGo", "()Z"⟩ : MethodName) prog_9_method_125_code 1 (Option.some .boolean) ∈ az_TB := az_tb (i := 1610) (by decide +kernel) (by decide +kernel)
theorem ml_RX7_448 : az_MV RX7 448 yX7_canGo cX7_canGo 1 (Option.some .boolean) 0 := ⟨Or.inl tb1607, tb1609, tb119, tb133, tb1610, ⟨by decide +kernel, by decide +kernel, by decide +kernel⟩⟩
theorem tb1611 : Cond.methodLink "TreadRingModel" 451 (⟨"TreadRingModel", "doGo", "()V"⟩ : MethodName) ∈ az_TB := az_tb (i := 1611) (by decide +kernel) (by decide +kernel)
theorem tb1613 : Cond.instanceMethod (⟨"TreadRingModel", "doGo", "()V"⟩ : MethodName) ∈ az_TB := az_tb (i := 1613) (by decide +kernel) (by decide +kernel)
theorem tb120 : Cond.selects "TreadRingModel" (⟨"TreadRingModel", "doGo", "()V"⟩ : MethodName) (⟨"TreadRingModel", "doGo", "()V"⟩ : MethodName) ∈ az_TB := az_tb (i := 120) (by decide +kernel) (by decide +kernel)
theorem tb1614 : Cond.code (⟨"TreadRingModel", "doGo", "()V"⟩ : MethodName) prog_9_method_126_code 3 (Option.none : Option Jvm.ClassFile.FieldType) ∈ az_TB := az_tb (i := 1614) (by decide +kernel) (by decide +kernel)
theorem ml_RX7_451 : az_MV RX7 451 yX7_doGo cX7_doGo 3 (Option.none : Option Jvm.ClassFile.FieldType) 0 := ⟨Or.inl tb1611, tb1613, tb120, tb133, tb1614, ⟨by decide +kernel, by decide +kernel, by decide +kernel⟩⟩
theorem tb1615 : Cond.methodLink "TreadRingLaw" 85 (⟨"TreadRingModel", "runBy", "(II)I"⟩ : MethodName) ∈ az_TB := az_tb (i := 1615) (by decide +kernel) (by decide +kernel)
theorem tb1616 : Cond.instanceMethod (⟨"TreadRingModel", "runBy", "(II)I"⟩ : MethodName) ∈ az_TB := az_tb (i := 1616) (by decide +kernel) (by decide +kernel)
theorem tb1617 : Cond.selects "TreadRingModel" (⟨"TreadRingModel", "runBy", "(II)I"⟩ : MethodName) (⟨"TreadRingModel", "runBy", "(II)I"⟩ : MethodName) ∈ az_TB := az_tb (i := 1617) (by decide +kernel) (by decide +kernel)
theorem tb1618 : Cond.code (⟨"TreadRingModel", "runBy", "(II)I"⟩ : MethodName) prog_9_method_131_code 3 (Option.some .int) ∈ az_TB := az_tb (i := 1618) (by decide +kernel) (by decide +kernel)
theorem ml_RL_85 : az_MV RL 85 yX7_runBy cX7_runBy 3 (Option.some .int) 2 := ⟨Or.inl tb1615, tb1616, tb1617, tb133, tb1618, ⟨by decide +kernel, by decide +kernel, by decide +kernel⟩⟩
theorem tb1619 : Cond.methodLink "TreadRingModel" 460 (⟨"TreadRingModel", "apart", "(II)I"⟩ : MethodName) ∈ az_TB := az_tb (i := 1619) (by decide +kernel) (by decide +kernel)
theorem tb1621 : Cond.instanceMethod (⟨"TreadRingModel", "apart", "(II)I"⟩ : MethodName) ∈ az_TB := az_tb (i := 1621) (by decide +kernel) (by decide +kernel)
theorem tb121 : Cond.selects "TreadRingModel" (⟨"TreadRingModel", "apart", "(II)I"⟩ : MethodName) (⟨"TreadRingModel", "apart", "(II)I"⟩ : MethodName) ∈ az_TB := az_tb (i := 121) (by decide +kernel) (by decide +kernel)
theorem tb1622 : Cond.code (⟨"TreadRingModel", "apart", "(II)I"⟩ : MethodName) prog_9_method_129_code 5 (Option.some .int) ∈ az_TB := az_tb (i := 1622) (by decide +kernel) (by decide +kernel)
theorem ml_RX7_460 : az_MV RX7 460 yX7_apart cX7_apart 5 (Option.some .int) 2 := ⟨Or.inl tb1619, tb1621, tb121, tb133, tb1622, ⟨by decide +kernel, by decide +kernel, by decide +kernel⟩⟩
theorem tb1623 : Cond.methodLink "TreadRingModel" 457 (⟨"TreadRingModel", "apartTells", "(I)I"⟩ : MethodName) ∈ az_TB := az_tb (i := 1623) (by decide +kernel) (by decide +kernel)
theorem tb1625 : Cond.instanceMethod (⟨"TreadRingModel", "apartTells", "(I)I"⟩ : MethodName) ∈ az_TB := az_tb (i := 1625) (by decide +kernel) (by decide +kernel)
theorem tb122 : Cond.selects "TreadRingModel" (⟨"TreadRingModel", "apartTells", "(I)I"⟩ : MethodName) (⟨"TreadRingModel", "apartTells", "(I)I"⟩ : MethodName) ∈ az_TB := az_tb (i := 122) (by decide +kernel) (by decide +kernel)
theorem tb1626 : Cond.code (⟨"TreadRingModel", "apartTells", "(I)I"⟩ : MethodName) prog_9_method_130_code 2 (Option.some .int) ∈ az_TB := az_tb (i := 1626) (by decide +kernel) (by decide +kernel)
theorem ml_RX7_457 : az_MV RX7 457 yX7_apartTells cX7_apartTells 2 (Option.some .int) 1 := ⟨Or.inl tb1623, tb1625, tb122, tb133, tb1626, ⟨by decide +kernel, by decide +kernel, by decide +kernel⟩⟩
theorem tb1627 : Cond.methodLink "TreadRingLaw" 89 (⟨"TreadRingModel", "cheapest", "(I)I"⟩ : MethodName) ∈ az_TB := az_tb (i := 1627) (by decide +kernel) (by decide +kernel)
theorem tb1628 : Cond.instanceMethod (⟨"TreadRingModel", "cheapest", "(I)I"⟩ : MethodName) ∈ az_TB := az_tb (i := 1628) (by decide +kernel) (by decide +kernel)
theorem tb1629 : Cond.selects "TreadRingModel" (⟨"TreadRingModel", "cheapest", "(I)I"⟩ : MethodName) (⟨"TreadRingModel", "cheapest", "(I)I"⟩ : MethodName) ∈ az_TB := az_tb (i := 1629) (by decide +kernel) (by decide +kernel)
theorem tb1630 : Cond.code (⟨"TreadRingModel", "cheapest", "(I)I"⟩ : MethodName) prog_9_method_132_code 6 (Option.some .int) ∈ az_TB := az_tb (i := 1630) (by decide +kernel) (by decide +kernel)
theorem ml_RL_89 : az_MV RL 89 yX7_cheapest cX7_cheapest 6 (Option.some .int) 1 := ⟨Or.inl tb1627, tb1628, tb1629, tb133, tb1630, ⟨by decide +kernel, by decide +kernel, by decide +kernel⟩⟩
theorem tb1631 : Cond.methodLink "TreadRingLaw" 93 (⟨"TreadRingModel", "suits", "()I"⟩ : MethodName) ∈ az_TB := az_tb (i := 1631) (by decide +kernel) (by decide +kernel)
theorem tb1632 : Cond.instanceMethod (⟨"TreadRingModel", "suits", "()I"⟩ : MethodName) ∈ az_TB := az_tb (i := 1632) (by decide +kernel) (by decide +kernel)
theorem tb1633 : Cond.selects "TreadRingModel" (⟨"TreadRingModel", "suits", "()I"⟩ : MethodName) (⟨"TreadRingModel", "suits", "()I"⟩ : MethodName) ∈ az_TB := az_tb (i := 1633) (by decide +kernel) (by decide +kernel)
theorem tb1634 : Cond.code (⟨"TreadRingModel", "suits", "()I"⟩ : MethodName) prog_9_method_133_code 3 (Option.some .int) ∈ az_TB := az_tb (i := 1634) (by decide +kernel) (by decide +kernel)
theorem ml_RL_93 : az_MV RL 93 yX7_suits cX7_suits 3 (Option.some .int) 0 := ⟨Or.inl tb1631, tb1632, tb1633, tb133, tb1634, ⟨by decide +kernel, by decide +kernel, by decide +kernel⟩⟩
theorem tb1635 : Cond.methodLink "TreadRingLaw" 97 (⟨"TreadRingModel", "undo", "()Z"⟩ : MethodName) ∈ az_TB := az_tb (i := 1635) (by decide +kernel) (by decide +kernel)
theorem tb1636 : Cond.instanceMethod (⟨"TreadRingModel", "undo", "()Z"⟩ : MethodName) ∈ az_TB := az_tb (i := 1636) (by decide +kernel) (by decide +kernel)
theorem tb1637 : Cond.selects "TreadRingModel" (⟨"TreadRingModel", "undo", "()Z"⟩ : MethodName) (⟨"TreadRingModel", "undo", "()Z"⟩ : MethodName) ∈ az_TB := az_tb (i := 1637) (by decide +kernel) (by decide +kernel)
theorem tb1638 : Cond.code (⟨"TreadRingModel", "undo", "()Z"⟩ : MethodName) prog_9_method_136_code 1 (Option.some .boolean) ∈ az_TB := az_tb (i := 1638) (by decide +kernel) (by decide +kernel)
theorem ml_RL_97 : az_MV RL 97 yX7_undo cX7_undo 1 (Option.some .boolean) 0 := ⟨Or.inl tb1635, tb1636, tb1637, tb133, tb1638, ⟨by decide +kernel, by decide +kernel, by decide +kernel⟩⟩
theorem tb1639 : Cond.methodLink "TreadRingModel" 463 (⟨"TreadRingModel", "swapAll", "()V"⟩ : MethodName) ∈ az_TB := az_tb (i := 1639) (by decide +kernel) (by decide +kernel)
theorem tb1641 : Cond.instanceMethod (⟨"TreadRingModel", "swapAll", "()V"⟩ : MethodName) ∈ az_TB := az_tb (i := 1641) (by decide +kernel) (by decide +kernel)
theorem tb123 : Cond.selects "TreadRingModel" (⟨"TreadRingModel", "swapAll", "()V"⟩ : MethodName) (⟨"TreadRingModel", "swapAll", "()V"⟩ : MethodName) ∈ az_TB := az_tb (i := 123) (by decide +kernel) (by decide +kernel)
theorem tb1642 : Cond.code (⟨"TreadRingModel", "swapAll", "()V"⟩ : MethodName) prog_9_method_135_code 3 (Option.none : Option Jvm.ClassFile.FieldType) ∈ az_TB := az_tb (i := 1642) (by decide +kernel) (by decide +kernel)
theorem ml_RX7_463 : az_MV RX7 463 yX7_swapAll cX7_swapAll 3 (Option.none : Option Jvm.ClassFile.FieldType) 0 := ⟨Or.inl tb1639, tb1641, tb123, tb133, tb1642, ⟨by decide +kernel, by decide +kernel, by decide +kernel⟩⟩
theorem tb1643 : Cond.methodLink "TreadRingLaw" 101 (⟨"TreadRingModel", "redo", "()Z"⟩ : MethodName) ∈ az_TB := az_tb (i := 1643) (by decide +kernel) (by decide +kernel)
theorem tb1644 : Cond.instanceMethod (⟨"TreadRingModel", "redo", "()Z"⟩ : MethodName) ∈ az_TB := az_tb (i := 1644) (by decide +kernel) (by decide +kernel)
theorem tb1645 : Cond.selects "TreadRingModel" (⟨"TreadRingModel", "redo", "()Z"⟩ : MethodName) (⟨"TreadRingModel", "redo", "()Z"⟩ : MethodName) ∈ az_TB := az_tb (i := 1645) (by decide +kernel) (by decide +kernel)
theorem tb1646 : Cond.code (⟨"TreadRingModel", "redo", "()Z"⟩ : MethodName) prog_9_method_137_code 1 (Option.some .boolean) ∈ az_TB := az_tb (i := 1646) (by decide +kernel) (by decide +kernel)
theorem ml_RL_101 : az_MV RL 101 yX7_redo cX7_redo 1 (Option.some .boolean) 0 := ⟨Or.inl tb1643, tb1644, tb1645, tb133, tb1646, ⟨by decide +kernel, by decide +kernel, by decide +kernel⟩⟩
theorem tb1647 : Cond.methodLink "TreadRingLaw" 117 (⟨"TreadRingModel", "image", "(I)I"⟩ : MethodName) ∈ az_TB := az_tb (i := 1647) (by decide +kernel) (by decide +kernel)
theorem tb1648 : Cond.instanceMethod (⟨"TreadRingModel", "image", "(I)I"⟩ : MethodName) ∈ az_TB := az_tb (i := 1648) (by decide +kernel) (by decide +kernel)
theorem tb1649 : Cond.selects "TreadRingModel" (⟨"TreadRingModel", "image", "(I)I"⟩ : MethodName) (⟨"TreadRingModel", "image", "(I)I"⟩ : MethodName) ∈ az_TB := az_tb (i := 1649) (by decide +kernel) (by decide +kernel)
theorem tb1650 : Cond.code (⟨"TreadRingModel", "image", "(I)I"⟩ : MethodName) prog_9_method_138_code 3 (Option.some .int) ∈ az_TB := az_tb (i := 1650) (by decide +kernel) (by decide +kernel)
theorem ml_RL_117 : az_MV RL 117 yX7_image cX7_image 3 (Option.some .int) 1 := ⟨Or.inl tb1647, tb1648, tb1649, tb133, tb1650, ⟨by decide +kernel, by decide +kernel, by decide +kernel⟩⟩
theorem tb1651 : Cond.methodLink "TreadRingLaw" 121 (⟨"TreadRingModel", "back", "(I)I"⟩ : MethodName) ∈ az_TB := az_tb (i := 1651) (by decide +kernel) (by decide +kernel)
theorem tb1652 : Cond.instanceMethod (⟨"TreadRingModel", "back", "(I)I"⟩ : MethodName) ∈ az_TB := az_tb (i := 1652) (by decide +kernel) (by decide +kernel)
theorem tb1653 : Cond.selects "TreadRingModel" (⟨"TreadRingModel", "back", "(I)I"⟩ : MethodName) (⟨"TreadRingModel", "back", "(I)I"⟩ : MethodName) ∈ az_TB := az_tb (i := 1653) (by decide +kernel) (by decide +kernel)
theorem tb1654 : Cond.code (⟨"TreadRingModel", "back", "(I)I"⟩ : MethodName) prog_9_method_139_code 3 (Option.some .int) ∈ az_TB := az_tb (i := 1654) (by decide +kernel) (by decide +kernel)
theorem ml_RL_121 : az_MV RL 121 yX7_back cX7_back 3 (Option.some .int) 1 := ⟨Or.inl tb1651, tb1652, tb1653, tb133, tb1654, ⟨by decide +kernel, by decide +kernel, by decide +kernel⟩⟩
theorem tb1655 : Cond.methodLink "TreadRingLaw" 182 (⟨"TreadRingModel", "about", "(I)I"⟩ : MethodName) ∈ az_TB := az_tb (i := 1655) (by decide +kernel) (by decide +kernel)
theorem tb1656 : Cond.instanceMethod (⟨"TreadRingModel", "about", "(I)I"⟩ : MethodName) ∈ az_TB := az_tb (i := 1656) (by decide +kernel) (by decide +kernel)
theorem tb1657 : Cond.selects "TreadRingModel" (⟨"TreadRingModel", "about", "(I)I"⟩ : MethodName) (⟨"TreadRingModel", "about", "(I)I"⟩ : MethodName) ∈ az_TB := az_tb (i := 1657) (by decide +kernel) (by decide +kernel)
theorem tb1658 : Cond.code (⟨"TreadRingModel", "about", "(I)I"⟩ : MethodName) prog_9_method_140_code 2 (Option.some .int) ∈ az_TB := az_tb (i := 1658) (by decide +kernel) (by decide +kernel)
theorem ml_RL_182 : az_MV RL 182 yX7_about cX7_about 2 (Option.some .int) 1 := ⟨Or.inl tb1655, tb1656, tb1657, tb133, tb1658, ⟨by decide +kernel, by decide +kernel, by decide +kernel⟩⟩
theorem tb140 : Cond.classLink "TreadRingLaw" 7 "TreadRing" ∈ az_TB := az_tb (i := 140) (by decide +kernel) (by decide +kernel)
theorem cl_RL_7 : Cond.classLink RL 7 "TreadRing" ∈ az_TB := tb140
theorem tb141 : Cond.instantiable "TreadRing" 15 ∈ az_TB := az_tb (i := 141) (by decide +kernel) (by decide +kernel)
theorem nc_RL_7 : az_NC RL 7 6 := ⟨RX6, TX6, 15, rfl, rfl, by decide, uw6, tyX6_ok, cl_RL_7, tb141, tb125, by decide +kernel⟩
theorem tb148 : Cond.classLink "TreadRing" 9 "TreadRing$Heap" ∈ az_TB := az_tb (i := 148) (by decide +kernel) (by decide +kernel)
theorem cl_RX6_9 : Cond.classLink RX6 9 "TreadRing$Heap" ∈ az_TB := tb148
theorem tb150 : Cond.instantiable "TreadRing$Heap" 16 ∈ az_TB := az_tb (i := 150) (by decide +kernel) (by decide +kernel)
theorem nc_RX6_9 : az_NC RX6 9 0 := ⟨RX0, TX0, 16, rfl, rfl, by decide, uw0, tyX0_ok, cl_RX6_9, tb150, tb126, by decide +kernel⟩
theorem tb155 : Cond.classLink "TreadRing$Heap" 9 "TreadRing$Rings" ∈ az_TB := az_tb (i := 155) (by decide +kernel) (by decide +kernel)
theorem cl_RX0_9 : Cond.classLink RX0 9 "TreadRing$Rings" ∈ az_TB := tb155
theorem tb156 : Cond.instantiable "TreadRing$Rings" 4 ∈ az_TB := az_tb (i := 156) (by decide +kernel) (by decide +kernel)
theorem nc_RX0_9 : az_NC RX0 9 3 := ⟨RX3, TX3, 4, rfl, rfl, by decide, uw3, tyX3_ok, cl_RX0_9, tb156, tb127, by decide +kernel⟩
theorem tb254 : Cond.classLink "TreadRing" 41 "TreadRing$Reach" ∈ az_TB := az_tb (i := 254) (by decide +kernel) (by decide +kernel)
theorem cl_RX6_41 : Cond.classLink RX6 41 "TreadRing$Reach" ∈ az_TB := tb254
theorem tb255 : Cond.instantiable "TreadRing$Reach" 3 ∈ az_TB := az_tb (i := 255) (by decide +kernel) (by decide +kernel)
theorem nc_RX6_41 : az_NC RX6 41 1 := ⟨RX1, TX1, 3, rfl, rfl, by decide, uw1, tyX1_ok, cl_RX6_41, tb255, tb129, by decide +kernel⟩
theorem tb272 : Cond.classLink "TreadRing" 54 "TreadRing$Reader" ∈ az_TB := az_tb (i := 272) (by decide +kernel) (by decide +kernel)
theorem cl_RX6_54 : Cond.classLink RX6 54 "TreadRing$Reader" ∈ az_TB := tb272
theorem tb273 : Cond.instantiable "TreadRing$Reader" 9 ∈ az_TB := az_tb (i := 273) (by decide +kernel) (by decide +kernel)
theorem nc_RX6_54 : az_NC RX6 54 2 := ⟨RX2, TX2, 9, rfl, rfl, by decide, uw2, tyX2_ok, cl_RX6_54, tb273, tb130, by decide +kernel⟩
theorem tb278 : Cond.classLink "TreadRing$Reader" 25 "TreadRing$Script" ∈ az_TB := az_tb (i := 278) (by decide +kernel) (by decide +kernel)
theorem cl_RX2_25 : Cond.classLink RX2 25 "TreadRing$Script" ∈ az_TB := tb278
theorem tb279 : Cond.instantiable "TreadRing$Script" 6 ∈ az_TB := az_tb (i := 279) (by decide +kernel) (by decide +kernel)
theorem nc_RX2_25 : az_NC RX2 25 5 := ⟨RX5, TX5, 6, rfl, rfl, by decide, uw5, tyX5_ok, cl_RX2_25, tb279, tb131, by decide +kernel⟩
theorem tb341 : Cond.classLink "TreadRing" 61 "TreadRing$Script" ∈ az_TB := az_tb (i := 341) (by decide +kernel) (by decide +kernel)
theorem cl_RX6_61 : Cond.classLink RX6 61 "TreadRing$Script" ∈ az_TB := tb341
theorem nc_RX6_61 : az_NC RX6 61 5 := ⟨RX5, TX5, 6, rfl, rfl, by decide, uw5, tyX5_ok, cl_RX6_61, tb279, tb131, by decide +kernel⟩
theorem tb343 : Cond.classLink "TreadRing" 71 "TreadRing$Runner" ∈ az_TB := az_tb (i := 343) (by decide +kernel) (by decide +kernel)
theorem cl_RX6_71 : Cond.classLink RX6 71 "TreadRing$Runner" ∈ az_TB := tb343
theorem tb344 : Cond.instantiable "TreadRing$Runner" 4 ∈ az_TB := az_tb (i := 344) (by decide +kernel) (by decide +kernel)
theorem nc_RX6_71 : az_NC RX6 71 4 := ⟨RX4, TX4, 4, rfl, rfl, by decide, uw4, tyX4_ok, cl_RX6_71, tb344, tb132, by decide +kernel⟩
theorem tb518 : Cond.constant "TreadRing$Heap" 140 1000000 ∈ az_TB := az_tb (i := 518) (by decide +kernel) (by decide +kernel)
theorem kc_RX0_140 : Cond.constant RX0 140 (Int32.ofInt 1000000) ∈ az_TB := tb518
theorem tb775 : Cond.constant "TreadRing" 269 1000000 ∈ az_TB := az_tb (i := 775) (by decide +kernel) (by decide +kernel)
theorem kc_RX6_269 : Cond.constant RX6 269 (Int32.ofInt 1000000) ∈ az_TB := tb775
theorem tb967 : Cond.classLink "TreadRingLaw" 10 "TreadRingModel" ∈ az_TB := az_tb (i := 967) (by decide +kernel) (by decide +kernel)
theorem cl_RL_10 : Cond.classLink RL 10 "TreadRingModel" ∈ az_TB := tb967
theorem tb968 : Cond.instantiable "TreadRingModel" 46 ∈ az_TB := az_tb (i := 968) (by decide +kernel) (by decide +kernel)
theorem nc_RL_10 : az_NC RL 10 7 := ⟨RX7, TX7, 46, rfl, rfl, by decide, uw7, tyX7_ok, cl_RL_10, tb968, tb133, by decide +kernel⟩
theorem tb1270 : Cond.constant "TreadRingModel" 188 1000000 ∈ az_TB := az_tb (i := 1270) (by decide +kernel) (by decide +kernel)
theorem kc_RX7_188 : Cond.constant RX7 188 (Int32.ofInt 1000000) ∈ az_TB := tb1270
theorem tb1540 : Cond.constant "TreadRingModel" 383 643248 ∈ az_TB := az_tb (i := 1540) (by decide +kernel) (by decide +kernel)
theorem kc_RX7_383 : Cond.constant RX7 383 (Int32.ofInt 643248) ∈ az_TB := tb1540
theorem tb1545 : Cond.constant "TreadRingModel" 387 21279923 ∈ az_TB := az_tb (i := 1545) (by decide +kernel) (by decide +kernel)
theorem kc_RX7_387 : Cond.constant RX7 387 (Int32.ofInt 21279923) ∈ az_TB := tb1545
theorem tb1582 : Cond.constant "TreadRingModel" 423 474565 ∈ az_TB := az_tb (i := 1582) (by decide +kernel) (by decide +kernel)
theorem kc_RX7_423 : Cond.constant RX7 423 (Int32.ofInt 474565) ∈ az_TB := tb1582
theorem tb182 : Cond.arrayClass .int ∈ az_TB := az_tb (i := 182) (by decide +kernel) (by decide +kernel)
theorem ac_int : Cond.arrayClass .int ∈ az_TB := tb182
theorem tb181 : Cond.arrayClass .boolean ∈ az_TB := az_tb (i := 181) (by decide +kernel) (by decide +kernel)
theorem ac_boolean : Cond.arrayClass .boolean ∈ az_TB := tb181
