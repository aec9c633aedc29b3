theorem wd_15 : ((Jvm.Cond.initialized "TripleDeskModel")) ∈ lw_gd := lw_gd_in (i := 15) (by decide +kernel) rfl
theorem wd_1033 : ((Jvm.Cond.methodLink "TripleDeskModel" (144 : Nat) ({ cls := "TripleDeskModel", name := "putAtom", desc := "([IIIIIII)V" } : Jvm.MethodName))) ∈ lw_gd := lw_gd_in (i := 1033) (by decide +kernel) rfl
theorem wd_1034 : ((Jvm.Cond.static ({ cls := "TripleDeskModel", name := "putAtom", desc := "([IIIIIII)V" } : Jvm.MethodName))) ∈ lw_gd := lw_gd_in (i := 1034) (by decide +kernel) rfl
theorem wd_1035 : ((Jvm.Cond.code ({ cls := "TripleDeskModel", name := "putAtom", desc := "([IIIIIII)V" } : Jvm.MethodName) prog_13_method_3_code (7 : Nat) (Option.none : Option Jvm.ClassFile.FieldType))) ∈ lw_gd := lw_gd_in (i := 1035) (by decide +kernel) rfl
theorem wd_1037 : ((Jvm.Cond.fieldLink "TripleDeskModel" (151 : Nat) "TripleDeskModel" "taped" "I")) ∈ lw_gd := lw_gd_in (i := 1037) (by decide +kernel) rfl
theorem wd_1038 : ((Jvm.Cond.fieldLink "TripleDeskModel" (7 : Nat) "TripleDeskModel" "tape" "[I")) ∈ lw_gd := lw_gd_in (i := 1038) (by decide +kernel) rfl
theorem wd_1039 : ((Jvm.Cond.fieldLink "TripleDeskModel" (156 : Nat) "TripleDeskModel" "size" "I")) ∈ lw_gd := lw_gd_in (i := 1039) (by decide +kernel) rfl
theorem wd_1042 : ((Jvm.Cond.fieldLink "TripleDeskModel" (178 : Nat) "TripleDeskModel" "kind" "I")) ∈ lw_gd := lw_gd_in (i := 1042) (by decide +kernel) rfl
theorem wd_1043 : ((Jvm.Cond.fieldLink "TripleDeskModel" (181 : Nat) "TripleDeskModel" "value" "I")) ∈ lw_gd := lw_gd_in (i := 1043) (by decide +kernel) rfl
theorem wd_1044 : ((Jvm.Cond.fieldLink "TripleDeskModel" (175 : Nat) "TripleDeskModel" "begin" "I")) ∈ lw_gd := lw_gd_in (i := 1044) (by decide +kernel) rfl
theorem wd_1045 : ((Jvm.Cond.fieldLink "TripleDeskModel" (164 : Nat) "TripleDeskModel" "end" "I")) ∈ lw_gd := lw_gd_in (i := 1045) (by decide +kernel) rfl
theorem wd_1046 : ((Jvm.Cond.fieldLink "TripleDeskModel" (199 : Nat) "TripleDeskModel" "failed" "Z")) ∈ lw_gd := lw_gd_in (i := 1046) (by decide +kernel) rfl
theorem wd_1051 : ((Jvm.Cond.fieldLink "TripleDeskModel" (272 : Nat) "TripleDeskModel" "half" "I")) ∈ lw_gd := lw_gd_in (i := 1051) (by decide +kernel) rfl
theorem wd_1052 : ((Jvm.Cond.fieldLink "TripleDeskModel" (26 : Nat) "TripleDeskModel" "items" "[I")) ∈ lw_gd := lw_gd_in (i := 1052) (by decide +kernel) rfl
theorem wd_1053 : ((Jvm.Cond.fieldLink "TripleDeskModel" (29 : Nat) "TripleDeskModel" "op" "[I")) ∈ lw_gd := lw_gd_in (i := 1053) (by decide +kernel) rfl
theorem wd_1054 : ((Jvm.Cond.fieldLink "TripleDeskModel" (32 : Nat) "TripleDeskModel" "number" "[I")) ∈ lw_gd := lw_gd_in (i := 1054) (by decide +kernel) rfl
theorem wd_1062 : ((Jvm.Cond.fieldLink "TripleDeskModel" (56 : Nat) "TripleDeskModel" "hasVariant" "[Z")) ∈ lw_gd := lw_gd_in (i := 1062) (by decide +kernel) rfl
theorem wd_1065 : ((Jvm.Cond.fieldLink "TripleDeskModel" (66 : Nat) "TripleDeskModel" "pool" "[I")) ∈ lw_gd := lw_gd_in (i := 1065) (by decide +kernel) rfl
theorem wd_1066 : ((Jvm.Cond.fieldLink "TripleDeskModel" (69 : Nat) "TripleDeskModel" "pooled" "[I")) ∈ lw_gd := lw_gd_in (i := 1066) (by decide +kernel) rfl
theorem wd_1067 : ((Jvm.Cond.fieldLink "TripleDeskModel" (226 : Nat) "TripleDeskModel" "signs" "I")) ∈ lw_gd := lw_gd_in (i := 1067) (by decide +kernel) rfl
theorem wd_1068 : ((Jvm.Cond.fieldLink "TripleDeskModel" (72 : Nat) "TripleDeskModel" "sign" "[I")) ∈ lw_gd := lw_gd_in (i := 1068) (by decide +kernel) rfl
theorem wd_1069 : ((Jvm.Cond.fieldLink "TripleDeskModel" (229 : Nat) "TripleDeskModel" "stacked" "I")) ∈ lw_gd := lw_gd_in (i := 1069) (by decide +kernel) rfl
theorem wd_1070 : ((Jvm.Cond.fieldLink "TripleDeskModel" (75 : Nat) "TripleDeskModel" "stack" "[I")) ∈ lw_gd := lw_gd_in (i := 1070) (by decide +kernel) rfl
theorem wd_1071 : ((Jvm.Cond.fieldLink "TripleDeskModel" (206 : Nat) "TripleDeskModel" "name" "I")) ∈ lw_gd := lw_gd_in (i := 1071) (by decide +kernel) rfl
theorem wd_1072 : ((Jvm.Cond.fieldLink "TripleDeskModel" (209 : Nat) "TripleDeskModel" "shift" "I")) ∈ lw_gd := lw_gd_in (i := 1072) (by decide +kernel) rfl
theorem wd_1106 : ((Jvm.Cond.fieldLink "TripleDeskModel" (238 : Nat) "TripleDeskModel" "atoms" "I")) ∈ lw_gd := lw_gd_in (i := 1106) (by decide +kernel) rfl
theorem wd_1275 : ((Jvm.Cond.methodLink "TripleDeskModel" (203 : Nat) ({ cls := "TripleDeskModel", name := "next", desc := "()V" } : Jvm.MethodName))) ∈ lw_gd := lw_gd_in (i := 1275) (by decide +kernel) rfl
theorem wd_1277 : ((Jvm.Cond.instanceMethod ({ cls := "TripleDeskModel", name := "next", desc := "()V" } : Jvm.MethodName))) ∈ lw_gd := lw_gd_in (i := 1277) (by decide +kernel) rfl
theorem wd_1278 : ((Jvm.Cond.code ({ cls := "TripleDeskModel", name := "next", desc := "()V" } : Jvm.MethodName) prog_13_method_12_code (3 : Nat) (Option.none : Option Jvm.ClassFile.FieldType))) ∈ lw_gd := lw_gd_in (i := 1278) (by decide +kernel) rfl
theorem wd_1279 : ((Jvm.Cond.methodLink "TripleDeskModel" (167 : Nat) ({ cls := "TripleDeskModel", name := "byteAt", desc := "(I)I" } : Jvm.MethodName))) ∈ lw_gd := lw_gd_in (i := 1279) (by decide +kernel) rfl
theorem wd_1281 : ((Jvm.Cond.instanceMethod ({ cls := "TripleDeskModel", name := "byteAt", desc := "(I)I" } : Jvm.MethodName))) ∈ lw_gd := lw_gd_in (i := 1281) (by decide +kernel) rfl
theorem wd_1282 : ((Jvm.Cond.code ({ cls := "TripleDeskModel", name := "byteAt", desc := "(I)I" } : Jvm.MethodName) prog_13_method_7_code (2 : Nat) (Option.some Jvm.ClassFile.FieldType.int))) ∈ lw_gd := lw_gd_in (i := 1282) (by decide +kernel) rfl
theorem wd_1283 : ((Jvm.Cond.methodLink "TripleDeskModel" (171 : Nat) ({ cls := "TripleDeskModel", name := "isLetter", desc := "(I)Z" } : Jvm.MethodName))) ∈ lw_gd := lw_gd_in (i := 1283) (by decide +kernel) rfl
theorem wd_1284 : ((Jvm.Cond.static ({ cls := "TripleDeskModel", name := "isLetter", desc := "(I)Z" } : Jvm.MethodName))) ∈ lw_gd := lw_gd_in (i := 1284) (by decide +kernel) rfl
theorem wd_1285 : ((Jvm.Cond.code ({ cls := "TripleDeskModel", name := "isLetter", desc := "(I)Z" } : Jvm.MethodName) prog_13_method_5_code (1 : Nat) (Option.some Jvm.ClassFile.FieldType.boolean))) ∈ lw_gd := lw_gd_in (i := 1285) (by decide +kernel) rfl
theorem wd_1286 : ((Jvm.Cond.methodLink "TripleDeskModel" (190 : Nat) ({ cls := "TripleDeskModel", name := "readWord", desc := "()V" } : Jvm.MethodName))) ∈ lw_gd := lw_gd_in (i := 1286) (by decide +kernel) rfl
theorem wd_1288 : ((Jvm.Cond.instanceMethod ({ cls := "TripleDeskModel", name := "readWord", desc := "()V" } : Jvm.MethodName))) ∈ lw_gd := lw_gd_in (i := 1288) (by decide +kernel) rfl
theorem wd_1289 : ((Jvm.Cond.code ({ cls := "TripleDeskModel", name := "readWord", desc := "()V" } : Jvm.MethodName) prog_13_method_9_code (4 : Nat) (Option.none : Option Jvm.ClassFile.FieldType))) ∈ lw_gd := lw_gd_in (i := 1289) (by decide +kernel) rfl
theorem wd_1290 : ((Jvm.Cond.methodLink "TripleDeskModel" (184 : Nat) ({ cls := "TripleDeskModel", name := "wordOf", desc := "(I)I" } : Jvm.MethodName))) ∈ lw_gd := lw_gd_in (i := 1290) (by decide +kernel) rfl
theorem wd_1291 : ((Jvm.Cond.static ({ cls := "TripleDeskModel", name := "wordOf", desc := "(I)I" } : Jvm.MethodName))) ∈ lw_gd := lw_gd_in (i := 1291) (by decide +kernel) rfl
theorem wd_1292 : ((Jvm.Cond.code ({ cls := "TripleDeskModel", name := "wordOf", desc := "(I)I" } : Jvm.MethodName) prog_13_method_8_code (1 : Nat) (Option.some Jvm.ClassFile.FieldType.int))) ∈ lw_gd := lw_gd_in (i := 1292) (by decide +kernel) rfl
theorem wd_1293 : ((Jvm.Cond.constant "TripleDeskModel" (159 : Nat) (382255 : Int32))) ∈ lw_gd := lw_gd_in (i := 1293) (by decide +kernel) rfl
theorem wd_1294 : ((Jvm.Cond.constant "TripleDeskModel" (160 : Nat) (399641 : Int32))) ∈ lw_gd := lw_gd_in (i := 1294) (by decide +kernel) rfl
theorem wd_1295 : ((Jvm.Cond.constant "TripleDeskModel" (161 : Nat) (107681 : Int32))) ∈ lw_gd := lw_gd_in (i := 1295) (by decide +kernel) rfl
theorem wd_1296 : ((Jvm.Cond.constant "TripleDeskModel" (162 : Nat) (12387497 : Int32))) ∈ lw_gd := lw_gd_in (i := 1296) (by decide +kernel) rfl
theorem wd_1297 : ((Jvm.Cond.constant "TripleDeskModel" (163 : Nat) (24824414 : Int32))) ∈ lw_gd := lw_gd_in (i := 1297) (by decide +kernel) rfl
theorem wd_1298 : ((Jvm.Cond.methodLink "TripleDeskModel" (187 : Nat) ({ cls := "TripleDeskModel", name := "isDigit", desc := "(I)Z" } : Jvm.MethodName))) ∈ lw_gd := lw_gd_in (i := 1298) (by decide +kernel) rfl
theorem wd_1299 : ((Jvm.Cond.static ({ cls := "TripleDeskModel", name := "isDigit", desc := "(I)Z" } : Jvm.MethodName))) ∈ lw_gd := lw_gd_in (i := 1299) (by decide +kernel) rfl
theorem wd_1300 : ((Jvm.Cond.code ({ cls := "TripleDeskModel", name := "isDigit", desc := "(I)Z" } : Jvm.MethodName) prog_13_method_6_code (1 : Nat) (Option.some Jvm.ClassFile.FieldType.boolean))) ∈ lw_gd := lw_gd_in (i := 1300) (by decide +kernel) rfl
theorem wd_1301 : ((Jvm.Cond.methodLink "TripleDeskModel" (193 : Nat) ({ cls := "TripleDeskModel", name := "readNumber", desc := "()V" } : Jvm.MethodName))) ∈ lw_gd := lw_gd_in (i := 1301) (by decide +kernel) rfl
theorem wd_1303 : ((Jvm.Cond.instanceMethod ({ cls := "TripleDeskModel", name := "readNumber", desc := "()V" } : Jvm.MethodName))) ∈ lw_gd := lw_gd_in (i := 1303) (by decide +kernel) rfl
theorem wd_1304 : ((Jvm.Cond.code ({ cls := "TripleDeskModel", name := "readNumber", desc := "()V" } : Jvm.MethodName) prog_13_method_10_code (1 : Nat) (Option.none : Option Jvm.ClassFile.FieldType))) ∈ lw_gd := lw_gd_in (i := 1304) (by decide +kernel) rfl
theorem wd_1305 : ((Jvm.Cond.methodLink "TripleDeskModel" (196 : Nat) ({ cls := "TripleDeskModel", name := "isSign", desc := "(I)Z" } : Jvm.MethodName))) ∈ lw_gd := lw_gd_in (i := 1305) (by decide +kernel) rfl
theorem wd_1306 : ((Jvm.Cond.static ({ cls := "TripleDeskModel", name := "isSign", desc := "(I)Z" } : Jvm.MethodName))) ∈ lw_gd := lw_gd_in (i := 1306) (by decide +kernel) rfl
theorem wd_1307 : ((Jvm.Cond.code ({ cls := "TripleDeskModel", name := "isSign", desc := "(I)Z" } : Jvm.MethodName) prog_13_method_11_code (1 : Nat) (Option.some Jvm.ClassFile.FieldType.boolean))) ∈ lw_gd := lw_gd_in (i := 1307) (by decide +kernel) rfl
theorem wd_1312 : ((Jvm.Cond.methodLink "TripleDeskModel" (247 : Nat) ({ cls := "TripleDeskModel", name := "part", desc := "(Z)V" } : Jvm.MethodName))) ∈ lw_gd := lw_gd_in (i := 1312) (by decide +kernel) rfl
theorem wd_1314 : ((Jvm.Cond.instanceMethod ({ cls := "TripleDeskModel", name := "part", desc := "(Z)V" } : Jvm.MethodName))) ∈ lw_gd := lw_gd_in (i := 1314) (by decide +kernel) rfl
theorem wd_1315 : ((Jvm.Cond.code ({ cls := "TripleDeskModel", name := "part", desc := "(Z)V" } : Jvm.MethodName) prog_13_method_24_code (2 : Nat) (Option.none : Option Jvm.ClassFile.FieldType))) ∈ lw_gd := lw_gd_in (i := 1315) (by decide +kernel) rfl
theorem wd_1316 : ((Jvm.Cond.methodLink "TripleDeskModel" (212 : Nat) ({ cls := "TripleDeskModel", name := "is", desc := "(I)Z" } : Jvm.MethodName))) ∈ lw_gd := lw_gd_in (i := 1316) (by decide +kernel) rfl
theorem wd_1318 : ((Jvm.Cond.instanceMethod ({ cls := "TripleDeskModel", name := "is", desc := "(I)Z" } : Jvm.MethodName))) ∈ lw_gd := lw_gd_in (i := 1318) (by decide +kernel) rfl
theorem wd_1319 : ((Jvm.Cond.code ({ cls := "TripleDeskModel", name := "is", desc := "(I)Z" } : Jvm.MethodName) prog_13_method_13_code (2 : Nat) (Option.some Jvm.ClassFile.FieldType.boolean))) ∈ lw_gd := lw_gd_in (i := 1319) (by decide +kernel) rfl
theorem wd_1320 : ((Jvm.Cond.methodLink "TripleDeskModel" (235 : Nat) ({ cls := "TripleDeskModel", name := "depth", desc := "()I" } : Jvm.MethodName))) ∈ lw_gd := lw_gd_in (i := 1320) (by decide +kernel) rfl
theorem wd_1322 : ((Jvm.Cond.instanceMethod ({ cls := "TripleDeskModel", name := "depth", desc := "()I" } : Jvm.MethodName))) ∈ lw_gd := lw_gd_in (i := 1322) (by decide +kernel) rfl
theorem wd_1323 : ((Jvm.Cond.code ({ cls := "TripleDeskModel", name := "depth", desc := "()I" } : Jvm.MethodName) prog_13_method_22_code (3 : Nat) (Option.some Jvm.ClassFile.FieldType.int))) ∈ lw_gd := lw_gd_in (i := 1323) (by decide +kernel) rfl
theorem wd_1324 : ((Jvm.Cond.methodLink "TripleDeskModel" (241 : Nat) ({ cls := "TripleDeskModel", name := "atom", desc := "(Z)V" } : Jvm.MethodName))) ∈ lw_gd := lw_gd_in (i := 1324) (by decide +kernel) rfl
theorem wd_1326 : ((Jvm.Cond.instanceMethod ({ cls := "TripleDeskModel", name := "atom", desc := "(Z)V" } : Jvm.MethodName))) ∈ lw_gd := lw_gd_in (i := 1326) (by decide +kernel) rfl
theorem wd_1327 : ((Jvm.Cond.code ({ cls := "TripleDeskModel", name := "atom", desc := "(Z)V" } : Jvm.MethodName) prog_13_method_18_code (5 : Nat) (Option.none : Option Jvm.ClassFile.FieldType))) ∈ lw_gd := lw_gd_in (i := 1327) (by decide +kernel) rfl
theorem wd_1328 : ((Jvm.Cond.methodLink "TripleDeskModel" (219 : Nat) ({ cls := "TripleDeskModel", name := "term", desc := "(Z)V" } : Jvm.MethodName))) ∈ lw_gd := lw_gd_in (i := 1328) (by decide +kernel) rfl
theorem wd_1330 : ((Jvm.Cond.instanceMethod ({ cls := "TripleDeskModel", name := "term", desc := "(Z)V" } : Jvm.MethodName))) ∈ lw_gd := lw_gd_in (i := 1330) (by decide +kernel) rfl
theorem wd_1331 : ((Jvm.Cond.code ({ cls := "TripleDeskModel", name := "term", desc := "(Z)V" } : Jvm.MethodName) prog_13_method_16_code (3 : Nat) (Option.none : Option Jvm.ClassFile.FieldType))) ∈ lw_gd := lw_gd_in (i := 1331) (by decide +kernel) rfl
theorem wd_1332 : ((Jvm.Cond.methodLink "TripleDeskModel" (215 : Nat) ({ cls := "TripleDeskModel", name := "must", desc := "(Z)V" } : Jvm.MethodName))) ∈ lw_gd := lw_gd_in (i := 1332) (by decide +kernel) rfl
theorem wd_1334 : ((Jvm.Cond.instanceMethod ({ cls := "TripleDeskModel", name := "must", desc := "(Z)V" } : Jvm.MethodName))) ∈ lw_gd := lw_gd_in (i := 1334) (by decide +kernel) rfl
theorem wd_1335 : ((Jvm.Cond.code ({ cls := "TripleDeskModel", name := "must", desc := "(Z)V" } : Jvm.MethodName) prog_13_method_15_code (2 : Nat) (Option.none : Option Jvm.ClassFile.FieldType))) ∈ lw_gd := lw_gd_in (i := 1335) (by decide +kernel) rfl
theorem wd_1336 : ((Jvm.Cond.methodLink "TripleDeskModel" (222 : Nat) ({ cls := "TripleDeskModel", name := "way", desc := "()I" } : Jvm.MethodName))) ∈ lw_gd := lw_gd_in (i := 1336) (by decide +kernel) rfl
theorem wd_1338 : ((Jvm.Cond.instanceMethod ({ cls := "TripleDeskModel", name := "way", desc := "()I" } : Jvm.MethodName))) ∈ lw_gd := lw_gd_in (i := 1338) (by decide +kernel) rfl
theorem wd_1339 : ((Jvm.Cond.code ({ cls := "TripleDeskModel", name := "way", desc := "()I" } : Jvm.MethodName) prog_13_method_17_code (1 : Nat) (Option.some Jvm.ClassFile.FieldType.int))) ∈ lw_gd := lw_gd_in (i := 1339) (by decide +kernel) rfl
theorem wd_1340 : ((Jvm.Cond.methodLink "TripleDeskModel" (244 : Nat) ({ cls := "TripleDeskModel", name := "emitNots", desc := "()V" } : Jvm.MethodName))) ∈ lw_gd := lw_gd_in (i := 1340) (by decide +kernel) rfl
theorem wd_1342 : ((Jvm.Cond.instanceMethod ({ cls := "TripleDeskModel", name := "emitNots", desc := "()V" } : Jvm.MethodName))) ∈ lw_gd := lw_gd_in (i := 1342) (by decide +kernel) rfl
theorem wd_1343 : ((Jvm.Cond.code ({ cls := "TripleDeskModel", name := "emitNots", desc := "()V" } : Jvm.MethodName) prog_13_method_20_code (1 : Nat) (Option.none : Option Jvm.ClassFile.FieldType))) ∈ lw_gd := lw_gd_in (i := 1343) (by decide +kernel) rfl
theorem wd_1344 : ((Jvm.Cond.methodLink "TripleDeskModel" (232 : Nat) ({ cls := "TripleDeskModel", name := "emit", desc := "()V" } : Jvm.MethodName))) ∈ lw_gd := lw_gd_in (i := 1344) (by decide +kernel) rfl
theorem wd_1346 : ((Jvm.Cond.instanceMethod ({ cls := "TripleDeskModel", name := "emit", desc := "()V" } : Jvm.MethodName))) ∈ lw_gd := lw_gd_in (i := 1346) (by decide +kernel) rfl
theorem wd_1347 : ((Jvm.Cond.code ({ cls := "TripleDeskModel", name := "emit", desc := "()V" } : Jvm.MethodName) prog_13_method_19_code (1 : Nat) (Option.none : Option Jvm.ClassFile.FieldType))) ∈ lw_gd := lw_gd_in (i := 1347) (by decide +kernel) rfl
theorem wd_1348 : ((Jvm.Cond.methodLink "TripleDeskModel" (250 : Nat) ({ cls := "TripleDeskModel", name := "hasParen", desc := "()Z" } : Jvm.MethodName))) ∈ lw_gd := lw_gd_in (i := 1348) (by decide +kernel) rfl
theorem wd_1350 : ((Jvm.Cond.instanceMethod ({ cls := "TripleDeskModel", name := "hasParen", desc := "()Z" } : Jvm.MethodName))) ∈ lw_gd := lw_gd_in (i := 1350) (by decide +kernel) rfl
theorem wd_1351 : ((Jvm.Cond.code ({ cls := "TripleDeskModel", name := "hasParen", desc := "()Z" } : Jvm.MethodName) prog_13_method_23_code (3 : Nat) (Option.some Jvm.ClassFile.FieldType.boolean))) ∈ lw_gd := lw_gd_in (i := 1351) (by decide +kernel) rfl
theorem wd_1352 : ((Jvm.Cond.methodLink "TripleDeskModel" (254 : Nat) ({ cls := "TripleDeskModel", name := "isOn", desc := "(I)Z" } : Jvm.MethodName))) ∈ lw_gd := lw_gd_in (i := 1352) (by decide +kernel) rfl
theorem wd_1354 : ((Jvm.Cond.instanceMethod ({ cls := "TripleDeskModel", name := "isOn", desc := "(I)Z" } : Jvm.MethodName))) ∈ lw_gd := lw_gd_in (i := 1354) (by decide +kernel) rfl
theorem wd_1355 : ((Jvm.Cond.code ({ cls := "TripleDeskModel", name := "isOn", desc := "(I)Z" } : Jvm.MethodName) prog_13_method_21_code (2 : Nat) (Option.some Jvm.ClassFile.FieldType.boolean))) ∈ lw_gd := lw_gd_in (i := 1355) (by decide +kernel) rfl
theorem wd_1376 : ((Jvm.Cond.methodLink "TripleDeskModel" (275 : Nat) ({ cls := "TripleDeskModel", name := "item", desc := "()I" } : Jvm.MethodName))) ∈ lw_gd := lw_gd_in (i := 1376) (by decide +kernel) rfl
theorem wd_1378 : ((Jvm.Cond.instanceMethod ({ cls := "TripleDeskModel", name := "item", desc := "()I" } : Jvm.MethodName))) ∈ lw_gd := lw_gd_in (i := 1378) (by decide +kernel) rfl
theorem wd_1379 : ((Jvm.Cond.code ({ cls := "TripleDeskModel", name := "item", desc := "()I" } : Jvm.MethodName) prog_13_method_30_code (1 : Nat) (Option.some Jvm.ClassFile.FieldType.int))) ∈ lw_gd := lw_gd_in (i := 1379) (by decide +kernel) rfl
theorem wd_oi : Cond.code Jvm.Lib.objectInit ⟨#[0xb1]⟩ 1 none ∈ lw_gd := lw_gd_in (i := 33) (by decide +kernel) rfl
theorem ps_in {q : MethodName × Nat} {i : Nat} (h : lw_privs[i]? = some q) : Cond.selects q.1.cls q.1 q.1 ∈ lw_gd := List.mem_filter.mpr ⟨List.mem_append_left _ (List.mem_map.mpr ⟨q, List.mem_of_getElem? h, rfl⟩), rfl⟩
theorem ps_51 : Cond.selects "TripleDeskModel" ⟨"TripleDeskModel", "next", "()V"⟩ ⟨"TripleDeskModel", "next", "()V"⟩ ∈ lw_gd := ps_in (q := (⟨"TripleDeskModel", "next", "()V"⟩, 72)) (i := 51) (by decide +kernel)
theorem ps_52 : Cond.selects "TripleDeskModel" ⟨"TripleDeskModel", "byteAt", "(I)I"⟩ ⟨"TripleDeskModel", "byteAt", "(I)I"⟩ ∈ lw_gd := ps_in (q := (⟨"TripleDeskModel", "byteAt", "(I)I"⟩, 72)) (i := 52) (by decide +kernel)
theorem ps_53 : Cond.selects "TripleDeskModel" ⟨"TripleDeskModel", "readWord", "()V"⟩ ⟨"TripleDeskModel", "readWord", "()V"⟩ ∈ lw_gd := ps_in (q := (⟨"TripleDeskModel", "readWord", "()V"⟩, 72)) (i := 53) (by decide +kernel)
theorem ps_54 : Cond.selects "TripleDeskModel" ⟨"TripleDeskModel", "readNumber", "()V"⟩ ⟨"TripleDeskModel", "readNumber", "()V"⟩ ∈ lw_gd := ps_in (q := (⟨"TripleDeskModel", "readNumber", "()V"⟩, 72)) (i := 54) (by decide +kernel)
theorem ps_56 : Cond.selects "TripleDeskModel" ⟨"TripleDeskModel", "part", "(Z)V"⟩ ⟨"TripleDeskModel", "part", "(Z)V"⟩ ∈ lw_gd := ps_in (q := (⟨"TripleDeskModel", "part", "(Z)V"⟩, 72)) (i := 56) (by decide +kernel)
theorem ps_57 : Cond.selects "TripleDeskModel" ⟨"TripleDeskModel", "is", "(I)Z"⟩ ⟨"TripleDeskModel", "is", "(I)Z"⟩ ∈ lw_gd := ps_in (q := (⟨"TripleDeskModel", "is", "(I)Z"⟩, 72)) (i := 57) (by decide +kernel)
theorem ps_58 : Cond.selects "TripleDeskModel" ⟨"TripleDeskModel", "depth", "()I"⟩ ⟨"TripleDeskModel", "depth", "()I"⟩ ∈ lw_gd := ps_in (q := (⟨"TripleDeskModel", "depth", "()I"⟩, 72)) (i := 58) (by decide +kernel)
theorem ps_59 : Cond.selects "TripleDeskModel" ⟨"TripleDeskModel", "atom", "(Z)V"⟩ ⟨"TripleDeskModel", "atom", "(Z)V"⟩ ∈ lw_gd := ps_in (q := (⟨"TripleDeskModel", "atom", "(Z)V"⟩, 72)) (i := 59) (by decide +kernel)
theorem ps_60 : Cond.selects "TripleDeskModel" ⟨"TripleDeskModel", "term", "(Z)V"⟩ ⟨"TripleDeskModel", "term", "(Z)V"⟩ ∈ lw_gd := ps_in (q := (⟨"TripleDeskModel", "term", "(Z)V"⟩, 72)) (i := 60) (by decide +kernel)
theorem ps_61 : Cond.selects "TripleDeskModel" ⟨"TripleDeskModel", "must", "(Z)V"⟩ ⟨"TripleDeskModel", "must", "(Z)V"⟩ ∈ lw_gd := ps_in (q := (⟨"TripleDeskModel", "must", "(Z)V"⟩, 72)) (i := 61) (by decide +kernel)
theorem ps_62 : Cond.selects "TripleDeskModel" ⟨"TripleDeskModel", "way", "()I"⟩ ⟨"TripleDeskModel", "way", "()I"⟩ ∈ lw_gd := ps_in (q := (⟨"TripleDeskModel", "way", "()I"⟩, 72)) (i := 62) (by decide +kernel)
theorem ps_63 : Cond.selects "TripleDeskModel" ⟨"TripleDeskModel", "emitNots", "()V"⟩ ⟨"TripleDeskModel", "emitNots", "()V"⟩ ∈ lw_gd := ps_in (q := (⟨"TripleDeskModel", "emitNots", "()V"⟩, 72)) (i := 63) (by decide +kernel)
theorem ps_64 : Cond.selects "TripleDeskModel" ⟨"TripleDeskModel", "emit", "()V"⟩ ⟨"TripleDeskModel", "emit", "()V"⟩ ∈ lw_gd := ps_in (q := (⟨"TripleDeskModel", "emit", "()V"⟩, 72)) (i := 64) (by decide +kernel)
theorem ps_65 : Cond.selects "TripleDeskModel" ⟨"TripleDeskModel", "hasParen", "()Z"⟩ ⟨"TripleDeskModel", "hasParen", "()Z"⟩ ∈ lw_gd := ps_in (q := (⟨"TripleDeskModel", "hasParen", "()Z"⟩, 72)) (i := 65) (by decide +kernel)
theorem ps_66 : Cond.selects "TripleDeskModel" ⟨"TripleDeskModel", "isOn", "(I)Z"⟩ ⟨"TripleDeskModel", "isOn", "(I)Z"⟩ ∈ lw_gd := ps_in (q := (⟨"TripleDeskModel", "isOn", "(I)Z"⟩, 72)) (i := 66) (by decide +kernel)
theorem ps_70 : Cond.selects "TripleDeskModel" ⟨"TripleDeskModel", "item", "()I"⟩ ⟨"TripleDeskModel", "item", "()I"⟩ ∈ lw_gd := ps_in (q := (⟨"TripleDeskModel", "item", "()I"⟩, 72)) (i := 70) (by decide +kernel)
