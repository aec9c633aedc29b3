theorem wd_15 : ((Jvm.Cond.initialized "TripleDeskModel")) ∈ lw_gd := lw_gd_in (i := 15) (by decide +kernel) rfl
theorem wd_1037 : ((Jvm.Cond.fieldLink "TripleDeskModel" (151 : Nat) "TripleDeskModel" "taped" "I")) ∈ lw_gd := lw_gd_in (i := 1037) (by decide +kernel) rfl
theorem wd_1038 : ((Jvm.Cond.fieldLink "TripleDeskModel" (7 : Nat) "TripleDeskModel" "tape" "[I")) ∈ lw_gd := lw_gd_in (i := 1038) (by decide +kernel) rfl
theorem wd_1039 : ((Jvm.Cond.fieldLink "TripleDeskModel" (156 : Nat) "TripleDeskModel" "size" "I")) ∈ lw_gd := lw_gd_in (i := 1039) (by decide +kernel) rfl
theorem wd_1042 : ((Jvm.Cond.fieldLink "TripleDeskModel" (178 : Nat) "TripleDeskModel" "kind" "I")) ∈ lw_gd := lw_gd_in (i := 1042) (by decide +kernel) rfl
theorem wd_1043 : ((Jvm.Cond.fieldLink "TripleDeskModel" (181 : Nat) "TripleDeskModel" "value" "I")) ∈ lw_gd := lw_gd_in (i := 1043) (by decide +kernel) rfl
theorem wd_1044 : ((Jvm.Cond.fieldLink "TripleDeskModel" (175 : Nat) "TripleDeskModel" "begin" "I")) ∈ lw_gd := lw_gd_in (i := 1044) (by decide +kernel) rfl
theorem wd_1045 : ((Jvm.Cond.fieldLink "TripleDeskModel" (164 : Nat) "TripleDeskModel" "end" "I")) ∈ lw_gd := lw_gd_in (i := 1045) (by decide +kernel) rfl
theorem wd_1046 : ((Jvm.Cond.fieldLink "TripleDeskModel" (199 : Nat) "TripleDeskModel" "failed" "Z")) ∈ lw_gd := lw_gd_in (i := 1046) (by decide +kernel) rfl
theorem wd_1067 : ((Jvm.Cond.fieldLink "TripleDeskModel" (226 : Nat) "TripleDeskModel" "signs" "I")) ∈ lw_gd := lw_gd_in (i := 1067) (by decide +kernel) rfl
theorem wd_1068 : ((Jvm.Cond.fieldLink "TripleDeskModel" (72 : Nat) "TripleDeskModel" "sign" "[I")) ∈ lw_gd := lw_gd_in (i := 1068) (by decide +kernel) rfl
theorem wd_1069 : ((Jvm.Cond.fieldLink "TripleDeskModel" (229 : Nat) "TripleDeskModel" "stacked" "I")) ∈ lw_gd := lw_gd_in (i := 1069) (by decide +kernel) rfl
theorem wd_1070 : ((Jvm.Cond.fieldLink "TripleDeskModel" (75 : Nat) "TripleDeskModel" "stack" "[I")) ∈ lw_gd := lw_gd_in (i := 1070) (by decide +kernel) rfl
theorem wd_1275 : ((Jvm.Cond.methodLink "TripleDeskModel" (203 : Nat) ({ cls := "TripleDeskModel", name := "next", desc := "()V" } : Jvm.MethodName))) ∈ lw_gd := lw_gd_in (i := 1275) (by decide +kernel) rfl
theorem wd_1277 : ((Jvm.Cond.instanceMethod ({ cls := "TripleDeskModel", name := "next", desc := "()V" } : Jvm.MethodName))) ∈ lw_gd := lw_gd_in (i := 1277) (by decide +kernel) rfl
theorem wd_1278 : ((Jvm.Cond.code ({ cls := "TripleDeskModel", name := "next", desc := "()V" } : Jvm.MethodName) prog_13_method_12_code (3 : Nat) (Option.none : Option Jvm.ClassFile.FieldType))) ∈ lw_gd := lw_gd_in (i := 1278) (by decide +kernel) rfl
theorem wd_1279 : ((Jvm.Cond.methodLink "TripleDeskModel" (167 : Nat) ({ cls := "TripleDeskModel", name := "byteAt", desc := "(I)I" } : Jvm.MethodName))) ∈ lw_gd := lw_gd_in (i := 1279) (by decide +kernel) rfl
theorem wd_1281 : ((Jvm.Cond.instanceMethod ({ cls := "TripleDeskModel", name := "byteAt", desc := "(I)I" } : Jvm.MethodName))) ∈ lw_gd := lw_gd_in (i := 1281) (by decide +kernel) rfl
theorem wd_1282 : ((Jvm.Cond.code ({ cls := "TripleDeskModel", name := "byteAt", desc := "(I)I" } : Jvm.MethodName) prog_13_method_7_code (2 : Nat) (Option.some Jvm.ClassFile.FieldType.int))) ∈ lw_gd := lw_gd_in (i := 1282) (by decide +kernel) rfl
theorem wd_1283 : ((Jvm.Cond.methodLink "TripleDeskModel" (171 : Nat) ({ cls := "TripleDeskModel", name := "isLetter", desc := "(I)Z" } : Jvm.MethodName))) ∈ lw_gd := lw_gd_in (i := 1283) (by decide +kernel) rfl
theorem wd_1284 : ((Jvm.Cond.static ({ cls := "TripleDeskModel", name := "isLetter", desc := "(I)Z" } : Jvm.MethodName))) ∈ lw_gd := lw_gd_in (i := 1284) (by decide +kernel) rfl
theorem wd_1285 : ((Jvm.Cond.code ({ cls := "TripleDeskModel", name := "isLetter", desc := "(I)Z" } : Jvm.MethodName) prog_13_method_5_code (1 : Nat) (Option.some Jvm.ClassFile.FieldType.boolean))) ∈ lw_gd := lw_gd_in (i := 1285) (by decide +kernel) rfl
theorem wd_1286 : ((Jvm.Cond.methodLink "TripleDeskModel" (190 : Nat) ({ cls := "TripleDeskModel", name := "readWord", desc := "()V" } : Jvm.MethodName))) ∈ lw_gd := lw_gd_in (i := 1286) (by decide +kernel) rfl
theorem wd_1288 : ((Jvm.Cond.instanceMethod ({ cls := "TripleDeskModel", name := "readWord", desc := "()V" } : Jvm.MethodName))) ∈ lw_gd := lw_gd_in (i := 1288) (by decide +kernel) rfl
theorem wd_1289 : ((Jvm.Cond.code ({ cls := "TripleDeskModel", name := "readWord", desc := "()V" } : Jvm.MethodName) prog_13_method_9_code (4 : Nat) (Option.none : Option Jvm.ClassFile.FieldType))) ∈ lw_gd := lw_gd_in (i := 1289) (by decide +kernel) rfl
theorem wd_1290 : ((Jvm.Cond.methodLink "TripleDeskModel" (184 : Nat) ({ cls := "TripleDeskModel", name := "wordOf", desc := "(I)I" } : Jvm.MethodName))) ∈ lw_gd := lw_gd_in (i := 1290) (by decide +kernel) rfl
theorem wd_1291 : ((Jvm.Cond.static ({ cls := "TripleDeskModel", name := "wordOf", desc := "(I)I" } : Jvm.MethodName))) ∈ lw_gd := lw_gd_in (i := 1291) (by decide +kernel) rfl
theorem wd_1292 : ((Jvm.Cond.code ({ cls := "TripleDeskModel", name := "wordOf", desc := "(I)I" } : Jvm.MethodName) prog_13_method_8_code (1 : Nat) (Option.some Jvm.ClassFile.FieldType.int))) ∈ lw_gd := lw_gd_in (i := 1292) (by decide +kernel) rfl
theorem wd_1293 : ((Jvm.Cond.constant "TripleDeskModel" (159 : Nat) (382255 : Int32))) ∈ lw_gd := lw_gd_in (i := 1293) (by decide +kernel) rfl
theorem wd_1294 : ((Jvm.Cond.constant "TripleDeskModel" (160 : Nat) (399641 : Int32))) ∈ lw_gd := lw_gd_in (i := 1294) (by decide +kernel) rfl
theorem wd_1295 : ((Jvm.Cond.constant "TripleDeskModel" (161 : Nat) (107681 : Int32))) ∈ lw_gd := lw_gd_in (i := 1295) (by decide +kernel) rfl
theorem wd_1296 : ((Jvm.Cond.constant "TripleDeskModel" (162 : Nat) (12387497 : Int32))) ∈ lw_gd := lw_gd_in (i := 1296) (by decide +kernel) rfl
theorem wd_1297 : ((Jvm.Cond.constant "TripleDeskModel" (163 : Nat) (24824414 : Int32))) ∈ lw_gd := lw_gd_in (i := 1297) (by decide +kernel) rfl
theorem wd_1298 : ((Jvm.Cond.methodLink "TripleDeskModel" (187 : Nat) ({ cls := "TripleDeskModel", name := "isDigit", desc := "(I)Z" } : Jvm.MethodName))) ∈ lw_gd := lw_gd_in (i := 1298) (by decide +kernel) rfl
theorem wd_1299 : ((Jvm.Cond.static ({ cls := "TripleDeskModel", name := "isDigit", desc := "(I)Z" } : Jvm.MethodName))) ∈ lw_gd := lw_gd_in (i := 1299) (by decide +kernel) rfl
theorem wd_1300 : ((Jvm.Cond.code ({ cls := "TripleDeskModel", name := "isDigit", desc := "(I)Z" } : Jvm.MethodName) prog_13_method_6_code (1 : Nat) (Option.some Jvm.ClassFile.FieldType.boolean))) ∈ lw_gd := lw_gd_in (i := 1300) (by decide +kernel) rfl
theorem wd_1301 : ((Jvm.Cond.methodLink "TripleDeskModel" (193 : Nat) ({ cls := "TripleDeskModel", name := "readNumber", desc := "()V" } : Jvm.MethodName))) ∈ lw_gd := lw_gd_in (i := 1301) (by decide +kernel) rfl
theorem wd_1303 : ((Jvm.Cond.instanceMethod ({ cls := "TripleDeskModel", name := "readNumber", desc := "()V" } : Jvm.MethodName))) ∈ lw_gd := lw_gd_in (i := 1303) (by decide +kernel) rfl
theorem wd_1304 : ((Jvm.Cond.code ({ cls := "TripleDeskModel", name := "readNumber", desc := "()V" } : Jvm.MethodName) prog_13_method_10_code (1 : Nat) (Option.none : Option Jvm.ClassFile.FieldType))) ∈ lw_gd := lw_gd_in (i := 1304) (by decide +kernel) rfl
theorem wd_1305 : ((Jvm.Cond.methodLink "TripleDeskModel" (196 : Nat) ({ cls := "TripleDeskModel", name := "isSign", desc := "(I)Z" } : Jvm.MethodName))) ∈ lw_gd := lw_gd_in (i := 1305) (by decide +kernel) rfl
theorem wd_1306 : ((Jvm.Cond.static ({ cls := "TripleDeskModel", name := "isSign", desc := "(I)Z" } : Jvm.MethodName))) ∈ lw_gd := lw_gd_in (i := 1306) (by decide +kernel) rfl
theorem wd_1307 : ((Jvm.Cond.code ({ cls := "TripleDeskModel", name := "isSign", desc := "(I)Z" } : Jvm.MethodName) prog_13_method_11_code (1 : Nat) (Option.some Jvm.ClassFile.FieldType.boolean))) ∈ lw_gd := lw_gd_in (i := 1307) (by decide +kernel) rfl
theorem wd_1316 : ((Jvm.Cond.methodLink "TripleDeskModel" (212 : Nat) ({ cls := "TripleDeskModel", name := "is", desc := "(I)Z" } : Jvm.MethodName))) ∈ lw_gd := lw_gd_in (i := 1316) (by decide +kernel) rfl
theorem wd_1318 : ((Jvm.Cond.instanceMethod ({ cls := "TripleDeskModel", name := "is", desc := "(I)Z" } : Jvm.MethodName))) ∈ lw_gd := lw_gd_in (i := 1318) (by decide +kernel) rfl
theorem wd_1319 : ((Jvm.Cond.code ({ cls := "TripleDeskModel", name := "is", desc := "(I)Z" } : Jvm.MethodName) prog_13_method_13_code (2 : Nat) (Option.some Jvm.ClassFile.FieldType.boolean))) ∈ lw_gd := lw_gd_in (i := 1319) (by decide +kernel) rfl
theorem wd_1344 : ((Jvm.Cond.methodLink "TripleDeskModel" (232 : Nat) ({ cls := "TripleDeskModel", name := "emit", desc := "()V" } : Jvm.MethodName))) ∈ lw_gd := lw_gd_in (i := 1344) (by decide +kernel) rfl
theorem wd_1346 : ((Jvm.Cond.instanceMethod ({ cls := "TripleDeskModel", name := "emit", desc := "()V" } : Jvm.MethodName))) ∈ lw_gd := lw_gd_in (i := 1346) (by decide +kernel) rfl
theorem wd_1347 : ((Jvm.Cond.code ({ cls := "TripleDeskModel", name := "emit", desc := "()V" } : Jvm.MethodName) prog_13_method_19_code (1 : Nat) (Option.none : Option Jvm.ClassFile.FieldType))) ∈ lw_gd := lw_gd_in (i := 1347) (by decide +kernel) rfl
theorem wd_oi : Cond.code Jvm.Lib.objectInit ⟨#[0xb1]⟩ 1 none ∈ lw_gd := lw_gd_in (i := 33) (by decide +kernel) rfl
theorem ps_in {q : MethodName × Nat} {i : Nat} (h : lw_privs[i]? = some q) : Cond.selects q.1.cls q.1 q.1 ∈ lw_gd := List.mem_filter.mpr ⟨List.mem_append_left _ (List.mem_map.mpr ⟨q, List.mem_of_getElem? h, rfl⟩), rfl⟩
theorem ps_51 : Cond.selects "TripleDeskModel" ⟨"TripleDeskModel", "next", "()V"⟩ ⟨"TripleDeskModel", "next", "()V"⟩ ∈ lw_gd := ps_in (q := (⟨"TripleDeskModel", "next", "()V"⟩, 72)) (i := 51) (by decide +kernel)
theorem ps_52 : Cond.selects "TripleDeskModel" ⟨"TripleDeskModel", "byteAt", "(I)I"⟩ ⟨"TripleDeskModel", "byteAt", "(I)I"⟩ ∈ lw_gd := ps_in (q := (⟨"TripleDeskModel", "byteAt", "(I)I"⟩, 72)) (i := 52) (by decide +kernel)
theorem ps_53 : Cond.selects "TripleDeskModel" ⟨"TripleDeskModel", "readWord", "()V"⟩ ⟨"TripleDeskModel", "readWord", "()V"⟩ ∈ lw_gd := ps_in (q := (⟨"TripleDeskModel", "readWord", "()V"⟩, 72)) (i := 53) (by decide +kernel)
theorem ps_54 : Cond.selects "TripleDeskModel" ⟨"TripleDeskModel", "readNumber", "()V"⟩ ⟨"TripleDeskModel", "readNumber", "()V"⟩ ∈ lw_gd := ps_in (q := (⟨"TripleDeskModel", "readNumber", "()V"⟩, 72)) (i := 54) (by decide +kernel)
theorem ps_57 : Cond.selects "TripleDeskModel" ⟨"TripleDeskModel", "is", "(I)Z"⟩ ⟨"TripleDeskModel", "is", "(I)Z"⟩ ∈ lw_gd := ps_in (q := (⟨"TripleDeskModel", "is", "(I)Z"⟩, 72)) (i := 57) (by decide +kernel)
theorem ps_64 : Cond.selects "TripleDeskModel" ⟨"TripleDeskModel", "emit", "()V"⟩ ⟨"TripleDeskModel", "emit", "()V"⟩ ∈ lw_gd := ps_in (q := (⟨"TripleDeskModel", "emit", "()V"⟩, 72)) (i := 64) (by decide +kernel)
