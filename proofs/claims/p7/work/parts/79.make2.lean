theorem ps_83 : Cond.selects "TripleDeskModel" ⟨"TripleDeskModel", "replaceTerm", "(IIII)V"⟩ ⟨"TripleDeskModel", "replaceTerm", "(IIII)V"⟩ ∈ lw_gd := ps_in (q := (⟨"TripleDeskModel", "replaceTerm", "(IIII)V"⟩, 72)) (i := 83) (by decide +kernel)
theorem ps_85 : Cond.selects "TripleDeskModel" ⟨"TripleDeskModel", "swapTops", "()V"⟩ ⟨"TripleDeskModel", "swapTops", "()V"⟩ ∈ lw_gd := ps_in (q := (⟨"TripleDeskModel", "swapTops", "()V"⟩, 72)) (i := 85) (by decide +kernel)
theorem ps_88 : Cond.selects "TripleDeskModel" ⟨"TripleDeskModel", "unite", "(I)V"⟩ ⟨"TripleDeskModel", "unite", "(I)V"⟩ ∈ lw_gd := ps_in (q := (⟨"TripleDeskModel", "unite", "(I)V"⟩, 72)) (i := 88) (by decide +kernel)
theorem wd_1080 : ((Jvm.Cond.fieldLink "TripleDeskModel" (346 : Nat) "TripleDeskModel" "conditions" "I")) ∈ lw_gd := lw_gd_in (i := 1080) (by decide +kernel) rfl
theorem wd_1081 : ((Jvm.Cond.fieldLink "TripleDeskModel" (81 : Nat) "TripleDeskModel" "conditionKind" "[I")) ∈ lw_gd := lw_gd_in (i := 1081) (by decide +kernel) rfl
theorem wd_1082 : ((Jvm.Cond.fieldLink "TripleDeskModel" (84 : Nat) "TripleDeskModel" "conditionNumber" "[I")) ∈ lw_gd := lw_gd_in (i := 1082) (by decide +kernel) rfl
theorem wd_1083 : ((Jvm.Cond.fieldLink "TripleDeskModel" (87 : Nat) "TripleDeskModel" "conditionAt" "[I")) ∈ lw_gd := lw_gd_in (i := 1083) (by decide +kernel) rfl
theorem wd_1084 : ((Jvm.Cond.fieldLink "TripleDeskModel" (90 : Nat) "TripleDeskModel" "conditionSize" "[I")) ∈ lw_gd := lw_gd_in (i := 1084) (by decide +kernel) rfl
theorem wd_1085 : ((Jvm.Cond.fieldLink "TripleDeskModel" (349 : Nat) "TripleDeskModel" "kept" "I")) ∈ lw_gd := lw_gd_in (i := 1085) (by decide +kernel) rfl
theorem wd_1086 : ((Jvm.Cond.fieldLink "TripleDeskModel" (94 : Nat) "TripleDeskModel" "keep" "[I")) ∈ lw_gd := lw_gd_in (i := 1086) (by decide +kernel) rfl
theorem wd_1091 : ((Jvm.Cond.fieldLink "TripleDeskModel" (103 : Nat) "TripleDeskModel" "aside" "[I")) ∈ lw_gd := lw_gd_in (i := 1091) (by decide +kernel) rfl
theorem wd_1432 : ((Jvm.Cond.methodLink "TripleDeskModel" (336 : Nat) ({ cls := "TripleDeskModel", name := "replaceTerm", desc := "(IIII)V" } : Jvm.MethodName))) ∈ lw_gd := lw_gd_in (i := 1432) (by decide +kernel) rfl
theorem wd_1434 : ((Jvm.Cond.instanceMethod ({ cls := "TripleDeskModel", name := "replaceTerm", desc := "(IIII)V" } : Jvm.MethodName))) ∈ lw_gd := lw_gd_in (i := 1434) (by decide +kernel) rfl
theorem wd_1435 : ((Jvm.Cond.code ({ cls := "TripleDeskModel", name := "replaceTerm", desc := "(IIII)V" } : Jvm.MethodName) prog_13_method_50_code (5 : Nat) (Option.none : Option Jvm.ClassFile.FieldType))) ∈ lw_gd := lw_gd_in (i := 1435) (by decide +kernel) rfl
theorem wd_1440 : ((Jvm.Cond.methodLink "TripleDeskModel" (340 : Nat) ({ cls := "TripleDeskModel", name := "swapTops", desc := "()V" } : Jvm.MethodName))) ∈ lw_gd := lw_gd_in (i := 1440) (by decide +kernel) rfl
theorem wd_1442 : ((Jvm.Cond.instanceMethod ({ cls := "TripleDeskModel", name := "swapTops", desc := "()V" } : Jvm.MethodName))) ∈ lw_gd := lw_gd_in (i := 1442) (by decide +kernel) rfl
theorem wd_1443 : ((Jvm.Cond.code ({ cls := "TripleDeskModel", name := "swapTops", desc := "()V" } : Jvm.MethodName) prog_13_method_49_code (6 : Nat) (Option.none : Option Jvm.ClassFile.FieldType))) ∈ lw_gd := lw_gd_in (i := 1443) (by decide +kernel) rfl
theorem wd_1452 : ((Jvm.Cond.methodLink "TripleDeskModel" (343 : Nat) ({ cls := "TripleDeskModel", name := "unite", desc := "(I)V" } : Jvm.MethodName))) ∈ lw_gd := lw_gd_in (i := 1452) (by decide +kernel) rfl
theorem wd_1454 : ((Jvm.Cond.instanceMethod ({ cls := "TripleDeskModel", name := "unite", desc := "(I)V" } : Jvm.MethodName))) ∈ lw_gd := lw_gd_in (i := 1454) (by decide +kernel) rfl
theorem wd_1455 : ((Jvm.Cond.code ({ cls := "TripleDeskModel", name := "unite", desc := "(I)V" } : Jvm.MethodName) prog_13_method_43_code (2 : Nat) (Option.none : Option Jvm.ClassFile.FieldType))) ∈ lw_gd := lw_gd_in (i := 1455) (by decide +kernel) rfl
abbrev b_Model_swapTops : ByteArray := prog_13_method_49_code
def y_Model_swapTops : MethodName := ⟨R_Model, "swapTops", "()V"⟩
theorem d_Model_swapTops_0 : decode b_Model_swapTops 0 = .ok (.aload_n 0, 1) := by decide +kernel
theorem d_Model_swapTops_1 : decode b_Model_swapTops 1 = .ok (.getfield 97, 3) := by decide +kernel
theorem d_Model_swapTops_4 : decode b_Model_swapTops 4 = .ok (.aload_n 0, 1) := by decide +kernel
theorem d_Model_swapTops_5 : decode b_Model_swapTops 5 = .ok (.getfield 320, 3) := by decide +kernel
theorem d_Model_swapTops_8 : decode b_Model_swapTops 8 = .ok (.iconst 2, 1) := by decide +kernel
theorem d_Model_swapTops_9 : decode b_Model_swapTops 9 = .ok (.isub, 1) := by decide +kernel
theorem d_Model_swapTops_10 : decode b_Model_swapTops 10 = .ok (.iaload, 1) := by decide +kernel
theorem d_Model_swapTops_11 : decode b_Model_swapTops 11 = .ok (.istore_n 1, 1) := by decide +kernel
theorem d_Model_swapTops_12 : decode b_Model_swapTops 12 = .ok (.aload_n 0, 1) := by decide +kernel
theorem d_Model_swapTops_13 : decode b_Model_swapTops 13 = .ok (.getfield 97, 3) := by decide +kernel
theorem d_Model_swapTops_16 : decode b_Model_swapTops 16 = .ok (.aload_n 0, 1) := by decide +kernel
theorem d_Model_swapTops_17 : decode b_Model_swapTops 17 = .ok (.getfield 320, 3) := by decide +kernel
theorem d_Model_swapTops_20 : decode b_Model_swapTops 20 = .ok (.iconst 1, 1) := by decide +kernel
theorem d_Model_swapTops_21 : decode b_Model_swapTops 21 = .ok (.isub, 1) := by decide +kernel
theorem d_Model_swapTops_22 : decode b_Model_swapTops 22 = .ok (.iaload, 1) := by decide +kernel
theorem d_Model_swapTops_23 : decode b_Model_swapTops 23 = .ok (.istore_n 2, 1) := by decide +kernel
theorem d_Model_swapTops_24 : decode b_Model_swapTops 24 = .ok (.iload_n 2, 1) := by decide +kernel
theorem d_Model_swapTops_25 : decode b_Model_swapTops 25 = .ok (.iload_n 1, 1) := by decide +kernel
theorem d_Model_swapTops_26 : decode b_Model_swapTops 26 = .ok (.isub, 1) := by decide +kernel
theorem d_Model_swapTops_27 : decode b_Model_swapTops 27 = .ok (.istore_n 3, 1) := by decide +kernel
theorem d_Model_swapTops_28 : decode b_Model_swapTops 28 = .ok (.aload_n 0, 1) := by decide +kernel
theorem d_Model_swapTops_29 : decode b_Model_swapTops 29 = .ok (.getfield 323, 3) := by decide +kernel
theorem d_Model_swapTops_32 : decode b_Model_swapTops 32 = .ok (.iload_n 2, 1) := by decide +kernel
theorem d_Model_swapTops_33 : decode b_Model_swapTops 33 = .ok (.isub, 1) := by decide +kernel
theorem d_Model_swapTops_34 : decode b_Model_swapTops 34 = .ok (.istore 4, 2) := by decide +kernel
theorem d_Model_swapTops_36 : decode b_Model_swapTops 36 = .ok (.iconst 0, 1) := by decide +kernel
theorem d_Model_swapTops_37 : decode b_Model_swapTops 37 = .ok (.istore 5, 2) := by decide +kernel
theorem d_Model_swapTops_39 : decode b_Model_swapTops 39 = .ok (.iload 5, 2) := by decide +kernel
theorem d_Model_swapTops_41 : decode b_Model_swapTops 41 = .ok (.bipush 6, 2) := by decide +kernel
theorem d_Model_swapTops_43 : decode b_Model_swapTops 43 = .ok (.iload_n 3, 1) := by decide +kernel
theorem d_Model_swapTops_44 : decode b_Model_swapTops 44 = .ok (.imul, 1) := by decide +kernel
theorem d_Model_swapTops_45 : decode b_Model_swapTops 45 = .ok (.if_icmp .ge 28, 3) := by decide +kernel
theorem d_Model_swapTops_48 : decode b_Model_swapTops 48 = .ok (.aload_n 0, 1) := by decide +kernel
theorem d_Model_swapTops_49 : decode b_Model_swapTops 49 = .ok (.getfield 103, 3) := by decide +kernel
theorem d_Model_swapTops_52 : decode b_Model_swapTops 52 = .ok (.iload 5, 2) := by decide +kernel
theorem d_Model_swapTops_54 : decode b_Model_swapTops 54 = .ok (.aload_n 0, 1) := by decide +kernel
theorem d_Model_swapTops_55 : decode b_Model_swapTops 55 = .ok (.getfield 100, 3) := by decide +kernel
theorem d_Model_swapTops_58 : decode b_Model_swapTops 58 = .ok (.bipush 6, 2) := by decide +kernel
theorem d_Model_swapTops_60 : decode b_Model_swapTops 60 = .ok (.iload_n 1, 1) := by decide +kernel
theorem d_Model_swapTops_61 : decode b_Model_swapTops 61 = .ok (.imul, 1) := by decide +kernel
theorem d_Model_swapTops_62 : decode b_Model_swapTops 62 = .ok (.iload 5, 2) := by decide +kernel
theorem d_Model_swapTops_64 : decode b_Model_swapTops 64 = .ok (.iadd, 1) := by decide +kernel
theorem d_Model_swapTops_65 : decode b_Model_swapTops 65 = .ok (.iaload, 1) := by decide +kernel
theorem d_Model_swapTops_66 : decode b_Model_swapTops 66 = .ok (.iastore, 1) := by decide +kernel
theorem d_Model_swapTops_67 : decode b_Model_swapTops 67 = .ok (.iinc 5 1, 3) := by decide +kernel
theorem d_Model_swapTops_70 : decode b_Model_swapTops 70 = .ok (.goto (-31), 3) := by decide +kernel
theorem d_Model_swapTops_73 : decode b_Model_swapTops 73 = .ok (.iconst 0, 1) := by decide +kernel
theorem d_Model_swapTops_74 : decode b_Model_swapTops 74 = .ok (.istore 5, 2) := by decide +kernel
theorem d_Model_swapTops_76 : decode b_Model_swapTops 76 = .ok (.iload 5, 2) := by decide +kernel
theorem d_Model_swapTops_78 : decode b_Model_swapTops 78 = .ok (.bipush 6, 2) := by decide +kernel
theorem d_Model_swapTops_80 : decode b_Model_swapTops 80 = .ok (.iload 4, 2) := by decide +kernel
theorem d_Model_swapTops_82 : decode b_Model_swapTops 82 = .ok (.imul, 1) := by decide +kernel
theorem d_Model_swapTops_83 : decode b_Model_swapTops 83 = .ok (.if_icmp .ge 33, 3) := by decide +kernel
theorem d_Model_swapTops_86 : decode b_Model_swapTops 86 = .ok (.aload_n 0, 1) := by decide +kernel
theorem d_Model_swapTops_87 : decode b_Model_swapTops 87 = .ok (.getfield 100, 3) := by decide +kernel
theorem d_Model_swapTops_90 : decode b_Model_swapTops 90 = .ok (.bipush 6, 2) := by decide +kernel
theorem d_Model_swapTops_92 : decode b_Model_swapTops 92 = .ok (.iload_n 1, 1) := by decide +kernel
theorem d_Model_swapTops_93 : decode b_Model_swapTops 93 = .ok (.imul, 1) := by decide +kernel
theorem d_Model_swapTops_94 : decode b_Model_swapTops 94 = .ok (.iload 5, 2) := by decide +kernel
theorem d_Model_swapTops_96 : decode b_Model_swapTops 96 = .ok (.iadd, 1) := by decide +kernel
theorem d_Model_swapTops_97 : decode b_Model_swapTops 97 = .ok (.aload_n 0, 1) := by decide +kernel
theorem d_Model_swapTops_98 : decode b_Model_swapTops 98 = .ok (.getfield 100, 3) := by decide +kernel
theorem d_Model_swapTops_101 : decode b_Model_swapTops 101 = .ok (.bipush 6, 2) := by decide +kernel
theorem d_Model_swapTops_103 : decode b_Model_swapTops 103 = .ok (.iload_n 2, 1) := by decide +kernel
theorem d_Model_swapTops_104 : decode b_Model_swapTops 104 = .ok (.imul, 1) := by decide +kernel
theorem d_Model_swapTops_105 : decode b_Model_swapTops 105 = .ok (.iload 5, 2) := by decide +kernel
theorem d_Model_swapTops_107 : decode b_Model_swapTops 107 = .ok (.iadd, 1) := by decide +kernel
theorem d_Model_swapTops_108 : decode b_Model_swapTops 108 = .ok (.iaload, 1) := by decide +kernel
theorem d_Model_swapTops_109 : decode b_Model_swapTops 109 = .ok (.iastore, 1) := by decide +kernel
theorem d_Model_swapTops_110 : decode b_Model_swapTops 110 = .ok (.iinc 5 1, 3) := by decide +kernel
theorem d_Model_swapTops_113 : decode b_Model_swapTops 113 = .ok (.goto (-37), 3) := by decide +kernel
theorem d_Model_swapTops_116 : decode b_Model_swapTops 116 = .ok (.iconst 0, 1) := by decide +kernel
theorem d_Model_swapTops_117 : decode b_Model_swapTops 117 = .ok (.istore 5, 2) := by decide +kernel
theorem d_Model_swapTops_119 : decode b_Model_swapTops 119 = .ok (.iload 5, 2) := by decide +kernel
theorem d_Model_swapTops_121 : decode b_Model_swapTops 121 = .ok (.bipush 6, 2) := by decide +kernel
theorem d_Model_swapTops_123 : decode b_Model_swapTops 123 = .ok (.iload_n 3, 1) := by decide +kernel
theorem d_Model_swapTops_124 : decode b_Model_swapTops 124 = .ok (.imul, 1) := by decide +kernel
theorem d_Model_swapTops_125 : decode b_Model_swapTops 125 = .ok (.if_icmp .ge 31, 3) := by decide +kernel
theorem d_Model_swapTops_128 : decode b_Model_swapTops 128 = .ok (.aload_n 0, 1) := by decide +kernel
theorem d_Model_swapTops_129 : decode b_Model_swapTops 129 = .ok (.getfield 100, 3) := by decide +kernel
theorem d_Model_swapTops_132 : decode b_Model_swapTops 132 = .ok (.bipush 6, 2) := by decide +kernel
theorem d_Model_swapTops_134 : decode b_Model_swapTops 134 = .ok (.iload_n 1, 1) := by decide +kernel
theorem d_Model_swapTops_135 : decode b_Model_swapTops 135 = .ok (.iload 4, 2) := by decide +kernel
theorem d_Model_swapTops_137 : decode b_Model_swapTops 137 = .ok (.iadd, 1) := by decide +kernel
theorem d_Model_swapTops_138 : decode b_Model_swapTops 138 = .ok (.imul, 1) := by decide +kernel
theorem d_Model_swapTops_139 : decode b_Model_swapTops 139 = .ok (.iload 5, 2) := by decide +kernel
theorem d_Model_swapTops_141 : decode b_Model_swapTops 141 = .ok (.iadd, 1) := by decide +kernel
theorem d_Model_swapTops_142 : decode b_Model_swapTops 142 = .ok (.aload_n 0, 1) := by decide +kernel
theorem d_Model_swapTops_143 : decode b_Model_swapTops 143 = .ok (.getfield 103, 3) := by decide +kernel
theorem d_Model_swapTops_146 : decode b_Model_swapTops 146 = .ok (.iload 5, 2) := by decide +kernel
theorem d_Model_swapTops_148 : decode b_Model_swapTops 148 = .ok (.iaload, 1) := by decide +kernel
theorem d_Model_swapTops_149 : decode b_Model_swapTops 149 = .ok (.iastore, 1) := by decide +kernel
theorem d_Model_swapTops_150 : decode b_Model_swapTops 150 = .ok (.iinc 5 1, 3) := by decide +kernel
theorem d_Model_swapTops_153 : decode b_Model_swapTops 153 = .ok (.goto (-34), 3) := by decide +kernel
theorem d_Model_swapTops_156 : decode b_Model_swapTops 156 = .ok (.aload_n 0, 1) := by decide +kernel
theorem d_Model_swapTops_157 : decode b_Model_swapTops 157 = .ok (.getfield 97, 3) := by decide +kernel
theorem d_Model_swapTops_160 : decode b_Model_swapTops 160 = .ok (.aload_n 0, 1) := by decide +kernel
theorem d_Model_swapTops_161 : decode b_Model_swapTops 161 = .ok (.getfield 320, 3) := by decide +kernel
theorem d_Model_swapTops_164 : decode b_Model_swapTops 164 = .ok (.iconst 1, 1) := by decide +kernel
theorem d_Model_swapTops_165 : decode b_Model_swapTops 165 = .ok (.isub, 1) := by decide +kernel
theorem d_Model_swapTops_166 : decode b_Model_swapTops 166 = .ok (.iload_n 1, 1) := by decide +kernel
theorem d_Model_swapTops_167 : decode b_Model_swapTops 167 = .ok (.iload 4, 2) := by decide +kernel
theorem d_Model_swapTops_169 : decode b_Model_swapTops 169 = .ok (.iadd, 1) := by decide +kernel
theorem d_Model_swapTops_170 : decode b_Model_swapTops 170 = .ok (.iastore, 1) := by decide +kernel
theorem d_Model_swapTops_171 : decode b_Model_swapTops 171 = .ok (.return_, 1) := by decide +kernel
set_option maxHeartbeats 40000000 in
set_option maxRecDepth 100000 in
theorem c_M_swapTops (l : Launch) (D : va_G) (ax : Nat → ClassId) (m0 m1 m2 m3 m4 m5 m6 m7 m8 m9 m10 m11 m12 m13 m14 m15 m16 m17 m18 m19 m20 m21 m22 m23 m24 m25 m26 m27 m28 m29 m30 m31 m32 m33 m34 m35 m36 m37 m38 m39 m40 m41 m42 : Nat) (s_thrown s_taped s_size s_outSize s_kind s_value s_begin s_end s_failed s_isProgram s_half s_signs s_stacked s_name s_shift s_statements s_ifs s_whiles s_variants s_open s_isMade s_conditions s_kept s_looked s_rows s_firstRow s_isBroken s_atoms : Int32) (mm us : Nat) (wk : Nat → Int32) (tp : Nat → Nat) (as : Nat → Int32) (sz : Nat) (hm1 : mm < 14) (hus : us ≤ 30000) (hk : stk wk tp (mm + 2) us) : Met l y_Model_swapTops (xws (.code y_Model_swapTops b_Model_swapTops 6 none)) ({ frames := 10, cells := 0, slots := 0, locals := 400 }) (va_Pc [.ref m0] (xo D ax [(m0, .inr (11, [.int s_thrown, .int s_taped, .ref m1, .int s_size, .int s_outSize, .ref m2, .int s_kind, .int s_value, .int s_begin, .int s_end, .int s_failed, .ref m3, .ref m4, .ref m5, .int s_isProgram, .int s_half, .ref m6, .ref m7, .ref m8, .ref m9, .ref m10, .ref m11, .ref m12, .ref m13, .ref m14, .ref m15, .ref m16, .ref m17, .ref m18, .ref m19, .ref m20, .int s_signs, .ref m21, .int s_stacked, .ref m22, .int s_name, .int s_shift, .int s_statements, .int s_ifs, .int s_whiles, .int s_variants, .int s_open, .ref m23, .int s_isMade, .int s_conditions, .ref m24, .ref m25, .ref m26, .ref m27, .int s_kept, .ref m28, .int (nI (mm + 2)), .ref m29, .int (nI us), .ref m30, .ref m31, .int s_looked, .int s_rows, .int s_firstRow, .ref m32, .ref m33, .ref m34, .ref m35, .ref m36, .ref m37, .ref m38, .ref m39, .ref m40, .int s_isBroken, .ref m41, .int s_atoms, .ref m42])), (m30, .inl (ax 0, 180000, .inl wk)), (m29, .inl (ax 0, 16, .inl (fun j => nI (tp j)))), (m31, .inl (ax 0, 180000, .inl as))] sz)) ((va_Qv (fun (u : Nat → Nat) => True) (fun (u : Nat → Nat) (t9 : State) => ∃ xtp : Nat → Nat, ∃ xwk : Nat → Int32, ∃ xas : Nat → Int32, (∀ i, i ≤ mm → xtp i = tp i) ∧ (stk xwk xtp (mm + 2) us) ∧ (xtp (mm + 1) = tp mm + (us - tp (mm + 1))) ∧ (stS xwk xtp (mm + 2) us = hd9 (tl9 (stS wk tp (mm + 2) us)) :: hd9 (stS wk tp (mm + 2) us) :: tl9 (tl9 (stS wk tp (mm + 2) us))) ∧ va_P D classes [(m0, .inr (11, [.int s_thrown, .int s_taped, .ref m1, .int s_size, .int s_outSize, .ref m2, .int s_kind, .int s_value, .int s_begin, .int s_end, .int s_failed, .ref m3, .ref m4, .ref m5, .int s_isProgram, .int s_half, .ref m6, .ref m7, .ref m8, .ref m9, .ref m10, .ref m11, .ref m12, .ref m13, .ref m14, .ref m15, .ref m16, .ref m17, .ref m18, .ref m19, .ref m20, .int s_signs, .ref m21, .int s_stacked, .ref m22, .int s_name, .int s_shift, .int s_statements, .int s_ifs, .int s_whiles, .int s_variants, .int s_open, .ref m23, .int s_isMade, .int s_conditions, .ref m24, .ref m25, .ref m26, .ref m27, .int s_kept, .ref m28, .int (nI (mm + 2)), .ref m29, .int (nI us), .ref m30, .ref m31, .int s_looked, .int s_rows, .int s_firstRow, .ref m32, .ref m33, .ref m34, .ref m35, .ref m36, .ref m37, .ref m38, .ref m39, .ref m40, .int s_isBroken, .ref m41, .int s_atoms, .ref m42])), (m30, .inl (ax 0, 180000, .inl xwk)), (m29, .inl (ax 0, 16, .inl (fun j => nI (xtp j)))), (m31, .inl (ax 0, 180000, .inl xas))] t9.heap ∧ va_D (va_A [(m0, .inr (11, [.int s_thrown, .int s_taped, .ref m1, .int s_size, .int s_outSize, .ref m2, .int s_kind, .int s_value, .int s_begin, .int s_end, .int s_failed, .ref m3, .ref m4, .ref m5, .int s_isProgram, .int s_half, .ref m6, .ref m7, .ref m8, .ref m9, .ref m10, .ref m11, .ref m12, .ref m13, .ref m14, .ref m15, .ref m16, .ref m17, .ref m18, .ref m19, .ref m20, .int s_signs, .ref m21, .int s_stacked, .ref m22, .int s_name, .int s_shift, .int s_statements, .int s_ifs, .int s_whiles, .int s_variants, .int s_open, .ref m23, .int s_isMade, .int s_conditions, .ref m24, .ref m25, .ref m26, .ref m27, .int s_kept, .ref m28, .int (nI (mm + 2)), .ref m29, .int (nI us), .ref m30, .ref m31, .int s_looked, .int s_rows, .int s_firstRow, .ref m32, .ref m33, .ref m34, .ref m35, .ref m36, .ref m37, .ref m38, .ref m39, .ref m40, .int s_isBroken, .ref m41, .int s_atoms, .ref m42])), (m30, .inl (ax 0, 180000, .inl wk)), (m29, .inl (ax 0, 16, .inl (fun j => nI (tp j)))), (m31, .inl (ax 0, 180000, .inl as))] sz) [(m0, .inr (11, [.int s_thrown, .int s_taped, .ref m1, .int s_size, .int s_outSize, .ref m2, .int s_kind, .int s_value, .int s_begin, .int s_end, .int s_failed, .ref m3, .ref m4, .ref m5, .int s_isProgram, .int s_half, .ref m6, .ref m7, .ref m8, .ref m9, .ref m10, .ref m11, .ref m12, .ref m13, .ref m14, .ref m15, .ref m16, .ref m17, .ref m18, .ref m19, .ref m20, .int s_signs, .ref m21, .int s_stacked, .ref m22, .int s_name, .int s_shift, .int s_statements, .int s_ifs, .int s_whiles, .int s_variants, .int s_open, .ref m23, .int s_isMade, .int s_conditions, .ref m24, .ref m25, .ref m26, .ref m27, .int s_kept, .ref m28, .int (nI (mm + 2)), .ref m29, .int (nI us), .ref m30, .ref m31, .int s_looked, .int s_rows, .int s_firstRow, .ref m32, .ref m33, .ref m34, .ref m35, .ref m36, .ref m37, .ref m38, .ref m39, .ref m40, .int s_isBroken, .ref m41, .int s_atoms, .ref m42])), (m30, .inl (ax 0, 180000, .inl xwk)), (m29, .inl (ax 0, 16, .inl (fun j => nI (xtp j)))), (m31, .inl (ax 0, 180000, .inl xas))]) (va_A [(m0, .inr (11, [.int s_thrown, .int s_taped, .ref m1, .int s_size, .int s_outSize, .ref m2, .int s_kind, .int s_value, .int s_begin, .int s_end, .int s_failed, .ref m3, .ref m4, .ref m5, .int s_isProgram, .int s_half, .ref m6, .ref m7, .ref m8, .ref m9, .ref m10, .ref m11, .ref m12, .ref m13, .ref m14, .ref m15, .ref m16, .ref m17, .ref m18, .ref m19, .ref m20, .int s_signs, .ref m21, .int s_stacked, .ref m22, .int s_name, .int s_shift, .int s_statements, .int s_ifs, .int s_whiles, .int s_variants, .int s_open, .ref m23, .int s_isMade, .int s_conditions, .ref m24, .ref m25, .ref m26, .ref m27, .int s_kept, .ref m28, .int (nI (mm + 2)), .ref m29, .int (nI us), .ref m30, .ref m31, .int s_looked, .int s_rows, .int s_firstRow, .ref m32, .ref m33, .ref m34, .ref m35, .ref m36, .ref m37, .ref m38, .ref m39, .ref m40, .int s_isBroken, .ref m41, .int s_atoms, .ref m42])), (m30, .inl (ax 0, 180000, .inl wk)), (m29, .inl (ax 0, 16, .inl (fun j => nI (tp j)))), (m31, .inl (ax 0, 180000, .inl as))] sz))) 0 0 (va_A [(m0, .inr (11, [.int s_thrown, .int s_taped, .ref m1, .int s_size, .int s_outSize, .ref m2, .int s_kind, .int s_value, .int s_begin, .int s_end, .int s_failed, .ref m3, .ref m4, .ref m5, .int s_isProgram, .int s_half, .ref m6, .ref m7, .ref m8, .ref m9, .ref m10, .ref m11, .ref m12, .ref m13, .ref m14, .ref m15, .ref m16, .ref m17, .ref m18, .ref m19, .ref m20, .int s_signs, .ref m21, .int s_stacked, .ref m22, .int s_name, .int s_shift, .int s_statements, .int s_ifs, .int s_whiles, .int s_variants, .int s_open, .ref m23, .int s_isMade, .int s_conditions, .ref m24, .ref m25, .ref m26, .ref m27, .int s_kept, .ref m28, .int (nI (mm + 2)), .ref m29, .int (nI us), .ref m30, .ref m31, .int s_looked, .int s_rows, .int s_firstRow, .ref m32, .ref m33, .ref m34, .ref m35, .ref m36, .ref m37, .ref m38, .ref m39, .ref m40, .int s_isBroken, .ref m41, .int s_atoms, .ref m42])), (m30, .inl (ax 0, 180000, .inl wk)), (m29, .inl (ax 0, 16, .inl (fun j => nI (tp j)))), (m31, .inl (ax 0, 180000, .inl as))] sz) := by
  refine Met.ofW (cc := b_Model_swapTops) (maxL := 6) (ret := none) (by decide) rfl ?_
  intro p e s m args below meth c s₁ B hml hv
  obtain ⟨rfl, hsz, hP, hK, hD0⟩ := hv
  have hx := B.exec
  have hb := B.bytes
  have hr := B.returns
  have hts := xw_hts B.pre
  have hown : s.vm.findClass R_Model = some m.cls := findClass_of_methodNamed B.named
  have hlocks := B.notSynchronized
  subst hsz
  have hD := hD0.self (sz := s.heap.size)
  have hN := xz_entry hP
  generalize hAe : va_A [(m0, .inr (11, [.int s_thrown, .int s_taped, .ref m1, .int s_size, .int s_outSize, .ref m2, .int s_kind, .int s_value, .int s_begin, .int s_end, .int s_failed, .ref m3, .ref m4, .ref m5, .int s_isProgram, .int s_half, .ref m6, .ref m7, .ref m8, .ref m9, .ref m10, .ref m11, .ref m12, .ref m13, .ref m14, .ref m15, .ref m16, .ref m17, .ref m18, .ref m19, .ref m20, .int s_signs, .ref m21, .int s_stacked, .ref m22, .int s_name, .int s_shift, .int s_statements, .int s_ifs, .int s_whiles, .int s_variants, .int s_open, .ref m23, .int s_isMade, .int s_conditions, .ref m24, .ref m25, .ref m26, .ref m27, .int s_kept, .ref m28, .int (nI (mm + 2)), .ref m29, .int (nI us), .ref m30, .ref m31, .int s_looked, .int s_rows, .int s_firstRow, .ref m32, .ref m33, .ref m34, .ref m35, .ref m36, .ref m37, .ref m38, .ref m39, .ref m40, .int s_isBroken, .ref m41, .int s_atoms, .ref m42])), (m30, .inl (ax 0, 180000, .inl wk)), (m29, .inl (ax 0, 16, .inl (fun j => nI (tp j)))), (m31, .inl (ax 0, 180000, .inl as))] s.heap.size = A at hD hN ⊢
  have hA : ∀ q : Nat, s.heap.size ≤ q → A q := fun q h => by rw [← hAe]; exact Or.inr h
  have hS : va_S A s.heap s.heap [] := va_S.rf
  have hl0 := lv_entry ([.ref m0]) (n := 6) (Nat.le_of_ble_eq_true rfl)
  rw [lg_entry_eq]
  generalize (lg_sl ([.ref m0]) ++ List.replicate (6 - (lg_sl ([.ref m0])).length) Slot.unset).toArray = ls at hl0 ⊢
  have hl1 : lv_has ls 6 [(0, .ref m0)] := hl0
  refine xw_gen (fun Z9 hQe => ?_)
  obtain ⟨hk1, hk2, hk3, hk4, hk5⟩ := id hk
  refine lv_aload_n hx hb d_Model_swapTops_0 rfl (lv_at hl1 0 rfl) ?_
  refine va_get (D := D) (ci := 11) (v := .ref m29) (C := R_Model) (T := F_Model) (N := 72) hx hb hts i_Model hown hK.1 hP 0 rfl rfl 52 (by decide) (hts _ wd_1088) (fun _ h9 => h9) rfl d_Model_swapTops_1 ?_
  refine lv_aload_n hx hb d_Model_swapTops_4 rfl (lv_at hl1 0 rfl) ?_
  refine va_get (D := D) (ci := 11) (v := .int (nI (mm + 2))) (C := R_Model) (T := F_Model) (N := 72) hx hb hts i_Model hown hK.1 hP 0 rfl rfl 51 (by decide) (hts _ wd_1087) (fun _ h9 => h9) rfl d_Model_swapTops_5 ?_
  refine lv_iconst (v := 2) hx hb d_Model_swapTops_8 (by decide) ?_
  refine lv_isub hx hb d_Model_swapTops_9 ?_
  refine lv_topi (fun z_1 ez_1 => ?_)
  have ez_1 : z_1 = nI (mm) := ez_1.trans (pk_sub (a := mm + 2) (b := 2) (by first | assumption | omega))
  subst ez_1
  refine va_iald hx hb hK.1 hP 2 0 rfl rfl (vp_in_nI (by first | assumption | omega) (by decide)) d_Model_swapTops_10 ?_
  refine W.eq (g2 := F0 m 11 ls [.int (nI (tp mm))]) (by rw [nI_clamp (by first | exact Nat.lt_of_lt_of_le (by assumption) (by decide) | exact Nat.lt_of_le_of_lt (by assumption) (by decide) | omega)]) ?_
  refine lv_istore_n (lv' := [(1, .int (nI (tp mm))), (0, .ref m0)]) hx hb d_Model_swapTops_11 rfl hl1 (by decide) rfl (fun ls hl2 => ?_)
  clear hl1; have hl1 := hl2; clear hl2
  refine lv_aload_n hx hb d_Model_swapTops_12 rfl (lv_at hl1 1 rfl) ?_
  refine va_get (D := D) (ci := 11) (v := .ref m29) (C := R_Model) (T := F_Model) (N := 72) hx hb hts i_Model hown hK.1 hP 0 rfl rfl 52 (by decide) (hts _ wd_1088) (fun _ h9 => h9) rfl d_Model_swapTops_13 ?_
  refine lv_aload_n hx hb d_Model_swapTops_16 rfl (lv_at hl1 1 rfl) ?_
  refine va_get (D := D) (ci := 11) (v := .int (nI (mm + 2))) (C := R_Model) (T := F_Model) (N := 72) hx hb hts i_Model hown hK.1 hP 0 rfl rfl 51 (by decide) (hts _ wd_1087) (fun _ h9 => h9) rfl d_Model_swapTops_17 ?_
  refine lv_iconst (v := 1) hx hb d_Model_swapTops_20 (by decide) ?_
  refine lv_isub hx hb d_Model_swapTops_21 ?_
  refine lv_topi (fun z_2 ez_2 => ?_)
  have ez_2 : z_2 = nI (mm + 1) := ez_2.trans (pk_sub (a := mm + 2) (b := 1) (by first | assumption | omega))
  subst ez_2
  refine va_iald hx hb hK.1 hP 2 0 rfl rfl (vp_in_nI (by first | assumption | omega) (by decide)) d_Model_swapTops_22 ?_
  refine W.eq (g2 := F0 m 23 ls [.int (nI (tp (mm + 1)))]) (by rw [nI_clamp (by first | exact Nat.lt_of_lt_of_le (by assumption) (by decide) | exact Nat.lt_of_le_of_lt (by assumption) (by decide) | omega)]) ?_
  refine lv_istore_n (lv' := [(2, .int (nI (tp (mm + 1)))), (1, .int (nI (tp mm))), (0, .ref m0)]) hx hb d_Model_swapTops_23 rfl hl1 (by decide) rfl (fun ls hl2 => ?_)
  clear hl1; have hl1 := hl2; clear hl2
  refine lv_iload_n hx hb d_Model_swapTops_24 rfl (lv_at hl1 0 rfl) ?_
  refine lv_iload_n hx hb d_Model_swapTops_25 rfl (lv_at hl1 1 rfl) ?_
  refine lv_isub hx hb d_Model_swapTops_26 ?_
  refine lv_topi (fun z_3 ez_3 => ?_)
  have ez_3 : z_3 = nI (tp (mm + 1) - (tp mm)) := ez_3.trans (pk_sub (a := tp (mm + 1)) (b := tp mm) (by first | assumption | omega))
  subst ez_3
  refine lv_istore_n (lv' := [(3, .int (nI (tp (mm + 1) - (tp mm)))), (2, .int (nI (tp (mm + 1)))), (1, .int (nI (tp mm))), (0, .ref m0)]) hx hb d_Model_swapTops_27 rfl hl1 (by decide) rfl (fun ls hl2 => ?_)
  clear hl1; have hl1 := hl2; clear hl2
  refine lv_aload_n hx hb d_Model_swapTops_28 rfl (lv_at hl1 3 rfl) ?_
  refine va_get (D := D) (ci := 11) (v := .int (nI us)) (C := R_Model) (T := F_Model) (N := 72) hx hb hts i_Model hown hK.1 hP 0 rfl rfl 53 (by decide) (hts _ wd_1089) (fun _ h9 => h9) rfl d_Model_swapTops_29 ?_
  refine lv_iload_n hx hb d_Model_swapTops_32 rfl (lv_at hl1 1 rfl) ?_
  refine lv_isub hx hb d_Model_swapTops_33 ?_
  refine lv_topi (fun z_4 ez_4 => ?_)
  have ez_4 : z_4 = nI (us - (tp (mm + 1))) := ez_4.trans (pk_sub (a := us) (b := tp (mm + 1)) (by first | assumption | omega))
  subst ez_4
  refine lv_istore (lv' := [(4, .int (nI (us - (tp (mm + 1))))), (3, .int (nI (tp (mm + 1) - (tp mm)))), (2, .int (nI (tp (mm + 1)))), (1, .int (nI (tp mm))), (0, .ref m0)]) hx hb d_Model_swapTops_34 hl1 (by decide) rfl (fun ls hl2 => ?_)
  clear hl1; have hl1 := hl2; clear hl2
  refine lv_iconst (v := 0) hx hb d_Model_swapTops_36 (by decide) ?_
  refine lv_istore (lv' := [(5, .int 0), (4, .int (nI (us - (tp (mm + 1))))), (3, .int (nI (tp (mm + 1) - (tp mm)))), (2, .int (nI (tp (mm + 1)))), (1, .int (nI (tp mm))), (0, .ref m0)]) hx hb d_Model_swapTops_37 hl1 (by decide) rfl (fun ls hl2 => ?_)
  clear hl1; have hl1 := hl2; clear hl2
  suffices key_5 : ∀ (k : Nat) (i1 : Nat), 6 * (tp (mm + 1) - (tp mm)) - i1 < k → i1 ≤ 6 * (tp (mm + 1) - (tp mm)) → ∀ (H : Heap) (locs : List Loc) (ls : Array Slot), va_P D classes [(m0, .inr (11, [.int s_thrown, .int s_taped, .ref m1, .int s_size, .int s_outSize, .ref m2, .int s_kind, .int s_value, .int s_begin, .int s_end, .int s_failed, .ref m3, .ref m4, .ref m5, .int s_isProgram, .int s_half, .ref m6, .ref m7, .ref m8, .ref m9, .ref m10, .ref m11, .ref m12, .ref m13, .ref m14, .ref m15, .ref m16, .ref m17, .ref m18, .ref m19, .ref m20, .int s_signs, .ref m21, .int s_stacked, .ref m22, .int s_name, .int s_shift, .int s_statements, .int s_ifs, .int s_whiles, .int s_variants, .int s_open, .ref m23, .int s_isMade, .int s_conditions, .ref m24, .ref m25, .ref m26, .ref m27, .int s_kept, .ref m28, .int (nI (mm + 2)), .ref m29, .int (nI us), .ref m30, .ref m31, .int s_looked, .int s_rows, .int s_firstRow, .ref m32, .ref m33, .ref m34, .ref m35, .ref m36, .ref m37, .ref m38, .ref m39, .ref m40, .int s_isBroken, .ref m41, .int s_atoms, .ref m42])), (m30, .inl (ax 0, 180000, .inl wk)), (m29, .inl (ax 0, 16, .inl (fun j => nI (tp j)))), (m31, .inl (ax 0, 180000, .inl (cpf as (fun j => wk (6 * tp mm + j)) 0 i1)))] H → va_D A [(m0, .inr (11, [.int s_thrown, .int s_taped, .ref m1, .int s_size, .int s_outSize, .ref m2, .int s_kind, .int s_value, .int s_begin, .int s_end, .int s_failed, .ref m3, .ref m4, .ref m5, .int s_isProgram, .int s_half, .ref m6, .ref m7, .ref m8, .ref m9, .ref m10, .ref m11, .ref m12, .ref m13, .ref m14, .ref m15, .ref m16, .ref m17, .ref m18, .ref m19, .ref m20, .int s_signs, .ref m21, .int s_stacked, .ref m22, .int s_name, .int s_shift, .int s_statements, .int s_ifs, .int s_whiles, .int s_variants, .int s_open, .ref m23, .int s_isMade, .int s_conditions, .ref m24, .ref m25, .ref m26, .ref m27, .int s_kept, .ref m28, .int (nI (mm + 2)), .ref m29, .int (nI us), .ref m30, .ref m31, .int s_looked, .int s_rows, .int s_firstRow, .ref m32, .ref m33, .ref m34, .ref m35, .ref m36, .ref m37, .ref m38, .ref m39, .ref m40, .int s_isBroken, .ref m41, .int s_atoms, .ref m42])), (m30, .inl (ax 0, 180000, .inl wk)), (m29, .inl (ax 0, 16, .inl (fun j => nI (tp j)))), (m31, .inl (ax 0, 180000, .inl (cpf as (fun j => wk (6 * tp mm + j)) 0 i1)))] → va_S A s.heap H locs → lv_has ls 6 [(0, .ref m0), (1, .int (nI (tp mm))), (2, .int (nI (tp (mm + 1)))), (3, .int (nI (tp (mm + 1) - (tp mm)))), (4, .int (nI (us - (tp (mm + 1))))), (5, .int (nI i1))] → W p l e (headSpec (xws (.code y_Model_swapTops b_Model_swapTops 6 none)) ({ frames := 10, cells := 0, slots := 0, locals := 400 })).room s m ([.ref m0] : List Value).toArray below meth c H locs 0 0 Z9 (F0 m 39 ls []) from key_5 (6 * (tp (mm + 1) - (tp mm)) - 0 + 1) 0 (Nat.lt_succ_self _) (by first | assumption | omega) _ _ _ (by rw [cpf_0]; exact hP) (by rw [cpf_0]; exact hD) hS (lv_sub hl1 [5, 4, 3, 2, 1, 0] rfl)
  intro k_6
  induction k_6 with
  | zero =>
    intro i1 hk_8
    exact absurd hk_8 (Nat.not_lt_zero _)
  | succ k_6 ih_7 =>
    clear hP hD hS hl1
    intro i1 hk_8 hi1 H locs ls hP hD hS hl1
    refine lv_iload hx hb d_Model_swapTops_39 (lv_at hl1 5 rfl) ?_
    refine lv_bipush (v := 6) hx hb d_Model_swapTops_41 (by decide) ?_
    refine lv_iload_n hx hb d_Model_swapTops_43 rfl (lv_at hl1 3 rfl) ?_
    refine lv_imul hx hb d_Model_swapTops_44 ?_
    refine lv_topi (fun z_9 ez_9 => ?_)
    have ez_9 : z_9 = nI (6 * (tp (mm + 1) - (tp mm))) := ez_9.trans (pk_mul 6 (tp (mm + 1) - (tp mm)))
    subst ez_9
    refine lv_icmp_ge (tgt := 73) hx hb d_Model_swapTops_45 (by decide) (fun c_10 => ?_) (fun c_10 => ?_)
    · replace c_10 : 6 * (tp (mm + 1) - (tp mm)) ≤ i1 := (nI_leI (a := 6 * (tp (mm + 1) - (tp mm))) (b := i1) (by first | exact Nat.lt_of_lt_of_le (by assumption) (by decide) | exact Nat.lt_of_le_of_lt (by assumption) (by decide) | omega) (by first | exact Nat.lt_of_lt_of_le (by assumption) (by decide) | exact Nat.lt_of_le_of_lt (by assumption) (by decide) | omega)).mp c_10
      rw [show i1 = 6 * (tp (mm + 1) - (tp mm)) by omega] at hP hD
      have hP7 := hP; have hD7 := hD; clear hP hD
      have hW7 : (fun w9 : va_W => va_P D classes w9 H ∧ va_D A w9) [(m0, .inr (11, [.int s_thrown, .int s_taped, .ref m1, .int s_size, .int s_outSize, .ref m2, .int s_kind, .int s_value, .int s_begin, .int s_end, .int s_failed, .ref m3, .ref m4, .ref m5, .int s_isProgram, .int s_half, .ref m6, .ref m7, .ref m8, .ref m9, .ref m10, .ref m11, .ref m12, .ref m13, .ref m14, .ref m15, .ref m16, .ref m17, .ref m18, .ref m19, .ref m20, .int s_signs, .ref m21, .int s_stacked, .ref m22, .int s_name, .int s_shift, .int s_statements, .int s_ifs, .int s_whiles, .int s_variants, .int s_open, .ref m23, .int s_isMade, .int s_conditions, .ref m24, .ref m25, .ref m26, .ref m27, .int s_kept, .ref m28, .int (nI (mm + 2)), .ref m29, .int (nI us), .ref m30, .ref m31, .int s_looked, .int s_rows, .int s_firstRow, .ref m32, .ref m33, .ref m34, .ref m35, .ref m36, .ref m37, .ref m38, .ref m39, .ref m40, .int s_isBroken, .ref m41, .int s_atoms, .ref m42])), (m30, .inl (ax 0, 180000, .inl wk)), (m29, .inl (ax 0, 16, .inl (fun j => nI (tp j)))), (m31, .inl (ax 0, 180000, .inl (cpf as (fun j => wk (6 * tp mm + j)) 0 (6 * (tp (mm + 1) - (tp mm))))))] := ⟨hP7, hD7⟩
      obtain ⟨hP, hD⟩ := hW7
      clear hP7 hD7
      refine lv_iconst (v := 0) hx hb d_Model_swapTops_73 (by decide) ?_
      refine lv_istore (lv' := [(5, .int 0), (0, .ref m0), (1, .int (nI (tp mm))), (2, .int (nI (tp (mm + 1)))), (3, .int (nI (tp (mm + 1) - (tp mm)))), (4, .int (nI (us - (tp (mm + 1)))))]) hx hb d_Model_swapTops_74 hl1 (by decide) rfl (fun ls hl2 => ?_)
      clear hl1; have hl1 := hl2; clear hl2
      suffices key_11 : ∀ (k : Nat) (i1 : Nat), 6 * (us - (tp (mm + 1))) - i1 < k → i1 ≤ 6 * (us - (tp (mm + 1))) → ∀ (H : Heap) (locs : List Loc) (ls : Array Slot), va_P D classes [(m0, .inr (11, [.int s_thrown, .int s_taped, .ref m1, .int s_size, .int s_outSize, .ref m2, .int s_kind, .int s_value, .int s_begin, .int s_end, .int s_failed, .ref m3, .ref m4, .ref m5, .int s_isProgram, .int s_half, .ref m6, .ref m7, .ref m8, .ref m9, .ref m10, .ref m11, .ref m12, .ref m13, .ref m14, .ref m15, .ref m16, .ref m17, .ref m18, .ref m19, .ref m20, .int s_signs, .ref m21, .int s_stacked, .ref m22, .int s_name, .int s_shift, .int s_statements, .int s_ifs, .int s_whiles, .int s_variants, .int s_open, .ref m23, .int s_isMade, .int s_conditions, .ref m24, .ref m25, .ref m26, .ref m27, .int s_kept, .ref m28, .int (nI (mm + 2)), .ref m29, .int (nI us), .ref m30, .ref m31, .int s_looked, .int s_rows, .int s_firstRow, .ref m32, .ref m33, .ref m34, .ref m35, .ref m36, .ref m37, .ref m38, .ref m39, .ref m40, .int s_isBroken, .ref m41, .int s_atoms, .ref m42])), (m30, .inl (ax 0, 180000, .inl (cpf wk (fun j => wk (6 * tp (mm + 1) + j)) (6 * tp mm) i1))), (m29, .inl (ax 0, 16, .inl (fun j => nI (tp j)))), (m31, .inl (ax 0, 180000, .inl (cpf as (fun j => wk (6 * tp mm + j)) 0 (6 * (tp (mm + 1) - (tp mm))))))] H → va_D A [(m0, .inr (11, [.int s_thrown, .int s_taped, .ref m1, .int s_size, .int s_outSize, .ref m2, .int s_kind, .int s_value, .int s_begin, .int s_end, .int s_failed, .ref m3, .ref m4, .ref m5, .int s_isProgram, .int s_half, .ref m6, .ref m7, .ref m8, .ref m9, .ref m10, .ref m11, .ref m12, .ref m13, .ref m14, .ref m15, .ref m16, .ref m17, .ref m18, .ref m19, .ref m20, .int s_signs, .ref m21, .int s_stacked, .ref m22, .int s_name, .int s_shift, .int s_statements, .int s_ifs, .int s_whiles, .int s_variants, .int s_open, .ref m23, .int s_isMade, .int s_conditions, .ref m24, .ref m25, .ref m26, .ref m27, .int s_kept, .ref m28, .int (nI (mm + 2)), .ref m29, .int (nI us), .ref m30, .ref m31, .int s_looked, .int s_rows, .int s_firstRow, .ref m32, .ref m33, .ref m34, .ref m35, .ref m36, .ref m37, .ref m38, .ref m39, .ref m40, .int s_isBroken, .ref m41, .int s_atoms, .ref m42])), (m30, .inl (ax 0, 180000, .inl (cpf wk (fun j => wk (6 * tp (mm + 1) + j)) (6 * tp mm) i1))), (m29, .inl (ax 0, 16, .inl (fun j => nI (tp j)))), (m31, .inl (ax 0, 180000, .inl (cpf as (fun j => wk (6 * tp mm + j)) 0 (6 * (tp (mm + 1) - (tp mm))))))] → va_S A s.heap H locs → lv_has ls 6 [(0, .ref m0), (1, .int (nI (tp mm))), (2, .int (nI (tp (mm + 1)))), (3, .int (nI (tp (mm + 1) - (tp mm)))), (4, .int (nI (us - (tp (mm + 1))))), (5, .int (nI i1))] → W p l e (headSpec (xws (.code y_Model_swapTops b_Model_swapTops 6 none)) ({ frames := 10, cells := 0, slots := 0, locals := 400 })).room s m ([.ref m0] : List Value).toArray below meth c H locs 0 0 Z9 (F0 m 76 ls []) from key_11 (6 * (us - (tp (mm + 1))) - 0 + 1) 0 (Nat.lt_succ_self _) (by first | assumption | omega) _ _ _ (by rw [cpf_0]; exact hP) (by rw [cpf_0]; exact hD) hS (lv_sub hl1 [1, 2, 3, 4, 5, 0] rfl)
      intro k_12
      induction k_12 with
      | zero =>
        intro i1 hk_14
        exact absurd hk_14 (Nat.not_lt_zero _)
      | succ k_12 ih_13 =>
        clear hP hD hS hl1
        intro i1 hk_14 hi1 H locs ls hP hD hS hl1
        refine lv_iload hx hb d_Model_swapTops_76 (lv_at hl1 5 rfl) ?_
        refine lv_bipush (v := 6) hx hb d_Model_swapTops_78 (by decide) ?_
        refine lv_iload hx hb d_Model_swapTops_80 (lv_at hl1 4 rfl) ?_
        refine lv_imul hx hb d_Model_swapTops_82 ?_
        refine lv_topi (fun z_15 ez_15 => ?_)
        have ez_15 : z_15 = nI (6 * (us - (tp (mm + 1)))) := ez_15.trans (pk_mul 6 (us - (tp (mm + 1))))
        subst ez_15
        refine lv_icmp_ge (tgt := 116) hx hb d_Model_swapTops_83 (by decide) (fun c_16 => ?_) (fun c_16 => ?_)
        · replace c_16 : 6 * (us - (tp (mm + 1))) ≤ i1 := (nI_leI (a := 6 * (us - (tp (mm + 1)))) (b := i1) (by first | exact Nat.lt_of_lt_of_le (by assumption) (by decide) | exact Nat.lt_of_le_of_lt (by assumption) (by decide) | omega) (by first | exact Nat.lt_of_lt_of_le (by assumption) (by decide) | exact Nat.lt_of_le_of_lt (by assumption) (by decide) | omega)).mp c_16
          rw [show i1 = 6 * (us - (tp (mm + 1))) by omega] at hP hD
          have hP7 := hP; have hD7 := hD; clear hP hD
          have hW7 : (fun w9 : va_W => va_P D classes w9 H ∧ va_D A w9) [(m0, .inr (11, [.int s_thrown, .int s_taped, .ref m1, .int s_size, .int s_outSize, .ref m2, .int s_kind, .int s_value, .int s_begin, .int s_end, .int s_failed, .ref m3, .ref m4, .ref m5, .int s_isProgram, .int s_half, .ref m6, .ref m7, .ref m8, .ref m9, .ref m10, .ref m11, .ref m12, .ref m13, .ref m14, .ref m15, .ref m16, .ref m17, .ref m18, .ref m19, .ref m20, .int s_signs, .ref m21, .int s_stacked, .ref m22, .int s_name, .int s_shift, .int s_statements, .int s_ifs, .int s_whiles, .int s_variants, .int s_open, .ref m23, .int s_isMade, .int s_conditions, .ref m24, .ref m25, .ref m26, .ref m27, .int s_kept, .ref m28, .int (nI (mm + 2)), .ref m29, .int (nI us), .ref m30, .ref m31, .int s_looked, .int s_rows, .int s_firstRow, .ref m32, .ref m33, .ref m34, .ref m35, .ref m36, .ref m37, .ref m38, .ref m39, .ref m40, .int s_isBroken, .ref m41, .int s_atoms, .ref m42])), (m30, .inl (ax 0, 180000, .inl (cpf wk (fun j => wk (6 * tp (mm + 1) + j)) (6 * tp mm) (6 * (us - (tp (mm + 1))))))), (m29, .inl (ax 0, 16, .inl (fun j => nI (tp j)))), (m31, .inl (ax 0, 180000, .inl (cpf as (fun j => wk (6 * tp mm + j)) 0 (6 * (tp (mm + 1) - (tp mm))))))] := ⟨hP7, hD7⟩
          obtain ⟨hP, hD⟩ := hW7
          clear hP7 hD7
          refine lv_iconst (v := 0) hx hb d_Model_swapTops_116 (by decide) ?_
          refine lv_istore (lv' := [(5, .int 0), (0, .ref m0), (1, .int (nI (tp mm))), (2, .int (nI (tp (mm + 1)))), (3, .int (nI (tp (mm + 1) - (tp mm)))), (4, .int (nI (us - (tp (mm + 1)))))]) hx hb d_Model_swapTops_117 hl1 (by decide) rfl (fun ls hl2 => ?_)
          clear hl1; have hl1 := hl2; clear hl2
          suffices key_17 : ∀ (k : Nat) (i1 : Nat), 6 * (tp (mm + 1) - (tp mm)) - i1 < k → i1 ≤ 6 * (tp (mm + 1) - (tp mm)) → ∀ (H : Heap) (locs : List Loc) (ls : Array Slot), va_P D classes [(m0, .inr (11, [.int s_thrown, .int s_taped, .ref m1, .int s_size, .int s_outSize, .ref m2, .int s_kind, .int s_value, .int s_begin, .int s_end, .int s_failed, .ref m3, .ref m4, .ref m5, .int s_isProgram, .int s_half, .ref m6, .ref m7, .ref m8, .ref m9, .ref m10, .ref m11, .ref m12, .ref m13, .ref m14, .ref m15, .ref m16, .ref m17, .ref m18, .ref m19, .ref m20, .int s_signs, .ref m21, .int s_stacked, .ref m22, .int s_name, .int s_shift, .int s_statements, .int s_ifs, .int s_whiles, .int s_variants, .int s_open, .ref m23, .int s_isMade, .int s_conditions, .ref m24, .ref m25, .ref m26, .ref m27, .int s_kept, .ref m28, .int (nI (mm + 2)), .ref m29, .int (nI us), .ref m30, .ref m31, .int s_looked, .int s_rows, .int s_firstRow, .ref m32, .ref m33, .ref m34, .ref m35, .ref m36, .ref m37, .ref m38, .ref m39, .ref m40, .int s_isBroken, .ref m41, .int s_atoms, .ref m42])), (m30, .inl (ax 0, 180000, .inl (cpf (cpf wk (fun j => wk (6 * tp (mm + 1) + j)) (6 * tp mm) (6 * (us - (tp (mm + 1))))) (cpf as (fun j => wk (6 * tp mm + j)) 0 (6 * (tp (mm + 1) - (tp mm)))) (6 * (tp mm + (us - (tp (mm + 1))))) i1))), (m29, .inl (ax 0, 16, .inl (fun j => nI (tp j)))), (m31, .inl (ax 0, 180000, .inl (cpf as (fun j => wk (6 * tp mm + j)) 0 (6 * (tp (mm + 1) - (tp mm))))))] H → va_D A [(m0, .inr (11, [.int s_thrown, .int s_taped, .ref m1, .int s_size, .int s_outSize, .ref m2, .int s_kind, .int s_value, .int s_begin, .int s_end, .int s_failed, .ref m3, .ref m4, .ref m5, .int s_isProgram, .int s_half, .ref m6, .ref m7, .ref m8, .ref m9, .ref m10, .ref m11, .ref m12, .ref m13, .ref m14, .ref m15, .ref m16, .ref m17, .ref m18, .ref m19, .ref m20, .int s_signs, .ref m21, .int s_stacked, .ref m22, .int s_name, .int s_shift, .int s_statements, .int s_ifs, .int s_whiles, .int s_variants, .int s_open, .ref m23, .int s_isMade, .int s_conditions, .ref m24, .ref m25, .ref m26, .ref m27, .int s_kept, .ref m28, .int (nI (mm + 2)), .ref m29, .int (nI us), .ref m30, .ref m31, .int s_looked, .int s_rows, .int s_firstRow, .ref m32, .ref m33, .ref m34, .ref m35, .ref m36, .ref m37, .ref m38, .ref m39, .ref m40, .int s_isBroken, .ref m41, .int s_atoms, .ref m42])), (m30, .inl (ax 0, 180000, .inl (cpf (cpf wk (fun j => wk (6 * tp (mm + 1) + j)) (6 * tp mm) (6 * (us - (tp (mm + 1))))) (cpf as (fun j => wk (6 * tp mm + j)) 0 (6 * (tp (mm + 1) - (tp mm)))) (6 * (tp mm + (us - (tp (mm + 1))))) i1))), (m29, .inl (ax 0, 16, .inl (fun j => nI (tp j)))), (m31, .inl (ax 0, 180000, .inl (cpf as (fun j => wk (6 * tp mm + j)) 0 (6 * (tp (mm + 1) - (tp mm))))))] → va_S A s.heap H locs → lv_has ls 6 [(0, .ref m0), (1, .int (nI (tp mm))), (2, .int (nI (tp (mm + 1)))), (3, .int (nI (tp (mm + 1) - (tp mm)))), (4, .int (nI (us - (tp (mm + 1))))), (5, .int (nI i1))] → W p l e (headSpec (xws (.code y_Model_swapTops b_Model_swapTops 6 none)) ({ frames := 10, cells := 0, slots := 0, locals := 400 })).room s m ([.ref m0] : List Value).toArray below meth c H locs 0 0 Z9 (F0 m 119 ls []) from key_17 (6 * (tp (mm + 1) - (tp mm)) - 0 + 1) 0 (Nat.lt_succ_self _) (by first | assumption | omega) _ _ _ (by rw [cpf_0]; exact hP) (by rw [cpf_0]; exact hD) hS (lv_sub hl1 [1, 2, 3, 4, 5, 0] rfl)
          intro k_18
          induction k_18 with
          | zero =>
            intro i1 hk_20
            exact absurd hk_20 (Nat.not_lt_zero _)
          | succ k_18 ih_19 =>
            clear hP hD hS hl1
            intro i1 hk_20 hi1 H locs ls hP hD hS hl1
            refine lv_iload hx hb d_Model_swapTops_119 (lv_at hl1 5 rfl) ?_
            refine lv_bipush (v := 6) hx hb d_Model_swapTops_121 (by decide) ?_
            refine lv_iload_n hx hb d_Model_swapTops_123 rfl (lv_at hl1 3 rfl) ?_
            refine lv_imul hx hb d_Model_swapTops_124 ?_
            refine lv_topi (fun z_21 ez_21 => ?_)
            have ez_21 : z_21 = nI (6 * (tp (mm + 1) - (tp mm))) := ez_21.trans (pk_mul 6 (tp (mm + 1) - (tp mm)))
            subst ez_21
            refine lv_icmp_ge (tgt := 156) hx hb d_Model_swapTops_125 (by decide) (fun c_22 => ?_) (fun c_22 => ?_)
            · replace c_22 : 6 * (tp (mm + 1) - (tp mm)) ≤ i1 := (nI_leI (a := 6 * (tp (mm + 1) - (tp mm))) (b := i1) (by first | exact Nat.lt_of_lt_of_le (by assumption) (by decide) | exact Nat.lt_of_le_of_lt (by assumption) (by decide) | omega) (by first | exact Nat.lt_of_lt_of_le (by assumption) (by decide) | exact Nat.lt_of_le_of_lt (by assumption) (by decide) | omega)).mp c_22
              rw [show i1 = 6 * (tp (mm + 1) - (tp mm)) by omega] at hP hD
              have hP7 := hP; have hD7 := hD; clear hP hD
              have hW7 : (fun w9 : va_W => va_P D classes w9 H ∧ va_D A w9) [(m0, .inr (11, [.int s_thrown, .int s_taped, .ref m1, .int s_size, .int s_outSize, .ref m2, .int s_kind, .int s_value, .int s_begin, .int s_end, .int s_failed, .ref m3, .ref m4, .ref m5, .int s_isProgram, .int s_half, .ref m6, .ref m7, .ref m8, .ref m9, .ref m10, .ref m11, .ref m12, .ref m13, .ref m14, .ref m15, .ref m16, .ref m17, .ref m18, .ref m19, .ref m20, .int s_signs, .ref m21, .int s_stacked, .ref m22, .int s_name, .int s_shift, .int s_statements, .int s_ifs, .int s_whiles, .int s_variants, .int s_open, .ref m23, .int s_isMade, .int s_conditions, .ref m24, .ref m25, .ref m26, .ref m27, .int s_kept, .ref m28, .int (nI (mm + 2)), .ref m29, .int (nI us), .ref m30, .ref m31, .int s_looked, .int s_rows, .int s_firstRow, .ref m32, .ref m33, .ref m34, .ref m35, .ref m36, .ref m37, .ref m38, .ref m39, .ref m40, .int s_isBroken, .ref m41, .int s_atoms, .ref m42])), (m30, .inl (ax 0, 180000, .inl (cpf (cpf wk (fun j => wk (6 * tp (mm + 1) + j)) (6 * tp mm) (6 * (us - (tp (mm + 1))))) (cpf as (fun j => wk (6 * tp mm + j)) 0 (6 * (tp (mm + 1) - (tp mm)))) (6 * (tp mm + (us - (tp (mm + 1))))) (6 * (tp (mm + 1) - (tp mm)))))), (m29, .inl (ax 0, 16, .inl (fun j => nI (tp j)))), (m31, .inl (ax 0, 180000, .inl (cpf as (fun j => wk (6 * tp mm + j)) 0 (6 * (tp (mm + 1) - (tp mm))))))] := ⟨hP7, hD7⟩
              obtain ⟨hP, hD⟩ := hW7
              clear hP7 hD7
              refine lv_aload_n hx hb d_Model_swapTops_156 rfl (lv_at hl1 0 rfl) ?_
              refine va_get (D := D) (ci := 11) (v := .ref m29) (C := R_Model) (T := F_Model) (N := 72) hx hb hts i_Model hown hK.1 hP 0 rfl rfl 52 (by decide) (hts _ wd_1088) (fun _ h9 => h9) rfl d_Model_swapTops_157 ?_
              refine lv_aload_n hx hb d_Model_swapTops_160 rfl (lv_at hl1 0 rfl) ?_
              refine va_get (D := D) (ci := 11) (v := .int (nI (mm + 2))) (C := R_Model) (T := F_Model) (N := 72) hx hb hts i_Model hown hK.1 hP 0 rfl rfl 51 (by decide) (hts _ wd_1087) (fun _ h9 => h9) rfl d_Model_swapTops_161 ?_
              refine lv_iconst (v := 1) hx hb d_Model_swapTops_164 (by decide) ?_
              refine lv_isub hx hb d_Model_swapTops_165 ?_
              refine lv_topi (fun z_23 ez_23 => ?_)
              have ez_23 : z_23 = nI (mm + 1) := ez_23.trans (pk_sub (a := mm + 2) (b := 1) (by first | assumption | omega))
              subst ez_23
              refine lv_iload_n hx hb d_Model_swapTops_166 rfl (lv_at hl1 1 rfl) ?_
              refine lv_iload hx hb d_Model_swapTops_167 (lv_at hl1 4 rfl) ?_
              refine lv_iadd hx hb d_Model_swapTops_169 ?_
              refine lv_topi (fun z_24 ez_24 => ?_)
              have ez_24 : z_24 = nI (tp mm + (us - (tp (mm + 1)))) := ez_24.trans (nI_add (tp mm) (us - (tp (mm + 1))))
              subst ez_24
              refine va_iast hx hb hK.1 hP hD hS 2 0 rfl rfl (vp_in_nI (by first | assumption | omega) (by decide)) d_Model_swapTops_170 (fun H_25 locs hP1 hD1 hS1 => ?_)
              rw [nI_clamp (by first | exact Nat.lt_of_lt_of_le (by assumption) (by decide) | exact Nat.lt_of_le_of_lt (by assumption) (by decide) | omega)] at hP1 hD1
              rw [xf_sup tp (mm + 1) (tp mm + (us - (tp (mm + 1))))] at hP1 hD1
              clear hP hD hS
              have hS := hS1
              have hW7 : (fun w9 : va_W => va_P D classes w9 H_25 ∧ va_D A w9) [(m0, .inr (11, [.int s_thrown, .int s_taped, .ref m1, .int s_size, .int s_outSize, .ref m2, .int s_kind, .int s_value, .int s_begin, .int s_end, .int s_failed, .ref m3, .ref m4, .ref m5, .int s_isProgram, .int s_half, .ref m6, .ref m7, .ref m8, .ref m9, .ref m10, .ref m11, .ref m12, .ref m13, .ref m14, .ref m15, .ref m16, .ref m17, .ref m18, .ref m19, .ref m20, .int s_signs, .ref m21, .int s_stacked, .ref m22, .int s_name, .int s_shift, .int s_statements, .int s_ifs, .int s_whiles, .int s_variants, .int s_open, .ref m23, .int s_isMade, .int s_conditions, .ref m24, .ref m25, .ref m26, .ref m27, .int s_kept, .ref m28, .int (nI (mm + 2)), .ref m29, .int (nI us), .ref m30, .ref m31, .int s_looked, .int s_rows, .int s_firstRow, .ref m32, .ref m33, .ref m34, .ref m35, .ref m36, .ref m37, .ref m38, .ref m39, .ref m40, .int s_isBroken, .ref m41, .int s_atoms, .ref m42])), (m30, .inl (ax 0, 180000, .inl (cpf (cpf wk (fun j => wk (6 * tp (mm + 1) + j)) (6 * tp mm) (6 * (us - (tp (mm + 1))))) (cpf as (fun j => wk (6 * tp mm + j)) 0 (6 * (tp (mm + 1) - (tp mm)))) (6 * (tp mm + (us - (tp (mm + 1))))) (6 * (tp (mm + 1) - (tp mm)))))), (m29, .inl (ax 0, 16, .inl (fun j => nI (sup tp (mm + 1) (tp mm + (us - (tp (mm + 1)))) j)))), (m31, .inl (ax 0, 180000, .inl (cpf as (fun j => wk (6 * tp mm + j)) 0 (6 * (tp (mm + 1) - (tp mm))))))] := ⟨hP1, hD1⟩
              obtain ⟨hP, hD⟩ := hW7
              clear hP1 hD1 hS1
              rw [← hQe]
              obtain ⟨hP9, hD9⟩ := xw_sub2 (wc := (fun (u : Nat → Nat) (xtp : Nat → Nat) (xwk : Nat → Int32) (xas : Nat → Int32) => [(m0, .inr (11, [.int s_thrown, .int s_taped, .ref m1, .int s_size, .int s_outSize, .ref m2, .int s_kind, .int s_value, .int s_begin, .int s_end, .int s_failed, .ref m3, .ref m4, .ref m5, .int s_isProgram, .int s_half, .ref m6, .ref m7, .ref m8, .ref m9, .ref m10, .ref m11, .ref m12, .ref m13, .ref m14, .ref m15, .ref m16, .ref m17, .ref m18, .ref m19, .ref m20, .int s_signs, .ref m21, .int s_stacked, .ref m22, .int s_name, .int s_shift, .int s_statements, .int s_ifs, .int s_whiles, .int s_variants, .int s_open, .ref m23, .int s_isMade, .int s_conditions, .ref m24, .ref m25, .ref m26, .ref m27, .int s_kept, .ref m28, .int (nI (mm + 2)), .ref m29, .int (nI us), .ref m30, .ref m31, .int s_looked, .int s_rows, .int s_firstRow, .ref m32, .ref m33, .ref m34, .ref m35, .ref m36, .ref m37, .ref m38, .ref m39, .ref m40, .int s_isBroken, .ref m41, .int s_atoms, .ref m42])), (m30, .inl (ax 0, 180000, .inl xwk)), (m29, .inl (ax 0, 16, .inl (fun j => nI (xtp j)))), (m31, .inl (ax 0, 180000, .inl xas))]) (ixn []) (sup tp (mm + 1) (tp mm + (us - (tp (mm + 1))))) (cpf (cpf wk (fun j => wk (6 * tp (mm + 1) + j)) (6 * tp mm) (6 * (us - (tp (mm + 1))))) (cpf as (fun j => wk (6 * tp mm + j)) 0 (6 * (tp (mm + 1) - (tp mm)))) (6 * (tp mm + (us - (tp (mm + 1))))) (6 * (tp (mm + 1) - (tp mm)))) (cpf as (fun j => wk (6 * tp mm + j)) 0 (6 * (tp (mm + 1) - (tp mm))))) hP hD [0, 1, 2, 3] (by decide) rfl
              have hex0 : ∀ i, i ≤ mm → (sup tp (mm + 1) (tp mm + (us - (tp (mm + 1))))) i = tp i := (fun i hi => sup_ne (by first | assumption | omega))
              have hex1 : stk (cpf (cpf wk (fun j => wk (6 * tp (mm + 1) + j)) (6 * tp mm) (6 * (us - (tp (mm + 1))))) (cpf as (fun j => wk (6 * tp mm + j)) 0 (6 * (tp (mm + 1) - (tp mm)))) (6 * (tp mm + (us - (tp (mm + 1))))) (6 * (tp (mm + 1) - (tp mm)))) (sup tp (mm + 1) (tp mm + (us - (tp (mm + 1))))) (mm + 2) us := (hk.swap (fun j hj => by rw [cpf_out (by first | assumption | omega), cpf_out (by first | assumption | omega)]) (fun j hj => by rw [cpf_out (by first | assumption | omega), cpf_in hj]) (fun j hj => by rw [cpf_in hj, cpf_in0 hj]) (fun i hi => sup_ne (by first | assumption | omega)) sup_eq)
              have hex2 : (sup tp (mm + 1) (tp mm + (us - (tp (mm + 1))))) (mm + 1) = tp mm + (us - tp (mm + 1)) := sup_eq
              have hex3 : stS (cpf (cpf wk (fun j => wk (6 * tp (mm + 1) + j)) (6 * tp mm) (6 * (us - (tp (mm + 1))))) (cpf as (fun j => wk (6 * tp mm + j)) 0 (6 * (tp (mm + 1) - (tp mm)))) (6 * (tp mm + (us - (tp (mm + 1))))) (6 * (tp (mm + 1) - (tp mm)))) (sup tp (mm + 1) (tp mm + (us - (tp (mm + 1))))) (mm + 2) us = hd9 (tl9 (stS wk tp (mm + 2) us)) :: hd9 (stS wk tp (mm + 2) us) :: tl9 (tl9 (stS wk tp (mm + 2) us)) := (stS_swp hk (fun j hj => by rw [cpf_out (by first | assumption | omega), cpf_out (by first | assumption | omega)]) (fun j hj => by rw [cpf_out (by first | assumption | omega), cpf_in hj]) (fun j hj => by rw [cpf_in hj, cpf_in0 hj]) (fun i hi => sup_ne (by first | assumption | omega)) sup_eq)
              exact W.vret hx hb hr (fun t ht hW => ⟨⟨ixn [], rfl, trivial, ⟨sup tp (mm + 1) (tp mm + (us - (tp (mm + 1)))), (cpf (cpf wk (fun j => wk (6 * tp (mm + 1) + j)) (6 * tp mm) (6 * (us - (tp (mm + 1))))) (cpf as (fun j => wk (6 * tp mm + j)) 0 (6 * (tp (mm + 1) - (tp mm)))) (6 * (tp mm + (us - (tp (mm + 1))))) (6 * (tp (mm + 1) - (tp mm)))), (cpf as (fun j => wk (6 * tp mm + j)) 0 (6 * (tp (mm + 1) - (tp mm)))), hex0, hex1, hex2, hex3, by rw [ht]; exact hP9, hD9⟩⟩, hS.F ht⟩) hS.2.2 d_Model_swapTops_171
            · replace c_22 : ¬ 6 * (tp (mm + 1) - (tp mm)) ≤ i1 := fun hq9 => c_22 ((nI_leI (a := 6 * (tp (mm + 1) - (tp mm))) (b := i1) (by first | exact Nat.lt_of_lt_of_le (by assumption) (by decide) | exact Nat.lt_of_le_of_lt (by assumption) (by decide) | omega) (by first | exact Nat.lt_of_lt_of_le (by assumption) (by decide) | exact Nat.lt_of_le_of_lt (by assumption) (by decide) | omega)).mpr hq9)
              refine lv_aload_n hx hb d_Model_swapTops_128 rfl (lv_at hl1 0 rfl) ?_
              refine va_get (D := D) (ci := 11) (v := .ref m30) (C := R_Model) (T := F_Model) (N := 72) hx hb hts i_Model hown hK.1 hP 0 rfl rfl 54 (by decide) (hts _ wd_1090) (fun _ h9 => h9) rfl d_Model_swapTops_129 ?_
              refine lv_bipush (v := 6) hx hb d_Model_swapTops_132 (by decide) ?_
              refine lv_iload_n hx hb d_Model_swapTops_134 rfl (lv_at hl1 1 rfl) ?_
              refine lv_iload hx hb d_Model_swapTops_135 (lv_at hl1 4 rfl) ?_
              refine lv_iadd hx hb d_Model_swapTops_137 ?_
              refine lv_topi (fun z_26 ez_26 => ?_)
              have ez_26 : z_26 = nI (tp mm + (us - (tp (mm + 1)))) := ez_26.trans (nI_add (tp mm) (us - (tp (mm + 1))))
              subst ez_26
              refine lv_imul hx hb d_Model_swapTops_138 ?_
              refine lv_topi (fun z_27 ez_27 => ?_)
              have ez_27 : z_27 = nI (6 * (tp mm + (us - (tp (mm + 1))))) := ez_27.trans (pk_mul 6 (tp mm + (us - (tp (mm + 1)))))
              subst ez_27
              refine lv_iload hx hb d_Model_swapTops_139 (lv_at hl1 5 rfl) ?_
              refine lv_iadd hx hb d_Model_swapTops_141 ?_
              refine lv_topi (fun z_28 ez_28 => ?_)
              have ez_28 : z_28 = nI (6 * (tp mm + (us - (tp (mm + 1)))) + i1) := ez_28.trans (nI_add (6 * (tp mm + (us - (tp (mm + 1))))) i1)
              subst ez_28
              refine lv_aload_n hx hb d_Model_swapTops_142 rfl (lv_at hl1 0 rfl) ?_
              refine va_get (D := D) (ci := 11) (v := .ref m31) (C := R_Model) (T := F_Model) (N := 72) hx hb hts i_Model hown hK.1 hP 0 rfl rfl 55 (by decide) (hts _ wd_1091) (fun _ h9 => h9) rfl d_Model_swapTops_143 ?_
              refine lv_iload hx hb d_Model_swapTops_146 (lv_at hl1 5 rfl) ?_
              refine va_iald hx hb hK.1 hP 3 0 rfl rfl (vp_in_nI (by first | assumption | omega) (by decide)) d_Model_swapTops_148 ?_
              refine W.eq (g2 := F0 m 149 ls [.int ((cpf as (fun j => wk (6 * tp mm + j)) 0 (6 * (tp (mm + 1) - (tp mm)))) i1), .int (nI (6 * (tp mm + (us - (tp (mm + 1)))) + i1)), .ref m30]) (by rw [nI_clamp (by first | exact Nat.lt_of_lt_of_le (by assumption) (by decide) | exact Nat.lt_of_le_of_lt (by assumption) (by decide) | omega)]) ?_
              refine va_iast hx hb hK.1 hP hD hS 1 0 rfl rfl (vp_in_nI (by first | assumption | omega) (by decide)) d_Model_swapTops_149 (fun H_29 locs hP1 hD1 hS1 => ?_)
              rw [nI_clamp (by first | exact Nat.lt_of_lt_of_le (by assumption) (by decide) | exact Nat.lt_of_le_of_lt (by assumption) (by decide) | omega)] at hP1 hD1
              clear hP hD hS
              have hS := hS1
              have hW7 : (fun w9 : va_W => va_P D classes w9 H_29 ∧ va_D A w9) [(m0, .inr (11, [.int s_thrown, .int s_taped, .ref m1, .int s_size, .int s_outSize, .ref m2, .int s_kind, .int s_value, .int s_begin, .int s_end, .int s_failed, .ref m3, .ref m4, .ref m5, .int s_isProgram, .int s_half, .ref m6, .ref m7, .ref m8, .ref m9, .ref m10, .ref m11, .ref m12, .ref m13, .ref m14, .ref m15, .ref m16, .ref m17, .ref m18, .ref m19, .ref m20, .int s_signs, .ref m21, .int s_stacked, .ref m22, .int s_name, .int s_shift, .int s_statements, .int s_ifs, .int s_whiles, .int s_variants, .int s_open, .ref m23, .int s_isMade, .int s_conditions, .ref m24, .ref m25, .ref m26, .ref m27, .int s_kept, .ref m28, .int (nI (mm + 2)), .ref m29, .int (nI us), .ref m30, .ref m31, .int s_looked, .int s_rows, .int s_firstRow, .ref m32, .ref m33, .ref m34, .ref m35, .ref m36, .ref m37, .ref m38, .ref m39, .ref m40, .int s_isBroken, .ref m41, .int s_atoms, .ref m42])), (m30, .inl (ax 0, 180000, .inl (upd (cpf (cpf wk (fun j => wk (6 * tp (mm + 1) + j)) (6 * tp mm) (6 * (us - (tp (mm + 1))))) (cpf as (fun j => wk (6 * tp mm + j)) 0 (6 * (tp (mm + 1) - (tp mm)))) (6 * (tp mm + (us - (tp (mm + 1))))) i1) (6 * (tp mm + (us - (tp (mm + 1)))) + i1) ((cpf as (fun j => wk (6 * tp mm + j)) 0 (6 * (tp (mm + 1) - (tp mm)))) i1)))), (m29, .inl (ax 0, 16, .inl (fun j => nI (tp j)))), (m31, .inl (ax 0, 180000, .inl (cpf as (fun j => wk (6 * tp mm + j)) 0 (6 * (tp (mm + 1) - (tp mm))))))] := ⟨hP1, hD1⟩
              obtain ⟨hP, hD⟩ := hW7
              clear hP1 hD1 hS1
              refine lv_iinc (v := nI (i1 + 1)) (lv' := [(5, .int (nI (i1 + 1))), (0, .ref m0), (1, .int (nI (tp mm))), (2, .int (nI (tp (mm + 1)))), (3, .int (nI (tp (mm + 1) - (tp mm)))), (4, .int (nI (us - (tp (mm + 1)))))]) hx hb d_Model_swapTops_150 hl1 (k := 5) rfl (nI_add i1 1) (by decide) rfl (fun ls hl2 => ?_)
              clear hl1; have hl1 := hl2; clear hl2
              refine lv_goto (tgt := 119) hx hb d_Model_swapTops_153 (by decide) ?_
              have hcu : (upd (cpf (cpf wk (fun j => wk (6 * tp (mm + 1) + j)) (6 * tp mm) (6 * (us - (tp (mm + 1))))) (cpf as (fun j => wk (6 * tp mm + j)) 0 (6 * (tp (mm + 1) - (tp mm)))) (6 * (tp mm + (us - (tp (mm + 1))))) i1) (6 * (tp mm + (us - (tp (mm + 1)))) + i1) ((cpf as (fun j => wk (6 * tp mm + j)) 0 (6 * (tp (mm + 1) - (tp mm)))) i1)) = (cpf (cpf wk (fun j => wk (6 * tp (mm + 1) + j)) (6 * tp mm) (6 * (us - (tp (mm + 1))))) (cpf as (fun j => wk (6 * tp mm + j)) 0 (6 * (tp (mm + 1) - (tp mm)))) (6 * (tp mm + (us - (tp (mm + 1))))) (i1 + 1)) := by have h9 := cpf_upd (cpf wk (fun j => wk (6 * tp (mm + 1) + j)) (6 * tp mm) (6 * (us - (tp (mm + 1))))) (cpf as (fun j => wk (6 * tp mm + j)) 0 (6 * (tp (mm + 1) - (tp mm)))) (6 * (tp mm + (us - (tp (mm + 1))))) i1; exact h9
              rw [hcu] at hP hD
              clear hcu
              have hP7 := hP; have hD7 := hD; clear hP hD
              have hW7 : (fun w9 : va_W => va_P D classes w9 H_29 ∧ va_D A w9) [(m0, .inr (11, [.int s_thrown, .int s_taped, .ref m1, .int s_size, .int s_outSize, .ref m2, .int s_kind, .int s_value, .int s_begin, .int s_end, .int s_failed, .ref m3, .ref m4, .ref m5, .int s_isProgram, .int s_half, .ref m6, .ref m7, .ref m8, .ref m9, .ref m10, .ref m11, .ref m12, .ref m13, .ref m14, .ref m15, .ref m16, .ref m17, .ref m18, .ref m19, .ref m20, .int s_signs, .ref m21, .int s_stacked, .ref m22, .int s_name, .int s_shift, .int s_statements, .int s_ifs, .int s_whiles, .int s_variants, .int s_open, .ref m23, .int s_isMade, .int s_conditions, .ref m24, .ref m25, .ref m26, .ref m27, .int s_kept, .ref m28, .int (nI (mm + 2)), .ref m29, .int (nI us), .ref m30, .ref m31, .int s_looked, .int s_rows, .int s_firstRow, .ref m32, .ref m33, .ref m34, .ref m35, .ref m36, .ref m37, .ref m38, .ref m39, .ref m40, .int s_isBroken, .ref m41, .int s_atoms, .ref m42])), (m30, .inl (ax 0, 180000, .inl (cpf (cpf wk (fun j => wk (6 * tp (mm + 1) + j)) (6 * tp mm) (6 * (us - (tp (mm + 1))))) (cpf as (fun j => wk (6 * tp mm + j)) 0 (6 * (tp (mm + 1) - (tp mm)))) (6 * (tp mm + (us - (tp (mm + 1))))) (i1 + 1)))), (m29, .inl (ax 0, 16, .inl (fun j => nI (tp j)))), (m31, .inl (ax 0, 180000, .inl (cpf as (fun j => wk (6 * tp mm + j)) 0 (6 * (tp (mm + 1) - (tp mm))))))] := ⟨hP7, hD7⟩
              obtain ⟨hP, hD⟩ := hW7
              clear hP7 hD7
              exact ih_19 (i1 + 1) (by first | assumption | omega) (by first | assumption | omega) _ _ _ (hP.sub [0, 1, 2, 3] rfl) (hD.sub [0, 1, 2, 3] (by decide) rfl) hS (lv_sub hl1 [1, 2, 3, 4, 5, 0] rfl)
        · replace c_16 : ¬ 6 * (us - (tp (mm + 1))) ≤ i1 := fun hq9 => c_16 ((nI_leI (a := 6 * (us - (tp (mm + 1)))) (b := i1) (by first | exact Nat.lt_of_lt_of_le (by assumption) (by decide) | exact Nat.lt_of_le_of_lt (by assumption) (by decide) | omega) (by first | exact Nat.lt_of_lt_of_le (by assumption) (by decide) | exact Nat.lt_of_le_of_lt (by assumption) (by decide) | omega)).mpr hq9)
          refine lv_aload_n hx hb d_Model_swapTops_86 rfl (lv_at hl1 0 rfl) ?_
          refine va_get (D := D) (ci := 11) (v := .ref m30) (C := R_Model) (T := F_Model) (N := 72) hx hb hts i_Model hown hK.1 hP 0 rfl rfl 54 (by decide) (hts _ wd_1090) (fun _ h9 => h9) rfl d_Model_swapTops_87 ?_
          refine lv_bipush (v := 6) hx hb d_Model_swapTops_90 (by decide) ?_
          refine lv_iload_n hx hb d_Model_swapTops_92 rfl (lv_at hl1 1 rfl) ?_
          refine lv_imul hx hb d_Model_swapTops_93 ?_
          refine lv_topi (fun z_30 ez_30 => ?_)
          have ez_30 : z_30 = nI (6 * (tp mm)) := ez_30.trans (pk_mul 6 (tp mm))
          subst ez_30
          refine lv_iload hx hb d_Model_swapTops_94 (lv_at hl1 5 rfl) ?_
          refine lv_iadd hx hb d_Model_swapTops_96 ?_
          refine lv_topi (fun z_31 ez_31 => ?_)
          have ez_31 : z_31 = nI (6 * (tp mm) + i1) := ez_31.trans (nI_add (6 * (tp mm)) i1)
          subst ez_31
          refine lv_aload_n hx hb d_Model_swapTops_97 rfl (lv_at hl1 0 rfl) ?_
          refine va_get (D := D) (ci := 11) (v := .ref m30) (C := R_Model) (T := F_Model) (N := 72) hx hb hts i_Model hown hK.1 hP 0 rfl rfl 54 (by decide) (hts _ wd_1090) (fun _ h9 => h9) rfl d_Model_swapTops_98 ?_
          refine lv_bipush (v := 6) hx hb d_Model_swapTops_101 (by decide) ?_
          refine lv_iload_n hx hb d_Model_swapTops_103 rfl (lv_at hl1 2 rfl) ?_
          refine lv_imul hx hb d_Model_swapTops_104 ?_
          refine lv_topi (fun z_32 ez_32 => ?_)
          have ez_32 : z_32 = nI (6 * (tp (mm + 1))) := ez_32.trans (pk_mul 6 (tp (mm + 1)))
          subst ez_32
          refine lv_iload hx hb d_Model_swapTops_105 (lv_at hl1 5 rfl) ?_
          refine lv_iadd hx hb d_Model_swapTops_107 ?_
          refine lv_topi (fun z_33 ez_33 => ?_)
          have ez_33 : z_33 = nI (6 * (tp (mm + 1)) + i1) := ez_33.trans (nI_add (6 * (tp (mm + 1))) i1)
          subst ez_33
          refine va_iald hx hb hK.1 hP 1 0 rfl rfl (vp_in_nI (by first | assumption | omega) (by decide)) d_Model_swapTops_108 ?_
          refine W.eq (g2 := F0 m 109 ls [.int ((cpf wk (fun j => wk (6 * tp (mm + 1) + j)) (6 * tp mm) i1) (6 * (tp (mm + 1)) + i1)), .int (nI (6 * (tp mm) + i1)), .ref m30]) (by rw [nI_clamp (by first | exact Nat.lt_of_lt_of_le (by assumption) (by decide) | exact Nat.lt_of_le_of_lt (by assumption) (by decide) | omega)]) ?_
          refine W.eq (g2 := F0 m 109 ls [.int (wk (6 * tp (mm + 1) + i1)), .int (nI (6 * (tp mm) + i1)), .ref m30]) (by rw [cpf_out (by first | assumption | omega)]) ?_
          refine va_iast hx hb hK.1 hP hD hS 1 0 rfl rfl (vp_in_nI (by first | assumption | omega) (by decide)) d_Model_swapTops_109 (fun H_34 locs hP1 hD1 hS1 => ?_)
          rw [nI_clamp (by first | exact Nat.lt_of_lt_of_le (by assumption) (by decide) | exact Nat.lt_of_le_of_lt (by assumption) (by decide) | omega)] at hP1 hD1
          clear hP hD hS
          have hS := hS1
          have hW7 : (fun w9 : va_W => va_P D classes w9 H_34 ∧ va_D A w9) [(m0, .inr (11, [.int s_thrown, .int s_taped, .ref m1, .int s_size, .int s_outSize, .ref m2, .int s_kind, .int s_value, .int s_begin, .int s_end, .int s_failed, .ref m3, .ref m4, .ref m5, .int s_isProgram, .int s_half, .ref m6, .ref m7, .ref m8, .ref m9, .ref m10, .ref m11, .ref m12, .ref m13, .ref m14, .ref m15, .ref m16, .ref m17, .ref m18, .ref m19, .ref m20, .int s_signs, .ref m21, .int s_stacked, .ref m22, .int s_name, .int s_shift, .int s_statements, .int s_ifs, .int s_whiles, .int s_variants, .int s_open, .ref m23, .int s_isMade, .int s_conditions, .ref m24, .ref m25, .ref m26, .ref m27, .int s_kept, .ref m28, .int (nI (mm + 2)), .ref m29, .int (nI us), .ref m30, .ref m31, .int s_looked, .int s_rows, .int s_firstRow, .ref m32, .ref m33, .ref m34, .ref m35, .ref m36, .ref m37, .ref m38, .ref m39, .ref m40, .int s_isBroken, .ref m41, .int s_atoms, .ref m42])), (m30, .inl (ax 0, 180000, .inl (upd (cpf wk (fun j => wk (6 * tp (mm + 1) + j)) (6 * tp mm) i1) (6 * (tp mm) + i1) (wk (6 * tp (mm + 1) + i1))))), (m29, .inl (ax 0, 16, .inl (fun j => nI (tp j)))), (m31, .inl (ax 0, 180000, .inl (cpf as (fun j => wk (6 * tp mm + j)) 0 (6 * (tp (mm + 1) - (tp mm))))))] := ⟨hP1, hD1⟩
          obtain ⟨hP, hD⟩ := hW7
          clear hP1 hD1 hS1
          refine lv_iinc (v := nI (i1 + 1)) (lv' := [(5, .int (nI (i1 + 1))), (0, .ref m0), (1, .int (nI (tp mm))), (2, .int (nI (tp (mm + 1)))), (3, .int (nI (tp (mm + 1) - (tp mm)))), (4, .int (nI (us - (tp (mm + 1)))))]) hx hb d_Model_swapTops_110 hl1 (k := 5) rfl (nI_add i1 1) (by decide) rfl (fun ls hl2 => ?_)
          clear hl1; have hl1 := hl2; clear hl2
          refine lv_goto (tgt := 76) hx hb d_Model_swapTops_113 (by decide) ?_
          have hcu : (upd (cpf wk (fun j => wk (6 * tp (mm + 1) + j)) (6 * tp mm) i1) (6 * (tp mm) + i1) (wk (6 * tp (mm + 1) + i1))) = (cpf wk (fun j => wk (6 * tp (mm + 1) + j)) (6 * tp mm) (i1 + 1)) := by have h9 := cpf_upd wk (fun j => wk (6 * tp (mm + 1) + j)) (6 * tp mm) i1; exact h9
          rw [hcu] at hP hD
          clear hcu
          have hP7 := hP; have hD7 := hD; clear hP hD
          have hW7 : (fun w9 : va_W => va_P D classes w9 H_34 ∧ va_D A w9) [(m0, .inr (11, [.int s_thrown, .int s_taped, .ref m1, .int s_size, .int s_outSize, .ref m2, .int s_kind, .int s_value, .int s_begin, .int s_end, .int s_failed, .ref m3, .ref m4, .ref m5, .int s_isProgram, .int s_half, .ref m6, .ref m7, .ref m8, .ref m9, .ref m10, .ref m11, .ref m12, .ref m13, .ref m14, .ref m15, .ref m16, .ref m17, .ref m18, .ref m19, .ref m20, .int s_signs, .ref m21, .int s_stacked, .ref m22, .int s_name, .int s_shift, .int s_statements, .int s_ifs, .int s_whiles, .int s_variants, .int s_open, .ref m23, .int s_isMade, .int s_conditions, .ref m24, .ref m25, .ref m26, .ref m27, .int s_kept, .ref m28, .int (nI (mm + 2)), .ref m29, .int (nI us), .ref m30, .ref m31, .int s_looked, .int s_rows, .int s_firstRow, .ref m32, .ref m33, .ref m34, .ref m35, .ref m36, .ref m37, .ref m38, .ref m39, .ref m40, .int s_isBroken, .ref m41, .int s_atoms, .ref m42])), (m30, .inl (ax 0, 180000, .inl (cpf wk (fun j => wk (6 * tp (mm + 1) + j)) (6 * tp mm) (i1 + 1)))), (m29, .inl (ax 0, 16, .inl (fun j => nI (tp j)))), (m31, .inl (ax 0, 180000, .inl (cpf as (fun j => wk (6 * tp mm + j)) 0 (6 * (tp (mm + 1) - (tp mm))))))] := ⟨hP7, hD7⟩
          obtain ⟨hP, hD⟩ := hW7
          clear hP7 hD7
          exact ih_13 (i1 + 1) (by first | assumption | omega) (by first | assumption | omega) _ _ _ (hP.sub [0, 1, 2, 3] rfl) (hD.sub [0, 1, 2, 3] (by decide) rfl) hS (lv_sub hl1 [1, 2, 3, 4, 5, 0] rfl)
    · replace c_10 : ¬ 6 * (tp (mm + 1) - (tp mm)) ≤ i1 := fun hq9 => c_10 ((nI_leI (a := 6 * (tp (mm + 1) - (tp mm))) (b := i1) (by first | exact Nat.lt_of_lt_of_le (by assumption) (by decide) | exact Nat.lt_of_le_of_lt (by assumption) (by decide) | omega) (by first | exact Nat.lt_of_lt_of_le (by assumption) (by decide) | exact Nat.lt_of_le_of_lt (by assumption) (by decide) | omega)).mpr hq9)
      refine lv_aload_n hx hb d_Model_swapTops_48 rfl (lv_at hl1 0 rfl) ?_
      refine va_get (D := D) (ci := 11) (v := .ref m31) (C := R_Model) (T := F_Model) (N := 72) hx hb hts i_Model hown hK.1 hP 0 rfl rfl 55 (by decide) (hts _ wd_1091) (fun _ h9 => h9) rfl d_Model_swapTops_49 ?_
      refine lv_iload hx hb d_Model_swapTops_52 (lv_at hl1 5 rfl) ?_
      refine lv_aload_n hx hb d_Model_swapTops_54 rfl (lv_at hl1 0 rfl) ?_
      refine va_get (D := D) (ci := 11) (v := .ref m30) (C := R_Model) (T := F_Model) (N := 72) hx hb hts i_Model hown hK.1 hP 0 rfl rfl 54 (by decide) (hts _ wd_1090) (fun _ h9 => h9) rfl d_Model_swapTops_55 ?_
      refine lv_bipush (v := 6) hx hb d_Model_swapTops_58 (by decide) ?_
      refine lv_iload_n hx hb d_Model_swapTops_60 rfl (lv_at hl1 1 rfl) ?_
      refine lv_imul hx hb d_Model_swapTops_61 ?_
      refine lv_topi (fun z_35 ez_35 => ?_)
      have ez_35 : z_35 = nI (6 * (tp mm)) := ez_35.trans (pk_mul 6 (tp mm))
      subst ez_35
      refine lv_iload hx hb d_Model_swapTops_62 (lv_at hl1 5 rfl) ?_
      refine lv_iadd hx hb d_Model_swapTops_64 ?_
      refine lv_topi (fun z_36 ez_36 => ?_)
      have ez_36 : z_36 = nI (6 * (tp mm) + i1) := ez_36.trans (nI_add (6 * (tp mm)) i1)
      subst ez_36
      refine va_iald hx hb hK.1 hP 1 0 rfl rfl (vp_in_nI (by first | assumption | omega) (by decide)) d_Model_swapTops_65 ?_
      refine W.eq (g2 := F0 m 66 ls [.int (wk (6 * (tp mm) + i1)), .int (nI i1), .ref m31]) (by rw [nI_clamp (by first | exact Nat.lt_of_lt_of_le (by assumption) (by decide) | exact Nat.lt_of_le_of_lt (by assumption) (by decide) | omega)]) ?_
      refine va_iast hx hb hK.1 hP hD hS 3 0 rfl rfl (vp_in_nI (by first | assumption | omega) (by decide)) d_Model_swapTops_66 (fun H_37 locs hP1 hD1 hS1 => ?_)
      rw [nI_clamp (by first | exact Nat.lt_of_lt_of_le (by assumption) (by decide) | exact Nat.lt_of_le_of_lt (by assumption) (by decide) | omega)] at hP1 hD1
      clear hP hD hS
      have hS := hS1
      have hW7 : (fun w9 : va_W => va_P D classes w9 H_37 ∧ va_D A w9) [(m0, .inr (11, [.int s_thrown, .int s_taped, .ref m1, .int s_size, .int s_outSize, .ref m2, .int s_kind, .int s_value, .int s_begin, .int s_end, .int s_failed, .ref m3, .ref m4, .ref m5, .int s_isProgram, .int s_half, .ref m6, .ref m7, .ref m8, .ref m9, .ref m10, .ref m11, .ref m12, .ref m13, .ref m14, .ref m15, .ref m16, .ref m17, .ref m18, .ref m19, .ref m20, .int s_signs, .ref m21, .int s_stacked, .ref m22, .int s_name, .int s_shift, .int s_statements, .int s_ifs, .int s_whiles, .int s_variants, .int s_open, .ref m23, .int s_isMade, .int s_conditions, .ref m24, .ref m25, .ref m26, .ref m27, .int s_kept, .ref m28, .int (nI (mm + 2)), .ref m29, .int (nI us), .ref m30, .ref m31, .int s_looked, .int s_rows, .int s_firstRow, .ref m32, .ref m33, .ref m34, .ref m35, .ref m36, .ref m37, .ref m38, .ref m39, .ref m40, .int s_isBroken, .ref m41, .int s_atoms, .ref m42])), (m30, .inl (ax 0, 180000, .inl wk)), (m29, .inl (ax 0, 16, .inl (fun j => nI (tp j)))), (m31, .inl (ax 0, 180000, .inl (upd (cpf as (fun j => wk (6 * tp mm + j)) 0 i1) i1 (wk (6 * (tp mm) + i1)))))] := ⟨hP1, hD1⟩
      obtain ⟨hP, hD⟩ := hW7
      clear hP1 hD1 hS1
      refine lv_iinc (v := nI (i1 + 1)) (lv' := [(5, .int (nI (i1 + 1))), (0, .ref m0), (1, .int (nI (tp mm))), (2, .int (nI (tp (mm + 1)))), (3, .int (nI (tp (mm + 1) - (tp mm)))), (4, .int (nI (us - (tp (mm + 1)))))]) hx hb d_Model_swapTops_67 hl1 (k := 5) rfl (nI_add i1 1) (by decide) rfl (fun ls hl2 => ?_)
      clear hl1; have hl1 := hl2; clear hl2
      refine lv_goto (tgt := 39) hx hb d_Model_swapTops_70 (by decide) ?_
      have hcu : (upd (cpf as (fun j => wk (6 * tp mm + j)) 0 i1) i1 (wk (6 * (tp mm) + i1))) = (cpf as (fun j => wk (6 * tp mm + j)) 0 (i1 + 1)) := by have h9 := cpf_upd as (fun j => wk (6 * tp mm + j)) 0 i1; rw [Nat.zero_add] at h9; exact h9
      rw [hcu] at hP hD
      clear hcu
      have hP7 := hP; have hD7 := hD; clear hP hD
      have hW7 : (fun w9 : va_W => va_P D classes w9 H_37 ∧ va_D A w9) [(m0, .inr (11, [.int s_thrown, .int s_taped, .ref m1, .int s_size, .int s_outSize, .ref m2, .int s_kind, .int s_value, .int s_begin, .int s_end, .int s_failed, .ref m3, .ref m4, .ref m5, .int s_isProgram, .int s_half, .ref m6, .ref m7, .ref m8, .ref m9, .ref m10, .ref m11, .ref m12, .ref m13, .ref m14, .ref m15, .ref m16, .ref m17, .ref m18, .ref m19, .ref m20, .int s_signs, .ref m21, .int s_stacked, .ref m22, .int s_name, .int s_shift, .int s_statements, .int s_ifs, .int s_whiles, .int s_variants, .int s_open, .ref m23, .int s_isMade, .int s_conditions, .ref m24, .ref m25, .ref m26, .ref m27, .int s_kept, .ref m28, .int (nI (mm + 2)), .ref m29, .int (nI us), .ref m30, .ref m31, .int s_looked, .int s_rows, .int s_firstRow, .ref m32, .ref m33, .ref m34, .ref m35, .ref m36, .ref m37, .ref m38, .ref m39, .ref m40, .int s_isBroken, .ref m41, .int s_atoms, .ref m42])), (m30, .inl (ax 0, 180000, .inl wk)), (m29, .inl (ax 0, 16, .inl (fun j => nI (tp j)))), (m31, .inl (ax 0, 180000, .inl (cpf as (fun j => wk (6 * tp mm + j)) 0 (i1 + 1))))] := ⟨hP7, hD7⟩
      obtain ⟨hP, hD⟩ := hW7
      clear hP7 hD7
      exact ih_7 (i1 + 1) (by first | assumption | omega) (by first | assumption | omega) _ _ _ (hP.sub [0, 1, 2, 3] rfl) (hD.sub [0, 1, 2, 3] (by decide) rfl) hS (lv_sub hl1 [1, 2, 3, 4, 5, 0] rfl)
abbrev b_Model_replaceTerm : ByteArray := prog_13_method_50_code
def y_Model_replaceTerm : MethodName := ⟨R_Model, "replaceTerm", "(IIII)V"⟩
theorem d_Model_replaceTerm_0 : decode b_Model_replaceTerm 0 = .ok (.aload_n 0, 1) := by decide +kernel
theorem d_Model_replaceTerm_1 : decode b_Model_replaceTerm 1 = .ok (.getfield 100, 3) := by decide +kernel
theorem d_Model_replaceTerm_4 : decode b_Model_replaceTerm 4 = .ok (.iload_n 1, 1) := by decide +kernel
theorem d_Model_replaceTerm_5 : decode b_Model_replaceTerm 5 = .ok (.iaload, 1) := by decide +kernel
theorem d_Model_replaceTerm_6 : decode b_Model_replaceTerm 6 = .ok (.iload_n 2, 1) := by decide +kernel
theorem d_Model_replaceTerm_7 : decode b_Model_replaceTerm 7 = .ok (.if_icmp .ne 29, 3) := by decide +kernel
theorem d_Model_replaceTerm_10 : decode b_Model_replaceTerm 10 = .ok (.aload_n 0, 1) := by decide +kernel
theorem d_Model_replaceTerm_11 : decode b_Model_replaceTerm 11 = .ok (.getfield 100, 3) := by decide +kernel
theorem d_Model_replaceTerm_14 : decode b_Model_replaceTerm 14 = .ok (.iload_n 1, 1) := by decide +kernel
theorem d_Model_replaceTerm_15 : decode b_Model_replaceTerm 15 = .ok (.iload_n 3, 1) := by decide +kernel
theorem d_Model_replaceTerm_16 : decode b_Model_replaceTerm 16 = .ok (.iastore, 1) := by decide +kernel
theorem d_Model_replaceTerm_17 : decode b_Model_replaceTerm 17 = .ok (.aload_n 0, 1) := by decide +kernel
theorem d_Model_replaceTerm_18 : decode b_Model_replaceTerm 18 = .ok (.getfield 100, 3) := by decide +kernel
theorem d_Model_replaceTerm_21 : decode b_Model_replaceTerm 21 = .ok (.iload_n 1, 1) := by decide +kernel
theorem d_Model_replaceTerm_22 : decode b_Model_replaceTerm 22 = .ok (.iconst 1, 1) := by decide +kernel
theorem d_Model_replaceTerm_23 : decode b_Model_replaceTerm 23 = .ok (.iadd, 1) := by decide +kernel
theorem d_Model_replaceTerm_24 : decode b_Model_replaceTerm 24 = .ok (.aload_n 0, 1) := by decide +kernel
theorem d_Model_replaceTerm_25 : decode b_Model_replaceTerm 25 = .ok (.getfield 100, 3) := by decide +kernel
theorem d_Model_replaceTerm_28 : decode b_Model_replaceTerm 28 = .ok (.iload_n 1, 1) := by decide +kernel
theorem d_Model_replaceTerm_29 : decode b_Model_replaceTerm 29 = .ok (.iconst 1, 1) := by decide +kernel
theorem d_Model_replaceTerm_30 : decode b_Model_replaceTerm 30 = .ok (.iadd, 1) := by decide +kernel
theorem d_Model_replaceTerm_31 : decode b_Model_replaceTerm 31 = .ok (.iaload, 1) := by decide +kernel
theorem d_Model_replaceTerm_32 : decode b_Model_replaceTerm 32 = .ok (.iload 4, 2) := by decide +kernel
theorem d_Model_replaceTerm_34 : decode b_Model_replaceTerm 34 = .ok (.iadd, 1) := by decide +kernel
theorem d_Model_replaceTerm_35 : decode b_Model_replaceTerm 35 = .ok (.iastore, 1) := by decide +kernel
theorem d_Model_replaceTerm_36 : decode b_Model_replaceTerm 36 = .ok (.return_, 1) := by decide +kernel
set_option maxHeartbeats 40000000 in
set_option maxRecDepth 100000 in
theorem c_M_replaceTerm (l : Launch) (D : va_G) (ax : Nat → ClassId) (m0 m1 m2 m3 m4 m5 m6 m7 m8 m9 m10 m11 m12 m13 m14 m15 m16 m17 m18 m19 m20 m21 m22 m23 m24 m25 m26 m27 m28 m29 m30 m31 m32 m33 m34 m35 m36 m37 m38 m39 m40 m41 m42 : Nat) (s_thrown s_taped s_size s_outSize s_kind s_value s_begin s_end s_failed s_isProgram s_half s_signs s_stacked s_name s_shift s_statements s_ifs s_whiles s_variants s_open s_isMade s_conditions s_kept s_tops s_used s_looked s_rows s_firstRow s_isBroken s_atoms : Int32) (p1 : Nat) (x1 x2 x3 : Int32) (wk : Nat → Int32) (sz : Nat) (hp1 : p1 + 1 < 180000) : Met l y_Model_replaceTerm (xws (.code y_Model_replaceTerm b_Model_replaceTerm 5 none)) ({ frames := 10, cells := 0, slots := 0, locals := 400 }) (va_Pc [.ref m0, .int (nI p1), .int x1, .int x2, .int x3] (xo D ax [(m0, .inr (11, [.int s_thrown, .int s_taped, .ref m1, .int s_size, .int s_outSize, .ref m2, .int s_kind, .int s_value, .int s_begin, .int s_end, .int s_failed, .ref m3, .ref m4, .ref m5, .int s_isProgram, .int s_half, .ref m6, .ref m7, .ref m8, .ref m9, .ref m10, .ref m11, .ref m12, .ref m13, .ref m14, .ref m15, .ref m16, .ref m17, .ref m18, .ref m19, .ref m20, .int s_signs, .ref m21, .int s_stacked, .ref m22, .int s_name, .int s_shift, .int s_statements, .int s_ifs, .int s_whiles, .int s_variants, .int s_open, .ref m23, .int s_isMade, .int s_conditions, .ref m24, .ref m25, .ref m26, .ref m27, .int s_kept, .ref m28, .int s_tops, .ref m29, .int s_used, .ref m30, .ref m31, .int s_looked, .int s_rows, .int s_firstRow, .ref m32, .ref m33, .ref m34, .ref m35, .ref m36, .ref m37, .ref m38, .ref m39, .ref m40, .int s_isBroken, .ref m41, .int s_atoms, .ref m42])), (m30, .inl (ax 0, 180000, .inl wk))] sz)) ((va_Qv (fun (u : Nat → Nat) => True) (fun (u : Nat → Nat) (t9 : State) => ∃ xwk : Nat → Int32, (rpl wk xwk p1 x2) ∧ (rpx wk xwk p1 x1 x2 x3) ∧ va_P D classes [(m0, .inr (11, [.int s_thrown, .int s_taped, .ref m1, .int s_size, .int s_outSize, .ref m2, .int s_kind, .int s_value, .int s_begin, .int s_end, .int s_failed, .ref m3, .ref m4, .ref m5, .int s_isProgram, .int s_half, .ref m6, .ref m7, .ref m8, .ref m9, .ref m10, .ref m11, .ref m12, .ref m13, .ref m14, .ref m15, .ref m16, .ref m17, .ref m18, .ref m19, .ref m20, .int s_signs, .ref m21, .int s_stacked, .ref m22, .int s_name, .int s_shift, .int s_statements, .int s_ifs, .int s_whiles, .int s_variants, .int s_open, .ref m23, .int s_isMade, .int s_conditions, .ref m24, .ref m25, .ref m26, .ref m27, .int s_kept, .ref m28, .int s_tops, .ref m29, .int s_used, .ref m30, .ref m31, .int s_looked, .int s_rows, .int s_firstRow, .ref m32, .ref m33, .ref m34, .ref m35, .ref m36, .ref m37, .ref m38, .ref m39, .ref m40, .int s_isBroken, .ref m41, .int s_atoms, .ref m42])), (m30, .inl (ax 0, 180000, .inl xwk))] t9.heap ∧ va_D (va_A [(m0, .inr (11, [.int s_thrown, .int s_taped, .ref m1, .int s_size, .int s_outSize, .ref m2, .int s_kind, .int s_value, .int s_begin, .int s_end, .int s_failed, .ref m3, .ref m4, .ref m5, .int s_isProgram, .int s_half, .ref m6, .ref m7, .ref m8, .ref m9, .ref m10, .ref m11, .ref m12, .ref m13, .ref m14, .ref m15, .ref m16, .ref m17, .ref m18, .ref m19, .ref m20, .int s_signs, .ref m21, .int s_stacked, .ref m22, .int s_name, .int s_shift, .int s_statements, .int s_ifs, .int s_whiles, .int s_variants, .int s_open, .ref m23, .int s_isMade, .int s_conditions, .ref m24, .ref m25, .ref m26, .ref m27, .int s_kept, .ref m28, .int s_tops, .ref m29, .int s_used, .ref m30, .ref m31, .int s_looked, .int s_rows, .int s_firstRow, .ref m32, .ref m33, .ref m34, .ref m35, .ref m36, .ref m37, .ref m38, .ref m39, .ref m40, .int s_isBroken, .ref m41, .int s_atoms, .ref m42])), (m30, .inl (ax 0, 180000, .inl wk))] sz) [(m0, .inr (11, [.int s_thrown, .int s_taped, .ref m1, .int s_size, .int s_outSize, .ref m2, .int s_kind, .int s_value, .int s_begin, .int s_end, .int s_failed, .ref m3, .ref m4, .ref m5, .int s_isProgram, .int s_half, .ref m6, .ref m7, .ref m8, .ref m9, .ref m10, .ref m11, .ref m12, .ref m13, .ref m14, .ref m15, .ref m16, .ref m17, .ref m18, .ref m19, .ref m20, .int s_signs, .ref m21, .int s_stacked, .ref m22, .int s_name, .int s_shift, .int s_statements, .int s_ifs, .int s_whiles, .int s_variants, .int s_open, .ref m23, .int s_isMade, .int s_conditions, .ref m24, .ref m25, .ref m26, .ref m27, .int s_kept, .ref m28, .int s_tops, .ref m29, .int s_used, .ref m30, .ref m31, .int s_looked, .int s_rows, .int s_firstRow, .ref m32, .ref m33, .ref m34, .ref m35, .ref m36, .ref m37, .ref m38, .ref m39, .ref m40, .int s_isBroken, .ref m41, .int s_atoms, .ref m42])), (m30, .inl (ax 0, 180000, .inl xwk))]) (va_A [(m0, .inr (11, [.int s_thrown, .int s_taped, .ref m1, .int s_size, .int s_outSize, .ref m2, .int s_kind, .int s_value, .int s_begin, .int s_end, .int s_failed, .ref m3, .ref m4, .ref m5, .int s_isProgram, .int s_half, .ref m6, .ref m7, .ref m8, .ref m9, .ref m10, .ref m11, .ref m12, .ref m13, .ref m14, .ref m15, .ref m16, .ref m17, .ref m18, .ref m19, .ref m20, .int s_signs, .ref m21, .int s_stacked, .ref m22, .int s_name, .int s_shift, .int s_statements, .int s_ifs, .int s_whiles, .int s_variants, .int s_open, .ref m23, .int s_isMade, .int s_conditions, .ref m24, .ref m25, .ref m26, .ref m27, .int s_kept, .ref m28, .int s_tops, .ref m29, .int s_used, .ref m30, .ref m31, .int s_looked, .int s_rows, .int s_firstRow, .ref m32, .ref m33, .ref m34, .ref m35, .ref m36, .ref m37, .ref m38, .ref m39, .ref m40, .int s_isBroken, .ref m41, .int s_atoms, .ref m42])), (m30, .inl (ax 0, 180000, .inl wk))] sz))) 0 0 (va_A [(m0, .inr (11, [.int s_thrown, .int s_taped, .ref m1, .int s_size, .int s_outSize, .ref m2, .int s_kind, .int s_value, .int s_begin, .int s_end, .int s_failed, .ref m3, .ref m4, .ref m5, .int s_isProgram, .int s_half, .ref m6, .ref m7, .ref m8, .ref m9, .ref m10, .ref m11, .ref m12, .ref m13, .ref m14, .ref m15, .ref m16, .ref m17, .ref m18, .ref m19, .ref m20, .int s_signs, .ref m21, .int s_stacked, .ref m22, .int s_name, .int s_shift, .int s_statements, .int s_ifs, .int s_whiles, .int s_variants, .int s_open, .ref m23, .int s_isMade, .int s_conditions, .ref m24, .ref m25, .ref m26, .ref m27, .int s_kept, .ref m28, .int s_tops, .ref m29, .int s_used, .ref m30, .ref m31, .int s_looked, .int s_rows, .int s_firstRow, .ref m32, .ref m33, .ref m34, .ref m35, .ref m36, .ref m37, .ref m38, .ref m39, .ref m40, .int s_isBroken, .ref m41, .int s_atoms, .ref m42])), (m30, .inl (ax 0, 180000, .inl wk))] sz) := by
  refine Met.ofW (cc := b_Model_replaceTerm) (maxL := 5) (ret := none) (by decide) rfl ?_
  intro p e s m args below meth c s₁ B hml hv
  obtain ⟨rfl, hsz, hP, hK, hD0⟩ := hv
  have hx := B.exec
  have hb := B.bytes
  have hr := B.returns
  have hts := xw_hts B.pre
  have hown : s.vm.findClass R_Model = some m.cls := findClass_of_methodNamed B.named
  have hlocks := B.notSynchronized
  subst hsz
  have hD := hD0.self (sz := s.heap.size)
  have hN := xz_entry hP
  generalize hAe : va_A [(m0, .inr (11, [.int s_thrown, .int s_taped, .ref m1, .int s_size, .int s_outSize, .ref m2, .int s_kind, .int s_value, .int s_begin, .int s_end, .int s_failed, .ref m3, .ref m4, .ref m5, .int s_isProgram, .int s_half, .ref m6, .ref m7, .ref m8, .ref m9, .ref m10, .ref m11, .ref m12, .ref m13, .ref m14, .ref m15, .ref m16, .ref m17, .ref m18, .ref m19, .ref m20, .int s_signs, .ref m21, .int s_stacked, .ref m22, .int s_name, .int s_shift, .int s_statements, .int s_ifs, .int s_whiles, .int s_variants, .int s_open, .ref m23, .int s_isMade, .int s_conditions, .ref m24, .ref m25, .ref m26, .ref m27, .int s_kept, .ref m28, .int s_tops, .ref m29, .int s_used, .ref m30, .ref m31, .int s_looked, .int s_rows, .int s_firstRow, .ref m32, .ref m33, .ref m34, .ref m35, .ref m36, .ref m37, .ref m38, .ref m39, .ref m40, .int s_isBroken, .ref m41, .int s_atoms, .ref m42])), (m30, .inl (ax 0, 180000, .inl wk))] s.heap.size = A at hD hN ⊢
  have hA : ∀ q : Nat, s.heap.size ≤ q → A q := fun q h => by rw [← hAe]; exact Or.inr h
  have hS : va_S A s.heap s.heap [] := va_S.rf
  have hl0 := lv_entry ([.ref m0, .int (nI p1), .int x1, .int x2, .int x3]) (n := 5) (Nat.le_of_ble_eq_true rfl)
  rw [lg_entry_eq]
  generalize (lg_sl ([.ref m0, .int (nI p1), .int x1, .int x2, .int x3]) ++ List.replicate (5 - (lg_sl ([.ref m0, .int (nI p1), .int x1, .int x2, .int x3])).length) Slot.unset).toArray = ls at hl0 ⊢
  have hl1 : lv_has ls 5 [(0, .ref m0), (1, .int (nI p1)), (2, .int x1), (3, .int x2), (4, .int x3)] := hl0
  refine xw_gen (fun Z9 hQe => ?_)
  refine lv_aload_n hx hb d_Model_replaceTerm_0 rfl (lv_at hl1 0 rfl) ?_
  refine va_get (D := D) (ci := 11) (v := .ref m30) (C := R_Model) (T := F_Model) (N := 72) hx hb hts i_Model hown hK.1 hP 0 rfl rfl 54 (by decide) (hts _ wd_1090) (fun _ h9 => h9) rfl d_Model_replaceTerm_1 ?_
  refine lv_iload_n hx hb d_Model_replaceTerm_4 rfl (lv_at hl1 1 rfl) ?_
  refine va_iald hx hb hK.1 hP 1 0 rfl rfl (vp_in_nI (by first | assumption | omega) (by decide)) d_Model_replaceTerm_5 ?_
  refine W.eq (g2 := F0 m 6 ls [.int (wk p1)]) (by rw [nI_clamp (by first | exact Nat.lt_of_lt_of_le (by assumption) (by decide) | exact Nat.lt_of_le_of_lt (by assumption) (by decide) | omega)]) ?_
  refine lv_iload_n hx hb d_Model_replaceTerm_6 rfl (lv_at hl1 2 rfl) ?_
  refine lv_icmp_ne (tgt := 36) hx hb d_Model_replaceTerm_7 (by decide) (fun c_1 => ?_) (fun c_1 => ?_)
  · rw [← hQe]
    obtain ⟨hP9, hD9⟩ := xw_sub2 (wc := (fun (u : Nat → Nat) (xwk : Nat → Int32) => [(m0, .inr (11, [.int s_thrown, .int s_taped, .ref m1, .int s_size, .int s_outSize, .ref m2, .int s_kind, .int s_value, .int s_begin, .int s_end, .int s_failed, .ref m3, .ref m4, .ref m5, .int s_isProgram, .int s_half, .ref m6, .ref m7, .ref m8, .ref m9, .ref m10, .ref m11, .ref m12, .ref m13, .ref m14, .ref m15, .ref m16, .ref m17, .ref m18, .ref m19, .ref m20, .int s_signs, .ref m21, .int s_stacked, .ref m22, .int s_name, .int s_shift, .int s_statements, .int s_ifs, .int s_whiles, .int s_variants, .int s_open, .ref m23, .int s_isMade, .int s_conditions, .ref m24, .ref m25, .ref m26, .ref m27, .int s_kept, .ref m28, .int s_tops, .ref m29, .int s_used, .ref m30, .ref m31, .int s_looked, .int s_rows, .int s_firstRow, .ref m32, .ref m33, .ref m34, .ref m35, .ref m36, .ref m37, .ref m38, .ref m39, .ref m40, .int s_isBroken, .ref m41, .int s_atoms, .ref m42])), (m30, .inl (ax 0, 180000, .inl xwk))]) (ixn []) wk) hP hD [0, 1] (by decide) rfl
    have hex0 : rpl wk wk p1 x2 := (by first | exact ⟨fun _ _ _ => rfl, Or.inr rfl⟩ | exact ⟨fun j h1 h2 => by rw [upd_ne h2, upd_ne h1], Or.inl (by rw [upd_ne (by first | assumption | omega), upd_eq])⟩)
    have hex1 : rpx wk wk p1 x1 x2 x3 := (Or.inr ⟨by assumption, fun _ => rfl⟩)
    exact W.vret hx hb hr (fun t ht hW => ⟨⟨ixn [], rfl, trivial, ⟨wk, hex0, hex1, by rw [ht]; exact hP9, hD9⟩⟩, hS.F ht⟩) hS.2.2 d_Model_replaceTerm_36
  · refine lv_aload_n hx hb d_Model_replaceTerm_10 rfl (lv_at hl1 0 rfl) ?_
    refine va_get (D := D) (ci := 11) (v := .ref m30) (C := R_Model) (T := F_Model) (N := 72) hx hb hts i_Model hown hK.1 hP 0 rfl rfl 54 (by decide) (hts _ wd_1090) (fun _ h9 => h9) rfl d_Model_replaceTerm_11 ?_
    refine lv_iload_n hx hb d_Model_replaceTerm_14 rfl (lv_at hl1 1 rfl) ?_
    refine lv_iload_n hx hb d_Model_replaceTerm_15 rfl (lv_at hl1 3 rfl) ?_
    refine va_iast hx hb hK.1 hP hD hS 1 0 rfl rfl (vp_in_nI (by first | assumption | omega) (by decide)) d_Model_replaceTerm_16 (fun H_2 locs hP1 hD1 hS1 => ?_)
    rw [nI_clamp (by first | exact Nat.lt_of_lt_of_le (by assumption) (by decide) | exact Nat.lt_of_le_of_lt (by assumption) (by decide) | omega)] at hP1 hD1
    clear hP hD hS
    have hS := hS1
    have hW7 : (fun w9 : va_W => va_P D classes w9 H_2 ∧ va_D A w9) [(m0, .inr (11, [.int s_thrown, .int s_taped, .ref m1, .int s_size, .int s_outSize, .ref m2, .int s_kind, .int s_value, .int s_begin, .int s_end, .int s_failed, .ref m3, .ref m4, .ref m5, .int s_isProgram, .int s_half, .ref m6, .ref m7, .ref m8, .ref m9, .ref m10, .ref m11, .ref m12, .ref m13, .ref m14, .ref m15, .ref m16, .ref m17, .ref m18, .ref m19, .ref m20, .int s_signs, .ref m21, .int s_stacked, .ref m22, .int s_name, .int s_shift, .int s_statements, .int s_ifs, .int s_whiles, .int s_variants, .int s_open, .ref m23, .int s_isMade, .int s_conditions, .ref m24, .ref m25, .ref m26, .ref m27, .int s_kept, .ref m28, .int s_tops, .ref m29, .int s_used, .ref m30, .ref m31, .int s_looked, .int s_rows, .int s_firstRow, .ref m32, .ref m33, .ref m34, .ref m35, .ref m36, .ref m37, .ref m38, .ref m39, .ref m40, .int s_isBroken, .ref m41, .int s_atoms, .ref m42])), (m30, .inl (ax 0, 180000, .inl (upd wk p1 x2)))] := ⟨hP1, hD1⟩
    obtain ⟨hP, hD⟩ := hW7
    clear hP1 hD1 hS1
    refine lv_aload_n hx hb d_Model_replaceTerm_17 rfl (lv_at hl1 0 rfl) ?_
    refine va_get (D := D) (ci := 11) (v := .ref m30) (C := R_Model) (T := F_Model) (N := 72) hx hb hts i_Model hown hK.1 hP 0 rfl rfl 54 (by decide) (hts _ wd_1090) (fun _ h9 => h9) rfl d_Model_replaceTerm_18 ?_
    refine lv_iload_n hx hb d_Model_replaceTerm_21 rfl (lv_at hl1 1 rfl) ?_
    refine lv_iconst (v := 1) hx hb d_Model_replaceTerm_22 (by decide) ?_
    refine lv_iadd hx hb d_Model_replaceTerm_23 ?_
    refine lv_topi (fun z_3 ez_3 => ?_)
    have ez_3 : z_3 = nI (p1 + 1) := ez_3.trans (nI_add p1 1)
    subst ez_3
    refine lv_aload_n hx hb d_Model_replaceTerm_24 rfl (lv_at hl1 0 rfl) ?_
    refine va_get (D := D) (ci := 11) (v := .ref m30) (C := R_Model) (T := F_Model) (N := 72) hx hb hts i_Model hown hK.1 hP 0 rfl rfl 54 (by decide) (hts _ wd_1090) (fun _ h9 => h9) rfl d_Model_replaceTerm_25 ?_
    refine lv_iload_n hx hb d_Model_replaceTerm_28 rfl (lv_at hl1 1 rfl) ?_
    refine lv_iconst (v := 1) hx hb d_Model_replaceTerm_29 (by decide) ?_
    refine lv_iadd hx hb d_Model_replaceTerm_30 ?_
    refine lv_topi (fun z_4 ez_4 => ?_)
    have ez_4 : z_4 = nI (p1 + 1) := ez_4.trans (nI_add p1 1)
    subst ez_4
    refine va_iald hx hb hK.1 hP 1 0 rfl rfl (vp_in_nI (by first | assumption | omega) (by decide)) d_Model_replaceTerm_31 ?_
    refine W.eq (g2 := F0 m 32 ls [.int ((upd wk p1 x2) (p1 + 1)), .int (nI (p1 + 1)), .ref m30]) (by rw [nI_clamp (by first | exact Nat.lt_of_lt_of_le (by assumption) (by decide) | exact Nat.lt_of_le_of_lt (by assumption) (by decide) | omega)]) ?_
    refine lv_iload hx hb d_Model_replaceTerm_32 (lv_at hl1 4 rfl) ?_
    refine lv_iadd hx hb d_Model_replaceTerm_34 ?_
    refine lv_topi (fun z_5 ez_5 => ?_)
    refine va_iast hx hb hK.1 hP hD hS 1 0 rfl rfl (vp_in_nI (by first | assumption | omega) (by decide)) d_Model_replaceTerm_35 (fun H_6 locs hP1 hD1 hS1 => ?_)
    rw [nI_clamp (by first | exact Nat.lt_of_lt_of_le (by assumption) (by decide) | exact Nat.lt_of_le_of_lt (by assumption) (by decide) | omega)] at hP1 hD1
    clear hP hD hS
    have hS := hS1
    have hW7 : (fun w9 : va_W => va_P D classes w9 H_6 ∧ va_D A w9) [(m0, .inr (11, [.int s_thrown, .int s_taped, .ref m1, .int s_size, .int s_outSize, .ref m2, .int s_kind, .int s_value, .int s_begin, .int s_end, .int s_failed, .ref m3, .ref m4, .ref m5, .int s_isProgram, .int s_half, .ref m6, .ref m7, .ref m8, .ref m9, .ref m10, .ref m11, .ref m12, .ref m13, .ref m14, .ref m15, .ref m16, .ref m17, .ref m18, .ref m19, .ref m20, .int s_signs, .ref m21, .int s_stacked, .ref m22, .int s_name, .int s_shift, .int s_statements, .int s_ifs, .int s_whiles, .int s_variants, .int s_open, .ref m23, .int s_isMade, .int s_conditions, .ref m24, .ref m25, .ref m26, .ref m27, .int s_kept, .ref m28, .int s_tops, .ref m29, .int s_used, .ref m30, .ref m31, .int s_looked, .int s_rows, .int s_firstRow, .ref m32, .ref m33, .ref m34, .ref m35, .ref m36, .ref m37, .ref m38, .ref m39, .ref m40, .int s_isBroken, .ref m41, .int s_atoms, .ref m42])), (m30, .inl (ax 0, 180000, .inl (upd (upd wk p1 x2) (p1 + 1) z_5)))] := ⟨hP1, hD1⟩
    obtain ⟨hP, hD⟩ := hW7
    clear hP1 hD1 hS1
    rw [← hQe]
    obtain ⟨hP9, hD9⟩ := xw_sub2 (wc := (fun (u : Nat → Nat) (xwk : Nat → Int32) => [(m0, .inr (11, [.int s_thrown, .int s_taped, .ref m1, .int s_size, .int s_outSize, .ref m2, .int s_kind, .int s_value, .int s_begin, .int s_end, .int s_failed, .ref m3, .ref m4, .ref m5, .int s_isProgram, .int s_half, .ref m6, .ref m7, .ref m8, .ref m9, .ref m10, .ref m11, .ref m12, .ref m13, .ref m14, .ref m15, .ref m16, .ref m17, .ref m18, .ref m19, .ref m20, .int s_signs, .ref m21, .int s_stacked, .ref m22, .int s_name, .int s_shift, .int s_statements, .int s_ifs, .int s_whiles, .int s_variants, .int s_open, .ref m23, .int s_isMade, .int s_conditions, .ref m24, .ref m25, .ref m26, .ref m27, .int s_kept, .ref m28, .int s_tops, .ref m29, .int s_used, .ref m30, .ref m31, .int s_looked, .int s_rows, .int s_firstRow, .ref m32, .ref m33, .ref m34, .ref m35, .ref m36, .ref m37, .ref m38, .ref m39, .ref m40, .int s_isBroken, .ref m41, .int s_atoms, .ref m42])), (m30, .inl (ax 0, 180000, .inl xwk))]) (ixn []) (upd (upd wk p1 x2) (p1 + 1) z_5)) hP hD [0, 1] (by decide) rfl
    have hex0 : rpl wk (upd (upd wk p1 x2) (p1 + 1) z_5) p1 x2 := (by first | exact ⟨fun _ _ _ => rfl, Or.inr rfl⟩ | exact ⟨fun j h1 h2 => by rw [upd_ne h2, upd_ne h1], Or.inl (by rw [upd_ne (by first | assumption | omega), upd_eq])⟩)
    have hex1 : rpx wk (upd (upd wk p1 x2) (p1 + 1) z_5) p1 x1 x2 x3 := (by rw [ez_5]; exact rpx_y (by assumption))
    exact W.vret hx hb hr (fun t ht hW => ⟨⟨ixn [], rfl, trivial, ⟨(upd (upd wk p1 x2) (p1 + 1) z_5), hex0, hex1, by rw [ht]; exact hP9, hD9⟩⟩, hS.F ht⟩) hS.2.2 d_Model_replaceTerm_36
abbrev b_Model_substitute : ByteArray := prog_13_method_51_code
def y_Model_substitute : MethodName := ⟨R_Model, "substitute", "(III)V"⟩
theorem d_Model_substitute_0 : decode b_Model_substitute 0 = .ok (.aload_n 0, 1) := by decide +kernel
theorem d_Model_substitute_1 : decode b_Model_substitute 1 = .ok (.getfield 97, 3) := by decide +kernel
theorem d_Model_substitute_4 : decode b_Model_substitute 4 = .ok (.aload_n 0, 1) := by decide +kernel
theorem d_Model_substitute_5 : decode b_Model_substitute 5 = .ok (.getfield 320, 3) := by decide +kernel
theorem d_Model_substitute_8 : decode b_Model_substitute 8 = .ok (.iconst 1, 1) := by decide +kernel
theorem d_Model_substitute_9 : decode b_Model_substitute 9 = .ok (.isub, 1) := by decide +kernel
theorem d_Model_substitute_10 : decode b_Model_substitute 10 = .ok (.iaload, 1) := by decide +kernel
theorem d_Model_substitute_11 : decode b_Model_substitute 11 = .ok (.istore 4, 2) := by decide +kernel
theorem d_Model_substitute_13 : decode b_Model_substitute 13 = .ok (.iload 4, 2) := by decide +kernel
theorem d_Model_substitute_15 : decode b_Model_substitute 15 = .ok (.aload_n 0, 1) := by decide +kernel
theorem d_Model_substitute_16 : decode b_Model_substitute 16 = .ok (.getfield 323, 3) := by decide +kernel
theorem d_Model_substitute_19 : decode b_Model_substitute 19 = .ok (.if_icmp .ge 50, 3) := by decide +kernel
theorem d_Model_substitute_22 : decode b_Model_substitute 22 = .ok (.aload_n 0, 1) := by decide +kernel
theorem d_Model_substitute_23 : decode b_Model_substitute 23 = .ok (.getfield 100, 3) := by decide +kernel
theorem d_Model_substitute_26 : decode b_Model_substitute 26 = .ok (.bipush 6, 2) := by decide +kernel
theorem d_Model_substitute_28 : decode b_Model_substitute 28 = .ok (.iload 4, 2) := by decide +kernel
theorem d_Model_substitute_30 : decode b_Model_substitute 30 = .ok (.imul, 1) := by decide +kernel
theorem d_Model_substitute_31 : decode b_Model_substitute 31 = .ok (.iaload, 1) := by decide +kernel
theorem d_Model_substitute_32 : decode b_Model_substitute 32 = .ok (.ifCond .ne 31, 3) := by decide +kernel
theorem d_Model_substitute_35 : decode b_Model_substitute 35 = .ok (.aload_n 0, 1) := by decide +kernel
theorem d_Model_substitute_36 : decode b_Model_substitute 36 = .ok (.bipush 6, 2) := by decide +kernel
theorem d_Model_substitute_38 : decode b_Model_substitute 38 = .ok (.iload 4, 2) := by decide +kernel
theorem d_Model_substitute_40 : decode b_Model_substitute 40 = .ok (.imul, 1) := by decide +kernel
theorem d_Model_substitute_41 : decode b_Model_substitute 41 = .ok (.iconst 1, 1) := by decide +kernel
theorem d_Model_substitute_42 : decode b_Model_substitute 42 = .ok (.iadd, 1) := by decide +kernel
theorem d_Model_substitute_43 : decode b_Model_substitute 43 = .ok (.iload_n 1, 1) := by decide +kernel
theorem d_Model_substitute_44 : decode b_Model_substitute 44 = .ok (.iload_n 2, 1) := by decide +kernel
theorem d_Model_substitute_45 : decode b_Model_substitute 45 = .ok (.iload_n 3, 1) := by decide +kernel
theorem d_Model_substitute_46 : decode b_Model_substitute 46 = .ok (.invokevirtual 336, 3) := by decide +kernel
theorem d_Model_substitute_49 : decode b_Model_substitute 49 = .ok (.aload_n 0, 1) := by decide +kernel
theorem d_Model_substitute_50 : decode b_Model_substitute 50 = .ok (.bipush 6, 2) := by decide +kernel
theorem d_Model_substitute_52 : decode b_Model_substitute 52 = .ok (.iload 4, 2) := by decide +kernel
theorem d_Model_substitute_54 : decode b_Model_substitute 54 = .ok (.imul, 1) := by decide +kernel
theorem d_Model_substitute_55 : decode b_Model_substitute 55 = .ok (.iconst 4, 1) := by decide +kernel
theorem d_Model_substitute_56 : decode b_Model_substitute 56 = .ok (.iadd, 1) := by decide +kernel
theorem d_Model_substitute_57 : decode b_Model_substitute 57 = .ok (.iload_n 1, 1) := by decide +kernel
theorem d_Model_substitute_58 : decode b_Model_substitute 58 = .ok (.iload_n 2, 1) := by decide +kernel
theorem d_Model_substitute_59 : decode b_Model_substitute 59 = .ok (.iload_n 3, 1) := by decide +kernel
theorem d_Model_substitute_60 : decode b_Model_substitute 60 = .ok (.invokevirtual 336, 3) := by decide +kernel
theorem d_Model_substitute_63 : decode b_Model_substitute 63 = .ok (.iinc 4 1, 3) := by decide +kernel
theorem d_Model_substitute_66 : decode b_Model_substitute 66 = .ok (.goto (-53), 3) := by decide +kernel
theorem d_Model_substitute_69 : decode b_Model_substitute 69 = .ok (.return_, 1) := by decide +kernel
set_option maxHeartbeats 40000000 in
set_option maxRecDepth 100000 in
theorem c_M_substitute (l : Launch) (D : va_G) (ax : Nat → ClassId) (m0 m1 m2 m3 m4 m5 m6 m7 m8 m9 m10 m11 m12 m13 m14 m15 m16 m17 m18 m19 m20 m21 m22 m23 m24 m25 m26 m27 m28 m29 m30 m31 m32 m33 m34 m35 m36 m37 m38 m39 m40 m41 m42 : Nat) (s_thrown s_taped s_size s_outSize s_kind s_value s_begin s_end s_failed s_isProgram s_half s_signs s_stacked s_name s_shift s_statements s_ifs s_whiles s_variants s_open s_isMade s_conditions s_kept s_looked s_rows s_firstRow s_isBroken s_atoms : Int32) (mm us : Nat) (wk : Nat → Int32) (tp : Nat → Nat) (x1 x2 x3 : Int32) (v9 : Nat) (sz : Nat) (hm1 : mm < 15) (hus : us ≤ 30000) (hk : stk wk tp (mm + 1) us) (hnm : nmo 10 x2) (hx1 : x1 = nI v9) (hv9 : v9 < 6) : Met l y_Model_substitute (xws (.code y_Model_substitute b_Model_substitute 5 none)) ({ frames := 20, cells := 0, slots := 0, locals := 800 }) (va_Pc [.ref m0, .int x1, .int x2, .int x3] (xo D ax [(m0, .inr (11, [.int s_thrown, .int s_taped, .ref m1, .int s_size, .int s_outSize, .ref m2, .int s_kind, .int s_value, .int s_begin, .int s_end, .int s_failed, .ref m3, .ref m4, .ref m5, .int s_isProgram, .int s_half, .ref m6, .ref m7, .ref m8, .ref m9, .ref m10, .ref m11, .ref m12, .ref m13, .ref m14, .ref m15, .ref m16, .ref m17, .ref m18, .ref m19, .ref m20, .int s_signs, .ref m21, .int s_stacked, .ref m22, .int s_name, .int s_shift, .int s_statements, .int s_ifs, .int s_whiles, .int s_variants, .int s_open, .ref m23, .int s_isMade, .int s_conditions, .ref m24, .ref m25, .ref m26, .ref m27, .int s_kept, .ref m28, .int (nI (mm + 1)), .ref m29, .int (nI us), .ref m30, .ref m31, .int s_looked, .int s_rows, .int s_firstRow, .ref m32, .ref m33, .ref m34, .ref m35, .ref m36, .ref m37, .ref m38, .ref m39, .ref m40, .int s_isBroken, .ref m41, .int s_atoms, .ref m42])), (m30, .inl (ax 0, 180000, .inl wk)), (m29, .inl (ax 0, 16, .inl (fun j => nI (tp j))))] sz)) ((va_Qv (fun (u : Nat → Nat) => True) (fun (u : Nat → Nat) (t9 : State) => ∃ xwk : Nat → Int32, (stk xwk tp (mm + 1) us) ∧ (stS xwk tp (mm + 1) us = sbL v9 (nmI x2, x3) (hd9 (stS wk tp (mm + 1) us)) :: tl9 (stS wk tp (mm + 1) us)) ∧ va_P D classes [(m0, .inr (11, [.int s_thrown, .int s_taped, .ref m1, .int s_size, .int s_outSize, .ref m2, .int s_kind, .int s_value, .int s_begin, .int s_end, .int s_failed, .ref m3, .ref m4, .ref m5, .int s_isProgram, .int s_half, .ref m6, .ref m7, .ref m8, .ref m9, .ref m10, .ref m11, .ref m12, .ref m13, .ref m14, .ref m15, .ref m16, .ref m17, .ref m18, .ref m19, .ref m20, .int s_signs, .ref m21, .int s_stacked, .ref m22, .int s_name, .int s_shift, .int s_statements, .int s_ifs, .int s_whiles, .int s_variants, .int s_open, .ref m23, .int s_isMade, .int s_conditions, .ref m24, .ref m25, .ref m26, .ref m27, .int s_kept, .ref m28, .int (nI (mm + 1)), .ref m29, .int (nI us), .ref m30, .ref m31, .int s_looked, .int s_rows, .int s_firstRow, .ref m32, .ref m33, .ref m34, .ref m35, .ref m36, .ref m37, .ref m38, .ref m39, .ref m40, .int s_isBroken, .ref m41, .int s_atoms, .ref m42])), (m30, .inl (ax 0, 180000, .inl xwk)), (m29, .inl (ax 0, 16, .inl (fun j => nI (tp j))))] t9.heap ∧ va_D (va_A [(m0, .inr (11, [.int s_thrown, .int s_taped, .ref m1, .int s_size, .int s_outSize, .ref m2, .int s_kind, .int s_value, .int s_begin, .int s_end, .int s_failed, .ref m3, .ref m4, .ref m5, .int s_isProgram, .int s_half, .ref m6, .ref m7, .ref m8, .ref m9, .ref m10, .ref m11, .ref m12, .ref m13, .ref m14, .ref m15, .ref m16, .ref m17, .ref m18, .ref m19, .ref m20, .int s_signs, .ref m21, .int s_stacked, .ref m22, .int s_name, .int s_shift, .int s_statements, .int s_ifs, .int s_whiles, .int s_variants, .int s_open, .ref m23, .int s_isMade, .int s_conditions, .ref m24, .ref m25, .ref m26, .ref m27, .int s_kept, .ref m28, .int (nI (mm + 1)), .ref m29, .int (nI us), .ref m30, .ref m31, .int s_looked, .int s_rows, .int s_firstRow, .ref m32, .ref m33, .ref m34, .ref m35, .ref m36, .ref m37, .ref m38, .ref m39, .ref m40, .int s_isBroken, .ref m41, .int s_atoms, .ref m42])), (m30, .inl (ax 0, 180000, .inl wk)), (m29, .inl (ax 0, 16, .inl (fun j => nI (tp j))))] sz) [(m0, .inr (11, [.int s_thrown, .int s_taped, .ref m1, .int s_size, .int s_outSize, .ref m2, .int s_kind, .int s_value, .int s_begin, .int s_end, .int s_failed, .ref m3, .ref m4, .ref m5, .int s_isProgram, .int s_half, .ref m6, .ref m7, .ref m8, .ref m9, .ref m10, .ref m11, .ref m12, .ref m13, .ref m14, .ref m15, .ref m16, .ref m17, .ref m18, .ref m19, .ref m20, .int s_signs, .ref m21, .int s_stacked, .ref m22, .int s_name, .int s_shift, .int s_statements, .int s_ifs, .int s_whiles, .int s_variants, .int s_open, .ref m23, .int s_isMade, .int s_conditions, .ref m24, .ref m25, .ref m26, .ref m27, .int s_kept, .ref m28, .int (nI (mm + 1)), .ref m29, .int (nI us), .ref m30, .ref m31, .int s_looked, .int s_rows, .int s_firstRow, .ref m32, .ref m33, .ref m34, .ref m35, .ref m36, .ref m37, .ref m38, .ref m39, .ref m40, .int s_isBroken, .ref m41, .int s_atoms, .ref m42])), (m30, .inl (ax 0, 180000, .inl xwk)), (m29, .inl (ax 0, 16, .inl (fun j => nI (tp j))))]) (va_A [(m0, .inr (11, [.int s_thrown, .int s_taped, .ref m1, .int s_size, .int s_outSize, .ref m2, .int s_kind, .int s_value, .int s_begin, .int s_end, .int s_failed, .ref m3, .ref m4, .ref m5, .int s_isProgram, .int s_half, .ref m6, .ref m7, .ref m8, .ref m9, .ref m10, .ref m11, .ref m12, .ref m13, .ref m14, .ref m15, .ref m16, .ref m17, .ref m18, .ref m19, .ref m20, .int s_signs, .ref m21, .int s_stacked, .ref m22, .int s_name, .int s_shift, .int s_statements, .int s_ifs, .int s_whiles, .int s_variants, .int s_open, .ref m23, .int s_isMade, .int s_conditions, .ref m24, .ref m25, .ref m26, .ref m27, .int s_kept, .ref m28, .int (nI (mm + 1)), .ref m29, .int (nI us), .ref m30, .ref m31, .int s_looked, .int s_rows, .int s_firstRow, .ref m32, .ref m33, .ref m34, .ref m35, .ref m36, .ref m37, .ref m38, .ref m39, .ref m40, .int s_isBroken, .ref m41, .int s_atoms, .ref m42])), (m30, .inl (ax 0, 180000, .inl wk)), (m29, .inl (ax 0, 16, .inl (fun j => nI (tp j))))] sz))) 0 0 (va_A [(m0, .inr (11, [.int s_thrown, .int s_taped, .ref m1, .int s_size, .int s_outSize, .ref m2, .int s_kind, .int s_value, .int s_begin, .int s_end, .int s_failed, .ref m3, .ref m4, .ref m5, .int s_isProgram, .int s_half, .ref m6, .ref m7, .ref m8, .ref m9, .ref m10, .ref m11, .ref m12, .ref m13, .ref m14, .ref m15, .ref m16, .ref m17, .ref m18, .ref m19, .ref m20, .int s_signs, .ref m21, .int s_stacked, .ref m22, .int s_name, .int s_shift, .int s_statements, .int s_ifs, .int s_whiles, .int s_variants, .int s_open, .ref m23, .int s_isMade, .int s_conditions, .ref m24, .ref m25, .ref m26, .ref m27, .int s_kept, .ref m28, .int (nI (mm + 1)), .ref m29, .int (nI us), .ref m30, .ref m31, .int s_looked, .int s_rows, .int s_firstRow, .ref m32, .ref m33, .ref m34, .ref m35, .ref m36, .ref m37, .ref m38, .ref m39, .ref m40, .int s_isBroken, .ref m41, .int s_atoms, .ref m42])), (m30, .inl (ax 0, 180000, .inl wk)), (m29, .inl (ax 0, 16, .inl (fun j => nI (tp j))))] sz) := by
  refine Met.ofW (cc := b_Model_substitute) (maxL := 5) (ret := none) (by decide) rfl ?_
  intro p e s m args below meth c s₁ B hml hv
  obtain ⟨rfl, hsz, hP, hK, hD0⟩ := hv
  have hx := B.exec
  have hb := B.bytes
  have hr := B.returns
  have hts := xw_hts B.pre
  have hown : s.vm.findClass R_Model = some m.cls := findClass_of_methodNamed B.named
  have hlocks := B.notSynchronized
  subst hsz
  have hD := hD0.self (sz := s.heap.size)
  have hN := xz_entry hP
  generalize hAe : va_A [(m0, .inr (11, [.int s_thrown, .int s_taped, .ref m1, .int s_size, .int s_outSize, .ref m2, .int s_kind, .int s_value, .int s_begin, .int s_end, .int s_failed, .ref m3, .ref m4, .ref m5, .int s_isProgram, .int s_half, .ref m6, .ref m7, .ref m8, .ref m9, .ref m10, .ref m11, .ref m12, .ref m13, .ref m14, .ref m15, .ref m16, .ref m17, .ref m18, .ref m19, .ref m20, .int s_signs, .ref m21, .int s_stacked, .ref m22, .int s_name, .int s_shift, .int s_statements, .int s_ifs, .int s_whiles, .int s_variants, .int s_open, .ref m23, .int s_isMade, .int s_conditions, .ref m24, .ref m25, .ref m26, .ref m27, .int s_kept, .ref m28, .int (nI (mm + 1)), .ref m29, .int (nI us), .ref m30, .ref m31, .int s_looked, .int s_rows, .int s_firstRow, .ref m32, .ref m33, .ref m34, .ref m35, .ref m36, .ref m37, .ref m38, .ref m39, .ref m40, .int s_isBroken, .ref m41, .int s_atoms, .ref m42])), (m30, .inl (ax 0, 180000, .inl wk)), (m29, .inl (ax 0, 16, .inl (fun j => nI (tp j))))] s.heap.size = A at hD hN ⊢
  have hA : ∀ q : Nat, s.heap.size ≤ q → A q := fun q h => by rw [← hAe]; exact Or.inr h
  have hS : va_S A s.heap s.heap [] := va_S.rf
  have hl0 := lv_entry ([.ref m0, .int x1, .int x2, .int x3]) (n := 5) (Nat.le_of_ble_eq_true rfl)
  rw [lg_entry_eq]
  generalize (lg_sl ([.ref m0, .int x1, .int x2, .int x3]) ++ List.replicate (5 - (lg_sl ([.ref m0, .int x1, .int x2, .int x3])).length) Slot.unset).toArray = ls at hl0 ⊢
  have hl1 : lv_has ls 5 [(0, .ref m0), (1, .int x1), (2, .int x2), (3, .int x3)] := hl0
  refine xw_gen (fun Z9 hQe => ?_)
  refine lv_aload_n hx hb d_Model_substitute_0 rfl (lv_at hl1 0 rfl) ?_
  refine va_get (D := D) (ci := 11) (v := .ref m29) (C := R_Model) (T := F_Model) (N := 72) hx hb hts i_Model hown hK.1 hP 0 rfl rfl 52 (by decide) (hts _ wd_1088) (fun _ h9 => h9) rfl d_Model_substitute_1 ?_
  refine lv_aload_n hx hb d_Model_substitute_4 rfl (lv_at hl1 0 rfl) ?_
  refine va_get (D := D) (ci := 11) (v := .int (nI (mm + 1))) (C := R_Model) (T := F_Model) (N := 72) hx hb hts i_Model hown hK.1 hP 0 rfl rfl 51 (by decide) (hts _ wd_1087) (fun _ h9 => h9) rfl d_Model_substitute_5 ?_
  refine lv_iconst (v := 1) hx hb d_Model_substitute_8 (by decide) ?_
  refine lv_isub hx hb d_Model_substitute_9 ?_
  refine lv_topi (fun z_1 ez_1 => ?_)
  have ez_1 : z_1 = nI (mm) := ez_1.trans (pk_sub (a := mm + 1) (b := 1) (by first | assumption | omega))
  subst ez_1
  refine va_iald hx hb hK.1 hP 2 0 rfl rfl (vp_in_nI (by first | assumption | omega) (by decide)) d_Model_substitute_10 ?_
  refine W.eq (g2 := F0 m 11 ls [.int (nI (tp mm))]) (by rw [nI_clamp (by first | exact Nat.lt_of_lt_of_le (by assumption) (by decide) | exact Nat.lt_of_le_of_lt (by assumption) (by decide) | omega)]) ?_
  refine lv_istore (lv' := [(4, .int (nI (tp mm))), (0, .ref m0), (1, .int x1), (2, .int x2), (3, .int x3)]) hx hb d_Model_substitute_11 hl1 (by decide) rfl (fun ls hl2 => ?_)
  clear hl1; have hl1 := hl2; clear hl2
  obtain ⟨hk1, hk2⟩ := hk.top
  suffices key_2 : ∀ (k : Nat) (i1 : Nat) (wk1 : Nat → Int32), us - i1 < k → tp mm ≤ i1 → i1 ≤ us → sbo wk wk1 (tp mm) → sbq wk wk1 (tp mm) i1 v9 (nmI x2, x3) → ∀ (H : Heap) (locs : List Loc) (ls : Array Slot), va_P D classes [(m0, .inr (11, [.int s_thrown, .int s_taped, .ref m1, .int s_size, .int s_outSize, .ref m2, .int s_kind, .int s_value, .int s_begin, .int s_end, .int s_failed, .ref m3, .ref m4, .ref m5, .int s_isProgram, .int s_half, .ref m6, .ref m7, .ref m8, .ref m9, .ref m10, .ref m11, .ref m12, .ref m13, .ref m14, .ref m15, .ref m16, .ref m17, .ref m18, .ref m19, .ref m20, .int s_signs, .ref m21, .int s_stacked, .ref m22, .int s_name, .int s_shift, .int s_statements, .int s_ifs, .int s_whiles, .int s_variants, .int s_open, .ref m23, .int s_isMade, .int s_conditions, .ref m24, .ref m25, .ref m26, .ref m27, .int s_kept, .ref m28, .int (nI (mm + 1)), .ref m29, .int (nI us), .ref m30, .ref m31, .int s_looked, .int s_rows, .int s_firstRow, .ref m32, .ref m33, .ref m34, .ref m35, .ref m36, .ref m37, .ref m38, .ref m39, .ref m40, .int s_isBroken, .ref m41, .int s_atoms, .ref m42])), (m30, .inl (ax 0, 180000, .inl wk1)), (m29, .inl (ax 0, 16, .inl (fun j => nI (tp j))))] H → va_D A [(m0, .inr (11, [.int s_thrown, .int s_taped, .ref m1, .int s_size, .int s_outSize, .ref m2, .int s_kind, .int s_value, .int s_begin, .int s_end, .int s_failed, .ref m3, .ref m4, .ref m5, .int s_isProgram, .int s_half, .ref m6, .ref m7, .ref m8, .ref m9, .ref m10, .ref m11, .ref m12, .ref m13, .ref m14, .ref m15, .ref m16, .ref m17, .ref m18, .ref m19, .ref m20, .int s_signs, .ref m21, .int s_stacked, .ref m22, .int s_name, .int s_shift, .int s_statements, .int s_ifs, .int s_whiles, .int s_variants, .int s_open, .ref m23, .int s_isMade, .int s_conditions, .ref m24, .ref m25, .ref m26, .ref m27, .int s_kept, .ref m28, .int (nI (mm + 1)), .ref m29, .int (nI us), .ref m30, .ref m31, .int s_looked, .int s_rows, .int s_firstRow, .ref m32, .ref m33, .ref m34, .ref m35, .ref m36, .ref m37, .ref m38, .ref m39, .ref m40, .int s_isBroken, .ref m41, .int s_atoms, .ref m42])), (m30, .inl (ax 0, 180000, .inl wk1)), (m29, .inl (ax 0, 16, .inl (fun j => nI (tp j))))] → va_S A s.heap H locs → lv_has ls 5 [(0, .ref m0), (1, .int x1), (2, .int x2), (3, .int x3), (4, .int (nI i1))] → W p l e (headSpec (xws (.code y_Model_substitute b_Model_substitute 5 none)) ({ frames := 20, cells := 0, slots := 0, locals := 800 })).room s m ([.ref m0, .int x1, .int x2, .int x3] : List Value).toArray below meth c H locs 0 0 Z9 (F0 m 13 ls []) from key_2 (us - (tp mm) + 1) (tp mm) wk (Nat.lt_succ_self _) (by first | assumption | omega) (by first | assumption | omega) sbo.rf sbq_0 _ _ _ (hP) (hD) hS (lv_sub hl1 [1, 2, 3, 4, 0] rfl)
  intro k_3
  induction k_3 with
  | zero =>
    intro i1 wk1 hk_5
    exact absurd hk_5 (Nat.not_lt_zero _)
  | succ k_3 ih_4 =>
    clear hP hD hS hl1
    intro i1 wk1 hk_5 hi1 hi2 hsb hsq H locs ls hP hD hS hl1
    refine lv_iload hx hb d_Model_substitute_13 (lv_at hl1 4 rfl) ?_
    refine lv_aload_n hx hb d_Model_substitute_15 rfl (lv_at hl1 0 rfl) ?_
    refine va_get (D := D) (ci := 11) (v := .int (nI us)) (C := R_Model) (T := F_Model) (N := 72) hx hb hts i_Model hown hK.1 hP 0 rfl rfl 53 (by decide) (hts _ wd_1089) (fun _ h9 => h9) rfl d_Model_substitute_16 ?_
    refine lv_icmp_ge (tgt := 69) hx hb d_Model_substitute_19 (by decide) (fun c_6 => ?_) (fun c_6 => ?_)
    · replace c_6 : us ≤ i1 := (nI_leI (a := us) (b := i1) (by first | exact Nat.lt_of_lt_of_le (by assumption) (by decide) | exact Nat.lt_of_le_of_lt (by assumption) (by decide) | omega) (by first | exact Nat.lt_of_lt_of_le (by assumption) (by decide) | exact Nat.lt_of_le_of_lt (by assumption) (by decide) | omega)).mp c_6
      rw [← hQe]
      obtain ⟨hP9, hD9⟩ := xw_sub2 (wc := (fun (u : Nat → Nat) (xwk : Nat → Int32) => [(m0, .inr (11, [.int s_thrown, .int s_taped, .ref m1, .int s_size, .int s_outSize, .ref m2, .int s_kind, .int s_value, .int s_begin, .int s_end, .int s_failed, .ref m3, .ref m4, .ref m5, .int s_isProgram, .int s_half, .ref m6, .ref m7, .ref m8, .ref m9, .ref m10, .ref m11, .ref m12, .ref m13, .ref m14, .ref m15, .ref m16, .ref m17, .ref m18, .ref m19, .ref m20, .int s_signs, .ref m21, .int s_stacked, .ref m22, .int s_name, .int s_shift, .int s_statements, .int s_ifs, .int s_whiles, .int s_variants, .int s_open, .ref m23, .int s_isMade, .int s_conditions, .ref m24, .ref m25, .ref m26, .ref m27, .int s_kept, .ref m28, .int (nI (mm + 1)), .ref m29, .int (nI us), .ref m30, .ref m31, .int s_looked, .int s_rows, .int s_firstRow, .ref m32, .ref m33, .ref m34, .ref m35, .ref m36, .ref m37, .ref m38, .ref m39, .ref m40, .int s_isBroken, .ref m41, .int s_atoms, .ref m42])), (m30, .inl (ax 0, 180000, .inl xwk)), (m29, .inl (ax 0, 16, .inl (fun j => nI (tp j))))]) (ixn []) wk1) hP hD [0, 1, 2] (by decide) rfl
      have hex0 : stk wk1 tp (mm + 1) us := (hk.sub hsb)
      have hex1 : stS wk1 tp (mm + 1) us = sbL v9 (nmI x2, x3) (hd9 (stS wk tp (mm + 1) us)) :: tl9 (stS wk tp (mm + 1) us) := (stS_sub hk (by rw [show us = i1 by omega]; exact hsq))
      exact W.vret hx hb hr (fun t ht hW => ⟨⟨ixn [], rfl, trivial, ⟨wk1, hex0, hex1, by rw [ht]; exact hP9, hD9⟩⟩, hS.F ht⟩) hS.2.2 d_Model_substitute_69
    · replace c_6 : ¬ us ≤ i1 := fun hq9 => c_6 ((nI_leI (a := us) (b := i1) (by first | exact Nat.lt_of_lt_of_le (by assumption) (by decide) | exact Nat.lt_of_le_of_lt (by assumption) (by decide) | omega) (by first | exact Nat.lt_of_lt_of_le (by assumption) (by decide) | exact Nat.lt_of_le_of_lt (by assumption) (by decide) | omega)).mpr hq9)
      refine lv_aload_n hx hb d_Model_substitute_22 rfl (lv_at hl1 0 rfl) ?_
      refine va_get (D := D) (ci := 11) (v := .ref m30) (C := R_Model) (T := F_Model) (N := 72) hx hb hts i_Model hown hK.1 hP 0 rfl rfl 54 (by decide) (hts _ wd_1090) (fun _ h9 => h9) rfl d_Model_substitute_23 ?_
      refine lv_bipush (v := 6) hx hb d_Model_substitute_26 (by decide) ?_
      refine lv_iload hx hb d_Model_substitute_28 (lv_at hl1 4 rfl) ?_
      refine lv_imul hx hb d_Model_substitute_30 ?_
      refine lv_topi (fun z_7 ez_7 => ?_)
      have ez_7 : z_7 = nI (6 * i1) := ez_7.trans (pk_mul 6 i1)
      subst ez_7
      refine va_iald hx hb hK.1 hP 1 0 rfl rfl (vp_in_nI (by first | assumption | omega) (by decide)) d_Model_substitute_31 ?_
      refine W.eq (g2 := F0 m 32 ls [.int (wk1 (6 * i1))]) (by rw [nI_clamp (by first | exact Nat.lt_of_lt_of_le (by assumption) (by decide) | exact Nat.lt_of_le_of_lt (by assumption) (by decide) | omega)]) ?_
      refine lv_if_ne (tgt := 63) hx hb d_Model_substitute_32 (by decide) (fun c_8 => ?_) (fun c_8 => ?_)
      · refine lv_iinc (v := nI (i1 + 1)) (lv' := [(4, .int (nI (i1 + 1))), (0, .ref m0), (1, .int x1), (2, .int x2), (3, .int x3)]) hx hb d_Model_substitute_63 hl1 (k := 4) rfl (nI_add i1 1) (by decide) rfl (fun ls hl2 => ?_)
        clear hl1; have hl1 := hl2; clear hl2
        refine lv_goto (tgt := 13) hx hb d_Model_substitute_66 (by decide) ?_
        exact ih_4 (i1 + 1) wk1 (by first | assumption | omega) (by first | assumption | omega) (by first | assumption | omega) hsb (sbq_n hsq (by first | assumption | omega) (by assumption)) _ _ _ (hP.sub [0, 1, 2] rfl) (hD.sub [0, 1, 2] (by decide) rfl) hS (lv_sub hl1 [1, 2, 3, 4, 0] rfl)
      · refine lv_aload_n hx hb d_Model_substitute_35 rfl (lv_at hl1 0 rfl) ?_
        refine lv_bipush (v := 6) hx hb d_Model_substitute_36 (by decide) ?_
        refine lv_iload hx hb d_Model_substitute_38 (lv_at hl1 4 rfl) ?_
        refine lv_imul hx hb d_Model_substitute_40 ?_
        refine lv_topi (fun z_9 ez_9 => ?_)
        have ez_9 : z_9 = nI (6 * i1) := ez_9.trans (pk_mul 6 i1)
        subst ez_9
        refine lv_iconst (v := 1) hx hb d_Model_substitute_41 (by decide) ?_
        refine lv_iadd hx hb d_Model_substitute_42 ?_
        refine lv_topi (fun z_10 ez_10 => ?_)
        have ez_10 : z_10 = nI (6 * i1 + 1) := ez_10.trans (nI_add (6 * i1) 1)
        subst ez_10
        refine lv_iload_n hx hb d_Model_substitute_43 rfl (lv_at hl1 1 rfl) ?_
        refine lv_iload_n hx hb d_Model_substitute_44 rfl (lv_at hl1 2 rfl) ?_
        refine lv_iload_n hx hb d_Model_substitute_45 rfl (lv_at hl1 3 rfl) ?_
        obtain ⟨hPc, hDc, hFc, hCs⟩ := xw_sub3 (wc := [(m0, .inr (11, [.int s_thrown, .int s_taped, .ref m1, .int s_size, .int s_outSize, .ref m2, .int s_kind, .int s_value, .int s_begin, .int s_end, .int s_failed, .ref m3, .ref m4, .ref m5, .int s_isProgram, .int s_half, .ref m6, .ref m7, .ref m8, .ref m9, .ref m10, .ref m11, .ref m12, .ref m13, .ref m14, .ref m15, .ref m16, .ref m17, .ref m18, .ref m19, .ref m20, .int s_signs, .ref m21, .int s_stacked, .ref m22, .int s_name, .int s_shift, .int s_statements, .int s_ifs, .int s_whiles, .int s_variants, .int s_open, .ref m23, .int s_isMade, .int s_conditions, .ref m24, .ref m25, .ref m26, .ref m27, .int s_kept, .ref m28, .int (nI (mm + 1)), .ref m29, .int (nI us), .ref m30, .ref m31, .int s_looked, .int s_rows, .int s_firstRow, .ref m32, .ref m33, .ref m34, .ref m35, .ref m36, .ref m37, .ref m38, .ref m39, .ref m40, .int s_isBroken, .ref m41, .int s_atoms, .ref m42])), (m30, .inl (ax 0, 180000, .inl wk1))]) hP hD hS hA [0, 1] (by decide) rfl
        have hz := xz_of hN hS
        refine va_callv (va_runV (As := [.int (nI (6 * i1 + 1)), .int x1, .int x2, .int x3]) (rest := []) ⟨hx, hb, hml, hown, hts⟩ (c_M_replaceTerm l D ax m0 m1 m2 m3 m4 m5 m6 m7 m8 m9 m10 m11 m12 m13 m14 m15 m16 m17 m18 m19 m20 m21 m22 m23 m24 m25 m26 m27 m28 m29 m30 m31 m32 m33 m34 m35 m36 m37 m38 m39 m40 m41 m42 s_thrown s_taped s_size s_outSize s_kind s_value s_begin s_end s_failed s_isProgram s_half s_signs s_stacked s_name s_shift s_statements s_ifs s_whiles s_variants s_open s_isMade s_conditions s_kept (nI (mm + 1)) (nI us) s_looked s_rows s_firstRow s_isBroken s_atoms (6 * i1 + 1) x1 x2 x3 wk1 H.size (by first | assumption | omega)) (xcV (n := 4) hts wd_1435 wd_15 wd_1432 wd_1434 ps_83 rfl rfl (by decide +kernel) ⟨Nat.le_of_ble_eq_true rfl, Nat.le_of_ble_eq_true rfl⟩) (xpV (ci := 11) (q0 := 0) (As := [.int (nI (6 * i1 + 1)), .int x1, .int x2, .int x3]) hPc hK hz hDc rfl rfl) rfl rfl hl1.1 rfl (lv_room (Nat.le_of_ble_eq_true rfl)) d_Model_substitute_46 ⟨Nat.le_of_ble_eq_true rfl, Nat.le_of_ble_eq_true rfl⟩) hS (fun q _ h => hFc q h) hFc (fun u_11 t H_12 locs ht hvm hw hB hz1 hk1 hS1 => ?_)
        try dsimp only at hw
        obtain ⟨x_14, hx_15, hx_16, hP1, hD1⟩ := hB
        rw [ht] at hP1
        have hjn := xw_join3 (wl := [(m29, .inl (ax 0, 16, .inl (fun j => nI (tp j)))), (m0, .inr (11, [.int s_thrown, .int s_taped, .ref m1, .int s_size, .int s_outSize, .ref m2, .int s_kind, .int s_value, .int s_begin, .int s_end, .int s_failed, .ref m3, .ref m4, .ref m5, .int s_isProgram, .int s_half, .ref m6, .ref m7, .ref m8, .ref m9, .ref m10, .ref m11, .ref m12, .ref m13, .ref m14, .ref m15, .ref m16, .ref m17, .ref m18, .ref m19, .ref m20, .int s_signs, .ref m21, .int s_stacked, .ref m22, .int s_name, .int s_shift, .int s_statements, .int s_ifs, .int s_whiles, .int s_variants, .int s_open, .ref m23, .int s_isMade, .int s_conditions, .ref m24, .ref m25, .ref m26, .ref m27, .int s_kept, .ref m28, .int (nI (mm + 1)), .ref m29, .int (nI us), .ref m30, .ref m31, .int s_looked, .int s_rows, .int s_firstRow, .ref m32, .ref m33, .ref m34, .ref m35, .ref m36, .ref m37, .ref m38, .ref m39, .ref m40, .int s_isBroken, .ref m41, .int s_atoms, .ref m42])), (m30, .inl (ax 0, 180000, .inl x_14))]) hP hD [0, 1] [2] hCs (by decide) (by decide) hk1 hFc hP1 hD1 rfl
        clear hP1 hD1
        clear hPc hDc hFc hCs hz hz1 hk1 ht hvm
        clear hP hD hS
        have hS := hS1
        obtain ⟨hP, hD⟩ := hjn
        clear hS1
        refine lv_aload_n hx hb d_Model_substitute_49 rfl (lv_at hl1 0 rfl) ?_
        refine lv_bipush (v := 6) hx hb d_Model_substitute_50 (by decide) ?_
        refine lv_iload hx hb d_Model_substitute_52 (lv_at hl1 4 rfl) ?_
        refine lv_imul hx hb d_Model_substitute_54 ?_
        refine lv_topi (fun z_17 ez_17 => ?_)
        have ez_17 : z_17 = nI (6 * i1) := ez_17.trans (pk_mul 6 i1)
        subst ez_17
        refine lv_iconst (v := 4) hx hb d_Model_substitute_55 (by decide) ?_
        refine lv_iadd hx hb d_Model_substitute_56 ?_
        refine lv_topi (fun z_18 ez_18 => ?_)
        have ez_18 : z_18 = nI (6 * i1 + 4) := ez_18.trans (nI_add (6 * i1) 4)
        subst ez_18
        refine lv_iload_n hx hb d_Model_substitute_57 rfl (lv_at hl1 1 rfl) ?_
        refine lv_iload_n hx hb d_Model_substitute_58 rfl (lv_at hl1 2 rfl) ?_
        refine lv_iload_n hx hb d_Model_substitute_59 rfl (lv_at hl1 3 rfl) ?_
        obtain ⟨hPc, hDc, hFc, hCs⟩ := xw_sub3 (wc := [(m0, .inr (11, [.int s_thrown, .int s_taped, .ref m1, .int s_size, .int s_outSize, .ref m2, .int s_kind, .int s_value, .int s_begin, .int s_end, .int s_failed, .ref m3, .ref m4, .ref m5, .int s_isProgram, .int s_half, .ref m6, .ref m7, .ref m8, .ref m9, .ref m10, .ref m11, .ref m12, .ref m13, .ref m14, .ref m15, .ref m16, .ref m17, .ref m18, .ref m19, .ref m20, .int s_signs, .ref m21, .int s_stacked, .ref m22, .int s_name, .int s_shift, .int s_statements, .int s_ifs, .int s_whiles, .int s_variants, .int s_open, .ref m23, .int s_isMade, .int s_conditions, .ref m24, .ref m25, .ref m26, .ref m27, .int s_kept, .ref m28, .int (nI (mm + 1)), .ref m29, .int (nI us), .ref m30, .ref m31, .int s_looked, .int s_rows, .int s_firstRow, .ref m32, .ref m33, .ref m34, .ref m35, .ref m36, .ref m37, .ref m38, .ref m39, .ref m40, .int s_isBroken, .ref m41, .int s_atoms, .ref m42])), (m30, .inl (ax 0, 180000, .inl x_14))]) hP hD hS hA [1, 2] (by decide) rfl
        have hz := xz_of hN hS
        refine va_callv (va_runV (As := [.int (nI (6 * i1 + 4)), .int x1, .int x2, .int x3]) (rest := []) ⟨hx, hb, hml, hown, hts⟩ (c_M_replaceTerm l D ax m0 m1 m2 m3 m4 m5 m6 m7 m8 m9 m10 m11 m12 m13 m14 m15 m16 m17 m18 m19 m20 m21 m22 m23 m24 m25 m26 m27 m28 m29 m30 m31 m32 m33 m34 m35 m36 m37 m38 m39 m40 m41 m42 s_thrown s_taped s_size s_outSize s_kind s_value s_begin s_end s_failed s_isProgram s_half s_signs s_stacked s_name s_shift s_statements s_ifs s_whiles s_variants s_open s_isMade s_conditions s_kept (nI (mm + 1)) (nI us) s_looked s_rows s_firstRow s_isBroken s_atoms (6 * i1 + 4) x1 x2 x3 x_14 H_12.size (by first | assumption | omega)) (xcV (n := 4) hts wd_1435 wd_15 wd_1432 wd_1434 ps_83 rfl rfl (by decide +kernel) ⟨Nat.le_of_ble_eq_true rfl, Nat.le_of_ble_eq_true rfl⟩) (xpV (ci := 11) (q0 := 0) (As := [.int (nI (6 * i1 + 4)), .int x1, .int x2, .int x3]) hPc hK hz hDc rfl rfl) rfl rfl hl1.1 rfl (lv_room (Nat.le_of_ble_eq_true rfl)) d_Model_substitute_60 ⟨Nat.le_of_ble_eq_true rfl, Nat.le_of_ble_eq_true rfl⟩) hS (fun q _ h => hFc q h) hFc (fun u_19 t H_20 locs ht hvm hw hB hz1 hk1 hS1 => ?_)
        try dsimp only at hw
        obtain ⟨x_22, hx_23, hx_24, hP1, hD1⟩ := hB
        rw [ht] at hP1
        have hjn := xw_join3 (wl := [(m29, .inl (ax 0, 16, .inl (fun j => nI (tp j)))), (m0, .inr (11, [.int s_thrown, .int s_taped, .ref m1, .int s_size, .int s_outSize, .ref m2, .int s_kind, .int s_value, .int s_begin, .int s_end, .int s_failed, .ref m3, .ref m4, .ref m5, .int s_isProgram, .int s_half, .ref m6, .ref m7, .ref m8, .ref m9, .ref m10, .ref m11, .ref m12, .ref m13, .ref m14, .ref m15, .ref m16, .ref m17, .ref m18, .ref m19, .ref m20, .int s_signs, .ref m21, .int s_stacked, .ref m22, .int s_name, .int s_shift, .int s_statements, .int s_ifs, .int s_whiles, .int s_variants, .int s_open, .ref m23, .int s_isMade, .int s_conditions, .ref m24, .ref m25, .ref m26, .ref m27, .int s_kept, .ref m28, .int (nI (mm + 1)), .ref m29, .int (nI us), .ref m30, .ref m31, .int s_looked, .int s_rows, .int s_firstRow, .ref m32, .ref m33, .ref m34, .ref m35, .ref m36, .ref m37, .ref m38, .ref m39, .ref m40, .int s_isBroken, .ref m41, .int s_atoms, .ref m42])), (m30, .inl (ax 0, 180000, .inl x_22))]) hP hD [1, 2] [0] hCs (by decide) (by decide) hk1 hFc hP1 hD1 rfl
        clear hP1 hD1
        clear hPc hDc hFc hCs hz hz1 hk1 ht hvm
        clear hP hD hS
        have hS := hS1
        obtain ⟨hP, hD⟩ := hjn
        clear hS1
        refine lv_iinc (v := nI (i1 + 1)) (lv' := [(4, .int (nI (i1 + 1))), (0, .ref m0), (1, .int x1), (2, .int x2), (3, .int x3)]) hx hb d_Model_substitute_63 hl1 (k := 4) rfl (nI_add i1 1) (by decide) rfl (fun ls hl2 => ?_)
        clear hl1; have hl1 := hl2; clear hl2
        refine lv_goto (tgt := 13) hx hb d_Model_substitute_66 (by decide) ?_
        exact ih_4 (i1 + 1) x_22 (by first | assumption | omega) (by first | assumption | omega) (by first | assumption | omega) (hsb.step (by first | assumption | omega) hx_15 hx_23 hnm) (sbq_a hsq (by first | assumption | omega) (by assumption) (fml_nm hk2 (by first | assumption | omega) (by first | assumption | omega) (by rw [← hsq.2.2 _ (by first | assumption | omega)]; assumption)).1 (fml_nm hk2 (by first | assumption | omega) (by first | assumption | omega) (by rw [← hsq.2.2 _ (by first | assumption | omega)]; assumption)).2 hx1 hv9 rfl hx_16 hx_24) _ _ _ (hP.sub [1, 2, 0] rfl) (hD.sub [1, 2, 0] (by decide) rfl) hS (lv_sub hl1 [1, 2, 3, 4, 0] rfl)
abbrev b_Model_imply : ByteArray := prog_13_method_52_code
def y_Model_imply : MethodName := ⟨R_Model, "imply", "()V"⟩
theorem d_Model_imply_0 : decode b_Model_imply 0 = .ok (.aload_n 0, 1) := by decide +kernel
theorem d_Model_imply_1 : decode b_Model_imply 1 = .ok (.invokevirtual 340, 3) := by decide +kernel
theorem d_Model_imply_4 : decode b_Model_imply 4 = .ok (.aload_n 0, 1) := by decide +kernel
theorem d_Model_imply_5 : decode b_Model_imply 5 = .ok (.iconst 1, 1) := by decide +kernel
theorem d_Model_imply_6 : decode b_Model_imply 6 = .ok (.invokevirtual 326, 3) := by decide +kernel
theorem d_Model_imply_9 : decode b_Model_imply 9 = .ok (.aload_n 0, 1) := by decide +kernel
theorem d_Model_imply_10 : decode b_Model_imply 10 = .ok (.invokevirtual 340, 3) := by decide +kernel
theorem d_Model_imply_13 : decode b_Model_imply 13 = .ok (.aload_n 0, 1) := by decide +kernel
theorem d_Model_imply_14 : decode b_Model_imply 14 = .ok (.iconst 3, 1) := by decide +kernel
theorem d_Model_imply_15 : decode b_Model_imply 15 = .ok (.invokevirtual 343, 3) := by decide +kernel
theorem d_Model_imply_18 : decode b_Model_imply 18 = .ok (.return_, 1) := by decide +kernel
set_option maxHeartbeats 40000000 in
set_option maxRecDepth 100000 in
theorem c_M_imply (l : Launch) (D : va_G) (ax : Nat → ClassId) (m0 m1 m2 m3 m4 m5 m6 m7 m8 m9 m10 m11 m12 m13 m14 m15 m16 m17 m18 m19 m20 m21 m22 m23 m24 m25 m26 m27 m28 m29 m30 m31 m32 m33 m34 m35 m36 m37 m38 m39 m40 m41 m42 : Nat) (s_thrown s_taped s_size s_outSize s_kind s_value s_begin s_end s_failed s_isProgram s_half s_signs s_stacked s_name s_shift s_statements s_ifs s_whiles s_variants s_open s_isMade s_conditions s_kept s_looked s_rows s_firstRow s_isBroken s_atoms : Int32) (mm us : Nat) (wk : Nat → Int32) (tp : Nat → Nat) (as : Nat → Int32) (sz : Nat) (hm1 : mm < 13) (hus : us + 2 ≤ 30000) (hk : stk wk tp (mm + 2) us) : Met l y_Model_imply (xws (.code y_Model_imply b_Model_imply 1 none)) ({ frames := 30, cells := 0, slots := 0, locals := 1200 }) (va_Pc [.ref m0] (xo D ax [(m0, .inr (11, [.int s_thrown, .int s_taped, .ref m1, .int s_size, .int s_outSize, .ref m2, .int s_kind, .int s_value, .int s_begin, .int s_end, .int s_failed, .ref m3, .ref m4, .ref m5, .int s_isProgram, .int s_half, .ref m6, .ref m7, .ref m8, .ref m9, .ref m10, .ref m11, .ref m12, .ref m13, .ref m14, .ref m15, .ref m16, .ref m17, .ref m18, .ref m19, .ref m20, .int s_signs, .ref m21, .int s_stacked, .ref m22, .int s_name, .int s_shift, .int s_statements, .int s_ifs, .int s_whiles, .int s_variants, .int s_open, .ref m23, .int s_isMade, .int s_conditions, .ref m24, .ref m25, .ref m26, .ref m27, .int s_kept, .ref m28, .int (nI (mm + 2)), .ref m29, .int (nI us), .ref m30, .ref m31, .int s_looked, .int s_rows, .int s_firstRow, .ref m32, .ref m33, .ref m34, .ref m35, .ref m36, .ref m37, .ref m38, .ref m39, .ref m40, .int s_isBroken, .ref m41, .int s_atoms, .ref m42])), (m30, .inl (ax 0, 180000, .inl wk)), (m29, .inl (ax 0, 16, .inl (fun j => nI (tp j)))), (m31, .inl (ax 0, 180000, .inl as))] sz)) ((va_Qv (fun (u : Nat → Nat) => True) (fun (u : Nat → Nat) (t9 : State) => ∃ xtp : Nat → Nat, ∃ xwk : Nat → Int32, ∃ xas : Nat → Int32, (∀ i, i ≤ mm → xtp i = tp i) ∧ (stk xwk xtp (mm + 1) (us + 2)) ∧ (stS xwk xtp (mm + 1) (us + 2) = imp9 (hd9 (tl9 (stS wk tp (mm + 2) us))) (hd9 (stS wk tp (mm + 2) us)) :: tl9 (tl9 (stS wk tp (mm + 2) us))) ∧ va_P D classes [(m0, .inr (11, [.int s_thrown, .int s_taped, .ref m1, .int s_size, .int s_outSize, .ref m2, .int s_kind, .int s_value, .int s_begin, .int s_end, .int s_failed, .ref m3, .ref m4, .ref m5, .int s_isProgram, .int s_half, .ref m6, .ref m7, .ref m8, .ref m9, .ref m10, .ref m11, .ref m12, .ref m13, .ref m14, .ref m15, .ref m16, .ref m17, .ref m18, .ref m19, .ref m20, .int s_signs, .ref m21, .int s_stacked, .ref m22, .int s_name, .int s_shift, .int s_statements, .int s_ifs, .int s_whiles, .int s_variants, .int s_open, .ref m23, .int s_isMade, .int s_conditions, .ref m24, .ref m25, .ref m26, .ref m27, .int s_kept, .ref m28, .int (nI (mm + 1)), .ref m29, .int (nI (us + 2)), .ref m30, .ref m31, .int s_looked, .int s_rows, .int s_firstRow, .ref m32, .ref m33, .ref m34, .ref m35, .ref m36, .ref m37, .ref m38, .ref m39, .ref m40, .int s_isBroken, .ref m41, .int s_atoms, .ref m42])), (m30, .inl (ax 0, 180000, .inl xwk)), (m29, .inl (ax 0, 16, .inl (fun j => nI (xtp j)))), (m31, .inl (ax 0, 180000, .inl xas))] t9.heap ∧ va_D (va_A [(m0, .inr (11, [.int s_thrown, .int s_taped, .ref m1, .int s_size, .int s_outSize, .ref m2, .int s_kind, .int s_value, .int s_begin, .int s_end, .int s_failed, .ref m3, .ref m4, .ref m5, .int s_isProgram, .int s_half, .ref m6, .ref m7, .ref m8, .ref m9, .ref m10, .ref m11, .ref m12, .ref m13, .ref m14, .ref m15, .ref m16, .ref m17, .ref m18, .ref m19, .ref m20, .int s_signs, .ref m21, .int s_stacked, .ref m22, .int s_name, .int s_shift, .int s_statements, .int s_ifs, .int s_whiles, .int s_variants, .int s_open, .ref m23, .int s_isMade, .int s_conditions, .ref m24, .ref m25, .ref m26, .ref m27, .int s_kept, .ref m28, .int (nI (mm + 2)), .ref m29, .int (nI us), .ref m30, .ref m31, .int s_looked, .int s_rows, .int s_firstRow, .ref m32, .ref m33, .ref m34, .ref m35, .ref m36, .ref m37, .ref m38, .ref m39, .ref m40, .int s_isBroken, .ref m41, .int s_atoms, .ref m42])), (m30, .inl (ax 0, 180000, .inl wk)), (m29, .inl (ax 0, 16, .inl (fun j => nI (tp j)))), (m31, .inl (ax 0, 180000, .inl as))] sz) [(m0, .inr (11, [.int s_thrown, .int s_taped, .ref m1, .int s_size, .int s_outSize, .ref m2, .int s_kind, .int s_value, .int s_begin, .int s_end, .int s_failed, .ref m3, .ref m4, .ref m5, .int s_isProgram, .int s_half, .ref m6, .ref m7, .ref m8, .ref m9, .ref m10, .ref m11, .ref m12, .ref m13, .ref m14, .ref m15, .ref m16, .ref m17, .ref m18, .ref m19, .ref m20, .int s_signs, .ref m21, .int s_stacked, .ref m22, .int s_name, .int s_shift, .int s_statements, .int s_ifs, .int s_whiles, .int s_variants, .int s_open, .ref m23, .int s_isMade, .int s_conditions, .ref m24, .ref m25, .ref m26, .ref m27, .int s_kept, .ref m28, .int (nI (mm + 1)), .ref m29, .int (nI (us + 2)), .ref m30, .ref m31, .int s_looked, .int s_rows, .int s_firstRow, .ref m32, .ref m33, .ref m34, .ref m35, .ref m36, .ref m37, .ref m38, .ref m39, .ref m40, .int s_isBroken, .ref m41, .int s_atoms, .ref m42])), (m30, .inl (ax 0, 180000, .inl xwk)), (m29, .inl (ax 0, 16, .inl (fun j => nI (xtp j)))), (m31, .inl (ax 0, 180000, .inl xas))]) (va_A [(m0, .inr (11, [.int s_thrown, .int s_taped, .ref m1, .int s_size, .int s_outSize, .ref m2, .int s_kind, .int s_value, .int s_begin, .int s_end, .int s_failed, .ref m3, .ref m4, .ref m5, .int s_isProgram, .int s_half, .ref m6, .ref m7, .ref m8, .ref m9, .ref m10, .ref m11, .ref m12, .ref m13, .ref m14, .ref m15, .ref m16, .ref m17, .ref m18, .ref m19, .ref m20, .int s_signs, .ref m21, .int s_stacked, .ref m22, .int s_name, .int s_shift, .int s_statements, .int s_ifs, .int s_whiles, .int s_variants, .int s_open, .ref m23, .int s_isMade, .int s_conditions, .ref m24, .ref m25, .ref m26, .ref m27, .int s_kept, .ref m28, .int (nI (mm + 2)), .ref m29, .int (nI us), .ref m30, .ref m31, .int s_looked, .int s_rows, .int s_firstRow, .ref m32, .ref m33, .ref m34, .ref m35, .ref m36, .ref m37, .ref m38, .ref m39, .ref m40, .int s_isBroken, .ref m41, .int s_atoms, .ref m42])), (m30, .inl (ax 0, 180000, .inl wk)), (m29, .inl (ax 0, 16, .inl (fun j => nI (tp j)))), (m31, .inl (ax 0, 180000, .inl as))] sz))) 0 0 (va_A [(m0, .inr (11, [.int s_thrown, .int s_taped, .ref m1, .int s_size, .int s_outSize, .ref m2, .int s_kind, .int s_value, .int s_begin, .int s_end, .int s_failed, .ref m3, .ref m4, .ref m5, .int s_isProgram, .int s_half, .ref m6, .ref m7, .ref m8, .ref m9, .ref m10, .ref m11, .ref m12, .ref m13, .ref m14, .ref m15, .ref m16, .ref m17, .ref m18, .ref m19, .ref m20, .int s_signs, .ref m21, .int s_stacked, .ref m22, .int s_name, .int s_shift, .int s_statements, .int s_ifs, .int s_whiles, .int s_variants, .int s_open, .ref m23, .int s_isMade, .int s_conditions, .ref m24, .ref m25, .ref m26, .ref m27, .int s_kept, .ref m28, .int (nI (mm + 2)), .ref m29, .int (nI us), .ref m30, .ref m31, .int s_looked, .int s_rows, .int s_firstRow, .ref m32, .ref m33, .ref m34, .ref m35, .ref m36, .ref m37, .ref m38, .ref m39, .ref m40, .int s_isBroken, .ref m41, .int s_atoms, .ref m42])), (m30, .inl (ax 0, 180000, .inl wk)), (m29, .inl (ax 0, 16, .inl (fun j => nI (tp j)))), (m31, .inl (ax 0, 180000, .inl as))] sz) := by
  refine Met.ofW (cc := b_Model_imply) (maxL := 1) (ret := none) (by decide) rfl ?_
  intro p e s m args below meth c s₁ B hml hv
  obtain ⟨rfl, hsz, hP, hK, hD0⟩ := hv
  have hx := B.exec
  have hb := B.bytes
  have hr := B.returns
  have hts := xw_hts B.pre
  have hown : s.vm.findClass R_Model = some m.cls := findClass_of_methodNamed B.named
  have hlocks := B.notSynchronized
  subst hsz
  have hD := hD0.self (sz := s.heap.size)
  have hN := xz_entry hP
  generalize hAe : va_A [(m0, .inr (11, [.int s_thrown, .int s_taped, .ref m1, .int s_size, .int s_outSize, .ref m2, .int s_kind, .int s_value, .int s_begin, .int s_end, .int s_failed, .ref m3, .ref m4, .ref m5, .int s_isProgram, .int s_half, .ref m6, .ref m7, .ref m8, .ref m9, .ref m10, .ref m11, .ref m12, .ref m13, .ref m14, .ref m15, .ref m16, .ref m17, .ref m18, .ref m19, .ref m20, .int s_signs, .ref m21, .int s_stacked, .ref m22, .int s_name, .int s_shift, .int s_statements, .int s_ifs, .int s_whiles, .int s_variants, .int s_open, .ref m23, .int s_isMade, .int s_conditions, .ref m24, .ref m25, .ref m26, .ref m27, .int s_kept, .ref m28, .int (nI (mm + 2)), .ref m29, .int (nI us), .ref m30, .ref m31, .int s_looked, .int s_rows, .int s_firstRow, .ref m32, .ref m33, .ref m34, .ref m35, .ref m36, .ref m37, .ref m38, .ref m39, .ref m40, .int s_isBroken, .ref m41, .int s_atoms, .ref m42])), (m30, .inl (ax 0, 180000, .inl wk)), (m29, .inl (ax 0, 16, .inl (fun j => nI (tp j)))), (m31, .inl (ax 0, 180000, .inl as))] s.heap.size = A at hD hN ⊢
  have hA : ∀ q : Nat, s.heap.size ≤ q → A q := fun q h => by rw [← hAe]; exact Or.inr h
  have hS : va_S A s.heap s.heap [] := va_S.rf
  have hl0 := lv_entry ([.ref m0]) (n := 1) (Nat.le_of_ble_eq_true rfl)
  rw [lg_entry_eq]
  generalize (lg_sl ([.ref m0]) ++ List.replicate (1 - (lg_sl ([.ref m0])).length) Slot.unset).toArray = ls at hl0 ⊢
  have hl1 : lv_has ls 1 [(0, .ref m0)] := hl0
  refine xw_gen (fun Z9 hQe => ?_)
  refine lv_aload_n hx hb d_Model_imply_0 rfl (lv_at hl1 0 rfl) ?_
  obtain ⟨hPc, hDc, hFc, hCs⟩ := xw_sub3 (wc := [(m0, .inr (11, [.int s_thrown, .int s_taped, .ref m1, .int s_size, .int s_outSize, .ref m2, .int s_kind, .int s_value, .int s_begin, .int s_end, .int s_failed, .ref m3, .ref m4, .ref m5, .int s_isProgram, .int s_half, .ref m6, .ref m7, .ref m8, .ref m9, .ref m10, .ref m11, .ref m12, .ref m13, .ref m14, .ref m15, .ref m16, .ref m17, .ref m18, .ref m19, .ref m20, .int s_signs, .ref m21, .int s_stacked, .ref m22, .int s_name, .int s_shift, .int s_statements, .int s_ifs, .int s_whiles, .int s_variants, .int s_open, .ref m23, .int s_isMade, .int s_conditions, .ref m24, .ref m25, .ref m26, .ref m27, .int s_kept, .ref m28, .int (nI (mm + 2)), .ref m29, .int (nI us), .ref m30, .ref m31, .int s_looked, .int s_rows, .int s_firstRow, .ref m32, .ref m33, .ref m34, .ref m35, .ref m36, .ref m37, .ref m38, .ref m39, .ref m40, .int s_isBroken, .ref m41, .int s_atoms, .ref m42])), (m30, .inl (ax 0, 180000, .inl wk)), (m29, .inl (ax 0, 16, .inl (fun j => nI (tp j)))), (m31, .inl (ax 0, 180000, .inl as))]) hP hD hS hA [0, 1, 2, 3] (by decide) rfl
  have hz := xz_of hN hS
  refine va_callv (va_runV (As := []) (rest := []) ⟨hx, hb, hml, hown, hts⟩ (c_M_swapTops l D ax m0 m1 m2 m3 m4 m5 m6 m7 m8 m9 m10 m11 m12 m13 m14 m15 m16 m17 m18 m19 m20 m21 m22 m23 m24 m25 m26 m27 m28 m29 m30 m31 m32 m33 m34 m35 m36 m37 m38 m39 m40 m41 m42 s_thrown s_taped s_size s_outSize s_kind s_value s_begin s_end s_failed s_isProgram s_half s_signs s_stacked s_name s_shift s_statements s_ifs s_whiles s_variants s_open s_isMade s_conditions s_kept s_looked s_rows s_firstRow s_isBroken s_atoms mm us wk tp as s.heap.size (by first | assumption | omega) (by first | assumption | omega) (by assumption)) (xcV (n := 0) hts wd_1443 wd_15 wd_1440 wd_1442 ps_85 rfl rfl (by decide +kernel) ⟨Nat.le_of_ble_eq_true rfl, Nat.le_of_ble_eq_true rfl⟩) (xpV (ci := 11) (q0 := 0) (As := []) hPc hK hz hDc rfl rfl) rfl rfl hl1.1 rfl (lv_room (Nat.le_of_ble_eq_true rfl)) d_Model_imply_1 ⟨Nat.le_of_ble_eq_true rfl, Nat.le_of_ble_eq_true rfl⟩) hS (fun q _ h => hFc q h) hFc (fun u_1 t H_2 locs ht hvm hw hB hz1 hk1 hS1 => ?_)
  try dsimp only at hw
  obtain ⟨x_4, x_5, x_6, hx_7, hx_8, hx_9, hx_10, hP1, hD1⟩ := hB
  rw [ht] at hP1
  have hjn := xw_join3 (wl := [(m0, .inr (11, [.int s_thrown, .int s_taped, .ref m1, .int s_size, .int s_outSize, .ref m2, .int s_kind, .int s_value, .int s_begin, .int s_end, .int s_failed, .ref m3, .ref m4, .ref m5, .int s_isProgram, .int s_half, .ref m6, .ref m7, .ref m8, .ref m9, .ref m10, .ref m11, .ref m12, .ref m13, .ref m14, .ref m15, .ref m16, .ref m17, .ref m18, .ref m19, .ref m20, .int s_signs, .ref m21, .int s_stacked, .ref m22, .int s_name, .int s_shift, .int s_statements, .int s_ifs, .int s_whiles, .int s_variants, .int s_open, .ref m23, .int s_isMade, .int s_conditions, .ref m24, .ref m25, .ref m26, .ref m27, .int s_kept, .ref m28, .int (nI (mm + 2)), .ref m29, .int (nI us), .ref m30, .ref m31, .int s_looked, .int s_rows, .int s_firstRow, .ref m32, .ref m33, .ref m34, .ref m35, .ref m36, .ref m37, .ref m38, .ref m39, .ref m40, .int s_isBroken, .ref m41, .int s_atoms, .ref m42])), (m30, .inl (ax 0, 180000, .inl x_5)), (m29, .inl (ax 0, 16, .inl (fun j => nI (x_4 j)))), (m31, .inl (ax 0, 180000, .inl x_6))]) hP hD [0, 1, 2, 3] [] hCs (by decide) (by decide) hk1 hFc hP1 hD1 rfl
  clear hP1 hD1
  clear hPc hDc hFc hCs hz hz1 hk1 ht hvm
  clear hP hD hS
  have hS := hS1
  obtain ⟨hP, hD⟩ := hjn
  clear hS1
  refine lv_aload_n hx hb d_Model_imply_4 rfl (lv_at hl1 0 rfl) ?_
  refine lv_iconst (v := 1) hx hb d_Model_imply_5 (by decide) ?_
  obtain ⟨hPc, hDc, hFc, hCs⟩ := xw_sub3 (wc := [(m0, .inr (11, [.int s_thrown, .int s_taped, .ref m1, .int s_size, .int s_outSize, .ref m2, .int s_kind, .int s_value, .int s_begin, .int s_end, .int s_failed, .ref m3, .ref m4, .ref m5, .int s_isProgram, .int s_half, .ref m6, .ref m7, .ref m8, .ref m9, .ref m10, .ref m11, .ref m12, .ref m13, .ref m14, .ref m15, .ref m16, .ref m17, .ref m18, .ref m19, .ref m20, .int s_signs, .ref m21, .int s_stacked, .ref m22, .int s_name, .int s_shift, .int s_statements, .int s_ifs, .int s_whiles, .int s_variants, .int s_open, .ref m23, .int s_isMade, .int s_conditions, .ref m24, .ref m25, .ref m26, .ref m27, .int s_kept, .ref m28, .int (nI ((mm + 1) + 1)), .ref m29, .int (nI us), .ref m30, .ref m31, .int s_looked, .int s_rows, .int s_firstRow, .ref m32, .ref m33, .ref m34, .ref m35, .ref m36, .ref m37, .ref m38, .ref m39, .ref m40, .int s_isBroken, .ref m41, .int s_atoms, .ref m42])), (m30, .inl (ax 0, 180000, .inl x_5)), (m29, .inl (ax 0, 16, .inl (fun j => nI (x_4 j))))]) hP hD hS hA [0, 1, 2] (by decide) rfl
  have hz := xz_of hN hS
  refine va_callv (va_runV (As := [.int 1]) (rest := []) ⟨hx, hb, hml, hown, hts⟩ (c_M_appendNot l D ax m0 m1 m2 m3 m4 m5 m6 m7 m8 m9 m10 m11 m12 m13 m14 m15 m16 m17 m18 m19 m20 m21 m22 m23 m24 m25 m26 m27 m28 m29 m30 m31 m32 m33 m34 m35 m36 m37 m38 m39 m40 m41 m42 s_thrown s_taped s_size s_outSize s_kind s_value s_begin s_end s_failed s_isProgram s_half s_signs s_stacked s_name s_shift s_statements s_ifs s_whiles s_variants s_open s_isMade s_conditions s_kept s_looked s_rows s_firstRow s_isBroken s_atoms (mm + 1) us x_5 x_4 H_2.size (by first | assumption | omega) (by assumption)) (xcV (n := 1) hts wd_1459 wd_15 wd_1456 wd_1458 ps_89 rfl rfl (by decide +kernel) ⟨Nat.le_of_ble_eq_true rfl, Nat.le_of_ble_eq_true rfl⟩) (xpV (ci := 11) (q0 := 0) (As := [.int 1]) hPc hK hz hDc rfl rfl) rfl rfl hl1.1 rfl (lv_room (Nat.le_of_ble_eq_true rfl)) d_Model_imply_6 ⟨Nat.le_of_ble_eq_true rfl, Nat.le_of_ble_eq_true rfl⟩) hS (fun q _ h => hFc q h) hFc (fun u_11 t H_12 locs ht hvm hw hB hz1 hk1 hS1 => ?_)
  try dsimp only at hw
  obtain ⟨x_14, hx_15, hx_16, hP1, hD1⟩ := hB
  rw [ht] at hP1
  have hjn := xw_join3 (wl := [(m31, .inl (ax 0, 180000, .inl x_6)), (m0, .inr (11, [.int s_thrown, .int s_taped, .ref m1, .int s_size, .int s_outSize, .ref m2, .int s_kind, .int s_value, .int s_begin, .int s_end, .int s_failed, .ref m3, .ref m4, .ref m5, .int s_isProgram, .int s_half, .ref m6, .ref m7, .ref m8, .ref m9, .ref m10, .ref m11, .ref m12, .ref m13, .ref m14, .ref m15, .ref m16, .ref m17, .ref m18, .ref m19, .ref m20, .int s_signs, .ref m21, .int s_stacked, .ref m22, .int s_name, .int s_shift, .int s_statements, .int s_ifs, .int s_whiles, .int s_variants, .int s_open, .ref m23, .int s_isMade, .int s_conditions, .ref m24, .ref m25, .ref m26, .ref m27, .int s_kept, .ref m28, .int (nI (mm + 2)), .ref m29, .int (nI (us + 1)), .ref m30, .ref m31, .int s_looked, .int s_rows, .int s_firstRow, .ref m32, .ref m33, .ref m34, .ref m35, .ref m36, .ref m37, .ref m38, .ref m39, .ref m40, .int s_isBroken, .ref m41, .int s_atoms, .ref m42])), (m30, .inl (ax 0, 180000, .inl x_14)), (m29, .inl (ax 0, 16, .inl (fun j => nI (x_4 j))))]) hP hD [0, 1, 2] [3] hCs (by decide) (by decide) hk1 hFc hP1 hD1 rfl
  clear hP1 hD1
  clear hPc hDc hFc hCs hz hz1 hk1 ht hvm
  clear hP hD hS
  have hS := hS1
  obtain ⟨hP, hD⟩ := hjn
  clear hS1
  refine lv_aload_n hx hb d_Model_imply_9 rfl (lv_at hl1 0 rfl) ?_
  obtain ⟨hPc, hDc, hFc, hCs⟩ := xw_sub3 (wc := [(m0, .inr (11, [.int s_thrown, .int s_taped, .ref m1, .int s_size, .int s_outSize, .ref m2, .int s_kind, .int s_value, .int s_begin, .int s_end, .int s_failed, .ref m3, .ref m4, .ref m5, .int s_isProgram, .int s_half, .ref m6, .ref m7, .ref m8, .ref m9, .ref m10, .ref m11, .ref m12, .ref m13, .ref m14, .ref m15, .ref m16, .ref m17, .ref m18, .ref m19, .ref m20, .int s_signs, .ref m21, .int s_stacked, .ref m22, .int s_name, .int s_shift, .int s_statements, .int s_ifs, .int s_whiles, .int s_variants, .int s_open, .ref m23, .int s_isMade, .int s_conditions, .ref m24, .ref m25, .ref m26, .ref m27, .int s_kept, .ref m28, .int (nI (mm + 2)), .ref m29, .int (nI (us + 1)), .ref m30, .ref m31, .int s_looked, .int s_rows, .int s_firstRow, .ref m32, .ref m33, .ref m34, .ref m35, .ref m36, .ref m37, .ref m38, .ref m39, .ref m40, .int s_isBroken, .ref m41, .int s_atoms, .ref m42])), (m30, .inl (ax 0, 180000, .inl x_14)), (m29, .inl (ax 0, 16, .inl (fun j => nI (x_4 j)))), (m31, .inl (ax 0, 180000, .inl x_6))]) hP hD hS hA [1, 2, 3, 0] (by decide) rfl
  have hz := xz_of hN hS
  refine va_callv (va_runV (As := []) (rest := []) ⟨hx, hb, hml, hown, hts⟩ (c_M_swapTops l D ax m0 m1 m2 m3 m4 m5 m6 m7 m8 m9 m10 m11 m12 m13 m14 m15 m16 m17 m18 m19 m20 m21 m22 m23 m24 m25 m26 m27 m28 m29 m30 m31 m32 m33 m34 m35 m36 m37 m38 m39 m40 m41 m42 s_thrown s_taped s_size s_outSize s_kind s_value s_begin s_end s_failed s_isProgram s_half s_signs s_stacked s_name s_shift s_statements s_ifs s_whiles s_variants s_open s_isMade s_conditions s_kept s_looked s_rows s_firstRow s_isBroken s_atoms mm (us + 1) x_14 x_4 x_6 H_12.size (by first | assumption | omega) (by first | assumption | omega) (by assumption)) (xcV (n := 0) hts wd_1443 wd_15 wd_1440 wd_1442 ps_85 rfl rfl (by decide +kernel) ⟨Nat.le_of_ble_eq_true rfl, Nat.le_of_ble_eq_true rfl⟩) (xpV (ci := 11) (q0 := 0) (As := []) hPc hK hz hDc rfl rfl) rfl rfl hl1.1 rfl (lv_room (Nat.le_of_ble_eq_true rfl)) d_Model_imply_10 ⟨Nat.le_of_ble_eq_true rfl, Nat.le_of_ble_eq_true rfl⟩) hS (fun q _ h => hFc q h) hFc (fun u_17 t H_18 locs ht hvm hw hB hz1 hk1 hS1 => ?_)
  try dsimp only at hw
  obtain ⟨x_20, x_21, x_22, hx_23, hx_24, hx_25, hx_26, hP1, hD1⟩ := hB
  rw [ht] at hP1
  have hjn := xw_join3 (wl := [(m0, .inr (11, [.int s_thrown, .int s_taped, .ref m1, .int s_size, .int s_outSize, .ref m2, .int s_kind, .int s_value, .int s_begin, .int s_end, .int s_failed, .ref m3, .ref m4, .ref m5, .int s_isProgram, .int s_half, .ref m6, .ref m7, .ref m8, .ref m9, .ref m10, .ref m11, .ref m12, .ref m13, .ref m14, .ref m15, .ref m16, .ref m17, .ref m18, .ref m19, .ref m20, .int s_signs, .ref m21, .int s_stacked, .ref m22, .int s_name, .int s_shift, .int s_statements, .int s_ifs, .int s_whiles, .int s_variants, .int s_open, .ref m23, .int s_isMade, .int s_conditions, .ref m24, .ref m25, .ref m26, .ref m27, .int s_kept, .ref m28, .int (nI (mm + 2)), .ref m29, .int (nI (us + 1)), .ref m30, .ref m31, .int s_looked, .int s_rows, .int s_firstRow, .ref m32, .ref m33, .ref m34, .ref m35, .ref m36, .ref m37, .ref m38, .ref m39, .ref m40, .int s_isBroken, .ref m41, .int s_atoms, .ref m42])), (m30, .inl (ax 0, 180000, .inl x_21)), (m29, .inl (ax 0, 16, .inl (fun j => nI (x_20 j)))), (m31, .inl (ax 0, 180000, .inl x_22))]) hP hD [1, 2, 3, 0] [] hCs (by decide) (by decide) hk1 hFc hP1 hD1 rfl
  clear hP1 hD1
  clear hPc hDc hFc hCs hz hz1 hk1 ht hvm
  clear hP hD hS
  have hS := hS1
  obtain ⟨hP, hD⟩ := hjn
  clear hS1
  refine lv_aload_n hx hb d_Model_imply_13 rfl (lv_at hl1 0 rfl) ?_
  refine lv_iconst (v := 3) hx hb d_Model_imply_14 (by decide) ?_
  obtain ⟨hPc, hDc, hFc, hCs⟩ := xw_sub3 (wc := [(m0, .inr (11, [.int s_thrown, .int s_taped, .ref m1, .int s_size, .int s_outSize, .ref m2, .int s_kind, .int s_value, .int s_begin, .int s_end, .int s_failed, .ref m3, .ref m4, .ref m5, .int s_isProgram, .int s_half, .ref m6, .ref m7, .ref m8, .ref m9, .ref m10, .ref m11, .ref m12, .ref m13, .ref m14, .ref m15, .ref m16, .ref m17, .ref m18, .ref m19, .ref m20, .int s_signs, .ref m21, .int s_stacked, .ref m22, .int s_name, .int s_shift, .int s_statements, .int s_ifs, .int s_whiles, .int s_variants, .int s_open, .ref m23, .int s_isMade, .int s_conditions, .ref m24, .ref m25, .ref m26, .ref m27, .int s_kept, .ref m28, .int (nI (mm + 2)), .ref m29, .int (nI (us + 1)), .ref m30, .ref m31, .int s_looked, .int s_rows, .int s_firstRow, .ref m32, .ref m33, .ref m34, .ref m35, .ref m36, .ref m37, .ref m38, .ref m39, .ref m40, .int s_isBroken, .ref m41, .int s_atoms, .ref m42])), (m30, .inl (ax 0, 180000, .inl x_21)), (m29, .inl (ax 0, 16, .inl (fun j => nI (x_20 j))))]) hP hD hS hA [0, 1, 2] (by decide) rfl
  have hz := xz_of hN hS
  refine va_callv (va_runV (As := [.int 3]) (rest := []) ⟨hx, hb, hml, hown, hts⟩ (c_M_unite l D ax m0 m1 m2 m3 m4 m5 m6 m7 m8 m9 m10 m11 m12 m13 m14 m15 m16 m17 m18 m19 m20 m21 m22 m23 m24 m25 m26 m27 m28 m29 m30 m31 m32 m33 m34 m35 m36 m37 m38 m39 m40 m41 m42 s_thrown s_taped s_size s_outSize s_kind s_value s_begin s_end s_failed s_isProgram s_half s_signs s_stacked s_name s_shift s_statements s_ifs s_whiles s_variants s_open s_isMade s_conditions s_kept s_looked s_rows s_firstRow s_isBroken s_atoms mm (us + 1) 3 x_21 x_20 H_18.size (by first | assumption | omega) (by first | assumption | omega) (by first | assumption | omega) (by assumption)) (xcV (n := 1) hts wd_1455 wd_15 wd_1452 wd_1454 ps_88 rfl rfl (by decide +kernel) ⟨Nat.le_of_ble_eq_true rfl, Nat.le_of_ble_eq_true rfl⟩) (xpV (ci := 11) (q0 := 0) (As := [.int 3]) hPc hK hz hDc rfl rfl) rfl rfl hl1.1 rfl (lv_room (Nat.le_of_ble_eq_true rfl)) d_Model_imply_15 ⟨Nat.le_of_ble_eq_true rfl, Nat.le_of_ble_eq_true rfl⟩) hS (fun q _ h => hFc q h) hFc (fun u_27 t H_28 locs ht hvm hw hB hz1 hk1 hS1 => ?_)
  try dsimp only at hw
  obtain ⟨x_30, hx_31, hx_32, hP1, hD1⟩ := hB
  rw [ht] at hP1
  have hjn := xw_join3 (wl := [(m31, .inl (ax 0, 180000, .inl x_22)), (m0, .inr (11, [.int s_thrown, .int s_taped, .ref m1, .int s_size, .int s_outSize, .ref m2, .int s_kind, .int s_value, .int s_begin, .int s_end, .int s_failed, .ref m3, .ref m4, .ref m5, .int s_isProgram, .int s_half, .ref m6, .ref m7, .ref m8, .ref m9, .ref m10, .ref m11, .ref m12, .ref m13, .ref m14, .ref m15, .ref m16, .ref m17, .ref m18, .ref m19, .ref m20, .int s_signs, .ref m21, .int s_stacked, .ref m22, .int s_name, .int s_shift, .int s_statements, .int s_ifs, .int s_whiles, .int s_variants, .int s_open, .ref m23, .int s_isMade, .int s_conditions, .ref m24, .ref m25, .ref m26, .ref m27, .int s_kept, .ref m28, .int (nI (mm + 1)), .ref m29, .int (nI (us + 2)), .ref m30, .ref m31, .int s_looked, .int s_rows, .int s_firstRow, .ref m32, .ref m33, .ref m34, .ref m35, .ref m36, .ref m37, .ref m38, .ref m39, .ref m40, .int s_isBroken, .ref m41, .int s_atoms, .ref m42])), (m30, .inl (ax 0, 180000, .inl x_30)), (m29, .inl (ax 0, 16, .inl (fun j => nI (x_20 j))))]) hP hD [0, 1, 2] [3] hCs (by decide) (by decide) hk1 hFc hP1 hD1 rfl
  clear hP1 hD1
  clear hPc hDc hFc hCs hz hz1 hk1 ht hvm
  clear hP hD hS
  have hS := hS1
  obtain ⟨hP, hD⟩ := hjn
  clear hS1
  rw [← hQe]
  obtain ⟨hP9, hD9⟩ := xw_sub2 (wc := (fun (u : Nat → Nat) (xtp : Nat → Nat) (xwk : Nat → Int32) (xas : Nat → Int32) => [(m0, .inr (11, [.int s_thrown, .int s_taped, .ref m1, .int s_size, .int s_outSize, .ref m2, .int s_kind, .int s_value, .int s_begin, .int s_end, .int s_failed, .ref m3, .ref m4, .ref m5, .int s_isProgram, .int s_half, .ref m6, .ref m7, .ref m8, .ref m9, .ref m10, .ref m11, .ref m12, .ref m13, .ref m14, .ref m15, .ref m16, .ref m17, .ref m18, .ref m19, .ref m20, .int s_signs, .ref m21, .int s_stacked, .ref m22, .int s_name, .int s_shift, .int s_statements, .int s_ifs, .int s_whiles, .int s_variants, .int s_open, .ref m23, .int s_isMade, .int s_conditions, .ref m24, .ref m25, .ref m26, .ref m27, .int s_kept, .ref m28, .int (nI (mm + 1)), .ref m29, .int (nI (us + 2)), .ref m30, .ref m31, .int s_looked, .int s_rows, .int s_firstRow, .ref m32, .ref m33, .ref m34, .ref m35, .ref m36, .ref m37, .ref m38, .ref m39, .ref m40, .int s_isBroken, .ref m41, .int s_atoms, .ref m42])), (m30, .inl (ax 0, 180000, .inl xwk)), (m29, .inl (ax 0, 16, .inl (fun j => nI (xtp j)))), (m31, .inl (ax 0, 180000, .inl xas))]) (ixn []) x_20 x_30 x_22) hP hD [1, 2, 3, 0] (by decide) rfl
  have hex0 : ∀ i, i ≤ mm → x_20 i = tp i := (fun i hi => (hx_23 i hi).trans (hx_7 i hi))
  have hex1 : stk x_30 x_20 (mm + 1) (us + 2) := (by assumption)
  have hex2 : stS x_30 x_20 (mm + 1) (us + 2) = imp9 (hd9 (tl9 (stS wk tp (mm + 2) us))) (hd9 (stS wk tp (mm + 2) us)) :: tl9 (tl9 (stS wk tp (mm + 2) us)) := (by rw [hx_32, hx_26, hx_16, hx_10]; rfl)
  exact W.vret hx hb hr (fun t ht hW => ⟨⟨ixn [], rfl, trivial, ⟨x_20, x_30, x_22, hex0, hex1, hex2, by rw [ht]; exact hP9, hD9⟩⟩, hS.F ht⟩) hS.2.2 d_Model_imply_18
abbrev b_Model_keepTop : ByteArray := prog_13_method_53_code
def y_Model_keepTop : MethodName := ⟨R_Model, "keepTop", "(II)V"⟩
theorem d_Model_keepTop_0 : decode b_Model_keepTop 0 = .ok (.aload_n 0, 1) := by decide +kernel
theorem d_Model_keepTop_1 : decode b_Model_keepTop 1 = .ok (.getfield 97, 3) := by decide +kernel
theorem d_Model_keepTop_4 : decode b_Model_keepTop 4 = .ok (.aload_n 0, 1) := by decide +kernel
theorem d_Model_keepTop_5 : decode b_Model_keepTop 5 = .ok (.getfield 320, 3) := by decide +kernel
theorem d_Model_keepTop_8 : decode b_Model_keepTop 8 = .ok (.iconst 1, 1) := by decide +kernel
theorem d_Model_keepTop_9 : decode b_Model_keepTop 9 = .ok (.isub, 1) := by decide +kernel
theorem d_Model_keepTop_10 : decode b_Model_keepTop 10 = .ok (.iaload, 1) := by decide +kernel
theorem d_Model_keepTop_11 : decode b_Model_keepTop 11 = .ok (.istore_n 3, 1) := by decide +kernel
theorem d_Model_keepTop_12 : decode b_Model_keepTop 12 = .ok (.aload_n 0, 1) := by decide +kernel
theorem d_Model_keepTop_13 : decode b_Model_keepTop 13 = .ok (.getfield 81, 3) := by decide +kernel
theorem d_Model_keepTop_16 : decode b_Model_keepTop 16 = .ok (.aload_n 0, 1) := by decide +kernel
theorem d_Model_keepTop_17 : decode b_Model_keepTop 17 = .ok (.getfield 346, 3) := by decide +kernel
theorem d_Model_keepTop_20 : decode b_Model_keepTop 20 = .ok (.iload_n 1, 1) := by decide +kernel
theorem d_Model_keepTop_21 : decode b_Model_keepTop 21 = .ok (.iastore, 1) := by decide +kernel
theorem d_Model_keepTop_22 : decode b_Model_keepTop 22 = .ok (.aload_n 0, 1) := by decide +kernel
theorem d_Model_keepTop_23 : decode b_Model_keepTop 23 = .ok (.getfield 84, 3) := by decide +kernel
theorem d_Model_keepTop_26 : decode b_Model_keepTop 26 = .ok (.aload_n 0, 1) := by decide +kernel
theorem d_Model_keepTop_27 : decode b_Model_keepTop 27 = .ok (.getfield 346, 3) := by decide +kernel
theorem d_Model_keepTop_30 : decode b_Model_keepTop 30 = .ok (.iload_n 2, 1) := by decide +kernel
theorem d_Model_keepTop_31 : decode b_Model_keepTop 31 = .ok (.iastore, 1) := by decide +kernel
theorem d_Model_keepTop_32 : decode b_Model_keepTop 32 = .ok (.aload_n 0, 1) := by decide +kernel
theorem d_Model_keepTop_33 : decode b_Model_keepTop 33 = .ok (.getfield 87, 3) := by decide +kernel
theorem d_Model_keepTop_36 : decode b_Model_keepTop 36 = .ok (.aload_n 0, 1) := by decide +kernel
theorem d_Model_keepTop_37 : decode b_Model_keepTop 37 = .ok (.getfield 346, 3) := by decide +kernel
theorem d_Model_keepTop_40 : decode b_Model_keepTop 40 = .ok (.aload_n 0, 1) := by decide +kernel
theorem d_Model_keepTop_41 : decode b_Model_keepTop 41 = .ok (.getfield 349, 3) := by decide +kernel
theorem d_Model_keepTop_44 : decode b_Model_keepTop 44 = .ok (.iastore, 1) := by decide +kernel
theorem d_Model_keepTop_45 : decode b_Model_keepTop 45 = .ok (.aload_n 0, 1) := by decide +kernel
theorem d_Model_keepTop_46 : decode b_Model_keepTop 46 = .ok (.getfield 90, 3) := by decide +kernel
theorem d_Model_keepTop_49 : decode b_Model_keepTop 49 = .ok (.aload_n 0, 1) := by decide +kernel
theorem d_Model_keepTop_50 : decode b_Model_keepTop 50 = .ok (.getfield 346, 3) := by decide +kernel
theorem d_Model_keepTop_53 : decode b_Model_keepTop 53 = .ok (.aload_n 0, 1) := by decide +kernel
theorem d_Model_keepTop_54 : decode b_Model_keepTop 54 = .ok (.getfield 323, 3) := by decide +kernel
theorem d_Model_keepTop_57 : decode b_Model_keepTop 57 = .ok (.iload_n 3, 1) := by decide +kernel
theorem d_Model_keepTop_58 : decode b_Model_keepTop 58 = .ok (.isub, 1) := by decide +kernel
theorem d_Model_keepTop_59 : decode b_Model_keepTop 59 = .ok (.iastore, 1) := by decide +kernel
theorem d_Model_keepTop_60 : decode b_Model_keepTop 60 = .ok (.iconst 0, 1) := by decide +kernel
theorem d_Model_keepTop_61 : decode b_Model_keepTop 61 = .ok (.istore 4, 2) := by decide +kernel
theorem d_Model_keepTop_63 : decode b_Model_keepTop 63 = .ok (.iload 4, 2) := by decide +kernel
theorem d_Model_keepTop_65 : decode b_Model_keepTop 65 = .ok (.bipush 6, 2) := by decide +kernel
theorem d_Model_keepTop_67 : decode b_Model_keepTop 67 = .ok (.aload_n 0, 1) := by decide +kernel
theorem d_Model_keepTop_68 : decode b_Model_keepTop 68 = .ok (.getfield 323, 3) := by decide +kernel
theorem d_Model_keepTop_71 : decode b_Model_keepTop 71 = .ok (.iload_n 3, 1) := by decide +kernel
theorem d_Model_keepTop_72 : decode b_Model_keepTop 72 = .ok (.isub, 1) := by decide +kernel
theorem d_Model_keepTop_73 : decode b_Model_keepTop 73 = .ok (.imul, 1) := by decide +kernel
theorem d_Model_keepTop_74 : decode b_Model_keepTop 74 = .ok (.if_icmp .ge 36, 3) := by decide +kernel
theorem d_Model_keepTop_77 : decode b_Model_keepTop 77 = .ok (.aload_n 0, 1) := by decide +kernel
theorem d_Model_keepTop_78 : decode b_Model_keepTop 78 = .ok (.getfield 94, 3) := by decide +kernel
theorem d_Model_keepTop_81 : decode b_Model_keepTop 81 = .ok (.bipush 6, 2) := by decide +kernel
theorem d_Model_keepTop_83 : decode b_Model_keepTop 83 = .ok (.aload_n 0, 1) := by decide +kernel
theorem d_Model_keepTop_84 : decode b_Model_keepTop 84 = .ok (.getfield 349, 3) := by decide +kernel
theorem d_Model_keepTop_87 : decode b_Model_keepTop 87 = .ok (.imul, 1) := by decide +kernel
theorem d_Model_keepTop_88 : decode b_Model_keepTop 88 = .ok (.iload 4, 2) := by decide +kernel
theorem d_Model_keepTop_90 : decode b_Model_keepTop 90 = .ok (.iadd, 1) := by decide +kernel
theorem d_Model_keepTop_91 : decode b_Model_keepTop 91 = .ok (.aload_n 0, 1) := by decide +kernel
theorem d_Model_keepTop_92 : decode b_Model_keepTop 92 = .ok (.getfield 100, 3) := by decide +kernel
theorem d_Model_keepTop_95 : decode b_Model_keepTop 95 = .ok (.bipush 6, 2) := by decide +kernel
theorem d_Model_keepTop_97 : decode b_Model_keepTop 97 = .ok (.iload_n 3, 1) := by decide +kernel
theorem d_Model_keepTop_98 : decode b_Model_keepTop 98 = .ok (.imul, 1) := by decide +kernel
theorem d_Model_keepTop_99 : decode b_Model_keepTop 99 = .ok (.iload 4, 2) := by decide +kernel
theorem d_Model_keepTop_101 : decode b_Model_keepTop 101 = .ok (.iadd, 1) := by decide +kernel
theorem d_Model_keepTop_102 : decode b_Model_keepTop 102 = .ok (.iaload, 1) := by decide +kernel
theorem d_Model_keepTop_103 : decode b_Model_keepTop 103 = .ok (.iastore, 1) := by decide +kernel
theorem d_Model_keepTop_104 : decode b_Model_keepTop 104 = .ok (.iinc 4 1, 3) := by decide +kernel
theorem d_Model_keepTop_107 : decode b_Model_keepTop 107 = .ok (.goto (-44), 3) := by decide +kernel
theorem d_Model_keepTop_110 : decode b_Model_keepTop 110 = .ok (.aload_n 0, 1) := by decide +kernel
theorem d_Model_keepTop_111 : decode b_Model_keepTop 111 = .ok (.aload_n 0, 1) := by decide +kernel
theorem d_Model_keepTop_112 : decode b_Model_keepTop 112 = .ok (.getfield 349, 3) := by decide +kernel
theorem d_Model_keepTop_115 : decode b_Model_keepTop 115 = .ok (.aload_n 0, 1) := by decide +kernel
theorem d_Model_keepTop_116 : decode b_Model_keepTop 116 = .ok (.getfield 323, 3) := by decide +kernel
theorem d_Model_keepTop_119 : decode b_Model_keepTop 119 = .ok (.iadd, 1) := by decide +kernel
theorem d_Model_keepTop_120 : decode b_Model_keepTop 120 = .ok (.iload_n 3, 1) := by decide +kernel
theorem d_Model_keepTop_121 : decode b_Model_keepTop 121 = .ok (.isub, 1) := by decide +kernel
theorem d_Model_keepTop_122 : decode b_Model_keepTop 122 = .ok (.putfield 349, 3) := by decide +kernel
theorem d_Model_keepTop_125 : decode b_Model_keepTop 125 = .ok (.aload_n 0, 1) := by decide +kernel
theorem d_Model_keepTop_126 : decode b_Model_keepTop 126 = .ok (.dup, 1) := by decide +kernel
theorem d_Model_keepTop_127 : decode b_Model_keepTop 127 = .ok (.getfield 346, 3) := by decide +kernel
theorem d_Model_keepTop_130 : decode b_Model_keepTop 130 = .ok (.iconst 1, 1) := by decide +kernel
theorem d_Model_keepTop_131 : decode b_Model_keepTop 131 = .ok (.iadd, 1) := by decide +kernel
theorem d_Model_keepTop_132 : decode b_Model_keepTop 132 = .ok (.putfield 346, 3) := by decide +kernel
theorem d_Model_keepTop_135 : decode b_Model_keepTop 135 = .ok (.aload_n 0, 1) := by decide +kernel
theorem d_Model_keepTop_136 : decode b_Model_keepTop 136 = .ok (.iload_n 3, 1) := by decide +kernel
theorem d_Model_keepTop_137 : decode b_Model_keepTop 137 = .ok (.putfield 323, 3) := by decide +kernel
theorem d_Model_keepTop_140 : decode b_Model_keepTop 140 = .ok (.aload_n 0, 1) := by decide +kernel
theorem d_Model_keepTop_141 : decode b_Model_keepTop 141 = .ok (.dup, 1) := by decide +kernel
theorem d_Model_keepTop_142 : decode b_Model_keepTop 142 = .ok (.getfield 320, 3) := by decide +kernel
theorem d_Model_keepTop_145 : decode b_Model_keepTop 145 = .ok (.iconst 1, 1) := by decide +kernel
theorem d_Model_keepTop_146 : decode b_Model_keepTop 146 = .ok (.isub, 1) := by decide +kernel
theorem d_Model_keepTop_147 : decode b_Model_keepTop 147 = .ok (.putfield 320, 3) := by decide +kernel
theorem d_Model_keepTop_150 : decode b_Model_keepTop 150 = .ok (.return_, 1) := by decide +kernel
set_option maxHeartbeats 40000000 in
set_option maxRecDepth 100000 in
theorem c_M_keepTop (l : Launch) (D : va_G) (ax : Nat → ClassId) (m0 m1 m2 m3 m4 m5 m6 m7 m8 m9 m10 m11 m12 m13 m14 m15 m16 m17 m18 m19 m20 m21 m22 m23 m24 m25 m26 m27 m28 m29 m30 m31 m32 m33 m34 m35 m36 m37 m38 m39 m40 m41 m42 : Nat) (s_thrown s_taped s_size s_outSize s_kind s_value s_begin s_end s_failed s_isProgram s_half s_signs s_stacked s_name s_shift s_statements s_ifs s_whiles s_variants s_open s_isMade s_looked s_rows s_firstRow s_isBroken s_atoms : Int32) (mm us : Nat) (wk : Nat → Int32) (tp : Nat → Nat) (cn kt w1 nn Z : Nat) (ck cm ca cz : Nat → Nat) (kp : Nat → Int32) (sz : Nat) (hm1 : mm < 15) (hcn : cn < 64) (hus : us ≤ 30000) (hkt : kt + us ≤ 30000) (hk : stk wk tp (mm + 1) us) (hZ : us - tp mm ≤ Z) (hcd : cds kp ca cz cn kt Z) : Met l y_Model_keepTop (xws (.code y_Model_keepTop b_Model_keepTop 5 none)) ({ frames := 10, cells := 0, slots := 0, locals := 400 }) (va_Pc [.ref m0, .int (nI w1), .int (nI nn)] (xo D ax [(m0, .inr (11, [.int s_thrown, .int s_taped, .ref m1, .int s_size, .int s_outSize, .ref m2, .int s_kind, .int s_value, .int s_begin, .int s_end, .int s_failed, .ref m3, .ref m4, .ref m5, .int s_isProgram, .int s_half, .ref m6, .ref m7, .ref m8, .ref m9, .ref m10, .ref m11, .ref m12, .ref m13, .ref m14, .ref m15, .ref m16, .ref m17, .ref m18, .ref m19, .ref m20, .int s_signs, .ref m21, .int s_stacked, .ref m22, .int s_name, .int s_shift, .int s_statements, .int s_ifs, .int s_whiles, .int s_variants, .int s_open, .ref m23, .int s_isMade, .int (nI cn), .ref m24, .ref m25, .ref m26, .ref m27, .int (nI kt), .ref m28, .int (nI (mm + 1)), .ref m29, .int (nI us), .ref m30, .ref m31, .int s_looked, .int s_rows, .int s_firstRow, .ref m32, .ref m33, .ref m34, .ref m35, .ref m36, .ref m37, .ref m38, .ref m39, .ref m40, .int s_isBroken, .ref m41, .int s_atoms, .ref m42])), (m30, .inl (ax 0, 180000, .inl wk)), (m29, .inl (ax 0, 16, .inl (fun j => nI (tp j)))), (m24, .inl (ax 0, 64, .inl (fun j => nI (ck j)))), (m25, .inl (ax 0, 64, .inl (fun j => nI (cm j)))), (m26, .inl (ax 0, 64, .inl (fun j => nI (ca j)))), (m27, .inl (ax 0, 64, .inl (fun j => nI (cz j)))), (m28, .inl (ax 0, 180000, .inl kp))] sz)) ((va_Qv (fun (u : Nat → Nat) => (u 0 = kt + (us - tp mm) ∧ tp mm + 1 ≤ us)) (fun (u : Nat → Nat) (t9 : State) => ∃ xck : Nat → Nat, ∃ xcm : Nat → Nat, ∃ xca : Nat → Nat, ∃ xcz : Nat → Nat, ∃ xkp : Nat → Int32, (stk wk tp mm (tp mm)) ∧ (cds xkp xca xcz (cn + 1) (u 0) Z) ∧ (xck = sup ck cn w1) ∧ (xcm = sup cm cn nn) ∧ (cdl xck xcm xca xcz xkp (cn + 1) = cdl ck cm ca cz kp cn ++ [(w1, nn, hd9 (stS wk tp (mm + 1) us))]) ∧ (stS wk tp mm (tp mm) = tl9 (stS wk tp (mm + 1) us)) ∧ va_P D classes [(m0, .inr (11, [.int s_thrown, .int s_taped, .ref m1, .int s_size, .int s_outSize, .ref m2, .int s_kind, .int s_value, .int s_begin, .int s_end, .int s_failed, .ref m3, .ref m4, .ref m5, .int s_isProgram, .int s_half, .ref m6, .ref m7, .ref m8, .ref m9, .ref m10, .ref m11, .ref m12, .ref m13, .ref m14, .ref m15, .ref m16, .ref m17, .ref m18, .ref m19, .ref m20, .int s_signs, .ref m21, .int s_stacked, .ref m22, .int s_name, .int s_shift, .int s_statements, .int s_ifs, .int s_whiles, .int s_variants, .int s_open, .ref m23, .int s_isMade, .int (nI (cn + 1)), .ref m24, .ref m25, .ref m26, .ref m27, .int (nI (u 0)), .ref m28, .int (nI mm), .ref m29, .int (nI (tp mm)), .ref m30, .ref m31, .int s_looked, .int s_rows, .int s_firstRow, .ref m32, .ref m33, .ref m34, .ref m35, .ref m36, .ref m37, .ref m38, .ref m39, .ref m40, .int s_isBroken, .ref m41, .int s_atoms, .ref m42])), (m30, .inl (ax 0, 180000, .inl wk)), (m29, .inl (ax 0, 16, .inl (fun j => nI (tp j)))), (m24, .inl (ax 0, 64, .inl (fun j => nI (xck j)))), (m25, .inl (ax 0, 64, .inl (fun j => nI (xcm j)))), (m26, .inl (ax 0, 64, .inl (fun j => nI (xca j)))), (m27, .inl (ax 0, 64, .inl (fun j => nI (xcz j)))), (m28, .inl (ax 0, 180000, .inl xkp))] t9.heap ∧ va_D (va_A [(m0, .inr (11, [.int s_thrown, .int s_taped, .ref m1, .int s_size, .int s_outSize, .ref m2, .int s_kind, .int s_value, .int s_begin, .int s_end, .int s_failed, .ref m3, .ref m4, .ref m5, .int s_isProgram, .int s_half, .ref m6, .ref m7, .ref m8, .ref m9, .ref m10, .ref m11, .ref m12, .ref m13, .ref m14, .ref m15, .ref m16, .ref m17, .ref m18, .ref m19, .ref m20, .int s_signs, .ref m21, .int s_stacked, .ref m22, .int s_name, .int s_shift, .int s_statements, .int s_ifs, .int s_whiles, .int s_variants, .int s_open, .ref m23, .int s_isMade, .int (nI cn), .ref m24, .ref m25, .ref m26, .ref m27, .int (nI kt), .ref m28, .int (nI (mm + 1)), .ref m29, .int (nI us), .ref m30, .ref m31, .int s_looked, .int s_rows, .int s_firstRow, .ref m32, .ref m33, .ref m34, .ref m35, .ref m36, .ref m37, .ref m38, .ref m39, .ref m40, .int s_isBroken, .ref m41, .int s_atoms, .ref m42])), (m30, .inl (ax 0, 180000, .inl wk)), (m29, .inl (ax 0, 16, .inl (fun j => nI (tp j)))), (m24, .inl (ax 0, 64, .inl (fun j => nI (ck j)))), (m25, .inl (ax 0, 64, .inl (fun j => nI (cm j)))), (m26, .inl (ax 0, 64, .inl (fun j => nI (ca j)))), (m27, .inl (ax 0, 64, .inl (fun j => nI (cz j)))), (m28, .inl (ax 0, 180000, .inl kp))] sz) [(m0, .inr (11, [.int s_thrown, .int s_taped, .ref m1, .int s_size, .int s_outSize, .ref m2, .int s_kind, .int s_value, .int s_begin, .int s_end, .int s_failed, .ref m3, .ref m4, .ref m5, .int s_isProgram, .int s_half, .ref m6, .ref m7, .ref m8, .ref m9, .ref m10, .ref m11, .ref m12, .ref m13, .ref m14, .ref m15, .ref m16, .ref m17, .ref m18, .ref m19, .ref m20, .int s_signs, .ref m21, .int s_stacked, .ref m22, .int s_name, .int s_shift, .int s_statements, .int s_ifs, .int s_whiles, .int s_variants, .int s_open, .ref m23, .int s_isMade, .int (nI (cn + 1)), .ref m24, .ref m25, .ref m26, .ref m27, .int (nI (u 0)), .ref m28, .int (nI mm), .ref m29, .int (nI (tp mm)), .ref m30, .ref m31, .int s_looked, .int s_rows, .int s_firstRow, .ref m32, .ref m33, .ref m34, .ref m35, .ref m36, .ref m37, .ref m38, .ref m39, .ref m40, .int s_isBroken, .ref m41, .int s_atoms, .ref m42])), (m30, .inl (ax 0, 180000, .inl wk)), (m29, .inl (ax 0, 16, .inl (fun j => nI (tp j)))), (m24, .inl (ax 0, 64, .inl (fun j => nI (xck j)))), (m25, .inl (ax 0, 64, .inl (fun j => nI (xcm j)))), (m26, .inl (ax 0, 64, .inl (fun j => nI (xca j)))), (m27, .inl (ax 0, 64, .inl (fun j => nI (xcz j)))), (m28, .inl (ax 0, 180000, .inl xkp))]) (va_A [(m0, .inr (11, [.int s_thrown, .int s_taped, .ref m1, .int s_size, .int s_outSize, .ref m2, .int s_kind, .int s_value, .int s_begin, .int s_end, .int s_failed, .ref m3, .ref m4, .ref m5, .int s_isProgram, .int s_half, .ref m6, .ref m7, .ref m8, .ref m9, .ref m10, .ref m11, .ref m12, .ref m13, .ref m14, .ref m15, .ref m16, .ref m17, .ref m18, .ref m19, .ref m20, .int s_signs, .ref m21, .int s_stacked, .ref m22, .int s_name, .int s_shift, .int s_statements, .int s_ifs, .int s_whiles, .int s_variants, .int s_open, .ref m23, .int s_isMade, .int (nI cn), .ref m24, .ref m25, .ref m26, .ref m27, .int (nI kt), .ref m28, .int (nI (mm + 1)), .ref m29, .int (nI us), .ref m30, .ref m31, .int s_looked, .int s_rows, .int s_firstRow, .ref m32, .ref m33, .ref m34, .ref m35, .ref m36, .ref m37, .ref m38, .ref m39, .ref m40, .int s_isBroken, .ref m41, .int s_atoms, .ref m42])), (m30, .inl (ax 0, 180000, .inl wk)), (m29, .inl (ax 0, 16, .inl (fun j => nI (tp j)))), (m24, .inl (ax 0, 64, .inl (fun j => nI (ck j)))), (m25, .inl (ax 0, 64, .inl (fun j => nI (cm j)))), (m26, .inl (ax 0, 64, .inl (fun j => nI (ca j)))), (m27, .inl (ax 0, 64, .inl (fun j => nI (cz j)))), (m28, .inl (ax 0, 180000, .inl kp))] sz))) 0 0 (va_A [(m0, .inr (11, [.int s_thrown, .int s_taped, .ref m1, .int s_size, .int s_outSize, .ref m2, .int s_kind, .int s_value, .int s_begin, .int s_end, .int s_failed, .ref m3, .ref m4, .ref m5, .int s_isProgram, .int s_half, .ref m6, .ref m7, .ref m8, .ref m9, .ref m10, .ref m11, .ref m12, .ref m13, .ref m14, .ref m15, .ref m16, .ref m17, .ref m18, .ref m19, .ref m20, .int s_signs, .ref m21, .int s_stacked, .ref m22, .int s_name, .int s_shift, .int s_statements, .int s_ifs, .int s_whiles, .int s_variants, .int s_open, .ref m23, .int s_isMade, .int (nI cn), .ref m24, .ref m25, .ref m26, .ref m27, .int (nI kt), .ref m28, .int (nI (mm + 1)), .ref m29, .int (nI us), .ref m30, .ref m31, .int s_looked, .int s_rows, .int s_firstRow, .ref m32, .ref m33, .ref m34, .ref m35, .ref m36, .ref m37, .ref m38, .ref m39, .ref m40, .int s_isBroken, .ref m41, .int s_atoms, .ref m42])), (m30, .inl (ax 0, 180000, .inl wk)), (m29, .inl (ax 0, 16, .inl (fun j => nI (tp j)))), (m24, .inl (ax 0, 64, .inl (fun j => nI (ck j)))), (m25, .inl (ax 0, 64, .inl (fun j => nI (cm j)))), (m26, .inl (ax 0, 64, .inl (fun j => nI (ca j)))), (m27, .inl (ax 0, 64, .inl (fun j => nI (cz j)))), (m28, .inl (ax 0, 180000, .inl kp))] sz) := by
  refine Met.ofW (cc := b_Model_keepTop) (maxL := 5) (ret := none) (by decide) rfl ?_
  intro p e s m args below meth c s₁ B hml hv
  obtain ⟨rfl, hsz, hP, hK, hD0⟩ := hv
  have hx := B.exec
  have hb := B.bytes
  have hr := B.returns
  have hts := xw_hts B.pre
  have hown : s.vm.findClass R_Model = some m.cls := findClass_of_methodNamed B.named
  have hlocks := B.notSynchronized
  subst hsz
  have hD := hD0.self (sz := s.heap.size)
  have hN := xz_entry hP
  generalize hAe : va_A [(m0, .inr (11, [.int s_thrown, .int s_taped, .ref m1, .int s_size, .int s_outSize, .ref m2, .int s_kind, .int s_value, .int s_begin, .int s_end, .int s_failed, .ref m3, .ref m4, .ref m5, .int s_isProgram, .int s_half, .ref m6, .ref m7, .ref m8, .ref m9, .ref m10, .ref m11, .ref m12, .ref m13, .ref m14, .ref m15, .ref m16, .ref m17, .ref m18, .ref m19, .ref m20, .int s_signs, .ref m21, .int s_stacked, .ref m22, .int s_name, .int s_shift, .int s_statements, .int s_ifs, .int s_whiles, .int s_variants, .int s_open, .ref m23, .int s_isMade, .int (nI cn), .ref m24, .ref m25, .ref m26, .ref m27, .int (nI kt), .ref m28, .int (nI (mm + 1)), .ref m29, .int (nI us), .ref m30, .ref m31, .int s_looked, .int s_rows, .int s_firstRow, .ref m32, .ref m33, .ref m34, .ref m35, .ref m36, .ref m37, .ref m38, .ref m39, .ref m40, .int s_isBroken, .ref m41, .int s_atoms, .ref m42])), (m30, .inl (ax 0, 180000, .inl wk)), (m29, .inl (ax 0, 16, .inl (fun j => nI (tp j)))), (m24, .inl (ax 0, 64, .inl (fun j => nI (ck j)))), (m25, .inl (ax 0, 64, .inl (fun j => nI (cm j)))), (m26, .inl (ax 0, 64, .inl (fun j => nI (ca j)))), (m27, .inl (ax 0, 64, .inl (fun j => nI (cz j)))), (m28, .inl (ax 0, 180000, .inl kp))] s.heap.size = A at hD hN ⊢
  have hA : ∀ q : Nat, s.heap.size ≤ q → A q := fun q h => by rw [← hAe]; exact Or.inr h
  have hS : va_S A s.heap s.heap [] := va_S.rf
  have hl0 := lv_entry ([.ref m0, .int (nI w1), .int (nI nn)]) (n := 5) (Nat.le_of_ble_eq_true rfl)
  rw [lg_entry_eq]
  generalize (lg_sl ([.ref m0, .int (nI w1), .int (nI nn)]) ++ List.replicate (5 - (lg_sl ([.ref m0, .int (nI w1), .int (nI nn)])).length) Slot.unset).toArray = ls at hl0 ⊢
  have hl1 : lv_has ls 5 [(0, .ref m0), (1, .int (nI w1)), (2, .int (nI nn))] := hl0
  refine xw_gen (fun Z9 hQe => ?_)
  obtain ⟨hk1, hk2⟩ := hk.top
  refine lv_aload_n hx hb d_Model_keepTop_0 rfl (lv_at hl1 0 rfl) ?_
  refine va_get (D := D) (ci := 11) (v := .ref m29) (C := R_Model) (T := F_Model) (N := 72) hx hb hts i_Model hown hK.1 hP 0 rfl rfl 52 (by decide) (hts _ wd_1088) (fun _ h9 => h9) rfl d_Model_keepTop_1 ?_
  refine lv_aload_n hx hb d_Model_keepTop_4 rfl (lv_at hl1 0 rfl) ?_
  refine va_get (D := D) (ci := 11) (v := .int (nI (mm + 1))) (C := R_Model) (T := F_Model) (N := 72) hx hb hts i_Model hown hK.1 hP 0 rfl rfl 51 (by decide) (hts _ wd_1087) (fun _ h9 => h9) rfl d_Model_keepTop_5 ?_
  refine lv_iconst (v := 1) hx hb d_Model_keepTop_8 (by decide) ?_
  refine lv_isub hx hb d_Model_keepTop_9 ?_
  refine lv_topi (fun z_1 ez_1 => ?_)
  have ez_1 : z_1 = nI (mm) := ez_1.trans (pk_sub (a := mm + 1) (b := 1) (by first | assumption | omega))
  subst ez_1
  refine va_iald hx hb hK.1 hP 2 0 rfl rfl (vp_in_nI (by first | assumption | omega) (by decide)) d_Model_keepTop_10 ?_
  refine W.eq (g2 := F0 m 11 ls [.int (nI (tp mm))]) (by rw [nI_clamp (by first | exact Nat.lt_of_lt_of_le (by assumption) (by decide) | exact Nat.lt_of_le_of_lt (by assumption) (by decide) | omega)]) ?_
  refine lv_istore_n (lv' := [(3, .int (nI (tp mm))), (0, .ref m0), (1, .int (nI w1)), (2, .int (nI nn))]) hx hb d_Model_keepTop_11 rfl hl1 (by decide) rfl (fun ls hl2 => ?_)
  clear hl1; have hl1 := hl2; clear hl2
  refine lv_aload_n hx hb d_Model_keepTop_12 rfl (lv_at hl1 1 rfl) ?_
  refine va_get (D := D) (ci := 11) (v := .ref m24) (C := R_Model) (T := F_Model) (N := 72) hx hb hts i_Model hown hK.1 hP 0 rfl rfl 45 (by decide) (hts _ wd_1081) (fun _ h9 => h9) rfl d_Model_keepTop_13 ?_
  refine lv_aload_n hx hb d_Model_keepTop_16 rfl (lv_at hl1 1 rfl) ?_
  refine va_get (D := D) (ci := 11) (v := .int (nI cn)) (C := R_Model) (T := F_Model) (N := 72) hx hb hts i_Model hown hK.1 hP 0 rfl rfl 44 (by decide) (hts _ wd_1080) (fun _ h9 => h9) rfl d_Model_keepTop_17 ?_
  refine lv_iload_n hx hb d_Model_keepTop_20 rfl (lv_at hl1 2 rfl) ?_
  refine va_iast hx hb hK.1 hP hD hS 3 0 rfl rfl (vp_in_nI (by first | assumption | omega) (by decide)) d_Model_keepTop_21 (fun H_2 locs hP1 hD1 hS1 => ?_)
  rw [nI_clamp (by first | exact Nat.lt_of_lt_of_le (by assumption) (by decide) | exact Nat.lt_of_le_of_lt (by assumption) (by decide) | omega)] at hP1 hD1
  rw [xf_sup ck cn w1] at hP1 hD1
  clear hP hD hS
  have hS := hS1
  have hW7 : (fun w9 : va_W => va_P D classes w9 H_2 ∧ va_D A w9) [(m0, .inr (11, [.int s_thrown, .int s_taped, .ref m1, .int s_size, .int s_outSize, .ref m2, .int s_kind, .int s_value, .int s_begin, .int s_end, .int s_failed, .ref m3, .ref m4, .ref m5, .int s_isProgram, .int s_half, .ref m6, .ref m7, .ref m8, .ref m9, .ref m10, .ref m11, .ref m12, .ref m13, .ref m14, .ref m15, .ref m16, .ref m17, .ref m18, .ref m19, .ref m20, .int s_signs, .ref m21, .int s_stacked, .ref m22, .int s_name, .int s_shift, .int s_statements, .int s_ifs, .int s_whiles, .int s_variants, .int s_open, .ref m23, .int s_isMade, .int (nI cn), .ref m24, .ref m25, .ref m26, .ref m27, .int (nI kt), .ref m28, .int (nI (mm + 1)), .ref m29, .int (nI us), .ref m30, .ref m31, .int s_looked, .int s_rows, .int s_firstRow, .ref m32, .ref m33, .ref m34, .ref m35, .ref m36, .ref m37, .ref m38, .ref m39, .ref m40, .int s_isBroken, .ref m41, .int s_atoms, .ref m42])), (m30, .inl (ax 0, 180000, .inl wk)), (m29, .inl (ax 0, 16, .inl (fun j => nI (tp j)))), (m24, .inl (ax 0, 64, .inl (fun j => nI (sup ck cn w1 j)))), (m25, .inl (ax 0, 64, .inl (fun j => nI (cm j)))), (m26, .inl (ax 0, 64, .inl (fun j => nI (ca j)))), (m27, .inl (ax 0, 64, .inl (fun j => nI (cz j)))), (m28, .inl (ax 0, 180000, .inl kp))] := ⟨hP1, hD1⟩
  obtain ⟨hP, hD⟩ := hW7
  clear hP1 hD1 hS1
  refine lv_aload_n hx hb d_Model_keepTop_22 rfl (lv_at hl1 1 rfl) ?_
  refine va_get (D := D) (ci := 11) (v := .ref m25) (C := R_Model) (T := F_Model) (N := 72) hx hb hts i_Model hown hK.1 hP 0 rfl rfl 46 (by decide) (hts _ wd_1082) (fun _ h9 => h9) rfl d_Model_keepTop_23 ?_
  refine lv_aload_n hx hb d_Model_keepTop_26 rfl (lv_at hl1 1 rfl) ?_
  refine va_get (D := D) (ci := 11) (v := .int (nI cn)) (C := R_Model) (T := F_Model) (N := 72) hx hb hts i_Model hown hK.1 hP 0 rfl rfl 44 (by decide) (hts _ wd_1080) (fun _ h9 => h9) rfl d_Model_keepTop_27 ?_
  refine lv_iload_n hx hb d_Model_keepTop_30 rfl (lv_at hl1 3 rfl) ?_
  refine va_iast hx hb hK.1 hP hD hS 4 0 rfl rfl (vp_in_nI (by first | assumption | omega) (by decide)) d_Model_keepTop_31 (fun H_3 locs hP1 hD1 hS1 => ?_)
  rw [nI_clamp (by first | exact Nat.lt_of_lt_of_le (by assumption) (by decide) | exact Nat.lt_of_le_of_lt (by assumption) (by decide) | omega)] at hP1 hD1
  rw [xf_sup cm cn nn] at hP1 hD1
  clear hP hD hS
  have hS := hS1
  have hW7 : (fun w9 : va_W => va_P D classes w9 H_3 ∧ va_D A w9) [(m0, .inr (11, [.int s_thrown, .int s_taped, .ref m1, .int s_size, .int s_outSize, .ref m2, .int s_kind, .int s_value, .int s_begin, .int s_end, .int s_failed, .ref m3, .ref m4, .ref m5, .int s_isProgram, .int s_half, .ref m6, .ref m7, .ref m8, .ref m9, .ref m10, .ref m11, .ref m12, .ref m13, .ref m14, .ref m15, .ref m16, .ref m17, .ref m18, .ref m19, .ref m20, .int s_signs, .ref m21, .int s_stacked, .ref m22, .int s_name, .int s_shift, .int s_statements, .int s_ifs, .int s_whiles, .int s_variants, .int s_open, .ref m23, .int s_isMade, .int (nI cn), .ref m24, .ref m25, .ref m26, .ref m27, .int (nI kt), .ref m28, .int (nI (mm + 1)), .ref m29, .int (nI us), .ref m30, .ref m31, .int s_looked, .int s_rows, .int s_firstRow, .ref m32, .ref m33, .ref m34, .ref m35, .ref m36, .ref m37, .ref m38, .ref m39, .ref m40, .int s_isBroken, .ref m41, .int s_atoms, .ref m42])), (m30, .inl (ax 0, 180000, .inl wk)), (m29, .inl (ax 0, 16, .inl (fun j => nI (tp j)))), (m24, .inl (ax 0, 64, .inl (fun j => nI (sup ck cn w1 j)))), (m25, .inl (ax 0, 64, .inl (fun j => nI (sup cm cn nn j)))), (m26, .inl (ax 0, 64, .inl (fun j => nI (ca j)))), (m27, .inl (ax 0, 64, .inl (fun j => nI (cz j)))), (m28, .inl (ax 0, 180000, .inl kp))] := ⟨hP1, hD1⟩
  obtain ⟨hP, hD⟩ := hW7
  clear hP1 hD1 hS1
  refine lv_aload_n hx hb d_Model_keepTop_32 rfl (lv_at hl1 1 rfl) ?_
  refine va_get (D := D) (ci := 11) (v := .ref m26) (C := R_Model) (T := F_Model) (N := 72) hx hb hts i_Model hown hK.1 hP 0 rfl rfl 47 (by decide) (hts _ wd_1083) (fun _ h9 => h9) rfl d_Model_keepTop_33 ?_
  refine lv_aload_n hx hb d_Model_keepTop_36 rfl (lv_at hl1 1 rfl) ?_
  refine va_get (D := D) (ci := 11) (v := .int (nI cn)) (C := R_Model) (T := F_Model) (N := 72) hx hb hts i_Model hown hK.1 hP 0 rfl rfl 44 (by decide) (hts _ wd_1080) (fun _ h9 => h9) rfl d_Model_keepTop_37 ?_
  refine lv_aload_n hx hb d_Model_keepTop_40 rfl (lv_at hl1 1 rfl) ?_
  refine va_get (D := D) (ci := 11) (v := .int (nI kt)) (C := R_Model) (T := F_Model) (N := 72) hx hb hts i_Model hown hK.1 hP 0 rfl rfl 49 (by decide) (hts _ wd_1085) (fun _ h9 => h9) rfl d_Model_keepTop_41 ?_
  refine va_iast hx hb hK.1 hP hD hS 5 0 rfl rfl (vp_in_nI (by first | assumption | omega) (by decide)) d_Model_keepTop_44 (fun H_4 locs hP1 hD1 hS1 => ?_)
  rw [nI_clamp (by first | exact Nat.lt_of_lt_of_le (by assumption) (by decide) | exact Nat.lt_of_le_of_lt (by assumption) (by decide) | omega)] at hP1 hD1
  rw [xf_sup ca cn kt] at hP1 hD1
  clear hP hD hS
  have hS := hS1
  have hW7 : (fun w9 : va_W => va_P D classes w9 H_4 ∧ va_D A w9) [(m0, .inr (11, [.int s_thrown, .int s_taped, .ref m1, .int s_size, .int s_outSize, .ref m2, .int s_kind, .int s_value, .int s_begin, .int s_end, .int s_failed, .ref m3, .ref m4, .ref m5, .int s_isProgram, .int s_half, .ref m6, .ref m7, .ref m8, .ref m9, .ref m10, .ref m11, .ref m12, .ref m13, .ref m14, .ref m15, .ref m16, .ref m17, .ref m18, .ref m19, .ref m20, .int s_signs, .ref m21, .int s_stacked, .ref m22, .int s_name, .int s_shift, .int s_statements, .int s_ifs, .int s_whiles, .int s_variants, .int s_open, .ref m23, .int s_isMade, .int (nI cn), .ref m24, .ref m25, .ref m26, .ref m27, .int (nI kt), .ref m28, .int (nI (mm + 1)), .ref m29, .int (nI us), .ref m30, .ref m31, .int s_looked, .int s_rows, .int s_firstRow, .ref m32, .ref m33, .ref m34, .ref m35, .ref m36, .ref m37, .ref m38, .ref m39, .ref m40, .int s_isBroken, .ref m41, .int s_atoms, .ref m42])), (m30, .inl (ax 0, 180000, .inl wk)), (m29, .inl (ax 0, 16, .inl (fun j => nI (tp j)))), (m24, .inl (ax 0, 64, .inl (fun j => nI (sup ck cn w1 j)))), (m25, .inl (ax 0, 64, .inl (fun j => nI (sup cm cn nn j)))), (m26, .inl (ax 0, 64, .inl (fun j => nI (sup ca cn kt j)))), (m27, .inl (ax 0, 64, .inl (fun j => nI (cz j)))), (m28, .inl (ax 0, 180000, .inl kp))] := ⟨hP1, hD1⟩
  obtain ⟨hP, hD⟩ := hW7
  clear hP1 hD1 hS1
  refine lv_aload_n hx hb d_Model_keepTop_45 rfl (lv_at hl1 1 rfl) ?_
  refine va_get (D := D) (ci := 11) (v := .ref m27) (C := R_Model) (T := F_Model) (N := 72) hx hb hts i_Model hown hK.1 hP 0 rfl rfl 48 (by decide) (hts _ wd_1084) (fun _ h9 => h9) rfl d_Model_keepTop_46 ?_
  refine lv_aload_n hx hb d_Model_keepTop_49 rfl (lv_at hl1 1 rfl) ?_
  refine va_get (D := D) (ci := 11) (v := .int (nI cn)) (C := R_Model) (T := F_Model) (N := 72) hx hb hts i_Model hown hK.1 hP 0 rfl rfl 44 (by decide) (hts _ wd_1080) (fun _ h9 => h9) rfl d_Model_keepTop_50 ?_
  refine lv_aload_n hx hb d_Model_keepTop_53 rfl (lv_at hl1 1 rfl) ?_
  refine va_get (D := D) (ci := 11) (v := .int (nI us)) (C := R_Model) (T := F_Model) (N := 72) hx hb hts i_Model hown hK.1 hP 0 rfl rfl 53 (by decide) (hts _ wd_1089) (fun _ h9 => h9) rfl d_Model_keepTop_54 ?_
  refine lv_iload_n hx hb d_Model_keepTop_57 rfl (lv_at hl1 0 rfl) ?_
  refine lv_isub hx hb d_Model_keepTop_58 ?_
  refine lv_topi (fun z_5 ez_5 => ?_)
  have ez_5 : z_5 = nI (us - (tp mm)) := ez_5.trans (pk_sub (a := us) (b := tp mm) (by first | assumption | omega))
  subst ez_5
  refine va_iast hx hb hK.1 hP hD hS 6 0 rfl rfl (vp_in_nI (by first | assumption | omega) (by decide)) d_Model_keepTop_59 (fun H_6 locs hP1 hD1 hS1 => ?_)
  rw [nI_clamp (by first | exact Nat.lt_of_lt_of_le (by assumption) (by decide) | exact Nat.lt_of_le_of_lt (by assumption) (by decide) | omega)] at hP1 hD1
  rw [xf_sup cz cn (us - (tp mm))] at hP1 hD1
  clear hP hD hS
  have hS := hS1
  have hW7 : (fun w9 : va_W => va_P D classes w9 H_6 ∧ va_D A w9) [(m0, .inr (11, [.int s_thrown, .int s_taped, .ref m1, .int s_size, .int s_outSize, .ref m2, .int s_kind, .int s_value, .int s_begin, .int s_end, .int s_failed, .ref m3, .ref m4, .ref m5, .int s_isProgram, .int s_half, .ref m6, .ref m7, .ref m8, .ref m9, .ref m10, .ref m11, .ref m12, .ref m13, .ref m14, .ref m15, .ref m16, .ref m17, .ref m18, .ref m19, .ref m20, .int s_signs, .ref m21, .int s_stacked, .ref m22, .int s_name, .int s_shift, .int s_statements, .int s_ifs, .int s_whiles, .int s_variants, .int s_open, .ref m23, .int s_isMade, .int (nI cn), .ref m24, .ref m25, .ref m26, .ref m27, .int (nI kt), .ref m28, .int (nI (mm + 1)), .ref m29, .int (nI us), .ref m30, .ref m31, .int s_looked, .int s_rows, .int s_firstRow, .ref m32, .ref m33, .ref m34, .ref m35, .ref m36, .ref m37, .ref m38, .ref m39, .ref m40, .int s_isBroken, .ref m41, .int s_atoms, .ref m42])), (m30, .inl (ax 0, 180000, .inl wk)), (m29, .inl (ax 0, 16, .inl (fun j => nI (tp j)))), (m24, .inl (ax 0, 64, .inl (fun j => nI (sup ck cn w1 j)))), (m25, .inl (ax 0, 64, .inl (fun j => nI (sup cm cn nn j)))), (m26, .inl (ax 0, 64, .inl (fun j => nI (sup ca cn kt j)))), (m27, .inl (ax 0, 64, .inl (fun j => nI (sup cz cn (us - (tp mm)) j)))), (m28, .inl (ax 0, 180000, .inl kp))] := ⟨hP1, hD1⟩
  obtain ⟨hP, hD⟩ := hW7
  clear hP1 hD1 hS1
  refine lv_iconst (v := 0) hx hb d_Model_keepTop_60 (by decide) ?_
  refine lv_istore (lv' := [(4, .int 0), (3, .int (nI (tp mm))), (0, .ref m0), (1, .int (nI w1)), (2, .int (nI nn))]) hx hb d_Model_keepTop_61 hl1 (by decide) rfl (fun ls hl2 => ?_)
  clear hl1; have hl1 := hl2; clear hl2
  suffices key_7 : ∀ (k : Nat) (i1 : Nat), 6 * (us - tp mm) - i1 < k → i1 ≤ 6 * (us - tp mm) → ∀ (H : Heap) (locs : List Loc) (ls : Array Slot), va_P D classes [(m0, .inr (11, [.int s_thrown, .int s_taped, .ref m1, .int s_size, .int s_outSize, .ref m2, .int s_kind, .int s_value, .int s_begin, .int s_end, .int s_failed, .ref m3, .ref m4, .ref m5, .int s_isProgram, .int s_half, .ref m6, .ref m7, .ref m8, .ref m9, .ref m10, .ref m11, .ref m12, .ref m13, .ref m14, .ref m15, .ref m16, .ref m17, .ref m18, .ref m19, .ref m20, .int s_signs, .ref m21, .int s_stacked, .ref m22, .int s_name, .int s_shift, .int s_statements, .int s_ifs, .int s_whiles, .int s_variants, .int s_open, .ref m23, .int s_isMade, .int (nI cn), .ref m24, .ref m25, .ref m26, .ref m27, .int (nI kt), .ref m28, .int (nI (mm + 1)), .ref m29, .int (nI us), .ref m30, .ref m31, .int s_looked, .int s_rows, .int s_firstRow, .ref m32, .ref m33, .ref m34, .ref m35, .ref m36, .ref m37, .ref m38, .ref m39, .ref m40, .int s_isBroken, .ref m41, .int s_atoms, .ref m42])), (m30, .inl (ax 0, 180000, .inl wk)), (m29, .inl (ax 0, 16, .inl (fun j => nI (tp j)))), (m24, .inl (ax 0, 64, .inl (fun j => nI (sup ck cn w1 j)))), (m25, .inl (ax 0, 64, .inl (fun j => nI (sup cm cn nn j)))), (m26, .inl (ax 0, 64, .inl (fun j => nI (sup ca cn kt j)))), (m27, .inl (ax 0, 64, .inl (fun j => nI (sup cz cn (us - (tp mm)) j)))), (m28, .inl (ax 0, 180000, .inl (cpf kp (fun j => wk (6 * tp mm + j)) (6 * kt) i1)))] H → va_D A [(m0, .inr (11, [.int s_thrown, .int s_taped, .ref m1, .int s_size, .int s_outSize, .ref m2, .int s_kind, .int s_value, .int s_begin, .int s_end, .int s_failed, .ref m3, .ref m4, .ref m5, .int s_isProgram, .int s_half, .ref m6, .ref m7, .ref m8, .ref m9, .ref m10, .ref m11, .ref m12, .ref m13, .ref m14, .ref m15, .ref m16, .ref m17, .ref m18, .ref m19, .ref m20, .int s_signs, .ref m21, .int s_stacked, .ref m22, .int s_name, .int s_shift, .int s_statements, .int s_ifs, .int s_whiles, .int s_variants, .int s_open, .ref m23, .int s_isMade, .int (nI cn), .ref m24, .ref m25, .ref m26, .ref m27, .int (nI kt), .ref m28, .int (nI (mm + 1)), .ref m29, .int (nI us), .ref m30, .ref m31, .int s_looked, .int s_rows, .int s_firstRow, .ref m32, .ref m33, .ref m34, .ref m35, .ref m36, .ref m37, .ref m38, .ref m39, .ref m40, .int s_isBroken, .ref m41, .int s_atoms, .ref m42])), (m30, .inl (ax 0, 180000, .inl wk)), (m29, .inl (ax 0, 16, .inl (fun j => nI (tp j)))), (m24, .inl (ax 0, 64, .inl (fun j => nI (sup ck cn w1 j)))), (m25, .inl (ax 0, 64, .inl (fun j => nI (sup cm cn nn j)))), (m26, .inl (ax 0, 64, .inl (fun j => nI (sup ca cn kt j)))), (m27, .inl (ax 0, 64, .inl (fun j => nI (sup cz cn (us - (tp mm)) j)))), (m28, .inl (ax 0, 180000, .inl (cpf kp (fun j => wk (6 * tp mm + j)) (6 * kt) i1)))] → va_S A s.heap H locs → lv_has ls 5 [(0, .ref m0), (1, .int (nI w1)), (2, .int (nI nn)), (3, .int (nI (tp mm))), (4, .int (nI i1))] → W p l e (headSpec (xws (.code y_Model_keepTop b_Model_keepTop 5 none)) ({ frames := 10, cells := 0, slots := 0, locals := 400 })).room s m ([.ref m0, .int (nI w1), .int (nI nn)] : List Value).toArray below meth c H locs 0 0 Z9 (F0 m 63 ls []) from key_7 (6 * (us - tp mm) - 0 + 1) 0 (Nat.lt_succ_self _) (by first | assumption | omega) _ _ _ (by rw [cpf_0]; exact hP) (by rw [cpf_0]; exact hD) hS (lv_sub hl1 [2, 3, 4, 1, 0] rfl)
  intro k_8
  induction k_8 with
  | zero =>
    intro i1 hk_10
    exact absurd hk_10 (Nat.not_lt_zero _)
  | succ k_8 ih_9 =>
    clear hP hD hS hl1
    intro i1 hk_10 hi1 H locs ls hP hD hS hl1
    refine lv_iload hx hb d_Model_keepTop_63 (lv_at hl1 4 rfl) ?_
    refine lv_bipush (v := 6) hx hb d_Model_keepTop_65 (by decide) ?_
    refine lv_aload_n hx hb d_Model_keepTop_67 rfl (lv_at hl1 0 rfl) ?_
    refine va_get (D := D) (ci := 11) (v := .int (nI us)) (C := R_Model) (T := F_Model) (N := 72) hx hb hts i_Model hown hK.1 hP 0 rfl rfl 53 (by decide) (hts _ wd_1089) (fun _ h9 => h9) rfl d_Model_keepTop_68 ?_
    refine lv_iload_n hx hb d_Model_keepTop_71 rfl (lv_at hl1 3 rfl) ?_
    refine lv_isub hx hb d_Model_keepTop_72 ?_
    refine lv_topi (fun z_11 ez_11 => ?_)
    have ez_11 : z_11 = nI (us - (tp mm)) := ez_11.trans (pk_sub (a := us) (b := tp mm) (by first | assumption | omega))
    subst ez_11
    refine lv_imul hx hb d_Model_keepTop_73 ?_
    refine lv_topi (fun z_12 ez_12 => ?_)
    have ez_12 : z_12 = nI (6 * (us - (tp mm))) := ez_12.trans (pk_mul 6 (us - (tp mm)))
    subst ez_12
    refine lv_icmp_ge (tgt := 110) hx hb d_Model_keepTop_74 (by decide) (fun c_13 => ?_) (fun c_13 => ?_)
    · replace c_13 : 6 * (us - (tp mm)) ≤ i1 := (nI_leI (a := 6 * (us - (tp mm))) (b := i1) (by first | exact Nat.lt_of_lt_of_le (by assumption) (by decide) | exact Nat.lt_of_le_of_lt (by assumption) (by decide) | omega) (by first | exact Nat.lt_of_lt_of_le (by assumption) (by decide) | exact Nat.lt_of_le_of_lt (by assumption) (by decide) | omega)).mp c_13
      rw [show i1 = 6 * (us - tp mm) by omega] at hP hD
      have hP7 := hP; have hD7 := hD; clear hP hD
      have hW7 : (fun w9 : va_W => va_P D classes w9 H ∧ va_D A w9) [(m0, .inr (11, [.int s_thrown, .int s_taped, .ref m1, .int s_size, .int s_outSize, .ref m2, .int s_kind, .int s_value, .int s_begin, .int s_end, .int s_failed, .ref m3, .ref m4, .ref m5, .int s_isProgram, .int s_half, .ref m6, .ref m7, .ref m8, .ref m9, .ref m10, .ref m11, .ref m12, .ref m13, .ref m14, .ref m15, .ref m16, .ref m17, .ref m18, .ref m19, .ref m20, .int s_signs, .ref m21, .int s_stacked, .ref m22, .int s_name, .int s_shift, .int s_statements, .int s_ifs, .int s_whiles, .int s_variants, .int s_open, .ref m23, .int s_isMade, .int (nI cn), .ref m24, .ref m25, .ref m26, .ref m27, .int (nI kt), .ref m28, .int (nI (mm + 1)), .ref m29, .int (nI us), .ref m30, .ref m31, .int s_looked, .int s_rows, .int s_firstRow, .ref m32, .ref m33, .ref m34, .ref m35, .ref m36, .ref m37, .ref m38, .ref m39, .ref m40, .int s_isBroken, .ref m41, .int s_atoms, .ref m42])), (m30, .inl (ax 0, 180000, .inl wk)), (m29, .inl (ax 0, 16, .inl (fun j => nI (tp j)))), (m24, .inl (ax 0, 64, .inl (fun j => nI (sup ck cn w1 j)))), (m25, .inl (ax 0, 64, .inl (fun j => nI (sup cm cn nn j)))), (m26, .inl (ax 0, 64, .inl (fun j => nI (sup ca cn kt j)))), (m27, .inl (ax 0, 64, .inl (fun j => nI (sup cz cn (us - (tp mm)) j)))), (m28, .inl (ax 0, 180000, .inl (cpf kp (fun j => wk (6 * tp mm + j)) (6 * kt) (6 * (us - tp mm)))))] := ⟨hP7, hD7⟩
      obtain ⟨hP, hD⟩ := hW7
      clear hP7 hD7
      refine lv_aload_n hx hb d_Model_keepTop_110 rfl (lv_at hl1 0 rfl) ?_
      refine lv_aload_n hx hb d_Model_keepTop_111 rfl (lv_at hl1 0 rfl) ?_
      refine va_get (D := D) (ci := 11) (v := .int (nI kt)) (C := R_Model) (T := F_Model) (N := 72) hx hb hts i_Model hown hK.1 hP 0 rfl rfl 49 (by decide) (hts _ wd_1085) (fun _ h9 => h9) rfl d_Model_keepTop_112 ?_
      refine lv_aload_n hx hb d_Model_keepTop_115 rfl (lv_at hl1 0 rfl) ?_
      refine va_get (D := D) (ci := 11) (v := .int (nI us)) (C := R_Model) (T := F_Model) (N := 72) hx hb hts i_Model hown hK.1 hP 0 rfl rfl 53 (by decide) (hts _ wd_1089) (fun _ h9 => h9) rfl d_Model_keepTop_116 ?_
      refine lv_iadd hx hb d_Model_keepTop_119 ?_
      refine lv_topi (fun z_14 ez_14 => ?_)
      have ez_14 : z_14 = nI (kt + us) := ez_14.trans (nI_add kt us)
      subst ez_14
      refine lv_iload_n hx hb d_Model_keepTop_120 rfl (lv_at hl1 3 rfl) ?_
      refine lv_isub hx hb d_Model_keepTop_121 ?_
      refine lv_topi (fun z_15 ez_15 => ?_)
      have ez_15 : z_15 = nI (kt + us - (tp mm)) := ez_15.trans (pk_sub (a := kt + us) (b := tp mm) (by first | assumption | omega))
      subst ez_15
      refine va_put (D := D) (ci := 11) (v := .int (nI (kt + us - (tp mm)))) (ty := .int) (C := R_Model) (T := F_Model) (N := 72) hx hb hts i_Model t_Model t_Model_ok n_Model hown hK.1 hP hD hS 0 rfl rfl 49 (by decide) (hts _ wd_1085) (fun _ h9 => h9) rfl (by decide +kernel) rfl rfl (Nat.le_of_ble_eq_true rfl) d_Model_keepTop_122 (fun H_16 locs hP1 hD1 hS1 => ?_)
      clear hP hD hS
      have hS := hS1
      have hW7 : (fun w9 : va_W => va_P D classes w9 H_16 ∧ va_D A w9) [(m0, .inr (11, [.int s_thrown, .int s_taped, .ref m1, .int s_size, .int s_outSize, .ref m2, .int s_kind, .int s_value, .int s_begin, .int s_end, .int s_failed, .ref m3, .ref m4, .ref m5, .int s_isProgram, .int s_half, .ref m6, .ref m7, .ref m8, .ref m9, .ref m10, .ref m11, .ref m12, .ref m13, .ref m14, .ref m15, .ref m16, .ref m17, .ref m18, .ref m19, .ref m20, .int s_signs, .ref m21, .int s_stacked, .ref m22, .int s_name, .int s_shift, .int s_statements, .int s_ifs, .int s_whiles, .int s_variants, .int s_open, .ref m23, .int s_isMade, .int (nI cn), .ref m24, .ref m25, .ref m26, .ref m27, .int (nI (kt + us - (tp mm))), .ref m28, .int (nI (mm + 1)), .ref m29, .int (nI us), .ref m30, .ref m31, .int s_looked, .int s_rows, .int s_firstRow, .ref m32, .ref m33, .ref m34, .ref m35, .ref m36, .ref m37, .ref m38, .ref m39, .ref m40, .int s_isBroken, .ref m41, .int s_atoms, .ref m42])), (m30, .inl (ax 0, 180000, .inl wk)), (m29, .inl (ax 0, 16, .inl (fun j => nI (tp j)))), (m24, .inl (ax 0, 64, .inl (fun j => nI (sup ck cn w1 j)))), (m25, .inl (ax 0, 64, .inl (fun j => nI (sup cm cn nn j)))), (m26, .inl (ax 0, 64, .inl (fun j => nI (sup ca cn kt j)))), (m27, .inl (ax 0, 64, .inl (fun j => nI (sup cz cn (us - (tp mm)) j)))), (m28, .inl (ax 0, 180000, .inl (cpf kp (fun j => wk (6 * tp mm + j)) (6 * kt) (6 * (us - tp mm)))))] := ⟨hP1, hD1⟩
      obtain ⟨hP, hD⟩ := hW7
      clear hP1 hD1 hS1
      refine lv_aload_n hx hb d_Model_keepTop_125 rfl (lv_at hl1 0 rfl) ?_
      refine lv_dup hx hb d_Model_keepTop_126 rfl ?_
      refine va_get (D := D) (ci := 11) (v := .int (nI cn)) (C := R_Model) (T := F_Model) (N := 72) hx hb hts i_Model hown hK.1 hP 0 rfl rfl 44 (by decide) (hts _ wd_1080) (fun _ h9 => h9) rfl d_Model_keepTop_127 ?_
      refine lv_iconst (v := 1) hx hb d_Model_keepTop_130 (by decide) ?_
      refine lv_iadd hx hb d_Model_keepTop_131 ?_
      refine lv_topi (fun z_17 ez_17 => ?_)
      have ez_17 : z_17 = nI (cn + 1) := ez_17.trans (nI_add cn 1)
      subst ez_17
      refine va_put (D := D) (ci := 11) (v := .int (nI (cn + 1))) (ty := .int) (C := R_Model) (T := F_Model) (N := 72) hx hb hts i_Model t_Model t_Model_ok n_Model hown hK.1 hP hD hS 0 rfl rfl 44 (by decide) (hts _ wd_1080) (fun _ h9 => h9) rfl (by decide +kernel) rfl rfl (Nat.le_of_ble_eq_true rfl) d_Model_keepTop_132 (fun H_18 locs hP1 hD1 hS1 => ?_)
      clear hP hD hS
      have hS := hS1
      have hW7 : (fun w9 : va_W => va_P D classes w9 H_18 ∧ va_D A w9) [(m0, .inr (11, [.int s_thrown, .int s_taped, .ref m1, .int s_size, .int s_outSize, .ref m2, .int s_kind, .int s_value, .int s_begin, .int s_end, .int s_failed, .ref m3, .ref m4, .ref m5, .int s_isProgram, .int s_half, .ref m6, .ref m7, .ref m8, .ref m9, .ref m10, .ref m11, .ref m12, .ref m13, .ref m14, .ref m15, .ref m16, .ref m17, .ref m18, .ref m19, .ref m20, .int s_signs, .ref m21, .int s_stacked, .ref m22, .int s_name, .int s_shift, .int s_statements, .int s_ifs, .int s_whiles, .int s_variants, .int s_open, .ref m23, .int s_isMade, .int (nI (cn + 1)), .ref m24, .ref m25, .ref m26, .ref m27, .int (nI (kt + us - (tp mm))), .ref m28, .int (nI (mm + 1)), .ref m29, .int (nI us), .ref m30, .ref m31, .int s_looked, .int s_rows, .int s_firstRow, .ref m32, .ref m33, .ref m34, .ref m35, .ref m36, .ref m37, .ref m38, .ref m39, .ref m40, .int s_isBroken, .ref m41, .int s_atoms, .ref m42])), (m30, .inl (ax 0, 180000, .inl wk)), (m29, .inl (ax 0, 16, .inl (fun j => nI (tp j)))), (m24, .inl (ax 0, 64, .inl (fun j => nI (sup ck cn w1 j)))), (m25, .inl (ax 0, 64, .inl (fun j => nI (sup cm cn nn j)))), (m26, .inl (ax 0, 64, .inl (fun j => nI (sup ca cn kt j)))), (m27, .inl (ax 0, 64, .inl (fun j => nI (sup cz cn (us - (tp mm)) j)))), (m28, .inl (ax 0, 180000, .inl (cpf kp (fun j => wk (6 * tp mm + j)) (6 * kt) (6 * (us - tp mm)))))] := ⟨hP1, hD1⟩
      obtain ⟨hP, hD⟩ := hW7
      clear hP1 hD1 hS1
      refine lv_aload_n hx hb d_Model_keepTop_135 rfl (lv_at hl1 0 rfl) ?_
      refine lv_iload_n hx hb d_Model_keepTop_136 rfl (lv_at hl1 3 rfl) ?_
      refine va_put (D := D) (ci := 11) (v := .int (nI (tp mm))) (ty := .int) (C := R_Model) (T := F_Model) (N := 72) hx hb hts i_Model t_Model t_Model_ok n_Model hown hK.1 hP hD hS 0 rfl rfl 53 (by decide) (hts _ wd_1089) (fun _ h9 => h9) rfl (by decide +kernel) rfl rfl (Nat.le_of_ble_eq_true rfl) d_Model_keepTop_137 (fun H_19 locs hP1 hD1 hS1 => ?_)
      clear hP hD hS
      have hS := hS1
      have hW7 : (fun w9 : va_W => va_P D classes w9 H_19 ∧ va_D A w9) [(m0, .inr (11, [.int s_thrown, .int s_taped, .ref m1, .int s_size, .int s_outSize, .ref m2, .int s_kind, .int s_value, .int s_begin, .int s_end, .int s_failed, .ref m3, .ref m4, .ref m5, .int s_isProgram, .int s_half, .ref m6, .ref m7, .ref m8, .ref m9, .ref m10, .ref m11, .ref m12, .ref m13, .ref m14, .ref m15, .ref m16, .ref m17, .ref m18, .ref m19, .ref m20, .int s_signs, .ref m21, .int s_stacked, .ref m22, .int s_name, .int s_shift, .int s_statements, .int s_ifs, .int s_whiles, .int s_variants, .int s_open, .ref m23, .int s_isMade, .int (nI (cn + 1)), .ref m24, .ref m25, .ref m26, .ref m27, .int (nI (kt + us - (tp mm))), .ref m28, .int (nI (mm + 1)), .ref m29, .int (nI (tp mm)), .ref m30, .ref m31, .int s_looked, .int s_rows, .int s_firstRow, .ref m32, .ref m33, .ref m34, .ref m35, .ref m36, .ref m37, .ref m38, .ref m39, .ref m40, .int s_isBroken, .ref m41, .int s_atoms, .ref m42])), (m30, .inl (ax 0, 180000, .inl wk)), (m29, .inl (ax 0, 16, .inl (fun j => nI (tp j)))), (m24, .inl (ax 0, 64, .inl (fun j => nI (sup ck cn w1 j)))), (m25, .inl (ax 0, 64, .inl (fun j => nI (sup cm cn nn j)))), (m26, .inl (ax 0, 64, .inl (fun j => nI (sup ca cn kt j)))), (m27, .inl (ax 0, 64, .inl (fun j => nI (sup cz cn (us - (tp mm)) j)))), (m28, .inl (ax 0, 180000, .inl (cpf kp (fun j => wk (6 * tp mm + j)) (6 * kt) (6 * (us - tp mm)))))] := ⟨hP1, hD1⟩
      obtain ⟨hP, hD⟩ := hW7
      clear hP1 hD1 hS1
      refine lv_aload_n hx hb d_Model_keepTop_140 rfl (lv_at hl1 0 rfl) ?_
      refine lv_dup hx hb d_Model_keepTop_141 rfl ?_
      refine va_get (D := D) (ci := 11) (v := .int (nI (mm + 1))) (C := R_Model) (T := F_Model) (N := 72) hx hb hts i_Model hown hK.1 hP 0 rfl rfl 51 (by decide) (hts _ wd_1087) (fun _ h9 => h9) rfl d_Model_keepTop_142 ?_
      refine lv_iconst (v := 1) hx hb d_Model_keepTop_145 (by decide) ?_
      refine lv_isub hx hb d_Model_keepTop_146 ?_
      refine lv_topi (fun z_20 ez_20 => ?_)
      have ez_20 : z_20 = nI (mm) := ez_20.trans (pk_sub (a := mm + 1) (b := 1) (by first | assumption | omega))
      subst ez_20
      refine va_put (D := D) (ci := 11) (v := .int (nI mm)) (ty := .int) (C := R_Model) (T := F_Model) (N := 72) hx hb hts i_Model t_Model t_Model_ok n_Model hown hK.1 hP hD hS 0 rfl rfl 51 (by decide) (hts _ wd_1087) (fun _ h9 => h9) rfl (by decide +kernel) rfl rfl (Nat.le_of_ble_eq_true rfl) d_Model_keepTop_147 (fun H_21 locs hP1 hD1 hS1 => ?_)
      clear hP hD hS
      have hS := hS1
      have hW7 : (fun w9 : va_W => va_P D classes w9 H_21 ∧ va_D A w9) [(m0, .inr (11, [.int s_thrown, .int s_taped, .ref m1, .int s_size, .int s_outSize, .ref m2, .int s_kind, .int s_value, .int s_begin, .int s_end, .int s_failed, .ref m3, .ref m4, .ref m5, .int s_isProgram, .int s_half, .ref m6, .ref m7, .ref m8, .ref m9, .ref m10, .ref m11, .ref m12, .ref m13, .ref m14, .ref m15, .ref m16, .ref m17, .ref m18, .ref m19, .ref m20, .int s_signs, .ref m21, .int s_stacked, .ref m22, .int s_name, .int s_shift, .int s_statements, .int s_ifs, .int s_whiles, .int s_variants, .int s_open, .ref m23, .int s_isMade, .int (nI (cn + 1)), .ref m24, .ref m25, .ref m26, .ref m27, .int (nI (kt + us - (tp mm))), .ref m28, .int (nI mm), .ref m29, .int (nI (tp mm)), .ref m30, .ref m31, .int s_looked, .int s_rows, .int s_firstRow, .ref m32, .ref m33, .ref m34, .ref m35, .ref m36, .ref m37, .ref m38, .ref m39, .ref m40, .int s_isBroken, .ref m41, .int s_atoms, .ref m42])), (m30, .inl (ax 0, 180000, .inl wk)), (m29, .inl (ax 0, 16, .inl (fun j => nI (tp j)))), (m24, .inl (ax 0, 64, .inl (fun j => nI (sup ck cn w1 j)))), (m25, .inl (ax 0, 64, .inl (fun j => nI (sup cm cn nn j)))), (m26, .inl (ax 0, 64, .inl (fun j => nI (sup ca cn kt j)))), (m27, .inl (ax 0, 64, .inl (fun j => nI (sup cz cn (us - (tp mm)) j)))), (m28, .inl (ax 0, 180000, .inl (cpf kp (fun j => wk (6 * tp mm + j)) (6 * kt) (6 * (us - tp mm)))))] := ⟨hP1, hD1⟩
      obtain ⟨hP, hD⟩ := hW7
      clear hP1 hD1 hS1
      rw [← hQe]
      obtain ⟨hP9, hD9⟩ := xw_sub2 (wc := (fun (u : Nat → Nat) (xck : Nat → Nat) (xcm : Nat → Nat) (xca : Nat → Nat) (xcz : Nat → Nat) (xkp : Nat → Int32) => [(m0, .inr (11, [.int s_thrown, .int s_taped, .ref m1, .int s_size, .int s_outSize, .ref m2, .int s_kind, .int s_value, .int s_begin, .int s_end, .int s_failed, .ref m3, .ref m4, .ref m5, .int s_isProgram, .int s_half, .ref m6, .ref m7, .ref m8, .ref m9, .ref m10, .ref m11, .ref m12, .ref m13, .ref m14, .ref m15, .ref m16, .ref m17, .ref m18, .ref m19, .ref m20, .int s_signs, .ref m21, .int s_stacked, .ref m22, .int s_name, .int s_shift, .int s_statements, .int s_ifs, .int s_whiles, .int s_variants, .int s_open, .ref m23, .int s_isMade, .int (nI (cn + 1)), .ref m24, .ref m25, .ref m26, .ref m27, .int (nI (u 0)), .ref m28, .int (nI mm), .ref m29, .int (nI (tp mm)), .ref m30, .ref m31, .int s_looked, .int s_rows, .int s_firstRow, .ref m32, .ref m33, .ref m34, .ref m35, .ref m36, .ref m37, .ref m38, .ref m39, .ref m40, .int s_isBroken, .ref m41, .int s_atoms, .ref m42])), (m30, .inl (ax 0, 180000, .inl wk)), (m29, .inl (ax 0, 16, .inl (fun j => nI (tp j)))), (m24, .inl (ax 0, 64, .inl (fun j => nI (xck j)))), (m25, .inl (ax 0, 64, .inl (fun j => nI (xcm j)))), (m26, .inl (ax 0, 64, .inl (fun j => nI (xca j)))), (m27, .inl (ax 0, 64, .inl (fun j => nI (xcz j)))), (m28, .inl (ax 0, 180000, .inl xkp))]) (ixn [(kt + us - (tp mm))]) (sup ck cn w1) (sup cm cn nn) (sup ca cn kt) (sup cz cn (us - (tp mm))) (cpf kp (fun j => wk (6 * tp mm + j)) (6 * kt) (6 * (us - tp mm)))) hP hD [0, 1, 2, 3, 4, 5, 6, 7] (by decide) rfl
      have hex0 : stk wk tp mm (tp mm) := hk.pop
      have hex1 : cds (cpf kp (fun j => wk (6 * tp mm + j)) (6 * kt) (6 * (us - tp mm))) (sup ca cn kt) (sup cz cn (us - (tp mm))) (cn + 1) ((kt + us - (tp mm))) Z := (by have h9 := hcd.add hk2 hZ; rw [show kt + (us - tp mm) = kt + us - tp mm by omega] at h9; exact h9)
      have hex2 : (sup ck cn w1) = sup ck cn w1 := rfl
      have hex3 : (sup cm cn nn) = sup cm cn nn := rfl
      have hex4 : cdl (sup ck cn w1) (sup cm cn nn) (sup ca cn kt) (sup cz cn (us - (tp mm))) (cpf kp (fun j => wk (6 * tp mm + j)) (6 * kt) (6 * (us - tp mm))) (cn + 1) = cdl ck cm ca cz kp cn ++ [(w1, nn, hd9 (stS wk tp (mm + 1) us))] := ((cdl_add hcd).trans (by rw [sgl_sh]; rfl))
      have hex5 : stS wk tp mm (tp mm) = tl9 (stS wk tp (mm + 1) us) := rfl
      have hsp0 : (kt + us - (tp mm)) = kt + (us - tp mm) := (by first | assumption | omega)
      have hsp1 : tp mm + 1 ≤ us := (by have := hk2.pos; omega)
      exact W.vret hx hb hr (fun t ht hW => ⟨⟨ixn [(kt + us - (tp mm))], rfl, ⟨hsp0, hsp1⟩, ⟨sup ck cn w1, sup cm cn nn, sup ca cn kt, sup cz cn (us - (tp mm)), (cpf kp (fun j => wk (6 * tp mm + j)) (6 * kt) (6 * (us - tp mm))), hex0, hex1, hex2, hex3, hex4, hex5, by rw [ht]; exact hP9, hD9⟩⟩, hS.F ht⟩) hS.2.2 d_Model_keepTop_150
    · replace c_13 : ¬ 6 * (us - (tp mm)) ≤ i1 := fun hq9 => c_13 ((nI_leI (a := 6 * (us - (tp mm))) (b := i1) (by first | exact Nat.lt_of_lt_of_le (by assumption) (by decide) | exact Nat.lt_of_le_of_lt (by assumption) (by decide) | omega) (by first | exact Nat.lt_of_lt_of_le (by assumption) (by decide) | exact Nat.lt_of_le_of_lt (by assumption) (by decide) | omega)).mpr hq9)
      refine lv_aload_n hx hb d_Model_keepTop_77 rfl (lv_at hl1 0 rfl) ?_
      refine va_get (D := D) (ci := 11) (v := .ref m28) (C := R_Model) (T := F_Model) (N := 72) hx hb hts i_Model hown hK.1 hP 0 rfl rfl 50 (by decide) (hts _ wd_1086) (fun _ h9 => h9) rfl d_Model_keepTop_78 ?_
      refine lv_bipush (v := 6) hx hb d_Model_keepTop_81 (by decide) ?_
      refine lv_aload_n hx hb d_Model_keepTop_83 rfl (lv_at hl1 0 rfl) ?_
      refine va_get (D := D) (ci := 11) (v := .int (nI kt)) (C := R_Model) (T := F_Model) (N := 72) hx hb hts i_Model hown hK.1 hP 0 rfl rfl 49 (by decide) (hts _ wd_1085) (fun _ h9 => h9) rfl d_Model_keepTop_84 ?_
      refine lv_imul hx hb d_Model_keepTop_87 ?_
      refine lv_topi (fun z_22 ez_22 => ?_)
      have ez_22 : z_22 = nI (6 * kt) := ez_22.trans (pk_mul 6 kt)
      subst ez_22
      refine lv_iload hx hb d_Model_keepTop_88 (lv_at hl1 4 rfl) ?_
      refine lv_iadd hx hb d_Model_keepTop_90 ?_
      refine lv_topi (fun z_23 ez_23 => ?_)
      have ez_23 : z_23 = nI (6 * kt + i1) := ez_23.trans (nI_add (6 * kt) i1)
      subst ez_23
      refine lv_aload_n hx hb d_Model_keepTop_91 rfl (lv_at hl1 0 rfl) ?_
      refine va_get (D := D) (ci := 11) (v := .ref m30) (C := R_Model) (T := F_Model) (N := 72) hx hb hts i_Model hown hK.1 hP 0 rfl rfl 54 (by decide) (hts _ wd_1090) (fun _ h9 => h9) rfl d_Model_keepTop_92 ?_
      refine lv_bipush (v := 6) hx hb d_Model_keepTop_95 (by decide) ?_
      refine lv_iload_n hx hb d_Model_keepTop_97 rfl (lv_at hl1 3 rfl) ?_
      refine lv_imul hx hb d_Model_keepTop_98 ?_
      refine lv_topi (fun z_24 ez_24 => ?_)
      have ez_24 : z_24 = nI (6 * (tp mm)) := ez_24.trans (pk_mul 6 (tp mm))
      subst ez_24
      refine lv_iload hx hb d_Model_keepTop_99 (lv_at hl1 4 rfl) ?_
      refine lv_iadd hx hb d_Model_keepTop_101 ?_
      refine lv_topi (fun z_25 ez_25 => ?_)
      have ez_25 : z_25 = nI (6 * (tp mm) + i1) := ez_25.trans (nI_add (6 * (tp mm)) i1)
      subst ez_25
      refine va_iald hx hb hK.1 hP 1 0 rfl rfl (vp_in_nI (by first | assumption | omega) (by decide)) d_Model_keepTop_102 ?_
      refine W.eq (g2 := F0 m 103 ls [.int (wk (6 * (tp mm) + i1)), .int (nI (6 * kt + i1)), .ref m28]) (by rw [nI_clamp (by first | exact Nat.lt_of_lt_of_le (by assumption) (by decide) | exact Nat.lt_of_le_of_lt (by assumption) (by decide) | omega)]) ?_
      refine va_iast hx hb hK.1 hP hD hS 7 0 rfl rfl (vp_in_nI (by first | assumption | omega) (by decide)) d_Model_keepTop_103 (fun H_26 locs hP1 hD1 hS1 => ?_)
      rw [nI_clamp (by first | exact Nat.lt_of_lt_of_le (by assumption) (by decide) | exact Nat.lt_of_le_of_lt (by assumption) (by decide) | omega)] at hP1 hD1
      clear hP hD hS
      have hS := hS1
      have hW7 : (fun w9 : va_W => va_P D classes w9 H_26 ∧ va_D A w9) [(m0, .inr (11, [.int s_thrown, .int s_taped, .ref m1, .int s_size, .int s_outSize, .ref m2, .int s_kind, .int s_value, .int s_begin, .int s_end, .int s_failed, .ref m3, .ref m4, .ref m5, .int s_isProgram, .int s_half, .ref m6, .ref m7, .ref m8, .ref m9, .ref m10, .ref m11, .ref m12, .ref m13, .ref m14, .ref m15, .ref m16, .ref m17, .ref m18, .ref m19, .ref m20, .int s_signs, .ref m21, .int s_stacked, .ref m22, .int s_name, .int s_shift, .int s_statements, .int s_ifs, .int s_whiles, .int s_variants, .int s_open, .ref m23, .int s_isMade, .int (nI cn), .ref m24, .ref m25, .ref m26, .ref m27, .int (nI kt), .ref m28, .int (nI (mm + 1)), .ref m29, .int (nI us), .ref m30, .ref m31, .int s_looked, .int s_rows, .int s_firstRow, .ref m32, .ref m33, .ref m34, .ref m35, .ref m36, .ref m37, .ref m38, .ref m39, .ref m40, .int s_isBroken, .ref m41, .int s_atoms, .ref m42])), (m30, .inl (ax 0, 180000, .inl wk)), (m29, .inl (ax 0, 16, .inl (fun j => nI (tp j)))), (m24, .inl (ax 0, 64, .inl (fun j => nI (sup ck cn w1 j)))), (m25, .inl (ax 0, 64, .inl (fun j => nI (sup cm cn nn j)))), (m26, .inl (ax 0, 64, .inl (fun j => nI (sup ca cn kt j)))), (m27, .inl (ax 0, 64, .inl (fun j => nI (sup cz cn (us - (tp mm)) j)))), (m28, .inl (ax 0, 180000, .inl (upd (cpf kp (fun j => wk (6 * tp mm + j)) (6 * kt) i1) (6 * kt + i1) (wk (6 * (tp mm) + i1)))))] := ⟨hP1, hD1⟩
      obtain ⟨hP, hD⟩ := hW7
      clear hP1 hD1 hS1
      refine lv_iinc (v := nI (i1 + 1)) (lv' := [(4, .int (nI (i1 + 1))), (0, .ref m0), (1, .int (nI w1)), (2, .int (nI nn)), (3, .int (nI (tp mm)))]) hx hb d_Model_keepTop_104 hl1 (k := 4) rfl (nI_add i1 1) (by decide) rfl (fun ls hl2 => ?_)
      clear hl1; have hl1 := hl2; clear hl2
      refine lv_goto (tgt := 63) hx hb d_Model_keepTop_107 (by decide) ?_
      have hcu : (upd (cpf kp (fun j => wk (6 * tp mm + j)) (6 * kt) i1) (6 * kt + i1) (wk (6 * (tp mm) + i1))) = (cpf kp (fun j => wk (6 * tp mm + j)) (6 * kt) (i1 + 1)) := by have h9 := cpf_upd kp (fun j => wk (6 * tp mm + j)) (6 * kt) i1; exact h9
      rw [hcu] at hP hD
      clear hcu
      have hP7 := hP; have hD7 := hD; clear hP hD
      have hW7 : (fun w9 : va_W => va_P D classes w9 H_26 ∧ va_D A w9) [(m0, .inr (11, [.int s_thrown, .int s_taped, .ref m1, .int s_size, .int s_outSize, .ref m2, .int s_kind, .int s_value, .int s_begin, .int s_end, .int s_failed, .ref m3, .ref m4, .ref m5, .int s_isProgram, .int s_half, .ref m6, .ref m7, .ref m8, .ref m9, .ref m10, .ref m11, .ref m12, .ref m13, .ref m14, .ref m15, .ref m16, .ref m17, .ref m18, .ref m19, .ref m20, .int s_signs, .ref m21, .int s_stacked, .ref m22, .int s_name, .int s_shift, .int s_statements, .int s_ifs, .int s_whiles, .int s_variants, .int s_open, .ref m23, .int s_isMade, .int (nI cn), .ref m24, .ref m25, .ref m26, .ref m27, .int (nI kt), .ref m28, .int (nI (mm + 1)), .ref m29, .int (nI us), .ref m30, .ref m31, .int s_looked, .int s_rows, .int s_firstRow, .ref m32, .ref m33, .ref m34, .ref m35, .ref m36, .ref m37, .ref m38, .ref m39, .ref m40, .int s_isBroken, .ref m41, .int s_atoms, .ref m42])), (m30, .inl (ax 0, 180000, .inl wk)), (m29, .inl (ax 0, 16, .inl (fun j => nI (tp j)))), (m24, .inl (ax 0, 64, .inl (fun j => nI (sup ck cn w1 j)))), (m25, .inl (ax 0, 64, .inl (fun j => nI (sup cm cn nn j)))), (m26, .inl (ax 0, 64, .inl (fun j => nI (sup ca cn kt j)))), (m27, .inl (ax 0, 64, .inl (fun j => nI (sup cz cn (us - (tp mm)) j)))), (m28, .inl (ax 0, 180000, .inl (cpf kp (fun j => wk (6 * tp mm + j)) (6 * kt) (i1 + 1))))] := ⟨hP7, hD7⟩
      obtain ⟨hP, hD⟩ := hW7
      clear hP7 hD7
      exact ih_9 (i1 + 1) (by first | assumption | omega) (by first | assumption | omega) _ _ _ (hP.sub [0, 1, 2, 3, 4, 5, 6, 7] rfl) (hD.sub [0, 1, 2, 3, 4, 5, 6, 7] (by decide) rfl) hS (lv_sub hl1 [1, 2, 3, 4, 0] rfl)
