theorem ps_82 : Cond.selects "TripleDeskModel" ⟨"TripleDeskModel", "substitute", "(III)V"⟩ ⟨"TripleDeskModel", "substitute", "(III)V"⟩ ∈ lw_gd := ps_in (q := (⟨"TripleDeskModel", "substitute", "(III)V"⟩, 72)) (i := 82) (by decide +kernel)
theorem ps_84 : Cond.selects "TripleDeskModel" ⟨"TripleDeskModel", "copyTop", "()V"⟩ ⟨"TripleDeskModel", "copyTop", "()V"⟩ ∈ lw_gd := ps_in (q := (⟨"TripleDeskModel", "copyTop", "()V"⟩, 72)) (i := 84) (by decide +kernel)
theorem ps_86 : Cond.selects "TripleDeskModel" ⟨"TripleDeskModel", "weakenIf", "(I)V"⟩ ⟨"TripleDeskModel", "weakenIf", "(I)V"⟩ ∈ lw_gd := ps_in (q := (⟨"TripleDeskModel", "weakenIf", "(I)V"⟩, 72)) (i := 86) (by decide +kernel)
theorem wd_1424 : ((Jvm.Cond.methodLink "TripleDeskModel" (369 : Nat) ({ cls := "TripleDeskModel", name := "substitute", desc := "(III)V" } : Jvm.MethodName))) ∈ lw_gd := lw_gd_in (i := 1424) (by decide +kernel) rfl
theorem wd_1426 : ((Jvm.Cond.instanceMethod ({ cls := "TripleDeskModel", name := "substitute", desc := "(III)V" } : Jvm.MethodName))) ∈ lw_gd := lw_gd_in (i := 1426) (by decide +kernel) rfl
theorem wd_1427 : ((Jvm.Cond.code ({ cls := "TripleDeskModel", name := "substitute", desc := "(III)V" } : Jvm.MethodName) prog_13_method_51_code (5 : Nat) (Option.none : Option Jvm.ClassFile.FieldType))) ∈ lw_gd := lw_gd_in (i := 1427) (by decide +kernel) rfl
theorem wd_1432 : ((Jvm.Cond.methodLink "TripleDeskModel" (373 : Nat) ({ cls := "TripleDeskModel", name := "copyTop", desc := "()V" } : Jvm.MethodName))) ∈ lw_gd := lw_gd_in (i := 1432) (by decide +kernel) rfl
theorem wd_1434 : ((Jvm.Cond.instanceMethod ({ cls := "TripleDeskModel", name := "copyTop", desc := "()V" } : Jvm.MethodName))) ∈ lw_gd := lw_gd_in (i := 1434) (by decide +kernel) rfl
theorem wd_1435 : ((Jvm.Cond.code ({ cls := "TripleDeskModel", name := "copyTop", desc := "()V" } : Jvm.MethodName) prog_13_method_48_code (3 : Nat) (Option.none : Option Jvm.ClassFile.FieldType))) ∈ lw_gd := lw_gd_in (i := 1435) (by decide +kernel) rfl
theorem wd_1440 : ((Jvm.Cond.methodLink "TripleDeskModel" (376 : Nat) ({ cls := "TripleDeskModel", name := "weakenIf", desc := "(I)V" } : Jvm.MethodName))) ∈ lw_gd := lw_gd_in (i := 1440) (by decide +kernel) rfl
theorem wd_1442 : ((Jvm.Cond.instanceMethod ({ cls := "TripleDeskModel", name := "weakenIf", desc := "(I)V" } : Jvm.MethodName))) ∈ lw_gd := lw_gd_in (i := 1442) (by decide +kernel) rfl
theorem wd_1443 : ((Jvm.Cond.code ({ cls := "TripleDeskModel", name := "weakenIf", desc := "(I)V" } : Jvm.MethodName) prog_13_method_54_code (2 : Nat) (Option.none : Option Jvm.ClassFile.FieldType))) ∈ lw_gd := lw_gd_in (i := 1443) (by decide +kernel) rfl
abbrev b_Model_weaken : ByteArray := prog_13_method_56_code
def y_Model_weaken : MethodName := ⟨R_Model, "weaken", "(I)V"⟩
theorem d_Model_weaken_0 : decode b_Model_weaken 0 = .ok (.aload_n 0, 1) := by decide +kernel
theorem d_Model_weaken_1 : decode b_Model_weaken 1 = .ok (.getfield 29, 3) := by decide +kernel
theorem d_Model_weaken_4 : decode b_Model_weaken 4 = .ok (.iload_n 1, 1) := by decide +kernel
theorem d_Model_weaken_5 : decode b_Model_weaken 5 = .ok (.iaload, 1) := by decide +kernel
theorem d_Model_weaken_6 : decode b_Model_weaken 6 = .ok (.ifCond .ne 28, 3) := by decide +kernel
theorem d_Model_weaken_9 : decode b_Model_weaken 9 = .ok (.aload_n 0, 1) := by decide +kernel
theorem d_Model_weaken_10 : decode b_Model_weaken 10 = .ok (.aload_n 0, 1) := by decide +kernel
theorem d_Model_weaken_11 : decode b_Model_weaken 11 = .ok (.getfield 35, 3) := by decide +kernel
theorem d_Model_weaken_14 : decode b_Model_weaken 14 = .ok (.iload_n 1, 1) := by decide +kernel
theorem d_Model_weaken_15 : decode b_Model_weaken 15 = .ok (.iaload, 1) := by decide +kernel
theorem d_Model_weaken_16 : decode b_Model_weaken 16 = .ok (.aload_n 0, 1) := by decide +kernel
theorem d_Model_weaken_17 : decode b_Model_weaken 17 = .ok (.getfield 38, 3) := by decide +kernel
theorem d_Model_weaken_20 : decode b_Model_weaken 20 = .ok (.iload_n 1, 1) := by decide +kernel
theorem d_Model_weaken_21 : decode b_Model_weaken 21 = .ok (.iaload, 1) := by decide +kernel
theorem d_Model_weaken_22 : decode b_Model_weaken 22 = .ok (.aload_n 0, 1) := by decide +kernel
theorem d_Model_weaken_23 : decode b_Model_weaken 23 = .ok (.getfield 41, 3) := by decide +kernel
theorem d_Model_weaken_26 : decode b_Model_weaken 26 = .ok (.iload_n 1, 1) := by decide +kernel
theorem d_Model_weaken_27 : decode b_Model_weaken 27 = .ok (.iaload, 1) := by decide +kernel
theorem d_Model_weaken_28 : decode b_Model_weaken 28 = .ok (.invokevirtual 369, 3) := by decide +kernel
theorem d_Model_weaken_31 : decode b_Model_weaken 31 = .ok (.goto 188, 3) := by decide +kernel
theorem d_Model_weaken_34 : decode b_Model_weaken 34 = .ok (.aload_n 0, 1) := by decide +kernel
theorem d_Model_weaken_35 : decode b_Model_weaken 35 = .ok (.getfield 29, 3) := by decide +kernel
theorem d_Model_weaken_38 : decode b_Model_weaken 38 = .ok (.iload_n 1, 1) := by decide +kernel
theorem d_Model_weaken_39 : decode b_Model_weaken 39 = .ok (.iaload, 1) := by decide +kernel
theorem d_Model_weaken_40 : decode b_Model_weaken 40 = .ok (.iconst 4, 1) := by decide +kernel
theorem d_Model_weaken_41 : decode b_Model_weaken 41 = .ok (.if_icmp .ne 10, 3) := by decide +kernel
theorem d_Model_weaken_44 : decode b_Model_weaken 44 = .ok (.aload_n 0, 1) := by decide +kernel
theorem d_Model_weaken_45 : decode b_Model_weaken 45 = .ok (.invokevirtual 373, 3) := by decide +kernel
theorem d_Model_weaken_48 : decode b_Model_weaken 48 = .ok (.goto 171, 3) := by decide +kernel
theorem d_Model_weaken_51 : decode b_Model_weaken 51 = .ok (.aload_n 0, 1) := by decide +kernel
theorem d_Model_weaken_52 : decode b_Model_weaken 52 = .ok (.getfield 29, 3) := by decide +kernel
theorem d_Model_weaken_55 : decode b_Model_weaken 55 = .ok (.iload_n 1, 1) := by decide +kernel
theorem d_Model_weaken_56 : decode b_Model_weaken 56 = .ok (.iaload, 1) := by decide +kernel
theorem d_Model_weaken_57 : decode b_Model_weaken 57 = .ok (.iconst 3, 1) := by decide +kernel
theorem d_Model_weaken_58 : decode b_Model_weaken 58 = .ok (.if_icmp .ne 10, 3) := by decide +kernel
theorem d_Model_weaken_61 : decode b_Model_weaken 61 = .ok (.aload_n 0, 1) := by decide +kernel
theorem d_Model_weaken_62 : decode b_Model_weaken 62 = .ok (.invokevirtual 340, 3) := by decide +kernel
theorem d_Model_weaken_65 : decode b_Model_weaken 65 = .ok (.goto 154, 3) := by decide +kernel
theorem d_Model_weaken_68 : decode b_Model_weaken 68 = .ok (.aload_n 0, 1) := by decide +kernel
theorem d_Model_weaken_69 : decode b_Model_weaken 69 = .ok (.getfield 29, 3) := by decide +kernel
theorem d_Model_weaken_72 : decode b_Model_weaken 72 = .ok (.iload_n 1, 1) := by decide +kernel
theorem d_Model_weaken_73 : decode b_Model_weaken 73 = .ok (.iaload, 1) := by decide +kernel
theorem d_Model_weaken_74 : decode b_Model_weaken 74 = .ok (.iconst 2, 1) := by decide +kernel
theorem d_Model_weaken_75 : decode b_Model_weaken 75 = .ok (.if_icmp .ne 11, 3) := by decide +kernel
theorem d_Model_weaken_78 : decode b_Model_weaken 78 = .ok (.aload_n 0, 1) := by decide +kernel
theorem d_Model_weaken_79 : decode b_Model_weaken 79 = .ok (.iload_n 1, 1) := by decide +kernel
theorem d_Model_weaken_80 : decode b_Model_weaken 80 = .ok (.invokevirtual 376, 3) := by decide +kernel
theorem d_Model_weaken_83 : decode b_Model_weaken 83 = .ok (.goto 136, 3) := by decide +kernel
theorem d_Model_weaken_86 : decode b_Model_weaken 86 = .ok (.aload_n 0, 1) := by decide +kernel
theorem d_Model_weaken_87 : decode b_Model_weaken 87 = .ok (.getfield 29, 3) := by decide +kernel
theorem d_Model_weaken_90 : decode b_Model_weaken 90 = .ok (.iload_n 1, 1) := by decide +kernel
theorem d_Model_weaken_91 : decode b_Model_weaken 91 = .ok (.iaload, 1) := by decide +kernel
theorem d_Model_weaken_92 : decode b_Model_weaken 92 = .ok (.bipush 6, 2) := by decide +kernel
theorem d_Model_weaken_94 : decode b_Model_weaken 94 = .ok (.if_icmp .ne 39, 3) := by decide +kernel
theorem d_Model_weaken_97 : decode b_Model_weaken 97 = .ok (.aload_n 0, 1) := by decide +kernel
theorem d_Model_weaken_98 : decode b_Model_weaken 98 = .ok (.getfield 63, 3) := by decide +kernel
theorem d_Model_weaken_101 : decode b_Model_weaken 101 = .ok (.iload_n 1, 1) := by decide +kernel
theorem d_Model_weaken_102 : decode b_Model_weaken 102 = .ok (.iaload, 1) := by decide +kernel
theorem d_Model_weaken_103 : decode b_Model_weaken 103 = .ok (.istore_n 2, 1) := by decide +kernel
theorem d_Model_weaken_104 : decode b_Model_weaken 104 = .ok (.aload_n 0, 1) := by decide +kernel
theorem d_Model_weaken_105 : decode b_Model_weaken 105 = .ok (.iload_n 2, 1) := by decide +kernel
theorem d_Model_weaken_106 : decode b_Model_weaken 106 = .ok (.invokevirtual 355, 3) := by decide +kernel
theorem d_Model_weaken_109 : decode b_Model_weaken 109 = .ok (.aload_n 0, 1) := by decide +kernel
theorem d_Model_weaken_110 : decode b_Model_weaken 110 = .ok (.getfield 56, 3) := by decide +kernel
theorem d_Model_weaken_113 : decode b_Model_weaken 113 = .ok (.iload_n 2, 1) := by decide +kernel
theorem d_Model_weaken_114 : decode b_Model_weaken 114 = .ok (.baload, 1) := by decide +kernel
theorem d_Model_weaken_115 : decode b_Model_weaken 115 = .ok (.ifCond .eq 15, 3) := by decide +kernel
theorem d_Model_weaken_118 : decode b_Model_weaken 118 = .ok (.aload_n 0, 1) := by decide +kernel
theorem d_Model_weaken_119 : decode b_Model_weaken 119 = .ok (.iload_n 2, 1) := by decide +kernel
theorem d_Model_weaken_120 : decode b_Model_weaken 120 = .ok (.iconst 0, 1) := by decide +kernel
theorem d_Model_weaken_121 : decode b_Model_weaken 121 = .ok (.iconst 1, 1) := by decide +kernel
theorem d_Model_weaken_122 : decode b_Model_weaken 122 = .ok (.invokevirtual 358, 3) := by decide +kernel
theorem d_Model_weaken_125 : decode b_Model_weaken 125 = .ok (.aload_n 0, 1) := by decide +kernel
theorem d_Model_weaken_126 : decode b_Model_weaken 126 = .ok (.iconst 2, 1) := by decide +kernel
theorem d_Model_weaken_127 : decode b_Model_weaken 127 = .ok (.invokevirtual 343, 3) := by decide +kernel
theorem d_Model_weaken_130 : decode b_Model_weaken 130 = .ok (.goto 89, 3) := by decide +kernel
theorem d_Model_weaken_133 : decode b_Model_weaken 133 = .ok (.aload_n 0, 1) := by decide +kernel
theorem d_Model_weaken_134 : decode b_Model_weaken 134 = .ok (.getfield 29, 3) := by decide +kernel
theorem d_Model_weaken_137 : decode b_Model_weaken 137 = .ok (.iload_n 1, 1) := by decide +kernel
theorem d_Model_weaken_138 : decode b_Model_weaken 138 = .ok (.iaload, 1) := by decide +kernel
theorem d_Model_weaken_139 : decode b_Model_weaken 139 = .ok (.iconst 5, 1) := by decide +kernel
theorem d_Model_weaken_140 : decode b_Model_weaken 140 = .ok (.if_icmp .ne 11, 3) := by decide +kernel
theorem d_Model_weaken_143 : decode b_Model_weaken 143 = .ok (.aload_n 0, 1) := by decide +kernel
theorem d_Model_weaken_144 : decode b_Model_weaken 144 = .ok (.iload_n 1, 1) := by decide +kernel
theorem d_Model_weaken_145 : decode b_Model_weaken 145 = .ok (.invokevirtual 379, 3) := by decide +kernel
theorem d_Model_weaken_148 : decode b_Model_weaken 148 = .ok (.goto 71, 3) := by decide +kernel
theorem d_Model_weaken_151 : decode b_Model_weaken 151 = .ok (.aload_n 0, 1) := by decide +kernel
theorem d_Model_weaken_152 : decode b_Model_weaken 152 = .ok (.getfield 29, 3) := by decide +kernel
theorem d_Model_weaken_155 : decode b_Model_weaken 155 = .ok (.iload_n 1, 1) := by decide +kernel
theorem d_Model_weaken_156 : decode b_Model_weaken 156 = .ok (.iaload, 1) := by decide +kernel
theorem d_Model_weaken_157 : decode b_Model_weaken 157 = .ok (.bipush 7, 2) := by decide +kernel
theorem d_Model_weaken_159 : decode b_Model_weaken 159 = .ok (.if_icmp .ne 20, 3) := by decide +kernel
theorem d_Model_weaken_162 : decode b_Model_weaken 162 = .ok (.aload_n 0, 1) := by decide +kernel
theorem d_Model_weaken_163 : decode b_Model_weaken 163 = .ok (.iload_n 1, 1) := by decide +kernel
theorem d_Model_weaken_164 : decode b_Model_weaken 164 = .ok (.invokevirtual 352, 3) := by decide +kernel
theorem d_Model_weaken_167 : decode b_Model_weaken 167 = .ok (.aload_n 0, 1) := by decide +kernel
theorem d_Model_weaken_168 : decode b_Model_weaken 168 = .ok (.invokevirtual 340, 3) := by decide +kernel
theorem d_Model_weaken_171 : decode b_Model_weaken 171 = .ok (.aload_n 0, 1) := by decide +kernel
theorem d_Model_weaken_172 : decode b_Model_weaken 172 = .ok (.iconst 2, 1) := by decide +kernel
theorem d_Model_weaken_173 : decode b_Model_weaken 173 = .ok (.invokevirtual 343, 3) := by decide +kernel
theorem d_Model_weaken_176 : decode b_Model_weaken 176 = .ok (.goto 43, 3) := by decide +kernel
theorem d_Model_weaken_179 : decode b_Model_weaken 179 = .ok (.aload_n 0, 1) := by decide +kernel
theorem d_Model_weaken_180 : decode b_Model_weaken 180 = .ok (.getfield 29, 3) := by decide +kernel
theorem d_Model_weaken_183 : decode b_Model_weaken 183 = .ok (.iload_n 1, 1) := by decide +kernel
theorem d_Model_weaken_184 : decode b_Model_weaken 184 = .ok (.iaload, 1) := by decide +kernel
theorem d_Model_weaken_185 : decode b_Model_weaken 185 = .ok (.bipush 8, 2) := by decide +kernel
theorem d_Model_weaken_187 : decode b_Model_weaken 187 = .ok (.if_icmp .ne 32, 3) := by decide +kernel
theorem d_Model_weaken_190 : decode b_Model_weaken 190 = .ok (.aload_n 0, 1) := by decide +kernel
theorem d_Model_weaken_191 : decode b_Model_weaken 191 = .ok (.iload_n 1, 1) := by decide +kernel
theorem d_Model_weaken_192 : decode b_Model_weaken 192 = .ok (.invokevirtual 352, 3) := by decide +kernel
theorem d_Model_weaken_195 : decode b_Model_weaken 195 = .ok (.aload_n 0, 1) := by decide +kernel
theorem d_Model_weaken_196 : decode b_Model_weaken 196 = .ok (.invokevirtual 340, 3) := by decide +kernel
theorem d_Model_weaken_199 : decode b_Model_weaken 199 = .ok (.aload_n 0, 1) := by decide +kernel
theorem d_Model_weaken_200 : decode b_Model_weaken 200 = .ok (.invokevirtual 362, 3) := by decide +kernel
theorem d_Model_weaken_203 : decode b_Model_weaken 203 = .ok (.aload_n 0, 1) := by decide +kernel
theorem d_Model_weaken_204 : decode b_Model_weaken 204 = .ok (.iconst 4, 1) := by decide +kernel
theorem d_Model_weaken_205 : decode b_Model_weaken 205 = .ok (.aload_n 0, 1) := by decide +kernel
theorem d_Model_weaken_206 : decode b_Model_weaken 206 = .ok (.getfield 32, 3) := by decide +kernel
theorem d_Model_weaken_209 : decode b_Model_weaken 209 = .ok (.iload_n 1, 1) := by decide +kernel
theorem d_Model_weaken_210 : decode b_Model_weaken 210 = .ok (.iaload, 1) := by decide +kernel
theorem d_Model_weaken_211 : decode b_Model_weaken 211 = .ok (.invokevirtual 365, 3) := by decide +kernel
theorem d_Model_weaken_214 : decode b_Model_weaken 214 = .ok (.aload_n 0, 1) := by decide +kernel
theorem d_Model_weaken_215 : decode b_Model_weaken 215 = .ok (.iload_n 1, 1) := by decide +kernel
theorem d_Model_weaken_216 : decode b_Model_weaken 216 = .ok (.invokevirtual 352, 3) := by decide +kernel
theorem d_Model_weaken_219 : decode b_Model_weaken 219 = .ok (.return_, 1) := by decide +kernel
set_option maxHeartbeats 40000000 in
set_option maxRecDepth 100000 in
theorem c_M_weaken_set (l : Launch) (D : va_G) (ax : Nat → ClassId) (m0 m1 m2 m3 m4 m5 m6 m7 m8 m9 m10 m11 m12 m13 m14 m15 m16 m17 m18 m19 m20 m21 m22 m23 m24 m25 m26 m27 m28 m29 m30 m31 m32 m33 m34 m35 m36 m37 m38 m39 m40 m41 m42 : Nat) (s_thrown s_taped s_size s_outSize s_kind s_value s_begin s_end s_failed s_isProgram s_half s_signs s_stacked s_name s_shift s_statements s_ifs s_whiles s_variants s_open s_isMade s_conditions s_kept s_looked s_rows s_firstRow s_isBroken s_atoms : Int32) (mm us ix : Nat) (wk : Nat → Int32) (tp op : Nat → Nat) (tg : Nat → Nat) (tn tm : Nat → Int32) (sz : Nat) (hix : ix < 80) (hop : op ix = 0) (hm1 : mm < 12) (hus : us ≤ 30000) (hk : stk wk tp (mm + 1) us) (hnm : nmo 6 (tn ix)) : Met l y_Model_weaken (xws (.code y_Model_weaken b_Model_weaken 3 none)) ({ frames := 30, cells := 0, slots := 0, locals := 1200 }) (va_Pc [.ref m0, .int (nI ix)] (xo D ax [(m0, .inr (11, [.int s_thrown, .int s_taped, .ref m1, .int s_size, .int s_outSize, .ref m2, .int s_kind, .int s_value, .int s_begin, .int s_end, .int s_failed, .ref m3, .ref m4, .ref m5, .int s_isProgram, .int s_half, .ref m6, .ref m7, .ref m8, .ref m9, .ref m10, .ref m11, .ref m12, .ref m13, .ref m14, .ref m15, .ref m16, .ref m17, .ref m18, .ref m19, .ref m20, .int s_signs, .ref m21, .int s_stacked, .ref m22, .int s_name, .int s_shift, .int s_statements, .int s_ifs, .int s_whiles, .int s_variants, .int s_open, .ref m23, .int s_isMade, .int s_conditions, .ref m24, .ref m25, .ref m26, .ref m27, .int s_kept, .ref m28, .int (nI (mm + 1)), .ref m29, .int (nI us), .ref m30, .ref m31, .int s_looked, .int s_rows, .int s_firstRow, .ref m32, .ref m33, .ref m34, .ref m35, .ref m36, .ref m37, .ref m38, .ref m39, .ref m40, .int s_isBroken, .ref m41, .int s_atoms, .ref m42])), (m30, .inl (ax 0, 180000, .inl wk)), (m29, .inl (ax 0, 16, .inl (fun j => nI (tp j)))), (m7, .inl (ax 0, 80, .inl (fun j => nI (op j)))), (m9, .inl (ax 0, 80, .inl (fun j => nI (tg j)))), (m10, .inl (ax 0, 80, .inl tn)), (m11, .inl (ax 0, 80, .inl tm))] sz)) ((va_Qv (fun (u : Nat → Nat) => True) (fun (u : Nat → Nat) (t9 : State) => ∃ xwk : Nat → Int32, (stk xwk tp (mm + 1) us) ∧ va_P D classes [(m0, .inr (11, [.int s_thrown, .int s_taped, .ref m1, .int s_size, .int s_outSize, .ref m2, .int s_kind, .int s_value, .int s_begin, .int s_end, .int s_failed, .ref m3, .ref m4, .ref m5, .int s_isProgram, .int s_half, .ref m6, .ref m7, .ref m8, .ref m9, .ref m10, .ref m11, .ref m12, .ref m13, .ref m14, .ref m15, .ref m16, .ref m17, .ref m18, .ref m19, .ref m20, .int s_signs, .ref m21, .int s_stacked, .ref m22, .int s_name, .int s_shift, .int s_statements, .int s_ifs, .int s_whiles, .int s_variants, .int s_open, .ref m23, .int s_isMade, .int s_conditions, .ref m24, .ref m25, .ref m26, .ref m27, .int s_kept, .ref m28, .int (nI (mm + 1)), .ref m29, .int (nI us), .ref m30, .ref m31, .int s_looked, .int s_rows, .int s_firstRow, .ref m32, .ref m33, .ref m34, .ref m35, .ref m36, .ref m37, .ref m38, .ref m39, .ref m40, .int s_isBroken, .ref m41, .int s_atoms, .ref m42])), (m30, .inl (ax 0, 180000, .inl xwk)), (m29, .inl (ax 0, 16, .inl (fun j => nI (tp j)))), (m7, .inl (ax 0, 80, .inl (fun j => nI (op j)))), (m9, .inl (ax 0, 80, .inl (fun j => nI (tg j)))), (m10, .inl (ax 0, 80, .inl tn)), (m11, .inl (ax 0, 80, .inl tm))] t9.heap ∧ va_D (va_A [(m0, .inr (11, [.int s_thrown, .int s_taped, .ref m1, .int s_size, .int s_outSize, .ref m2, .int s_kind, .int s_value, .int s_begin, .int s_end, .int s_failed, .ref m3, .ref m4, .ref m5, .int s_isProgram, .int s_half, .ref m6, .ref m7, .ref m8, .ref m9, .ref m10, .ref m11, .ref m12, .ref m13, .ref m14, .ref m15, .ref m16, .ref m17, .ref m18, .ref m19, .ref m20, .int s_signs, .ref m21, .int s_stacked, .ref m22, .int s_name, .int s_shift, .int s_statements, .int s_ifs, .int s_whiles, .int s_variants, .int s_open, .ref m23, .int s_isMade, .int s_conditions, .ref m24, .ref m25, .ref m26, .ref m27, .int s_kept, .ref m28, .int (nI (mm + 1)), .ref m29, .int (nI us), .ref m30, .ref m31, .int s_looked, .int s_rows, .int s_firstRow, .ref m32, .ref m33, .ref m34, .ref m35, .ref m36, .ref m37, .ref m38, .ref m39, .ref m40, .int s_isBroken, .ref m41, .int s_atoms, .ref m42])), (m30, .inl (ax 0, 180000, .inl wk)), (m29, .inl (ax 0, 16, .inl (fun j => nI (tp j)))), (m7, .inl (ax 0, 80, .inl (fun j => nI (op j)))), (m9, .inl (ax 0, 80, .inl (fun j => nI (tg j)))), (m10, .inl (ax 0, 80, .inl tn)), (m11, .inl (ax 0, 80, .inl tm))] sz) [(m0, .inr (11, [.int s_thrown, .int s_taped, .ref m1, .int s_size, .int s_outSize, .ref m2, .int s_kind, .int s_value, .int s_begin, .int s_end, .int s_failed, .ref m3, .ref m4, .ref m5, .int s_isProgram, .int s_half, .ref m6, .ref m7, .ref m8, .ref m9, .ref m10, .ref m11, .ref m12, .ref m13, .ref m14, .ref m15, .ref m16, .ref m17, .ref m18, .ref m19, .ref m20, .int s_signs, .ref m21, .int s_stacked, .ref m22, .int s_name, .int s_shift, .int s_statements, .int s_ifs, .int s_whiles, .int s_variants, .int s_open, .ref m23, .int s_isMade, .int s_conditions, .ref m24, .ref m25, .ref m26, .ref m27, .int s_kept, .ref m28, .int (nI (mm + 1)), .ref m29, .int (nI us), .ref m30, .ref m31, .int s_looked, .int s_rows, .int s_firstRow, .ref m32, .ref m33, .ref m34, .ref m35, .ref m36, .ref m37, .ref m38, .ref m39, .ref m40, .int s_isBroken, .ref m41, .int s_atoms, .ref m42])), (m30, .inl (ax 0, 180000, .inl xwk)), (m29, .inl (ax 0, 16, .inl (fun j => nI (tp j)))), (m7, .inl (ax 0, 80, .inl (fun j => nI (op j)))), (m9, .inl (ax 0, 80, .inl (fun j => nI (tg j)))), (m10, .inl (ax 0, 80, .inl tn)), (m11, .inl (ax 0, 80, .inl tm))]) (va_A [(m0, .inr (11, [.int s_thrown, .int s_taped, .ref m1, .int s_size, .int s_outSize, .ref m2, .int s_kind, .int s_value, .int s_begin, .int s_end, .int s_failed, .ref m3, .ref m4, .ref m5, .int s_isProgram, .int s_half, .ref m6, .ref m7, .ref m8, .ref m9, .ref m10, .ref m11, .ref m12, .ref m13, .ref m14, .ref m15, .ref m16, .ref m17, .ref m18, .ref m19, .ref m20, .int s_signs, .ref m21, .int s_stacked, .ref m22, .int s_name, .int s_shift, .int s_statements, .int s_ifs, .int s_whiles, .int s_variants, .int s_open, .ref m23, .int s_isMade, .int s_conditions, .ref m24, .ref m25, .ref m26, .ref m27, .int s_kept, .ref m28, .int (nI (mm + 1)), .ref m29, .int (nI us), .ref m30, .ref m31, .int s_looked, .int s_rows, .int s_firstRow, .ref m32, .ref m33, .ref m34, .ref m35, .ref m36, .ref m37, .ref m38, .ref m39, .ref m40, .int s_isBroken, .ref m41, .int s_atoms, .ref m42])), (m30, .inl (ax 0, 180000, .inl wk)), (m29, .inl (ax 0, 16, .inl (fun j => nI (tp j)))), (m7, .inl (ax 0, 80, .inl (fun j => nI (op j)))), (m9, .inl (ax 0, 80, .inl (fun j => nI (tg j)))), (m10, .inl (ax 0, 80, .inl tn)), (m11, .inl (ax 0, 80, .inl tm))] sz))) 0 0 (va_A [(m0, .inr (11, [.int s_thrown, .int s_taped, .ref m1, .int s_size, .int s_outSize, .ref m2, .int s_kind, .int s_value, .int s_begin, .int s_end, .int s_failed, .ref m3, .ref m4, .ref m5, .int s_isProgram, .int s_half, .ref m6, .ref m7, .ref m8, .ref m9, .ref m10, .ref m11, .ref m12, .ref m13, .ref m14, .ref m15, .ref m16, .ref m17, .ref m18, .ref m19, .ref m20, .int s_signs, .ref m21, .int s_stacked, .ref m22, .int s_name, .int s_shift, .int s_statements, .int s_ifs, .int s_whiles, .int s_variants, .int s_open, .ref m23, .int s_isMade, .int s_conditions, .ref m24, .ref m25, .ref m26, .ref m27, .int s_kept, .ref m28, .int (nI (mm + 1)), .ref m29, .int (nI us), .ref m30, .ref m31, .int s_looked, .int s_rows, .int s_firstRow, .ref m32, .ref m33, .ref m34, .ref m35, .ref m36, .ref m37, .ref m38, .ref m39, .ref m40, .int s_isBroken, .ref m41, .int s_atoms, .ref m42])), (m30, .inl (ax 0, 180000, .inl wk)), (m29, .inl (ax 0, 16, .inl (fun j => nI (tp j)))), (m7, .inl (ax 0, 80, .inl (fun j => nI (op j)))), (m9, .inl (ax 0, 80, .inl (fun j => nI (tg j)))), (m10, .inl (ax 0, 80, .inl tn)), (m11, .inl (ax 0, 80, .inl tm))] sz) := by
  refine Met.ofW (cc := b_Model_weaken) (maxL := 3) (ret := none) (by decide) rfl ?_
  intro p e s m args below meth c s₁ B hml hv
  obtain ⟨rfl, hsz, hP, hK, hD0⟩ := hv
  have hx := B.exec
  have hb := B.bytes
  have hr := B.returns
  have hts := xw_hts B.pre
  have hown : s.vm.findClass R_Model = some m.cls := findClass_of_methodNamed B.named
  have hlocks := B.notSynchronized
  subst hsz
  have hD := hD0.self (sz := s.heap.size)
  have hN := xz_entry hP
  generalize hAe : va_A [(m0, .inr (11, [.int s_thrown, .int s_taped, .ref m1, .int s_size, .int s_outSize, .ref m2, .int s_kind, .int s_value, .int s_begin, .int s_end, .int s_failed, .ref m3, .ref m4, .ref m5, .int s_isProgram, .int s_half, .ref m6, .ref m7, .ref m8, .ref m9, .ref m10, .ref m11, .ref m12, .ref m13, .ref m14, .ref m15, .ref m16, .ref m17, .ref m18, .ref m19, .ref m20, .int s_signs, .ref m21, .int s_stacked, .ref m22, .int s_name, .int s_shift, .int s_statements, .int s_ifs, .int s_whiles, .int s_variants, .int s_open, .ref m23, .int s_isMade, .int s_conditions, .ref m24, .ref m25, .ref m26, .ref m27, .int s_kept, .ref m28, .int (nI (mm + 1)), .ref m29, .int (nI us), .ref m30, .ref m31, .int s_looked, .int s_rows, .int s_firstRow, .ref m32, .ref m33, .ref m34, .ref m35, .ref m36, .ref m37, .ref m38, .ref m39, .ref m40, .int s_isBroken, .ref m41, .int s_atoms, .ref m42])), (m30, .inl (ax 0, 180000, .inl wk)), (m29, .inl (ax 0, 16, .inl (fun j => nI (tp j)))), (m7, .inl (ax 0, 80, .inl (fun j => nI (op j)))), (m9, .inl (ax 0, 80, .inl (fun j => nI (tg j)))), (m10, .inl (ax 0, 80, .inl tn)), (m11, .inl (ax 0, 80, .inl tm))] s.heap.size = A at hD hN ⊢
  have hA : ∀ q : Nat, s.heap.size ≤ q → A q := fun q h => by rw [← hAe]; exact Or.inr h
  have hS : va_S A s.heap s.heap [] := va_S.rf
  have hl0 := lv_entry ([.ref m0, .int (nI ix)]) (n := 3) (Nat.le_of_ble_eq_true rfl)
  rw [lg_entry_eq]
  generalize (lg_sl ([.ref m0, .int (nI ix)]) ++ List.replicate (3 - (lg_sl ([.ref m0, .int (nI ix)])).length) Slot.unset).toArray = ls at hl0 ⊢
  have hl1 : lv_has ls 3 [(0, .ref m0), (1, .int (nI ix))] := hl0
  refine lv_aload_n hx hb d_Model_weaken_0 rfl (lv_at hl1 0 rfl) ?_
  refine va_get (D := D) (ci := 11) (v := .ref m7) (C := R_Model) (T := F_Model) (N := 72) hx hb hts i_Model hown hK.1 hP 0 rfl rfl 17 (by decide) (hts _ wd_1053) (fun _ h9 => h9) rfl d_Model_weaken_1 ?_
  refine lv_iload_n hx hb d_Model_weaken_4 rfl (lv_at hl1 1 rfl) ?_
  refine va_iald hx hb hK.1 hP 3 0 rfl rfl (vp_in_nI (by omega) (by omega)) d_Model_weaken_5 ?_
  refine W.eq (g2 := F0 m 6 ls [.int (nI (op ix))]) (by rw [nI_clamp (by omega)]) ?_
  refine lv_if_ne (tgt := 34) hx hb d_Model_weaken_6 (by decide) (fun c_1 => ?_) (fun c_1 => ?_)
  · exfalso
    replace c_1 : ¬ op ix = 0 := fun hq9 => c_1 ((nI_eq (a := op ix) (b := 0) (by omega) (by omega)).mpr hq9)
    omega
  replace c_1 : op ix = 0 := (nI_eq (a := op ix) (b := 0) (by omega) (by omega)).mp c_1
  refine lv_aload_n hx hb d_Model_weaken_9 rfl (lv_at hl1 0 rfl) ?_
  refine lv_aload_n hx hb d_Model_weaken_10 rfl (lv_at hl1 0 rfl) ?_
  refine va_get (D := D) (ci := 11) (v := .ref m9) (C := R_Model) (T := F_Model) (N := 72) hx hb hts i_Model hown hK.1 hP 0 rfl rfl 19 (by decide) (hts _ wd_1055) (fun _ h9 => h9) rfl d_Model_weaken_11 ?_
  refine lv_iload_n hx hb d_Model_weaken_14 rfl (lv_at hl1 1 rfl) ?_
  refine va_iald hx hb hK.1 hP 4 0 rfl rfl (vp_in_nI (by omega) (by omega)) d_Model_weaken_15 ?_
  refine W.eq (g2 := F0 m 16 ls [.int (nI (tg ix)), .ref m0]) (by rw [nI_clamp (by omega)]) ?_
  refine lv_aload_n hx hb d_Model_weaken_16 rfl (lv_at hl1 0 rfl) ?_
  refine va_get (D := D) (ci := 11) (v := .ref m10) (C := R_Model) (T := F_Model) (N := 72) hx hb hts i_Model hown hK.1 hP 0 rfl rfl 20 (by decide) (hts _ wd_1056) (fun _ h9 => h9) rfl d_Model_weaken_17 ?_
  refine lv_iload_n hx hb d_Model_weaken_20 rfl (lv_at hl1 1 rfl) ?_
  refine va_iald hx hb hK.1 hP 5 0 rfl rfl (vp_in_nI (by omega) (by omega)) d_Model_weaken_21 ?_
  refine W.eq (g2 := F0 m 22 ls [.int (tn ix), .int (nI (tg ix)), .ref m0]) (by rw [nI_clamp (by omega)]) ?_
  refine lv_aload_n hx hb d_Model_weaken_22 rfl (lv_at hl1 0 rfl) ?_
  refine va_get (D := D) (ci := 11) (v := .ref m11) (C := R_Model) (T := F_Model) (N := 72) hx hb hts i_Model hown hK.1 hP 0 rfl rfl 21 (by decide) (hts _ wd_1057) (fun _ h9 => h9) rfl d_Model_weaken_23 ?_
  refine lv_iload_n hx hb d_Model_weaken_26 rfl (lv_at hl1 1 rfl) ?_
  refine va_iald hx hb hK.1 hP 6 0 rfl rfl (vp_in_nI (by omega) (by omega)) d_Model_weaken_27 ?_
  refine W.eq (g2 := F0 m 28 ls [.int (tm ix), .int (tn ix), .int (nI (tg ix)), .ref m0]) (by rw [nI_clamp (by omega)]) ?_
  obtain ⟨hPc, hDc, hFc, hCs⟩ := xw_sub3 (wc := [(m0, .inr (11, [.int s_thrown, .int s_taped, .ref m1, .int s_size, .int s_outSize, .ref m2, .int s_kind, .int s_value, .int s_begin, .int s_end, .int s_failed, .ref m3, .ref m4, .ref m5, .int s_isProgram, .int s_half, .ref m6, .ref m7, .ref m8, .ref m9, .ref m10, .ref m11, .ref m12, .ref m13, .ref m14, .ref m15, .ref m16, .ref m17, .ref m18, .ref m19, .ref m20, .int s_signs, .ref m21, .int s_stacked, .ref m22, .int s_name, .int s_shift, .int s_statements, .int s_ifs, .int s_whiles, .int s_variants, .int s_open, .ref m23, .int s_isMade, .int s_conditions, .ref m24, .ref m25, .ref m26, .ref m27, .int s_kept, .ref m28, .int (nI (mm + 1)), .ref m29, .int (nI us), .ref m30, .ref m31, .int s_looked, .int s_rows, .int s_firstRow, .ref m32, .ref m33, .ref m34, .ref m35, .ref m36, .ref m37, .ref m38, .ref m39, .ref m40, .int s_isBroken, .ref m41, .int s_atoms, .ref m42])), (m30, .inl (ax 0, 180000, .inl wk)), (m29, .inl (ax 0, 16, .inl (fun j => nI (tp j))))]) hP hD hS hA [0, 1, 2] (by decide) rfl
  have hz := xz_of hN hS
  refine va_callv (va_runV (As := [.int (nI (tg ix)), .int (tn ix), .int (tm ix)]) (rest := []) ⟨hx, hb, hml, hown, hts⟩ (c_M_substitute l D ax m0 m1 m2 m3 m4 m5 m6 m7 m8 m9 m10 m11 m12 m13 m14 m15 m16 m17 m18 m19 m20 m21 m22 m23 m24 m25 m26 m27 m28 m29 m30 m31 m32 m33 m34 m35 m36 m37 m38 m39 m40 m41 m42 s_thrown s_taped s_size s_outSize s_kind s_value s_begin s_end s_failed s_isProgram s_half s_signs s_stacked s_name s_shift s_statements s_ifs s_whiles s_variants s_open s_isMade s_conditions s_kept s_looked s_rows s_firstRow s_isBroken s_atoms mm us wk tp (nI (tg ix)) (tn ix) (tm ix) s.heap.size (by omega) (by omega) hk (hnm.imp id (fun ⟨v, h, e⟩ => ⟨v, by omega, e⟩))) (xcV (n := 3) hts wd_1427 wd_15 wd_1424 wd_1426 ps_82 rfl rfl (by decide +kernel) ⟨Nat.le_of_ble_eq_true rfl, Nat.le_of_ble_eq_true rfl⟩) (xpV (ci := 11) (q0 := 0) (As := [.int (nI (tg ix)), .int (tn ix), .int (tm ix)]) hPc hK hz hDc rfl rfl) rfl rfl hl1.1 rfl (lv_room (Nat.le_of_ble_eq_true rfl)) d_Model_weaken_28 ⟨Nat.le_of_ble_eq_true rfl, Nat.le_of_ble_eq_true rfl⟩) hS (fun q _ h => hFc q h) hFc (fun u_2 t H_3 locs ht hvm hw hB hz1 hk1 hS1 => ?_)
  try dsimp only at hw
  obtain ⟨x_5, hx_6, hP1, hD1⟩ := hB
  rw [ht] at hP1
  have hjn := xw_join3 (wl := [(m7, .inl (ax 0, 80, .inl (fun j => nI (op j)))), (m9, .inl (ax 0, 80, .inl (fun j => nI (tg j)))), (m10, .inl (ax 0, 80, .inl tn)), (m11, .inl (ax 0, 80, .inl tm)), (m0, .inr (11, [.int s_thrown, .int s_taped, .ref m1, .int s_size, .int s_outSize, .ref m2, .int s_kind, .int s_value, .int s_begin, .int s_end, .int s_failed, .ref m3, .ref m4, .ref m5, .int s_isProgram, .int s_half, .ref m6, .ref m7, .ref m8, .ref m9, .ref m10, .ref m11, .ref m12, .ref m13, .ref m14, .ref m15, .ref m16, .ref m17, .ref m18, .ref m19, .ref m20, .int s_signs, .ref m21, .int s_stacked, .ref m22, .int s_name, .int s_shift, .int s_statements, .int s_ifs, .int s_whiles, .int s_variants, .int s_open, .ref m23, .int s_isMade, .int s_conditions, .ref m24, .ref m25, .ref m26, .ref m27, .int s_kept, .ref m28, .int (nI (mm + 1)), .ref m29, .int (nI us), .ref m30, .ref m31, .int s_looked, .int s_rows, .int s_firstRow, .ref m32, .ref m33, .ref m34, .ref m35, .ref m36, .ref m37, .ref m38, .ref m39, .ref m40, .int s_isBroken, .ref m41, .int s_atoms, .ref m42])), (m30, .inl (ax 0, 180000, .inl x_5)), (m29, .inl (ax 0, 16, .inl (fun j => nI (tp j))))]) hP hD [0, 1, 2] [3, 4, 5, 6] hCs (by decide) (by decide) hk1 hFc hP1 hD1 rfl
  clear hP1 hD1
  clear hPc hDc hFc hCs hz hz1 hk1 ht hvm
  clear hP hD hS
  have hS := hS1
  obtain ⟨hP, hD⟩ := hjn
  clear hS1
  refine lv_goto (tgt := 219) hx hb d_Model_weaken_31 (by decide) ?_
  obtain ⟨hP9, hD9⟩ := xw_sub2 (wc := (fun (u : Nat → Nat) (xwk : Nat → Int32) => [(m0, .inr (11, [.int s_thrown, .int s_taped, .ref m1, .int s_size, .int s_outSize, .ref m2, .int s_kind, .int s_value, .int s_begin, .int s_end, .int s_failed, .ref m3, .ref m4, .ref m5, .int s_isProgram, .int s_half, .ref m6, .ref m7, .ref m8, .ref m9, .ref m10, .ref m11, .ref m12, .ref m13, .ref m14, .ref m15, .ref m16, .ref m17, .ref m18, .ref m19, .ref m20, .int s_signs, .ref m21, .int s_stacked, .ref m22, .int s_name, .int s_shift, .int s_statements, .int s_ifs, .int s_whiles, .int s_variants, .int s_open, .ref m23, .int s_isMade, .int s_conditions, .ref m24, .ref m25, .ref m26, .ref m27, .int s_kept, .ref m28, .int (nI (mm + 1)), .ref m29, .int (nI us), .ref m30, .ref m31, .int s_looked, .int s_rows, .int s_firstRow, .ref m32, .ref m33, .ref m34, .ref m35, .ref m36, .ref m37, .ref m38, .ref m39, .ref m40, .int s_isBroken, .ref m41, .int s_atoms, .ref m42])), (m30, .inl (ax 0, 180000, .inl xwk)), (m29, .inl (ax 0, 16, .inl (fun j => nI (tp j)))), (m7, .inl (ax 0, 80, .inl (fun j => nI (op j)))), (m9, .inl (ax 0, 80, .inl (fun j => nI (tg j)))), (m10, .inl (ax 0, 80, .inl tn)), (m11, .inl (ax 0, 80, .inl tm))]) (ixn []) x_5) hP hD [4, 5, 6, 0, 1, 2, 3] (by decide) rfl
  have hex0 : stk x_5 tp (mm + 1) us := (by assumption)
  exact W.vret hx hb hr (fun t ht hW => ⟨⟨ixn [], rfl, trivial, ⟨x_5, hex0, by rw [ht]; exact hP9, hD9⟩⟩, hS.F ht⟩) hS.2.2 d_Model_weaken_219
set_option maxHeartbeats 40000000 in
set_option maxRecDepth 100000 in
theorem c_M_weaken_skip (l : Launch) (D : va_G) (ax : Nat → ClassId) (m0 m1 m2 m3 m4 m5 m6 m7 m8 m9 m10 m11 m12 m13 m14 m15 m16 m17 m18 m19 m20 m21 m22 m23 m24 m25 m26 m27 m28 m29 m30 m31 m32 m33 m34 m35 m36 m37 m38 m39 m40 m41 m42 : Nat) (s_thrown s_taped s_size s_outSize s_kind s_value s_begin s_end s_failed s_isProgram s_half s_signs s_stacked s_name s_shift s_statements s_ifs s_whiles s_variants s_open s_isMade s_conditions s_kept s_looked s_rows s_firstRow s_isBroken s_atoms : Int32) (mm us ix : Nat) (wk : Nat → Int32) (tp op : Nat → Nat) (sz : Nat) (hix : ix < 80) (hop : op ix = 1)  : Met l y_Model_weaken (xws (.code y_Model_weaken b_Model_weaken 3 none)) ({ frames := 10, cells := 0, slots := 0, locals := 400 }) (va_Pc [.ref m0, .int (nI ix)] (xo D ax [(m0, .inr (11, [.int s_thrown, .int s_taped, .ref m1, .int s_size, .int s_outSize, .ref m2, .int s_kind, .int s_value, .int s_begin, .int s_end, .int s_failed, .ref m3, .ref m4, .ref m5, .int s_isProgram, .int s_half, .ref m6, .ref m7, .ref m8, .ref m9, .ref m10, .ref m11, .ref m12, .ref m13, .ref m14, .ref m15, .ref m16, .ref m17, .ref m18, .ref m19, .ref m20, .int s_signs, .ref m21, .int s_stacked, .ref m22, .int s_name, .int s_shift, .int s_statements, .int s_ifs, .int s_whiles, .int s_variants, .int s_open, .ref m23, .int s_isMade, .int s_conditions, .ref m24, .ref m25, .ref m26, .ref m27, .int s_kept, .ref m28, .int (nI (mm + 1)), .ref m29, .int (nI us), .ref m30, .ref m31, .int s_looked, .int s_rows, .int s_firstRow, .ref m32, .ref m33, .ref m34, .ref m35, .ref m36, .ref m37, .ref m38, .ref m39, .ref m40, .int s_isBroken, .ref m41, .int s_atoms, .ref m42])), (m30, .inl (ax 0, 180000, .inl wk)), (m29, .inl (ax 0, 16, .inl (fun j => nI (tp j)))), (m7, .inl (ax 0, 80, .inl (fun j => nI (op j))))] sz)) ((va_Qv (fun (u : Nat → Nat) => True) (xb D (va_A [(m0, .inr (11, [.int s_thrown, .int s_taped, .ref m1, .int s_size, .int s_outSize, .ref m2, .int s_kind, .int s_value, .int s_begin, .int s_end, .int s_failed, .ref m3, .ref m4, .ref m5, .int s_isProgram, .int s_half, .ref m6, .ref m7, .ref m8, .ref m9, .ref m10, .ref m11, .ref m12, .ref m13, .ref m14, .ref m15, .ref m16, .ref m17, .ref m18, .ref m19, .ref m20, .int s_signs, .ref m21, .int s_stacked, .ref m22, .int s_name, .int s_shift, .int s_statements, .int s_ifs, .int s_whiles, .int s_variants, .int s_open, .ref m23, .int s_isMade, .int s_conditions, .ref m24, .ref m25, .ref m26, .ref m27, .int s_kept, .ref m28, .int (nI (mm + 1)), .ref m29, .int (nI us), .ref m30, .ref m31, .int s_looked, .int s_rows, .int s_firstRow, .ref m32, .ref m33, .ref m34, .ref m35, .ref m36, .ref m37, .ref m38, .ref m39, .ref m40, .int s_isBroken, .ref m41, .int s_atoms, .ref m42])), (m30, .inl (ax 0, 180000, .inl wk)), (m29, .inl (ax 0, 16, .inl (fun j => nI (tp j)))), (m7, .inl (ax 0, 80, .inl (fun j => nI (op j))))] sz) (fun u => [(m0, .inr (11, [.int s_thrown, .int s_taped, .ref m1, .int s_size, .int s_outSize, .ref m2, .int s_kind, .int s_value, .int s_begin, .int s_end, .int s_failed, .ref m3, .ref m4, .ref m5, .int s_isProgram, .int s_half, .ref m6, .ref m7, .ref m8, .ref m9, .ref m10, .ref m11, .ref m12, .ref m13, .ref m14, .ref m15, .ref m16, .ref m17, .ref m18, .ref m19, .ref m20, .int s_signs, .ref m21, .int s_stacked, .ref m22, .int s_name, .int s_shift, .int s_statements, .int s_ifs, .int s_whiles, .int s_variants, .int s_open, .ref m23, .int s_isMade, .int s_conditions, .ref m24, .ref m25, .ref m26, .ref m27, .int s_kept, .ref m28, .int (nI (mm + 1)), .ref m29, .int (nI us), .ref m30, .ref m31, .int s_looked, .int s_rows, .int s_firstRow, .ref m32, .ref m33, .ref m34, .ref m35, .ref m36, .ref m37, .ref m38, .ref m39, .ref m40, .int s_isBroken, .ref m41, .int s_atoms, .ref m42])), (m30, .inl (ax 0, 180000, .inl wk)), (m29, .inl (ax 0, 16, .inl (fun j => nI (tp j)))), (m7, .inl (ax 0, 80, .inl (fun j => nI (op j))))])) (va_A [(m0, .inr (11, [.int s_thrown, .int s_taped, .ref m1, .int s_size, .int s_outSize, .ref m2, .int s_kind, .int s_value, .int s_begin, .int s_end, .int s_failed, .ref m3, .ref m4, .ref m5, .int s_isProgram, .int s_half, .ref m6, .ref m7, .ref m8, .ref m9, .ref m10, .ref m11, .ref m12, .ref m13, .ref m14, .ref m15, .ref m16, .ref m17, .ref m18, .ref m19, .ref m20, .int s_signs, .ref m21, .int s_stacked, .ref m22, .int s_name, .int s_shift, .int s_statements, .int s_ifs, .int s_whiles, .int s_variants, .int s_open, .ref m23, .int s_isMade, .int s_conditions, .ref m24, .ref m25, .ref m26, .ref m27, .int s_kept, .ref m28, .int (nI (mm + 1)), .ref m29, .int (nI us), .ref m30, .ref m31, .int s_looked, .int s_rows, .int s_firstRow, .ref m32, .ref m33, .ref m34, .ref m35, .ref m36, .ref m37, .ref m38, .ref m39, .ref m40, .int s_isBroken, .ref m41, .int s_atoms, .ref m42])), (m30, .inl (ax 0, 180000, .inl wk)), (m29, .inl (ax 0, 16, .inl (fun j => nI (tp j)))), (m7, .inl (ax 0, 80, .inl (fun j => nI (op j))))] sz))) 0 0 (va_A [(m0, .inr (11, [.int s_thrown, .int s_taped, .ref m1, .int s_size, .int s_outSize, .ref m2, .int s_kind, .int s_value, .int s_begin, .int s_end, .int s_failed, .ref m3, .ref m4, .ref m5, .int s_isProgram, .int s_half, .ref m6, .ref m7, .ref m8, .ref m9, .ref m10, .ref m11, .ref m12, .ref m13, .ref m14, .ref m15, .ref m16, .ref m17, .ref m18, .ref m19, .ref m20, .int s_signs, .ref m21, .int s_stacked, .ref m22, .int s_name, .int s_shift, .int s_statements, .int s_ifs, .int s_whiles, .int s_variants, .int s_open, .ref m23, .int s_isMade, .int s_conditions, .ref m24, .ref m25, .ref m26, .ref m27, .int s_kept, .ref m28, .int (nI (mm + 1)), .ref m29, .int (nI us), .ref m30, .ref m31, .int s_looked, .int s_rows, .int s_firstRow, .ref m32, .ref m33, .ref m34, .ref m35, .ref m36, .ref m37, .ref m38, .ref m39, .ref m40, .int s_isBroken, .ref m41, .int s_atoms, .ref m42])), (m30, .inl (ax 0, 180000, .inl wk)), (m29, .inl (ax 0, 16, .inl (fun j => nI (tp j)))), (m7, .inl (ax 0, 80, .inl (fun j => nI (op j))))] sz) := by
  refine Met.ofW (cc := b_Model_weaken) (maxL := 3) (ret := none) (by decide) rfl ?_
  intro p e s m args below meth c s₁ B hml hv
  obtain ⟨rfl, hsz, hP, hK, hD0⟩ := hv
  have hx := B.exec
  have hb := B.bytes
  have hr := B.returns
  have hts := xw_hts B.pre
  have hown : s.vm.findClass R_Model = some m.cls := findClass_of_methodNamed B.named
  have hlocks := B.notSynchronized
  subst hsz
  have hD := hD0.self (sz := s.heap.size)
  have hN := xz_entry hP
  generalize hAe : va_A [(m0, .inr (11, [.int s_thrown, .int s_taped, .ref m1, .int s_size, .int s_outSize, .ref m2, .int s_kind, .int s_value, .int s_begin, .int s_end, .int s_failed, .ref m3, .ref m4, .ref m5, .int s_isProgram, .int s_half, .ref m6, .ref m7, .ref m8, .ref m9, .ref m10, .ref m11, .ref m12, .ref m13, .ref m14, .ref m15, .ref m16, .ref m17, .ref m18, .ref m19, .ref m20, .int s_signs, .ref m21, .int s_stacked, .ref m22, .int s_name, .int s_shift, .int s_statements, .int s_ifs, .int s_whiles, .int s_variants, .int s_open, .ref m23, .int s_isMade, .int s_conditions, .ref m24, .ref m25, .ref m26, .ref m27, .int s_kept, .ref m28, .int (nI (mm + 1)), .ref m29, .int (nI us), .ref m30, .ref m31, .int s_looked, .int s_rows, .int s_firstRow, .ref m32, .ref m33, .ref m34, .ref m35, .ref m36, .ref m37, .ref m38, .ref m39, .ref m40, .int s_isBroken, .ref m41, .int s_atoms, .ref m42])), (m30, .inl (ax 0, 180000, .inl wk)), (m29, .inl (ax 0, 16, .inl (fun j => nI (tp j)))), (m7, .inl (ax 0, 80, .inl (fun j => nI (op j))))] s.heap.size = A at hD hN ⊢
  have hA : ∀ q : Nat, s.heap.size ≤ q → A q := fun q h => by rw [← hAe]; exact Or.inr h
  have hS : va_S A s.heap s.heap [] := va_S.rf
  have hl0 := lv_entry ([.ref m0, .int (nI ix)]) (n := 3) (Nat.le_of_ble_eq_true rfl)
  rw [lg_entry_eq]
  generalize (lg_sl ([.ref m0, .int (nI ix)]) ++ List.replicate (3 - (lg_sl ([.ref m0, .int (nI ix)])).length) Slot.unset).toArray = ls at hl0 ⊢
  have hl1 : lv_has ls 3 [(0, .ref m0), (1, .int (nI ix))] := hl0
  refine lv_aload_n hx hb d_Model_weaken_0 rfl (lv_at hl1 0 rfl) ?_
  refine va_get (D := D) (ci := 11) (v := .ref m7) (C := R_Model) (T := F_Model) (N := 72) hx hb hts i_Model hown hK.1 hP 0 rfl rfl 17 (by decide) (hts _ wd_1053) (fun _ h9 => h9) rfl d_Model_weaken_1 ?_
  refine lv_iload_n hx hb d_Model_weaken_4 rfl (lv_at hl1 1 rfl) ?_
  refine va_iald hx hb hK.1 hP 3 0 rfl rfl (vp_in_nI (by omega) (by omega)) d_Model_weaken_5 ?_
  refine W.eq (g2 := F0 m 6 ls [.int (nI (op ix))]) (by rw [nI_clamp (by omega)]) ?_
  refine lv_if_ne (tgt := 34) hx hb d_Model_weaken_6 (by decide) (fun c_1 => ?_) (fun c_1 => ?_)
  rotate_left
  · exfalso
    replace c_1 : op ix = 0 := (nI_eq (a := op ix) (b := 0) (by omega) (by omega)).mp c_1
    omega
  replace c_1 : ¬ op ix = 0 := fun hq9 => c_1 ((nI_eq (a := op ix) (b := 0) (by omega) (by omega)).mpr hq9)
  refine lv_aload_n hx hb d_Model_weaken_34 rfl (lv_at hl1 0 rfl) ?_
  refine va_get (D := D) (ci := 11) (v := .ref m7) (C := R_Model) (T := F_Model) (N := 72) hx hb hts i_Model hown hK.1 hP 0 rfl rfl 17 (by decide) (hts _ wd_1053) (fun _ h9 => h9) rfl d_Model_weaken_35 ?_
  refine lv_iload_n hx hb d_Model_weaken_38 rfl (lv_at hl1 1 rfl) ?_
  refine va_iald hx hb hK.1 hP 3 0 rfl rfl (vp_in_nI (by omega) (by omega)) d_Model_weaken_39 ?_
  refine W.eq (g2 := F0 m 40 ls [.int (nI (op ix))]) (by rw [nI_clamp (by omega)]) ?_
  refine lv_iconst (v := 4) hx hb d_Model_weaken_40 (by decide) ?_
  refine lv_icmp_ne (tgt := 51) hx hb d_Model_weaken_41 (by decide) (fun c_2 => ?_) (fun c_2 => ?_)
  rotate_left
  · exfalso
    replace c_2 : op ix = 4 := (nI_eq (a := op ix) (b := 4) (by omega) (by omega)).mp c_2
    omega
  replace c_2 : ¬ op ix = 4 := fun hq9 => c_2 ((nI_eq (a := op ix) (b := 4) (by omega) (by omega)).mpr hq9)
  refine lv_aload_n hx hb d_Model_weaken_51 rfl (lv_at hl1 0 rfl) ?_
  refine va_get (D := D) (ci := 11) (v := .ref m7) (C := R_Model) (T := F_Model) (N := 72) hx hb hts i_Model hown hK.1 hP 0 rfl rfl 17 (by decide) (hts _ wd_1053) (fun _ h9 => h9) rfl d_Model_weaken_52 ?_
  refine lv_iload_n hx hb d_Model_weaken_55 rfl (lv_at hl1 1 rfl) ?_
  refine va_iald hx hb hK.1 hP 3 0 rfl rfl (vp_in_nI (by omega) (by omega)) d_Model_weaken_56 ?_
  refine W.eq (g2 := F0 m 57 ls [.int (nI (op ix))]) (by rw [nI_clamp (by omega)]) ?_
  refine lv_iconst (v := 3) hx hb d_Model_weaken_57 (by decide) ?_
  refine lv_icmp_ne (tgt := 68) hx hb d_Model_weaken_58 (by decide) (fun c_3 => ?_) (fun c_3 => ?_)
  rotate_left
  · exfalso
    replace c_3 : op ix = 3 := (nI_eq (a := op ix) (b := 3) (by omega) (by omega)).mp c_3
    omega
  replace c_3 : ¬ op ix = 3 := fun hq9 => c_3 ((nI_eq (a := op ix) (b := 3) (by omega) (by omega)).mpr hq9)
  refine lv_aload_n hx hb d_Model_weaken_68 rfl (lv_at hl1 0 rfl) ?_
  refine va_get (D := D) (ci := 11) (v := .ref m7) (C := R_Model) (T := F_Model) (N := 72) hx hb hts i_Model hown hK.1 hP 0 rfl rfl 17 (by decide) (hts _ wd_1053) (fun _ h9 => h9) rfl d_Model_weaken_69 ?_
  refine lv_iload_n hx hb d_Model_weaken_72 rfl (lv_at hl1 1 rfl) ?_
  refine va_iald hx hb hK.1 hP 3 0 rfl rfl (vp_in_nI (by omega) (by omega)) d_Model_weaken_73 ?_
  refine W.eq (g2 := F0 m 74 ls [.int (nI (op ix))]) (by rw [nI_clamp (by omega)]) ?_
  refine lv_iconst (v := 2) hx hb d_Model_weaken_74 (by decide) ?_
  refine lv_icmp_ne (tgt := 86) hx hb d_Model_weaken_75 (by decide) (fun c_4 => ?_) (fun c_4 => ?_)
  rotate_left
  · exfalso
    replace c_4 : op ix = 2 := (nI_eq (a := op ix) (b := 2) (by omega) (by omega)).mp c_4
    omega
  replace c_4 : ¬ op ix = 2 := fun hq9 => c_4 ((nI_eq (a := op ix) (b := 2) (by omega) (by omega)).mpr hq9)
  refine lv_aload_n hx hb d_Model_weaken_86 rfl (lv_at hl1 0 rfl) ?_
  refine va_get (D := D) (ci := 11) (v := .ref m7) (C := R_Model) (T := F_Model) (N := 72) hx hb hts i_Model hown hK.1 hP 0 rfl rfl 17 (by decide) (hts _ wd_1053) (fun _ h9 => h9) rfl d_Model_weaken_87 ?_
  refine lv_iload_n hx hb d_Model_weaken_90 rfl (lv_at hl1 1 rfl) ?_
  refine va_iald hx hb hK.1 hP 3 0 rfl rfl (vp_in_nI (by omega) (by omega)) d_Model_weaken_91 ?_
  refine W.eq (g2 := F0 m 92 ls [.int (nI (op ix))]) (by rw [nI_clamp (by omega)]) ?_
  refine lv_bipush (v := 6) hx hb d_Model_weaken_92 (by decide) ?_
  refine lv_icmp_ne (tgt := 133) hx hb d_Model_weaken_94 (by decide) (fun c_5 => ?_) (fun c_5 => ?_)
  rotate_left
  · exfalso
    replace c_5 : op ix = 6 := (nI_eq (a := op ix) (b := 6) (by omega) (by omega)).mp c_5
    omega
  replace c_5 : ¬ op ix = 6 := fun hq9 => c_5 ((nI_eq (a := op ix) (b := 6) (by omega) (by omega)).mpr hq9)
  refine lv_aload_n hx hb d_Model_weaken_133 rfl (lv_at hl1 0 rfl) ?_
  refine va_get (D := D) (ci := 11) (v := .ref m7) (C := R_Model) (T := F_Model) (N := 72) hx hb hts i_Model hown hK.1 hP 0 rfl rfl 17 (by decide) (hts _ wd_1053) (fun _ h9 => h9) rfl d_Model_weaken_134 ?_
  refine lv_iload_n hx hb d_Model_weaken_137 rfl (lv_at hl1 1 rfl) ?_
  refine va_iald hx hb hK.1 hP 3 0 rfl rfl (vp_in_nI (by omega) (by omega)) d_Model_weaken_138 ?_
  refine W.eq (g2 := F0 m 139 ls [.int (nI (op ix))]) (by rw [nI_clamp (by omega)]) ?_
  refine lv_iconst (v := 5) hx hb d_Model_weaken_139 (by decide) ?_
  refine lv_icmp_ne (tgt := 151) hx hb d_Model_weaken_140 (by decide) (fun c_6 => ?_) (fun c_6 => ?_)
  rotate_left
  · exfalso
    replace c_6 : op ix = 5 := (nI_eq (a := op ix) (b := 5) (by omega) (by omega)).mp c_6
    omega
  replace c_6 : ¬ op ix = 5 := fun hq9 => c_6 ((nI_eq (a := op ix) (b := 5) (by omega) (by omega)).mpr hq9)
  refine lv_aload_n hx hb d_Model_weaken_151 rfl (lv_at hl1 0 rfl) ?_
  refine va_get (D := D) (ci := 11) (v := .ref m7) (C := R_Model) (T := F_Model) (N := 72) hx hb hts i_Model hown hK.1 hP 0 rfl rfl 17 (by decide) (hts _ wd_1053) (fun _ h9 => h9) rfl d_Model_weaken_152 ?_
  refine lv_iload_n hx hb d_Model_weaken_155 rfl (lv_at hl1 1 rfl) ?_
  refine va_iald hx hb hK.1 hP 3 0 rfl rfl (vp_in_nI (by omega) (by omega)) d_Model_weaken_156 ?_
  refine W.eq (g2 := F0 m 157 ls [.int (nI (op ix))]) (by rw [nI_clamp (by omega)]) ?_
  refine lv_bipush (v := 7) hx hb d_Model_weaken_157 (by decide) ?_
  refine lv_icmp_ne (tgt := 179) hx hb d_Model_weaken_159 (by decide) (fun c_7 => ?_) (fun c_7 => ?_)
  rotate_left
  · exfalso
    replace c_7 : op ix = 7 := (nI_eq (a := op ix) (b := 7) (by omega) (by omega)).mp c_7
    omega
  replace c_7 : ¬ op ix = 7 := fun hq9 => c_7 ((nI_eq (a := op ix) (b := 7) (by omega) (by omega)).mpr hq9)
  refine lv_aload_n hx hb d_Model_weaken_179 rfl (lv_at hl1 0 rfl) ?_
  refine va_get (D := D) (ci := 11) (v := .ref m7) (C := R_Model) (T := F_Model) (N := 72) hx hb hts i_Model hown hK.1 hP 0 rfl rfl 17 (by decide) (hts _ wd_1053) (fun _ h9 => h9) rfl d_Model_weaken_180 ?_
  refine lv_iload_n hx hb d_Model_weaken_183 rfl (lv_at hl1 1 rfl) ?_
  refine va_iald hx hb hK.1 hP 3 0 rfl rfl (vp_in_nI (by omega) (by omega)) d_Model_weaken_184 ?_
  refine W.eq (g2 := F0 m 185 ls [.int (nI (op ix))]) (by rw [nI_clamp (by omega)]) ?_
  refine lv_bipush (v := 8) hx hb d_Model_weaken_185 (by decide) ?_
  refine lv_icmp_ne (tgt := 219) hx hb d_Model_weaken_187 (by decide) (fun c_8 => ?_) (fun c_8 => ?_)
  rotate_left
  · exfalso
    replace c_8 : op ix = 8 := (nI_eq (a := op ix) (b := 8) (by omega) (by omega)).mp c_8
    omega
  replace c_8 : ¬ op ix = 8 := fun hq9 => c_8 ((nI_eq (a := op ix) (b := 8) (by omega) (by omega)).mpr hq9)
  obtain ⟨hP9, hD9⟩ := xw_sub2 (wc := (fun u : Nat → Nat => [(m0, .inr (11, [.int s_thrown, .int s_taped, .ref m1, .int s_size, .int s_outSize, .ref m2, .int s_kind, .int s_value, .int s_begin, .int s_end, .int s_failed, .ref m3, .ref m4, .ref m5, .int s_isProgram, .int s_half, .ref m6, .ref m7, .ref m8, .ref m9, .ref m10, .ref m11, .ref m12, .ref m13, .ref m14, .ref m15, .ref m16, .ref m17, .ref m18, .ref m19, .ref m20, .int s_signs, .ref m21, .int s_stacked, .ref m22, .int s_name, .int s_shift, .int s_statements, .int s_ifs, .int s_whiles, .int s_variants, .int s_open, .ref m23, .int s_isMade, .int s_conditions, .ref m24, .ref m25, .ref m26, .ref m27, .int s_kept, .ref m28, .int (nI (mm + 1)), .ref m29, .int (nI us), .ref m30, .ref m31, .int s_looked, .int s_rows, .int s_firstRow, .ref m32, .ref m33, .ref m34, .ref m35, .ref m36, .ref m37, .ref m38, .ref m39, .ref m40, .int s_isBroken, .ref m41, .int s_atoms, .ref m42])), (m30, .inl (ax 0, 180000, .inl wk)), (m29, .inl (ax 0, 16, .inl (fun j => nI (tp j)))), (m7, .inl (ax 0, 80, .inl (fun j => nI (op j))))]) (ixn [])) hP hD [0, 1, 2, 3] (by decide) rfl
  exact W.vret hx hb hr (fun t ht hW => ⟨⟨ixn [], rfl, trivial, ⟨by rw [ht]; exact hP9, hD9⟩⟩, hS.F ht⟩) hS.2.2 d_Model_weaken_219
set_option maxHeartbeats 40000000 in
set_option maxRecDepth 100000 in
theorem c_M_weaken_fi (l : Launch) (D : va_G) (ax : Nat → ClassId) (m0 m1 m2 m3 m4 m5 m6 m7 m8 m9 m10 m11 m12 m13 m14 m15 m16 m17 m18 m19 m20 m21 m22 m23 m24 m25 m26 m27 m28 m29 m30 m31 m32 m33 m34 m35 m36 m37 m38 m39 m40 m41 m42 : Nat) (s_thrown s_taped s_size s_outSize s_kind s_value s_begin s_end s_failed s_isProgram s_half s_signs s_stacked s_name s_shift s_statements s_ifs s_whiles s_variants s_open s_isMade s_conditions s_kept s_looked s_rows s_firstRow s_isBroken s_atoms : Int32) (mm us ix : Nat) (wk : Nat → Int32) (tp op : Nat → Nat) (sz : Nat) (hix : ix < 80) (hop : op ix = 4) (hm1 : mm < 12) (hus : us + (us - tp mm) ≤ 30000) (hk : stk wk tp (mm + 1) us) : Met l y_Model_weaken (xws (.code y_Model_weaken b_Model_weaken 3 none)) ({ frames := 30, cells := 0, slots := 0, locals := 1200 }) (va_Pc [.ref m0, .int (nI ix)] (xo D ax [(m0, .inr (11, [.int s_thrown, .int s_taped, .ref m1, .int s_size, .int s_outSize, .ref m2, .int s_kind, .int s_value, .int s_begin, .int s_end, .int s_failed, .ref m3, .ref m4, .ref m5, .int s_isProgram, .int s_half, .ref m6, .ref m7, .ref m8, .ref m9, .ref m10, .ref m11, .ref m12, .ref m13, .ref m14, .ref m15, .ref m16, .ref m17, .ref m18, .ref m19, .ref m20, .int s_signs, .ref m21, .int s_stacked, .ref m22, .int s_name, .int s_shift, .int s_statements, .int s_ifs, .int s_whiles, .int s_variants, .int s_open, .ref m23, .int s_isMade, .int s_conditions, .ref m24, .ref m25, .ref m26, .ref m27, .int s_kept, .ref m28, .int (nI (mm + 1)), .ref m29, .int (nI us), .ref m30, .ref m31, .int s_looked, .int s_rows, .int s_firstRow, .ref m32, .ref m33, .ref m34, .ref m35, .ref m36, .ref m37, .ref m38, .ref m39, .ref m40, .int s_isBroken, .ref m41, .int s_atoms, .ref m42])), (m30, .inl (ax 0, 180000, .inl wk)), (m29, .inl (ax 0, 16, .inl (fun j => nI (tp j)))), (m7, .inl (ax 0, 80, .inl (fun j => nI (op j))))] sz)) ((va_Qv (fun (u : Nat → Nat) => True) (fun (u : Nat → Nat) (t9 : State) => ∃ xwk : Nat → Int32, (stk xwk (sup tp (mm + 1) us) (mm + 2) (us + (us - tp mm))) ∧ va_P D classes [(m0, .inr (11, [.int s_thrown, .int s_taped, .ref m1, .int s_size, .int s_outSize, .ref m2, .int s_kind, .int s_value, .int s_begin, .int s_end, .int s_failed, .ref m3, .ref m4, .ref m5, .int s_isProgram, .int s_half, .ref m6, .ref m7, .ref m8, .ref m9, .ref m10, .ref m11, .ref m12, .ref m13, .ref m14, .ref m15, .ref m16, .ref m17, .ref m18, .ref m19, .ref m20, .int s_signs, .ref m21, .int s_stacked, .ref m22, .int s_name, .int s_shift, .int s_statements, .int s_ifs, .int s_whiles, .int s_variants, .int s_open, .ref m23, .int s_isMade, .int s_conditions, .ref m24, .ref m25, .ref m26, .ref m27, .int s_kept, .ref m28, .int (nI (mm + 2)), .ref m29, .int (nI (us + (us - tp mm))), .ref m30, .ref m31, .int s_looked, .int s_rows, .int s_firstRow, .ref m32, .ref m33, .ref m34, .ref m35, .ref m36, .ref m37, .ref m38, .ref m39, .ref m40, .int s_isBroken, .ref m41, .int s_atoms, .ref m42])), (m30, .inl (ax 0, 180000, .inl xwk)), (m29, .inl (ax 0, 16, .inl (fun j => nI (sup tp (mm + 1) us j)))), (m7, .inl (ax 0, 80, .inl (fun j => nI (op j))))] t9.heap ∧ va_D (va_A [(m0, .inr (11, [.int s_thrown, .int s_taped, .ref m1, .int s_size, .int s_outSize, .ref m2, .int s_kind, .int s_value, .int s_begin, .int s_end, .int s_failed, .ref m3, .ref m4, .ref m5, .int s_isProgram, .int s_half, .ref m6, .ref m7, .ref m8, .ref m9, .ref m10, .ref m11, .ref m12, .ref m13, .ref m14, .ref m15, .ref m16, .ref m17, .ref m18, .ref m19, .ref m20, .int s_signs, .ref m21, .int s_stacked, .ref m22, .int s_name, .int s_shift, .int s_statements, .int s_ifs, .int s_whiles, .int s_variants, .int s_open, .ref m23, .int s_isMade, .int s_conditions, .ref m24, .ref m25, .ref m26, .ref m27, .int s_kept, .ref m28, .int (nI (mm + 1)), .ref m29, .int (nI us), .ref m30, .ref m31, .int s_looked, .int s_rows, .int s_firstRow, .ref m32, .ref m33, .ref m34, .ref m35, .ref m36, .ref m37, .ref m38, .ref m39, .ref m40, .int s_isBroken, .ref m41, .int s_atoms, .ref m42])), (m30, .inl (ax 0, 180000, .inl wk)), (m29, .inl (ax 0, 16, .inl (fun j => nI (tp j)))), (m7, .inl (ax 0, 80, .inl (fun j => nI (op j))))] sz) [(m0, .inr (11, [.int s_thrown, .int s_taped, .ref m1, .int s_size, .int s_outSize, .ref m2, .int s_kind, .int s_value, .int s_begin, .int s_end, .int s_failed, .ref m3, .ref m4, .ref m5, .int s_isProgram, .int s_half, .ref m6, .ref m7, .ref m8, .ref m9, .ref m10, .ref m11, .ref m12, .ref m13, .ref m14, .ref m15, .ref m16, .ref m17, .ref m18, .ref m19, .ref m20, .int s_signs, .ref m21, .int s_stacked, .ref m22, .int s_name, .int s_shift, .int s_statements, .int s_ifs, .int s_whiles, .int s_variants, .int s_open, .ref m23, .int s_isMade, .int s_conditions, .ref m24, .ref m25, .ref m26, .ref m27, .int s_kept, .ref m28, .int (nI (mm + 2)), .ref m29, .int (nI (us + (us - tp mm))), .ref m30, .ref m31, .int s_looked, .int s_rows, .int s_firstRow, .ref m32, .ref m33, .ref m34, .ref m35, .ref m36, .ref m37, .ref m38, .ref m39, .ref m40, .int s_isBroken, .ref m41, .int s_atoms, .ref m42])), (m30, .inl (ax 0, 180000, .inl xwk)), (m29, .inl (ax 0, 16, .inl (fun j => nI (sup tp (mm + 1) us j)))), (m7, .inl (ax 0, 80, .inl (fun j => nI (op j))))]) (va_A [(m0, .inr (11, [.int s_thrown, .int s_taped, .ref m1, .int s_size, .int s_outSize, .ref m2, .int s_kind, .int s_value, .int s_begin, .int s_end, .int s_failed, .ref m3, .ref m4, .ref m5, .int s_isProgram, .int s_half, .ref m6, .ref m7, .ref m8, .ref m9, .ref m10, .ref m11, .ref m12, .ref m13, .ref m14, .ref m15, .ref m16, .ref m17, .ref m18, .ref m19, .ref m20, .int s_signs, .ref m21, .int s_stacked, .ref m22, .int s_name, .int s_shift, .int s_statements, .int s_ifs, .int s_whiles, .int s_variants, .int s_open, .ref m23, .int s_isMade, .int s_conditions, .ref m24, .ref m25, .ref m26, .ref m27, .int s_kept, .ref m28, .int (nI (mm + 1)), .ref m29, .int (nI us), .ref m30, .ref m31, .int s_looked, .int s_rows, .int s_firstRow, .ref m32, .ref m33, .ref m34, .ref m35, .ref m36, .ref m37, .ref m38, .ref m39, .ref m40, .int s_isBroken, .ref m41, .int s_atoms, .ref m42])), (m30, .inl (ax 0, 180000, .inl wk)), (m29, .inl (ax 0, 16, .inl (fun j => nI (tp j)))), (m7, .inl (ax 0, 80, .inl (fun j => nI (op j))))] sz))) 0 0 (va_A [(m0, .inr (11, [.int s_thrown, .int s_taped, .ref m1, .int s_size, .int s_outSize, .ref m2, .int s_kind, .int s_value, .int s_begin, .int s_end, .int s_failed, .ref m3, .ref m4, .ref m5, .int s_isProgram, .int s_half, .ref m6, .ref m7, .ref m8, .ref m9, .ref m10, .ref m11, .ref m12, .ref m13, .ref m14, .ref m15, .ref m16, .ref m17, .ref m18, .ref m19, .ref m20, .int s_signs, .ref m21, .int s_stacked, .ref m22, .int s_name, .int s_shift, .int s_statements, .int s_ifs, .int s_whiles, .int s_variants, .int s_open, .ref m23, .int s_isMade, .int s_conditions, .ref m24, .ref m25, .ref m26, .ref m27, .int s_kept, .ref m28, .int (nI (mm + 1)), .ref m29, .int (nI us), .ref m30, .ref m31, .int s_looked, .int s_rows, .int s_firstRow, .ref m32, .ref m33, .ref m34, .ref m35, .ref m36, .ref m37, .ref m38, .ref m39, .ref m40, .int s_isBroken, .ref m41, .int s_atoms, .ref m42])), (m30, .inl (ax 0, 180000, .inl wk)), (m29, .inl (ax 0, 16, .inl (fun j => nI (tp j)))), (m7, .inl (ax 0, 80, .inl (fun j => nI (op j))))] sz) := by
  refine Met.ofW (cc := b_Model_weaken) (maxL := 3) (ret := none) (by decide) rfl ?_
  intro p e s m args below meth c s₁ B hml hv
  obtain ⟨rfl, hsz, hP, hK, hD0⟩ := hv
  have hx := B.exec
  have hb := B.bytes
  have hr := B.returns
  have hts := xw_hts B.pre
  have hown : s.vm.findClass R_Model = some m.cls := findClass_of_methodNamed B.named
  have hlocks := B.notSynchronized
  subst hsz
  have hD := hD0.self (sz := s.heap.size)
  have hN := xz_entry hP
  generalize hAe : va_A [(m0, .inr (11, [.int s_thrown, .int s_taped, .ref m1, .int s_size, .int s_outSize, .ref m2, .int s_kind, .int s_value, .int s_begin, .int s_end, .int s_failed, .ref m3, .ref m4, .ref m5, .int s_isProgram, .int s_half, .ref m6, .ref m7, .ref m8, .ref m9, .ref m10, .ref m11, .ref m12, .ref m13, .ref m14, .ref m15, .ref m16, .ref m17, .ref m18, .ref m19, .ref m20, .int s_signs, .ref m21, .int s_stacked, .ref m22, .int s_name, .int s_shift, .int s_statements, .int s_ifs, .int s_whiles, .int s_variants, .int s_open, .ref m23, .int s_isMade, .int s_conditions, .ref m24, .ref m25, .ref m26, .ref m27, .int s_kept, .ref m28, .int (nI (mm + 1)), .ref m29, .int (nI us), .ref m30, .ref m31, .int s_looked, .int s_rows, .int s_firstRow, .ref m32, .ref m33, .ref m34, .ref m35, .ref m36, .ref m37, .ref m38, .ref m39, .ref m40, .int s_isBroken, .ref m41, .int s_atoms, .ref m42])), (m30, .inl (ax 0, 180000, .inl wk)), (m29, .inl (ax 0, 16, .inl (fun j => nI (tp j)))), (m7, .inl (ax 0, 80, .inl (fun j => nI (op j))))] s.heap.size = A at hD hN ⊢
  have hA : ∀ q : Nat, s.heap.size ≤ q → A q := fun q h => by rw [← hAe]; exact Or.inr h
  have hS : va_S A s.heap s.heap [] := va_S.rf
  have hl0 := lv_entry ([.ref m0, .int (nI ix)]) (n := 3) (Nat.le_of_ble_eq_true rfl)
  rw [lg_entry_eq]
  generalize (lg_sl ([.ref m0, .int (nI ix)]) ++ List.replicate (3 - (lg_sl ([.ref m0, .int (nI ix)])).length) Slot.unset).toArray = ls at hl0 ⊢
  have hl1 : lv_has ls 3 [(0, .ref m0), (1, .int (nI ix))] := hl0
  refine lv_aload_n hx hb d_Model_weaken_0 rfl (lv_at hl1 0 rfl) ?_
  refine va_get (D := D) (ci := 11) (v := .ref m7) (C := R_Model) (T := F_Model) (N := 72) hx hb hts i_Model hown hK.1 hP 0 rfl rfl 17 (by decide) (hts _ wd_1053) (fun _ h9 => h9) rfl d_Model_weaken_1 ?_
  refine lv_iload_n hx hb d_Model_weaken_4 rfl (lv_at hl1 1 rfl) ?_
  refine va_iald hx hb hK.1 hP 3 0 rfl rfl (vp_in_nI (by omega) (by omega)) d_Model_weaken_5 ?_
  refine W.eq (g2 := F0 m 6 ls [.int (nI (op ix))]) (by rw [nI_clamp (by omega)]) ?_
  refine lv_if_ne (tgt := 34) hx hb d_Model_weaken_6 (by decide) (fun c_1 => ?_) (fun c_1 => ?_)
  rotate_left
  · exfalso
    replace c_1 : op ix = 0 := (nI_eq (a := op ix) (b := 0) (by omega) (by omega)).mp c_1
    omega
  replace c_1 : ¬ op ix = 0 := fun hq9 => c_1 ((nI_eq (a := op ix) (b := 0) (by omega) (by omega)).mpr hq9)
  refine lv_aload_n hx hb d_Model_weaken_34 rfl (lv_at hl1 0 rfl) ?_
  refine va_get (D := D) (ci := 11) (v := .ref m7) (C := R_Model) (T := F_Model) (N := 72) hx hb hts i_Model hown hK.1 hP 0 rfl rfl 17 (by decide) (hts _ wd_1053) (fun _ h9 => h9) rfl d_Model_weaken_35 ?_
  refine lv_iload_n hx hb d_Model_weaken_38 rfl (lv_at hl1 1 rfl) ?_
  refine va_iald hx hb hK.1 hP 3 0 rfl rfl (vp_in_nI (by omega) (by omega)) d_Model_weaken_39 ?_
  refine W.eq (g2 := F0 m 40 ls [.int (nI (op ix))]) (by rw [nI_clamp (by omega)]) ?_
  refine lv_iconst (v := 4) hx hb d_Model_weaken_40 (by decide) ?_
  refine lv_icmp_ne (tgt := 51) hx hb d_Model_weaken_41 (by decide) (fun c_2 => ?_) (fun c_2 => ?_)
  · exfalso
    replace c_2 : ¬ op ix = 4 := fun hq9 => c_2 ((nI_eq (a := op ix) (b := 4) (by omega) (by omega)).mpr hq9)
    omega
  replace c_2 : op ix = 4 := (nI_eq (a := op ix) (b := 4) (by omega) (by omega)).mp c_2
  refine lv_aload_n hx hb d_Model_weaken_44 rfl (lv_at hl1 0 rfl) ?_
  obtain ⟨hPc, hDc, hFc, hCs⟩ := xw_sub3 (wc := [(m0, .inr (11, [.int s_thrown, .int s_taped, .ref m1, .int s_size, .int s_outSize, .ref m2, .int s_kind, .int s_value, .int s_begin, .int s_end, .int s_failed, .ref m3, .ref m4, .ref m5, .int s_isProgram, .int s_half, .ref m6, .ref m7, .ref m8, .ref m9, .ref m10, .ref m11, .ref m12, .ref m13, .ref m14, .ref m15, .ref m16, .ref m17, .ref m18, .ref m19, .ref m20, .int s_signs, .ref m21, .int s_stacked, .ref m22, .int s_name, .int s_shift, .int s_statements, .int s_ifs, .int s_whiles, .int s_variants, .int s_open, .ref m23, .int s_isMade, .int s_conditions, .ref m24, .ref m25, .ref m26, .ref m27, .int s_kept, .ref m28, .int (nI (mm + 1)), .ref m29, .int (nI us), .ref m30, .ref m31, .int s_looked, .int s_rows, .int s_firstRow, .ref m32, .ref m33, .ref m34, .ref m35, .ref m36, .ref m37, .ref m38, .ref m39, .ref m40, .int s_isBroken, .ref m41, .int s_atoms, .ref m42])), (m30, .inl (ax 0, 180000, .inl wk)), (m29, .inl (ax 0, 16, .inl (fun j => nI (tp j))))]) hP hD hS hA [0, 1, 2] (by decide) rfl
  have hz := xz_of hN hS
  refine va_callv (va_runV (As := []) (rest := []) ⟨hx, hb, hml, hown, hts⟩ (c_M_copyTop l D ax m0 m1 m2 m3 m4 m5 m6 m7 m8 m9 m10 m11 m12 m13 m14 m15 m16 m17 m18 m19 m20 m21 m22 m23 m24 m25 m26 m27 m28 m29 m30 m31 m32 m33 m34 m35 m36 m37 m38 m39 m40 m41 m42 s_thrown s_taped s_size s_outSize s_kind s_value s_begin s_end s_failed s_isProgram s_half s_signs s_stacked s_name s_shift s_statements s_ifs s_whiles s_variants s_open s_isMade s_conditions s_kept s_looked s_rows s_firstRow s_isBroken s_atoms mm us wk tp s.heap.size (by omega) (by omega) hk) (xcV (n := 0) hts wd_1435 wd_15 wd_1432 wd_1434 ps_84 rfl rfl (by decide +kernel) ⟨Nat.le_of_ble_eq_true rfl, Nat.le_of_ble_eq_true rfl⟩) (xpV (ci := 11) (q0 := 0) (As := []) hPc hK hz hDc rfl rfl) rfl rfl hl1.1 rfl (lv_room (Nat.le_of_ble_eq_true rfl)) d_Model_weaken_45 ⟨Nat.le_of_ble_eq_true rfl, Nat.le_of_ble_eq_true rfl⟩) hS (fun q _ h => hFc q h) hFc (fun u_3 t H_4 locs ht hvm hw hB hz1 hk1 hS1 => ?_)
  try dsimp only at hw
  obtain ⟨x_6, hx_7, hP1, hD1⟩ := hB
  rw [ht] at hP1
  have hjn := xw_join3 (wl := [(m7, .inl (ax 0, 80, .inl (fun j => nI (op j)))), (m0, .inr (11, [.int s_thrown, .int s_taped, .ref m1, .int s_size, .int s_outSize, .ref m2, .int s_kind, .int s_value, .int s_begin, .int s_end, .int s_failed, .ref m3, .ref m4, .ref m5, .int s_isProgram, .int s_half, .ref m6, .ref m7, .ref m8, .ref m9, .ref m10, .ref m11, .ref m12, .ref m13, .ref m14, .ref m15, .ref m16, .ref m17, .ref m18, .ref m19, .ref m20, .int s_signs, .ref m21, .int s_stacked, .ref m22, .int s_name, .int s_shift, .int s_statements, .int s_ifs, .int s_whiles, .int s_variants, .int s_open, .ref m23, .int s_isMade, .int s_conditions, .ref m24, .ref m25, .ref m26, .ref m27, .int s_kept, .ref m28, .int (nI (mm + 2)), .ref m29, .int (nI (us + (us - tp mm))), .ref m30, .ref m31, .int s_looked, .int s_rows, .int s_firstRow, .ref m32, .ref m33, .ref m34, .ref m35, .ref m36, .ref m37, .ref m38, .ref m39, .ref m40, .int s_isBroken, .ref m41, .int s_atoms, .ref m42])), (m30, .inl (ax 0, 180000, .inl x_6)), (m29, .inl (ax 0, 16, .inl (fun j => nI (sup tp (mm + 1) us j))))]) hP hD [0, 1, 2] [3] hCs (by decide) (by decide) hk1 hFc hP1 hD1 rfl
  clear hP1 hD1
  clear hPc hDc hFc hCs hz hz1 hk1 ht hvm
  clear hP hD hS
  have hS := hS1
  obtain ⟨hP, hD⟩ := hjn
  clear hS1
  refine lv_goto (tgt := 219) hx hb d_Model_weaken_48 (by decide) ?_
  obtain ⟨hP9, hD9⟩ := xw_sub2 (wc := (fun (u : Nat → Nat) (xwk : Nat → Int32) => [(m0, .inr (11, [.int s_thrown, .int s_taped, .ref m1, .int s_size, .int s_outSize, .ref m2, .int s_kind, .int s_value, .int s_begin, .int s_end, .int s_failed, .ref m3, .ref m4, .ref m5, .int s_isProgram, .int s_half, .ref m6, .ref m7, .ref m8, .ref m9, .ref m10, .ref m11, .ref m12, .ref m13, .ref m14, .ref m15, .ref m16, .ref m17, .ref m18, .ref m19, .ref m20, .int s_signs, .ref m21, .int s_stacked, .ref m22, .int s_name, .int s_shift, .int s_statements, .int s_ifs, .int s_whiles, .int s_variants, .int s_open, .ref m23, .int s_isMade, .int s_conditions, .ref m24, .ref m25, .ref m26, .ref m27, .int s_kept, .ref m28, .int (nI (mm + 2)), .ref m29, .int (nI (us + (us - tp mm))), .ref m30, .ref m31, .int s_looked, .int s_rows, .int s_firstRow, .ref m32, .ref m33, .ref m34, .ref m35, .ref m36, .ref m37, .ref m38, .ref m39, .ref m40, .int s_isBroken, .ref m41, .int s_atoms, .ref m42])), (m30, .inl (ax 0, 180000, .inl xwk)), (m29, .inl (ax 0, 16, .inl (fun j => nI (sup tp (mm + 1) us j)))), (m7, .inl (ax 0, 80, .inl (fun j => nI (op j))))]) (ixn []) x_6) hP hD [1, 2, 3, 0] (by decide) rfl
  have hex0 : stk x_6 (sup tp (mm + 1) us) (mm + 2) (us + (us - tp mm)) := (by assumption)
  exact W.vret hx hb hr (fun t ht hW => ⟨⟨ixn [], rfl, trivial, ⟨x_6, hex0, by rw [ht]; exact hP9, hD9⟩⟩, hS.F ht⟩) hS.2.2 d_Model_weaken_219
set_option maxHeartbeats 40000000 in
set_option maxRecDepth 100000 in
theorem c_M_weaken_else (l : Launch) (D : va_G) (ax : Nat → ClassId) (m0 m1 m2 m3 m4 m5 m6 m7 m8 m9 m10 m11 m12 m13 m14 m15 m16 m17 m18 m19 m20 m21 m22 m23 m24 m25 m26 m27 m28 m29 m30 m31 m32 m33 m34 m35 m36 m37 m38 m39 m40 m41 m42 : Nat) (s_thrown s_taped s_size s_outSize s_kind s_value s_begin s_end s_failed s_isProgram s_half s_signs s_stacked s_name s_shift s_statements s_ifs s_whiles s_variants s_open s_isMade s_conditions s_kept s_looked s_rows s_firstRow s_isBroken s_atoms : Int32) (mm us ix : Nat) (wk : Nat → Int32) (tp op : Nat → Nat) (as : Nat → Int32) (sz : Nat) (hix : ix < 80) (hop : op ix = 3) (hm1 : mm < 12) (hus : us ≤ 30000) (hk : stk wk tp (mm + 2) us) : Met l y_Model_weaken (xws (.code y_Model_weaken b_Model_weaken 3 none)) ({ frames := 20, cells := 0, slots := 0, locals := 800 }) (va_Pc [.ref m0, .int (nI ix)] (xo D ax [(m0, .inr (11, [.int s_thrown, .int s_taped, .ref m1, .int s_size, .int s_outSize, .ref m2, .int s_kind, .int s_value, .int s_begin, .int s_end, .int s_failed, .ref m3, .ref m4, .ref m5, .int s_isProgram, .int s_half, .ref m6, .ref m7, .ref m8, .ref m9, .ref m10, .ref m11, .ref m12, .ref m13, .ref m14, .ref m15, .ref m16, .ref m17, .ref m18, .ref m19, .ref m20, .int s_signs, .ref m21, .int s_stacked, .ref m22, .int s_name, .int s_shift, .int s_statements, .int s_ifs, .int s_whiles, .int s_variants, .int s_open, .ref m23, .int s_isMade, .int s_conditions, .ref m24, .ref m25, .ref m26, .ref m27, .int s_kept, .ref m28, .int (nI (mm + 2)), .ref m29, .int (nI us), .ref m30, .ref m31, .int s_looked, .int s_rows, .int s_firstRow, .ref m32, .ref m33, .ref m34, .ref m35, .ref m36, .ref m37, .ref m38, .ref m39, .ref m40, .int s_isBroken, .ref m41, .int s_atoms, .ref m42])), (m30, .inl (ax 0, 180000, .inl wk)), (m29, .inl (ax 0, 16, .inl (fun j => nI (tp j)))), (m7, .inl (ax 0, 80, .inl (fun j => nI (op j)))), (m31, .inl (ax 0, 180000, .inl as))] sz)) ((va_Qv (fun (u : Nat → Nat) => True) (fun (u : Nat → Nat) (t9 : State) => ∃ xtp : Nat → Nat, ∃ xwk : Nat → Int32, ∃ xas : Nat → Int32, (∀ i, i ≤ mm → xtp i = tp i) ∧ (stk xwk xtp (mm + 2) us) ∧ (xtp (mm + 1) = tp mm + (us - tp (mm + 1))) ∧ va_P D classes [(m0, .inr (11, [.int s_thrown, .int s_taped, .ref m1, .int s_size, .int s_outSize, .ref m2, .int s_kind, .int s_value, .int s_begin, .int s_end, .int s_failed, .ref m3, .ref m4, .ref m5, .int s_isProgram, .int s_half, .ref m6, .ref m7, .ref m8, .ref m9, .ref m10, .ref m11, .ref m12, .ref m13, .ref m14, .ref m15, .ref m16, .ref m17, .ref m18, .ref m19, .ref m20, .int s_signs, .ref m21, .int s_stacked, .ref m22, .int s_name, .int s_shift, .int s_statements, .int s_ifs, .int s_whiles, .int s_variants, .int s_open, .ref m23, .int s_isMade, .int s_conditions, .ref m24, .ref m25, .ref m26, .ref m27, .int s_kept, .ref m28, .int (nI (mm + 2)), .ref m29, .int (nI us), .ref m30, .ref m31, .int s_looked, .int s_rows, .int s_firstRow, .ref m32, .ref m33, .ref m34, .ref m35, .ref m36, .ref m37, .ref m38, .ref m39, .ref m40, .int s_isBroken, .ref m41, .int s_atoms, .ref m42])), (m30, .inl (ax 0, 180000, .inl xwk)), (m29, .inl (ax 0, 16, .inl (fun j => nI (xtp j)))), (m7, .inl (ax 0, 80, .inl (fun j => nI (op j)))), (m31, .inl (ax 0, 180000, .inl xas))] t9.heap ∧ va_D (va_A [(m0, .inr (11, [.int s_thrown, .int s_taped, .ref m1, .int s_size, .int s_outSize, .ref m2, .int s_kind, .int s_value, .int s_begin, .int s_end, .int s_failed, .ref m3, .ref m4, .ref m5, .int s_isProgram, .int s_half, .ref m6, .ref m7, .ref m8, .ref m9, .ref m10, .ref m11, .ref m12, .ref m13, .ref m14, .ref m15, .ref m16, .ref m17, .ref m18, .ref m19, .ref m20, .int s_signs, .ref m21, .int s_stacked, .ref m22, .int s_name, .int s_shift, .int s_statements, .int s_ifs, .int s_whiles, .int s_variants, .int s_open, .ref m23, .int s_isMade, .int s_conditions, .ref m24, .ref m25, .ref m26, .ref m27, .int s_kept, .ref m28, .int (nI (mm + 2)), .ref m29, .int (nI us), .ref m30, .ref m31, .int s_looked, .int s_rows, .int s_firstRow, .ref m32, .ref m33, .ref m34, .ref m35, .ref m36, .ref m37, .ref m38, .ref m39, .ref m40, .int s_isBroken, .ref m41, .int s_atoms, .ref m42])), (m30, .inl (ax 0, 180000, .inl wk)), (m29, .inl (ax 0, 16, .inl (fun j => nI (tp j)))), (m7, .inl (ax 0, 80, .inl (fun j => nI (op j)))), (m31, .inl (ax 0, 180000, .inl as))] sz) [(m0, .inr (11, [.int s_thrown, .int s_taped, .ref m1, .int s_size, .int s_outSize, .ref m2, .int s_kind, .int s_value, .int s_begin, .int s_end, .int s_failed, .ref m3, .ref m4, .ref m5, .int s_isProgram, .int s_half, .ref m6, .ref m7, .ref m8, .ref m9, .ref m10, .ref m11, .ref m12, .ref m13, .ref m14, .ref m15, .ref m16, .ref m17, .ref m18, .ref m19, .ref m20, .int s_signs, .ref m21, .int s_stacked, .ref m22, .int s_name, .int s_shift, .int s_statements, .int s_ifs, .int s_whiles, .int s_variants, .int s_open, .ref m23, .int s_isMade, .int s_conditions, .ref m24, .ref m25, .ref m26, .ref m27, .int s_kept, .ref m28, .int (nI (mm + 2)), .ref m29, .int (nI us), .ref m30, .ref m31, .int s_looked, .int s_rows, .int s_firstRow, .ref m32, .ref m33, .ref m34, .ref m35, .ref m36, .ref m37, .ref m38, .ref m39, .ref m40, .int s_isBroken, .ref m41, .int s_atoms, .ref m42])), (m30, .inl (ax 0, 180000, .inl xwk)), (m29, .inl (ax 0, 16, .inl (fun j => nI (xtp j)))), (m7, .inl (ax 0, 80, .inl (fun j => nI (op j)))), (m31, .inl (ax 0, 180000, .inl xas))]) (va_A [(m0, .inr (11, [.int s_thrown, .int s_taped, .ref m1, .int s_size, .int s_outSize, .ref m2, .int s_kind, .int s_value, .int s_begin, .int s_end, .int s_failed, .ref m3, .ref m4, .ref m5, .int s_isProgram, .int s_half, .ref m6, .ref m7, .ref m8, .ref m9, .ref m10, .ref m11, .ref m12, .ref m13, .ref m14, .ref m15, .ref m16, .ref m17, .ref m18, .ref m19, .ref m20, .int s_signs, .ref m21, .int s_stacked, .ref m22, .int s_name, .int s_shift, .int s_statements, .int s_ifs, .int s_whiles, .int s_variants, .int s_open, .ref m23, .int s_isMade, .int s_conditions, .ref m24, .ref m25, .ref m26, .ref m27, .int s_kept, .ref m28, .int (nI (mm + 2)), .ref m29, .int (nI us), .ref m30, .ref m31, .int s_looked, .int s_rows, .int s_firstRow, .ref m32, .ref m33, .ref m34, .ref m35, .ref m36, .ref m37, .ref m38, .ref m39, .ref m40, .int s_isBroken, .ref m41, .int s_atoms, .ref m42])), (m30, .inl (ax 0, 180000, .inl wk)), (m29, .inl (ax 0, 16, .inl (fun j => nI (tp j)))), (m7, .inl (ax 0, 80, .inl (fun j => nI (op j)))), (m31, .inl (ax 0, 180000, .inl as))] sz))) 0 0 (va_A [(m0, .inr (11, [.int s_thrown, .int s_taped, .ref m1, .int s_size, .int s_outSize, .ref m2, .int s_kind, .int s_value, .int s_begin, .int s_end, .int s_failed, .ref m3, .ref m4, .ref m5, .int s_isProgram, .int s_half, .ref m6, .ref m7, .ref m8, .ref m9, .ref m10, .ref m11, .ref m12, .ref m13, .ref m14, .ref m15, .ref m16, .ref m17, .ref m18, .ref m19, .ref m20, .int s_signs, .ref m21, .int s_stacked, .ref m22, .int s_name, .int s_shift, .int s_statements, .int s_ifs, .int s_whiles, .int s_variants, .int s_open, .ref m23, .int s_isMade, .int s_conditions, .ref m24, .ref m25, .ref m26, .ref m27, .int s_kept, .ref m28, .int (nI (mm + 2)), .ref m29, .int (nI us), .ref m30, .ref m31, .int s_looked, .int s_rows, .int s_firstRow, .ref m32, .ref m33, .ref m34, .ref m35, .ref m36, .ref m37, .ref m38, .ref m39, .ref m40, .int s_isBroken, .ref m41, .int s_atoms, .ref m42])), (m30, .inl (ax 0, 180000, .inl wk)), (m29, .inl (ax 0, 16, .inl (fun j => nI (tp j)))), (m7, .inl (ax 0, 80, .inl (fun j => nI (op j)))), (m31, .inl (ax 0, 180000, .inl as))] sz) := by
  refine Met.ofW (cc := b_Model_weaken) (maxL := 3) (ret := none) (by decide) rfl ?_
  intro p e s m args below meth c s₁ B hml hv
  obtain ⟨rfl, hsz, hP, hK, hD0⟩ := hv
  have hx := B.exec
  have hb := B.bytes
  have hr := B.returns
  have hts := xw_hts B.pre
  have hown : s.vm.findClass R_Model = some m.cls := findClass_of_methodNamed B.named
  have hlocks := B.notSynchronized
  subst hsz
  have hD := hD0.self (sz := s.heap.size)
  have hN := xz_entry hP
  generalize hAe : va_A [(m0, .inr (11, [.int s_thrown, .int s_taped, .ref m1, .int s_size, .int s_outSize, .ref m2, .int s_kind, .int s_value, .int s_begin, .int s_end, .int s_failed, .ref m3, .ref m4, .ref m5, .int s_isProgram, .int s_half, .ref m6, .ref m7, .ref m8, .ref m9, .ref m10, .ref m11, .ref m12, .ref m13, .ref m14, .ref m15, .ref m16, .ref m17, .ref m18, .ref m19, .ref m20, .int s_signs, .ref m21, .int s_stacked, .ref m22, .int s_name, .int s_shift, .int s_statements, .int s_ifs, .int s_whiles, .int s_variants, .int s_open, .ref m23, .int s_isMade, .int s_conditions, .ref m24, .ref m25, .ref m26, .ref m27, .int s_kept, .ref m28, .int (nI (mm + 2)), .ref m29, .int (nI us), .ref m30, .ref m31, .int s_looked, .int s_rows, .int s_firstRow, .ref m32, .ref m33, .ref m34, .ref m35, .ref m36, .ref m37, .ref m38, .ref m39, .ref m40, .int s_isBroken, .ref m41, .int s_atoms, .ref m42])), (m30, .inl (ax 0, 180000, .inl wk)), (m29, .inl (ax 0, 16, .inl (fun j => nI (tp j)))), (m7, .inl (ax 0, 80, .inl (fun j => nI (op j)))), (m31, .inl (ax 0, 180000, .inl as))] s.heap.size = A at hD hN ⊢
  have hA : ∀ q : Nat, s.heap.size ≤ q → A q := fun q h => by rw [← hAe]; exact Or.inr h
  have hS : va_S A s.heap s.heap [] := va_S.rf
  have hl0 := lv_entry ([.ref m0, .int (nI ix)]) (n := 3) (Nat.le_of_ble_eq_true rfl)
  rw [lg_entry_eq]
  generalize (lg_sl ([.ref m0, .int (nI ix)]) ++ List.replicate (3 - (lg_sl ([.ref m0, .int (nI ix)])).length) Slot.unset).toArray = ls at hl0 ⊢
  have hl1 : lv_has ls 3 [(0, .ref m0), (1, .int (nI ix))] := hl0
  refine lv_aload_n hx hb d_Model_weaken_0 rfl (lv_at hl1 0 rfl) ?_
  refine va_get (D := D) (ci := 11) (v := .ref m7) (C := R_Model) (T := F_Model) (N := 72) hx hb hts i_Model hown hK.1 hP 0 rfl rfl 17 (by decide) (hts _ wd_1053) (fun _ h9 => h9) rfl d_Model_weaken_1 ?_
  refine lv_iload_n hx hb d_Model_weaken_4 rfl (lv_at hl1 1 rfl) ?_
  refine va_iald hx hb hK.1 hP 3 0 rfl rfl (vp_in_nI (by omega) (by omega)) d_Model_weaken_5 ?_
  refine W.eq (g2 := F0 m 6 ls [.int (nI (op ix))]) (by rw [nI_clamp (by omega)]) ?_
  refine lv_if_ne (tgt := 34) hx hb d_Model_weaken_6 (by decide) (fun c_1 => ?_) (fun c_1 => ?_)
  rotate_left
  · exfalso
    replace c_1 : op ix = 0 := (nI_eq (a := op ix) (b := 0) (by omega) (by omega)).mp c_1
    omega
  replace c_1 : ¬ op ix = 0 := fun hq9 => c_1 ((nI_eq (a := op ix) (b := 0) (by omega) (by omega)).mpr hq9)
  refine lv_aload_n hx hb d_Model_weaken_34 rfl (lv_at hl1 0 rfl) ?_
  refine va_get (D := D) (ci := 11) (v := .ref m7) (C := R_Model) (T := F_Model) (N := 72) hx hb hts i_Model hown hK.1 hP 0 rfl rfl 17 (by decide) (hts _ wd_1053) (fun _ h9 => h9) rfl d_Model_weaken_35 ?_
  refine lv_iload_n hx hb d_Model_weaken_38 rfl (lv_at hl1 1 rfl) ?_
  refine va_iald hx hb hK.1 hP 3 0 rfl rfl (vp_in_nI (by omega) (by omega)) d_Model_weaken_39 ?_
  refine W.eq (g2 := F0 m 40 ls [.int (nI (op ix))]) (by rw [nI_clamp (by omega)]) ?_
  refine lv_iconst (v := 4) hx hb d_Model_weaken_40 (by decide) ?_
  refine lv_icmp_ne (tgt := 51) hx hb d_Model_weaken_41 (by decide) (fun c_2 => ?_) (fun c_2 => ?_)
  rotate_left
  · exfalso
    replace c_2 : op ix = 4 := (nI_eq (a := op ix) (b := 4) (by omega) (by omega)).mp c_2
    omega
  replace c_2 : ¬ op ix = 4 := fun hq9 => c_2 ((nI_eq (a := op ix) (b := 4) (by omega) (by omega)).mpr hq9)
  refine lv_aload_n hx hb d_Model_weaken_51 rfl (lv_at hl1 0 rfl) ?_
  refine va_get (D := D) (ci := 11) (v := .ref m7) (C := R_Model) (T := F_Model) (N := 72) hx hb hts i_Model hown hK.1 hP 0 rfl rfl 17 (by decide) (hts _ wd_1053) (fun _ h9 => h9) rfl d_Model_weaken_52 ?_
  refine lv_iload_n hx hb d_Model_weaken_55 rfl (lv_at hl1 1 rfl) ?_
  refine va_iald hx hb hK.1 hP 3 0 rfl rfl (vp_in_nI (by omega) (by omega)) d_Model_weaken_56 ?_
  refine W.eq (g2 := F0 m 57 ls [.int (nI (op ix))]) (by rw [nI_clamp (by omega)]) ?_
  refine lv_iconst (v := 3) hx hb d_Model_weaken_57 (by decide) ?_
  refine lv_icmp_ne (tgt := 68) hx hb d_Model_weaken_58 (by decide) (fun c_3 => ?_) (fun c_3 => ?_)
  · exfalso
    replace c_3 : ¬ op ix = 3 := fun hq9 => c_3 ((nI_eq (a := op ix) (b := 3) (by omega) (by omega)).mpr hq9)
    omega
  replace c_3 : op ix = 3 := (nI_eq (a := op ix) (b := 3) (by omega) (by omega)).mp c_3
  refine lv_aload_n hx hb d_Model_weaken_61 rfl (lv_at hl1 0 rfl) ?_
  obtain ⟨hPc, hDc, hFc, hCs⟩ := xw_sub3 (wc := [(m0, .inr (11, [.int s_thrown, .int s_taped, .ref m1, .int s_size, .int s_outSize, .ref m2, .int s_kind, .int s_value, .int s_begin, .int s_end, .int s_failed, .ref m3, .ref m4, .ref m5, .int s_isProgram, .int s_half, .ref m6, .ref m7, .ref m8, .ref m9, .ref m10, .ref m11, .ref m12, .ref m13, .ref m14, .ref m15, .ref m16, .ref m17, .ref m18, .ref m19, .ref m20, .int s_signs, .ref m21, .int s_stacked, .ref m22, .int s_name, .int s_shift, .int s_statements, .int s_ifs, .int s_whiles, .int s_variants, .int s_open, .ref m23, .int s_isMade, .int s_conditions, .ref m24, .ref m25, .ref m26, .ref m27, .int s_kept, .ref m28, .int (nI (mm + 2)), .ref m29, .int (nI us), .ref m30, .ref m31, .int s_looked, .int s_rows, .int s_firstRow, .ref m32, .ref m33, .ref m34, .ref m35, .ref m36, .ref m37, .ref m38, .ref m39, .ref m40, .int s_isBroken, .ref m41, .int s_atoms, .ref m42])), (m30, .inl (ax 0, 180000, .inl wk)), (m29, .inl (ax 0, 16, .inl (fun j => nI (tp j)))), (m31, .inl (ax 0, 180000, .inl as))]) hP hD hS hA [0, 1, 2, 4] (by decide) rfl
  have hz := xz_of hN hS
  refine va_callv (va_runV (As := []) (rest := []) ⟨hx, hb, hml, hown, hts⟩ (c_M_swapTops l D ax m0 m1 m2 m3 m4 m5 m6 m7 m8 m9 m10 m11 m12 m13 m14 m15 m16 m17 m18 m19 m20 m21 m22 m23 m24 m25 m26 m27 m28 m29 m30 m31 m32 m33 m34 m35 m36 m37 m38 m39 m40 m41 m42 s_thrown s_taped s_size s_outSize s_kind s_value s_begin s_end s_failed s_isProgram s_half s_signs s_stacked s_name s_shift s_statements s_ifs s_whiles s_variants s_open s_isMade s_conditions s_kept s_looked s_rows s_firstRow s_isBroken s_atoms mm us wk tp as s.heap.size (by omega) (by omega) (by assumption)) (xcV (n := 0) hts wd_1439 wd_15 wd_1436 wd_1438 ps_85 rfl rfl (by decide +kernel) ⟨Nat.le_of_ble_eq_true rfl, Nat.le_of_ble_eq_true rfl⟩) (xpV (ci := 11) (q0 := 0) (As := []) hPc hK hz hDc rfl rfl) rfl rfl hl1.1 rfl (lv_room (Nat.le_of_ble_eq_true rfl)) d_Model_weaken_62 ⟨Nat.le_of_ble_eq_true rfl, Nat.le_of_ble_eq_true rfl⟩) hS (fun q _ h => hFc q h) hFc (fun u_4 t H_5 locs ht hvm hw hB hz1 hk1 hS1 => ?_)
  try dsimp only at hw
  obtain ⟨x_7, x_8, x_9, hx_10, hx_11, hx_12, hP1, hD1⟩ := hB
  rw [ht] at hP1
  have hjn := xw_join3 (wl := [(m7, .inl (ax 0, 80, .inl (fun j => nI (op j)))), (m0, .inr (11, [.int s_thrown, .int s_taped, .ref m1, .int s_size, .int s_outSize, .ref m2, .int s_kind, .int s_value, .int s_begin, .int s_end, .int s_failed, .ref m3, .ref m4, .ref m5, .int s_isProgram, .int s_half, .ref m6, .ref m7, .ref m8, .ref m9, .ref m10, .ref m11, .ref m12, .ref m13, .ref m14, .ref m15, .ref m16, .ref m17, .ref m18, .ref m19, .ref m20, .int s_signs, .ref m21, .int s_stacked, .ref m22, .int s_name, .int s_shift, .int s_statements, .int s_ifs, .int s_whiles, .int s_variants, .int s_open, .ref m23, .int s_isMade, .int s_conditions, .ref m24, .ref m25, .ref m26, .ref m27, .int s_kept, .ref m28, .int (nI (mm + 2)), .ref m29, .int (nI us), .ref m30, .ref m31, .int s_looked, .int s_rows, .int s_firstRow, .ref m32, .ref m33, .ref m34, .ref m35, .ref m36, .ref m37, .ref m38, .ref m39, .ref m40, .int s_isBroken, .ref m41, .int s_atoms, .ref m42])), (m30, .inl (ax 0, 180000, .inl x_8)), (m29, .inl (ax 0, 16, .inl (fun j => nI (x_7 j)))), (m31, .inl (ax 0, 180000, .inl x_9))]) hP hD [0, 1, 2, 4] [3] hCs (by decide) (by decide) hk1 hFc hP1 hD1 rfl
  clear hP1 hD1
  clear hPc hDc hFc hCs hz hz1 hk1 ht hvm
  clear hP hD hS
  have hS := hS1
  obtain ⟨hP, hD⟩ := hjn
  clear hS1
  refine lv_goto (tgt := 219) hx hb d_Model_weaken_65 (by decide) ?_
  obtain ⟨hP9, hD9⟩ := xw_sub2 (wc := (fun (u : Nat → Nat) (xtp : Nat → Nat) (xwk : Nat → Int32) (xas : Nat → Int32) => [(m0, .inr (11, [.int s_thrown, .int s_taped, .ref m1, .int s_size, .int s_outSize, .ref m2, .int s_kind, .int s_value, .int s_begin, .int s_end, .int s_failed, .ref m3, .ref m4, .ref m5, .int s_isProgram, .int s_half, .ref m6, .ref m7, .ref m8, .ref m9, .ref m10, .ref m11, .ref m12, .ref m13, .ref m14, .ref m15, .ref m16, .ref m17, .ref m18, .ref m19, .ref m20, .int s_signs, .ref m21, .int s_stacked, .ref m22, .int s_name, .int s_shift, .int s_statements, .int s_ifs, .int s_whiles, .int s_variants, .int s_open, .ref m23, .int s_isMade, .int s_conditions, .ref m24, .ref m25, .ref m26, .ref m27, .int s_kept, .ref m28, .int (nI (mm + 2)), .ref m29, .int (nI us), .ref m30, .ref m31, .int s_looked, .int s_rows, .int s_firstRow, .ref m32, .ref m33, .ref m34, .ref m35, .ref m36, .ref m37, .ref m38, .ref m39, .ref m40, .int s_isBroken, .ref m41, .int s_atoms, .ref m42])), (m30, .inl (ax 0, 180000, .inl xwk)), (m29, .inl (ax 0, 16, .inl (fun j => nI (xtp j)))), (m7, .inl (ax 0, 80, .inl (fun j => nI (op j)))), (m31, .inl (ax 0, 180000, .inl xas))]) (ixn []) x_7 x_8 x_9) hP hD [1, 2, 3, 0, 4] (by decide) rfl
  have hex0 : ∀ i, i ≤ mm → x_7 i = tp i := (by assumption)
  have hex1 : stk x_8 x_7 (mm + 2) us := (by assumption)
  have hex2 : x_7 (mm + 1) = tp mm + (us - tp (mm + 1)) := (by assumption)
  exact W.vret hx hb hr (fun t ht hW => ⟨⟨ixn [], rfl, trivial, ⟨x_7, x_8, x_9, hex0, hex1, hex2, by rw [ht]; exact hP9, hD9⟩⟩, hS.F ht⟩) hS.2.2 d_Model_weaken_219
set_option maxHeartbeats 40000000 in
set_option maxRecDepth 100000 in
theorem c_M_weaken_if (l : Launch) (D : va_G) (ax : Nat → ClassId) (m0 m1 m2 m3 m4 m5 m6 m7 m8 m9 m10 m11 m12 m13 m14 m15 m16 m17 m18 m19 m20 m21 m22 m23 m24 m25 m26 m27 m28 m29 m30 m31 m32 m33 m34 m35 m36 m37 m38 m39 m40 m41 m42 : Nat) (s_thrown s_taped s_size s_outSize s_kind s_value s_begin s_end s_failed s_isProgram s_half s_signs s_stacked s_name s_shift s_statements s_ifs s_whiles s_variants s_open s_isMade s_conditions s_kept s_looked s_rows s_firstRow s_isBroken s_atoms : Int32) (mm us ix : Nat) (wk : Nat → Int32) (tp op : Nat → Nat) (o P : Nat) (fi fs : Nat → Nat) (pl as : Nat → Int32) (sz : Nat) (hix : ix < 80) (hop : op ix = 2) (hm1 : mm < 12) (hus : us + 2 * fs ix + 4 ≤ 30000) (hk : stk wk tp (mm + 2) us) (ho : o ≤ 1) (hP5 : P ≤ 500) (hcd : cdn 6 o P pl (fi ix) (fs ix)) : Met l y_Model_weaken (xws (.code y_Model_weaken b_Model_weaken 3 none)) ({ frames := 50, cells := 0, slots := 0, locals := 2000 }) (va_Pc [.ref m0, .int (nI ix)] (xo D ax [(m0, .inr (11, [.int s_thrown, .int s_taped, .ref m1, .int s_size, .int s_outSize, .ref m2, .int s_kind, .int s_value, .int s_begin, .int s_end, .int s_failed, .ref m3, .ref m4, .ref m5, .int s_isProgram, .int s_half, .ref m6, .ref m7, .ref m8, .ref m9, .ref m10, .ref m11, .ref m12, .ref m13, .ref m14, .ref m15, .ref m16, .ref m17, .ref m18, .ref m19, .ref m20, .int s_signs, .ref m21, .int s_stacked, .ref m22, .int s_name, .int s_shift, .int s_statements, .int s_ifs, .int s_whiles, .int s_variants, .int s_open, .ref m23, .int s_isMade, .int s_conditions, .ref m24, .ref m25, .ref m26, .ref m27, .int s_kept, .ref m28, .int (nI (mm + 2)), .ref m29, .int (nI us), .ref m30, .ref m31, .int s_looked, .int s_rows, .int s_firstRow, .ref m32, .ref m33, .ref m34, .ref m35, .ref m36, .ref m37, .ref m38, .ref m39, .ref m40, .int s_isBroken, .ref m41, .int s_atoms, .ref m42])), (m30, .inl (ax 0, 180000, .inl wk)), (m29, .inl (ax 0, 16, .inl (fun j => nI (tp j)))), (m7, .inl (ax 0, 80, .inl (fun j => nI (op j)))), (m31, .inl (ax 0, 180000, .inl as)), (m12, .inl (ax 0, 80, .inl (fun j => nI (fi j)))), (m13, .inl (ax 0, 80, .inl (fun j => nI (fs j)))), (m19, .inl (ax 0, 6000, .inl pl))] sz)) ((va_Qv (fun (u : Nat → Nat) => (u 0 = us + 2 * fs ix + 4)) (fun (u : Nat → Nat) (t9 : State) => ∃ xtp : Nat → Nat, ∃ xwk : Nat → Int32, ∃ xas : Nat → Int32, (∀ i, i ≤ mm → xtp i = tp i) ∧ (stk xwk xtp (mm + 1) (u 0)) ∧ va_P D classes [(m0, .inr (11, [.int s_thrown, .int s_taped, .ref m1, .int s_size, .int s_outSize, .ref m2, .int s_kind, .int s_value, .int s_begin, .int s_end, .int s_failed, .ref m3, .ref m4, .ref m5, .int s_isProgram, .int s_half, .ref m6, .ref m7, .ref m8, .ref m9, .ref m10, .ref m11, .ref m12, .ref m13, .ref m14, .ref m15, .ref m16, .ref m17, .ref m18, .ref m19, .ref m20, .int s_signs, .ref m21, .int s_stacked, .ref m22, .int s_name, .int s_shift, .int s_statements, .int s_ifs, .int s_whiles, .int s_variants, .int s_open, .ref m23, .int s_isMade, .int s_conditions, .ref m24, .ref m25, .ref m26, .ref m27, .int s_kept, .ref m28, .int (nI (mm + 1)), .ref m29, .int (nI (u 0)), .ref m30, .ref m31, .int s_looked, .int s_rows, .int s_firstRow, .ref m32, .ref m33, .ref m34, .ref m35, .ref m36, .ref m37, .ref m38, .ref m39, .ref m40, .int s_isBroken, .ref m41, .int s_atoms, .ref m42])), (m30, .inl (ax 0, 180000, .inl xwk)), (m29, .inl (ax 0, 16, .inl (fun j => nI (xtp j)))), (m7, .inl (ax 0, 80, .inl (fun j => nI (op j)))), (m31, .inl (ax 0, 180000, .inl xas)), (m12, .inl (ax 0, 80, .inl (fun j => nI (fi j)))), (m13, .inl (ax 0, 80, .inl (fun j => nI (fs j)))), (m19, .inl (ax 0, 6000, .inl pl))] t9.heap ∧ va_D (va_A [(m0, .inr (11, [.int s_thrown, .int s_taped, .ref m1, .int s_size, .int s_outSize, .ref m2, .int s_kind, .int s_value, .int s_begin, .int s_end, .int s_failed, .ref m3, .ref m4, .ref m5, .int s_isProgram, .int s_half, .ref m6, .ref m7, .ref m8, .ref m9, .ref m10, .ref m11, .ref m12, .ref m13, .ref m14, .ref m15, .ref m16, .ref m17, .ref m18, .ref m19, .ref m20, .int s_signs, .ref m21, .int s_stacked, .ref m22, .int s_name, .int s_shift, .int s_statements, .int s_ifs, .int s_whiles, .int s_variants, .int s_open, .ref m23, .int s_isMade, .int s_conditions, .ref m24, .ref m25, .ref m26, .ref m27, .int s_kept, .ref m28, .int (nI (mm + 2)), .ref m29, .int (nI us), .ref m30, .ref m31, .int s_looked, .int s_rows, .int s_firstRow, .ref m32, .ref m33, .ref m34, .ref m35, .ref m36, .ref m37, .ref m38, .ref m39, .ref m40, .int s_isBroken, .ref m41, .int s_atoms, .ref m42])), (m30, .inl (ax 0, 180000, .inl wk)), (m29, .inl (ax 0, 16, .inl (fun j => nI (tp j)))), (m7, .inl (ax 0, 80, .inl (fun j => nI (op j)))), (m31, .inl (ax 0, 180000, .inl as)), (m12, .inl (ax 0, 80, .inl (fun j => nI (fi j)))), (m13, .inl (ax 0, 80, .inl (fun j => nI (fs j)))), (m19, .inl (ax 0, 6000, .inl pl))] sz) [(m0, .inr (11, [.int s_thrown, .int s_taped, .ref m1, .int s_size, .int s_outSize, .ref m2, .int s_kind, .int s_value, .int s_begin, .int s_end, .int s_failed, .ref m3, .ref m4, .ref m5, .int s_isProgram, .int s_half, .ref m6, .ref m7, .ref m8, .ref m9, .ref m10, .ref m11, .ref m12, .ref m13, .ref m14, .ref m15, .ref m16, .ref m17, .ref m18, .ref m19, .ref m20, .int s_signs, .ref m21, .int s_stacked, .ref m22, .int s_name, .int s_shift, .int s_statements, .int s_ifs, .int s_whiles, .int s_variants, .int s_open, .ref m23, .int s_isMade, .int s_conditions, .ref m24, .ref m25, .ref m26, .ref m27, .int s_kept, .ref m28, .int (nI (mm + 1)), .ref m29, .int (nI (u 0)), .ref m30, .ref m31, .int s_looked, .int s_rows, .int s_firstRow, .ref m32, .ref m33, .ref m34, .ref m35, .ref m36, .ref m37, .ref m38, .ref m39, .ref m40, .int s_isBroken, .ref m41, .int s_atoms, .ref m42])), (m30, .inl (ax 0, 180000, .inl xwk)), (m29, .inl (ax 0, 16, .inl (fun j => nI (xtp j)))), (m7, .inl (ax 0, 80, .inl (fun j => nI (op j)))), (m31, .inl (ax 0, 180000, .inl xas)), (m12, .inl (ax 0, 80, .inl (fun j => nI (fi j)))), (m13, .inl (ax 0, 80, .inl (fun j => nI (fs j)))), (m19, .inl (ax 0, 6000, .inl pl))]) (va_A [(m0, .inr (11, [.int s_thrown, .int s_taped, .ref m1, .int s_size, .int s_outSize, .ref m2, .int s_kind, .int s_value, .int s_begin, .int s_end, .int s_failed, .ref m3, .ref m4, .ref m5, .int s_isProgram, .int s_half, .ref m6, .ref m7, .ref m8, .ref m9, .ref m10, .ref m11, .ref m12, .ref m13, .ref m14, .ref m15, .ref m16, .ref m17, .ref m18, .ref m19, .ref m20, .int s_signs, .ref m21, .int s_stacked, .ref m22, .int s_name, .int s_shift, .int s_statements, .int s_ifs, .int s_whiles, .int s_variants, .int s_open, .ref m23, .int s_isMade, .int s_conditions, .ref m24, .ref m25, .ref m26, .ref m27, .int s_kept, .ref m28, .int (nI (mm + 2)), .ref m29, .int (nI us), .ref m30, .ref m31, .int s_looked, .int s_rows, .int s_firstRow, .ref m32, .ref m33, .ref m34, .ref m35, .ref m36, .ref m37, .ref m38, .ref m39, .ref m40, .int s_isBroken, .ref m41, .int s_atoms, .ref m42])), (m30, .inl (ax 0, 180000, .inl wk)), (m29, .inl (ax 0, 16, .inl (fun j => nI (tp j)))), (m7, .inl (ax 0, 80, .inl (fun j => nI (op j)))), (m31, .inl (ax 0, 180000, .inl as)), (m12, .inl (ax 0, 80, .inl (fun j => nI (fi j)))), (m13, .inl (ax 0, 80, .inl (fun j => nI (fs j)))), (m19, .inl (ax 0, 6000, .inl pl))] sz))) 0 0 (va_A [(m0, .inr (11, [.int s_thrown, .int s_taped, .ref m1, .int s_size, .int s_outSize, .ref m2, .int s_kind, .int s_value, .int s_begin, .int s_end, .int s_failed, .ref m3, .ref m4, .ref m5, .int s_isProgram, .int s_half, .ref m6, .ref m7, .ref m8, .ref m9, .ref m10, .ref m11, .ref m12, .ref m13, .ref m14, .ref m15, .ref m16, .ref m17, .ref m18, .ref m19, .ref m20, .int s_signs, .ref m21, .int s_stacked, .ref m22, .int s_name, .int s_shift, .int s_statements, .int s_ifs, .int s_whiles, .int s_variants, .int s_open, .ref m23, .int s_isMade, .int s_conditions, .ref m24, .ref m25, .ref m26, .ref m27, .int s_kept, .ref m28, .int (nI (mm + 2)), .ref m29, .int (nI us), .ref m30, .ref m31, .int s_looked, .int s_rows, .int s_firstRow, .ref m32, .ref m33, .ref m34, .ref m35, .ref m36, .ref m37, .ref m38, .ref m39, .ref m40, .int s_isBroken, .ref m41, .int s_atoms, .ref m42])), (m30, .inl (ax 0, 180000, .inl wk)), (m29, .inl (ax 0, 16, .inl (fun j => nI (tp j)))), (m7, .inl (ax 0, 80, .inl (fun j => nI (op j)))), (m31, .inl (ax 0, 180000, .inl as)), (m12, .inl (ax 0, 80, .inl (fun j => nI (fi j)))), (m13, .inl (ax 0, 80, .inl (fun j => nI (fs j)))), (m19, .inl (ax 0, 6000, .inl pl))] sz) := by
  refine Met.ofW (cc := b_Model_weaken) (maxL := 3) (ret := none) (by decide) rfl ?_
  intro p e s m args below meth c s₁ B hml hv
  obtain ⟨rfl, hsz, hP, hK, hD0⟩ := hv
  have hx := B.exec
  have hb := B.bytes
  have hr := B.returns
  have hts := xw_hts B.pre
  have hown : s.vm.findClass R_Model = some m.cls := findClass_of_methodNamed B.named
  have hlocks := B.notSynchronized
  subst hsz
  have hD := hD0.self (sz := s.heap.size)
  have hN := xz_entry hP
  generalize hAe : va_A [(m0, .inr (11, [.int s_thrown, .int s_taped, .ref m1, .int s_size, .int s_outSize, .ref m2, .int s_kind, .int s_value, .int s_begin, .int s_end, .int s_failed, .ref m3, .ref m4, .ref m5, .int s_isProgram, .int s_half, .ref m6, .ref m7, .ref m8, .ref m9, .ref m10, .ref m11, .ref m12, .ref m13, .ref m14, .ref m15, .ref m16, .ref m17, .ref m18, .ref m19, .ref m20, .int s_signs, .ref m21, .int s_stacked, .ref m22, .int s_name, .int s_shift, .int s_statements, .int s_ifs, .int s_whiles, .int s_variants, .int s_open, .ref m23, .int s_isMade, .int s_conditions, .ref m24, .ref m25, .ref m26, .ref m27, .int s_kept, .ref m28, .int (nI (mm + 2)), .ref m29, .int (nI us), .ref m30, .ref m31, .int s_looked, .int s_rows, .int s_firstRow, .ref m32, .ref m33, .ref m34, .ref m35, .ref m36, .ref m37, .ref m38, .ref m39, .ref m40, .int s_isBroken, .ref m41, .int s_atoms, .ref m42])), (m30, .inl (ax 0, 180000, .inl wk)), (m29, .inl (ax 0, 16, .inl (fun j => nI (tp j)))), (m7, .inl (ax 0, 80, .inl (fun j => nI (op j)))), (m31, .inl (ax 0, 180000, .inl as)), (m12, .inl (ax 0, 80, .inl (fun j => nI (fi j)))), (m13, .inl (ax 0, 80, .inl (fun j => nI (fs j)))), (m19, .inl (ax 0, 6000, .inl pl))] s.heap.size = A at hD hN ⊢
  have hA : ∀ q : Nat, s.heap.size ≤ q → A q := fun q h => by rw [← hAe]; exact Or.inr h
  have hS : va_S A s.heap s.heap [] := va_S.rf
  have hl0 := lv_entry ([.ref m0, .int (nI ix)]) (n := 3) (Nat.le_of_ble_eq_true rfl)
  rw [lg_entry_eq]
  generalize (lg_sl ([.ref m0, .int (nI ix)]) ++ List.replicate (3 - (lg_sl ([.ref m0, .int (nI ix)])).length) Slot.unset).toArray = ls at hl0 ⊢
  have hl1 : lv_has ls 3 [(0, .ref m0), (1, .int (nI ix))] := hl0
  refine lv_aload_n hx hb d_Model_weaken_0 rfl (lv_at hl1 0 rfl) ?_
  refine va_get (D := D) (ci := 11) (v := .ref m7) (C := R_Model) (T := F_Model) (N := 72) hx hb hts i_Model hown hK.1 hP 0 rfl rfl 17 (by decide) (hts _ wd_1053) (fun _ h9 => h9) rfl d_Model_weaken_1 ?_
  refine lv_iload_n hx hb d_Model_weaken_4 rfl (lv_at hl1 1 rfl) ?_
  refine va_iald hx hb hK.1 hP 3 0 rfl rfl (vp_in_nI (by omega) (by omega)) d_Model_weaken_5 ?_
  refine W.eq (g2 := F0 m 6 ls [.int (nI (op ix))]) (by rw [nI_clamp (by omega)]) ?_
  refine lv_if_ne (tgt := 34) hx hb d_Model_weaken_6 (by decide) (fun c_1 => ?_) (fun c_1 => ?_)
  rotate_left
  · exfalso
    replace c_1 : op ix = 0 := (nI_eq (a := op ix) (b := 0) (by omega) (by omega)).mp c_1
    omega
  replace c_1 : ¬ op ix = 0 := fun hq9 => c_1 ((nI_eq (a := op ix) (b := 0) (by omega) (by omega)).mpr hq9)
  refine lv_aload_n hx hb d_Model_weaken_34 rfl (lv_at hl1 0 rfl) ?_
  refine va_get (D := D) (ci := 11) (v := .ref m7) (C := R_Model) (T := F_Model) (N := 72) hx hb hts i_Model hown hK.1 hP 0 rfl rfl 17 (by decide) (hts _ wd_1053) (fun _ h9 => h9) rfl d_Model_weaken_35 ?_
  refine lv_iload_n hx hb d_Model_weaken_38 rfl (lv_at hl1 1 rfl) ?_
  refine va_iald hx hb hK.1 hP 3 0 rfl rfl (vp_in_nI (by omega) (by omega)) d_Model_weaken_39 ?_
  refine W.eq (g2 := F0 m 40 ls [.int (nI (op ix))]) (by rw [nI_clamp (by omega)]) ?_
  refine lv_iconst (v := 4) hx hb d_Model_weaken_40 (by decide) ?_
  refine lv_icmp_ne (tgt := 51) hx hb d_Model_weaken_41 (by decide) (fun c_2 => ?_) (fun c_2 => ?_)
  rotate_left
  · exfalso
    replace c_2 : op ix = 4 := (nI_eq (a := op ix) (b := 4) (by omega) (by omega)).mp c_2
    omega
  replace c_2 : ¬ op ix = 4 := fun hq9 => c_2 ((nI_eq (a := op ix) (b := 4) (by omega) (by omega)).mpr hq9)
  refine lv_aload_n hx hb d_Model_weaken_51 rfl (lv_at hl1 0 rfl) ?_
  refine va_get (D := D) (ci := 11) (v := .ref m7) (C := R_Model) (T := F_Model) (N := 72) hx hb hts i_Model hown hK.1 hP 0 rfl rfl 17 (by decide) (hts _ wd_1053) (fun _ h9 => h9) rfl d_Model_weaken_52 ?_
  refine lv_iload_n hx hb d_Model_weaken_55 rfl (lv_at hl1 1 rfl) ?_
  refine va_iald hx hb hK.1 hP 3 0 rfl rfl (vp_in_nI (by omega) (by omega)) d_Model_weaken_56 ?_
  refine W.eq (g2 := F0 m 57 ls [.int (nI (op ix))]) (by rw [nI_clamp (by omega)]) ?_
  refine lv_iconst (v := 3) hx hb d_Model_weaken_57 (by decide) ?_
  refine lv_icmp_ne (tgt := 68) hx hb d_Model_weaken_58 (by decide) (fun c_3 => ?_) (fun c_3 => ?_)
  rotate_left
  · exfalso
    replace c_3 : op ix = 3 := (nI_eq (a := op ix) (b := 3) (by omega) (by omega)).mp c_3
    omega
  replace c_3 : ¬ op ix = 3 := fun hq9 => c_3 ((nI_eq (a := op ix) (b := 3) (by omega) (by omega)).mpr hq9)
  refine lv_aload_n hx hb d_Model_weaken_68 rfl (lv_at hl1 0 rfl) ?_
  refine va_get (D := D) (ci := 11) (v := .ref m7) (C := R_Model) (T := F_Model) (N := 72) hx hb hts i_Model hown hK.1 hP 0 rfl rfl 17 (by decide) (hts _ wd_1053) (fun _ h9 => h9) rfl d_Model_weaken_69 ?_
  refine lv_iload_n hx hb d_Model_weaken_72 rfl (lv_at hl1 1 rfl) ?_
  refine va_iald hx hb hK.1 hP 3 0 rfl rfl (vp_in_nI (by omega) (by omega)) d_Model_weaken_73 ?_
  refine W.eq (g2 := F0 m 74 ls [.int (nI (op ix))]) (by rw [nI_clamp (by omega)]) ?_
  refine lv_iconst (v := 2) hx hb d_Model_weaken_74 (by decide) ?_
  refine lv_icmp_ne (tgt := 86) hx hb d_Model_weaken_75 (by decide) (fun c_4 => ?_) (fun c_4 => ?_)
  · exfalso
    replace c_4 : ¬ op ix = 2 := fun hq9 => c_4 ((nI_eq (a := op ix) (b := 2) (by omega) (by omega)).mpr hq9)
    omega
  replace c_4 : op ix = 2 := (nI_eq (a := op ix) (b := 2) (by omega) (by omega)).mp c_4
  refine lv_aload_n hx hb d_Model_weaken_78 rfl (lv_at hl1 0 rfl) ?_
  refine lv_iload_n hx hb d_Model_weaken_79 rfl (lv_at hl1 1 rfl) ?_
  obtain ⟨hPc, hDc, hFc, hCs⟩ := xw_sub3 (wc := [(m0, .inr (11, [.int s_thrown, .int s_taped, .ref m1, .int s_size, .int s_outSize, .ref m2, .int s_kind, .int s_value, .int s_begin, .int s_end, .int s_failed, .ref m3, .ref m4, .ref m5, .int s_isProgram, .int s_half, .ref m6, .ref m7, .ref m8, .ref m9, .ref m10, .ref m11, .ref m12, .ref m13, .ref m14, .ref m15, .ref m16, .ref m17, .ref m18, .ref m19, .ref m20, .int s_signs, .ref m21, .int s_stacked, .ref m22, .int s_name, .int s_shift, .int s_statements, .int s_ifs, .int s_whiles, .int s_variants, .int s_open, .ref m23, .int s_isMade, .int s_conditions, .ref m24, .ref m25, .ref m26, .ref m27, .int s_kept, .ref m28, .int (nI (mm + 2)), .ref m29, .int (nI us), .ref m30, .ref m31, .int s_looked, .int s_rows, .int s_firstRow, .ref m32, .ref m33, .ref m34, .ref m35, .ref m36, .ref m37, .ref m38, .ref m39, .ref m40, .int s_isBroken, .ref m41, .int s_atoms, .ref m42])), (m30, .inl (ax 0, 180000, .inl wk)), (m29, .inl (ax 0, 16, .inl (fun j => nI (tp j)))), (m31, .inl (ax 0, 180000, .inl as)), (m12, .inl (ax 0, 80, .inl (fun j => nI (fi j)))), (m13, .inl (ax 0, 80, .inl (fun j => nI (fs j)))), (m19, .inl (ax 0, 6000, .inl pl))]) hP hD hS hA [0, 1, 2, 4, 5, 6, 7] (by decide) rfl
  have hz := xz_of hN hS
  refine va_callv (va_runV (As := [.int (nI ix)]) (rest := []) ⟨hx, hb, hml, hown, hts⟩ (c_M_weakenIf l D ax m0 m1 m2 m3 m4 m5 m6 m7 m8 m9 m10 m11 m12 m13 m14 m15 m16 m17 m18 m19 m20 m21 m22 m23 m24 m25 m26 m27 m28 m29 m30 m31 m32 m33 m34 m35 m36 m37 m38 m39 m40 m41 m42 s_thrown s_taped s_size s_outSize s_kind s_value s_begin s_end s_failed s_isProgram s_half s_signs s_stacked s_name s_shift s_statements s_ifs s_whiles s_variants s_open s_isMade s_conditions s_kept s_looked s_rows s_firstRow s_isBroken s_atoms mm us wk tp ix o P fi fs pl as s.heap.size (by omega) (by omega) hk hix ho hP5 hcd) (xcV (n := 1) hts wd_1443 wd_15 wd_1440 wd_1442 ps_86 rfl rfl (by decide +kernel) ⟨Nat.le_of_ble_eq_true rfl, Nat.le_of_ble_eq_true rfl⟩) (xpV (ci := 11) (q0 := 0) (As := [.int (nI ix)]) hPc hK hz hDc rfl rfl) rfl rfl hl1.1 rfl (lv_room (Nat.le_of_ble_eq_true rfl)) d_Model_weaken_80 ⟨Nat.le_of_ble_eq_true rfl, Nat.le_of_ble_eq_true rfl⟩) hS (fun q _ h => hFc q h) hFc (fun u_5 t H_6 locs ht hvm hw hB hz1 hk1 hS1 => ?_)
  try dsimp only at hw
  have hs_8 := hw
  obtain ⟨x_9, x_10, x_11, hx_12, hx_13, hP1, hD1⟩ := hB
  rw [ht] at hP1
  have hjn := xw_join3 (wl := [(m7, .inl (ax 0, 80, .inl (fun j => nI (op j)))), (m0, .inr (11, [.int s_thrown, .int s_taped, .ref m1, .int s_size, .int s_outSize, .ref m2, .int s_kind, .int s_value, .int s_begin, .int s_end, .int s_failed, .ref m3, .ref m4, .ref m5, .int s_isProgram, .int s_half, .ref m6, .ref m7, .ref m8, .ref m9, .ref m10, .ref m11, .ref m12, .ref m13, .ref m14, .ref m15, .ref m16, .ref m17, .ref m18, .ref m19, .ref m20, .int s_signs, .ref m21, .int s_stacked, .ref m22, .int s_name, .int s_shift, .int s_statements, .int s_ifs, .int s_whiles, .int s_variants, .int s_open, .ref m23, .int s_isMade, .int s_conditions, .ref m24, .ref m25, .ref m26, .ref m27, .int s_kept, .ref m28, .int (nI (mm + 1)), .ref m29, .int (nI (u_5 0)), .ref m30, .ref m31, .int s_looked, .int s_rows, .int s_firstRow, .ref m32, .ref m33, .ref m34, .ref m35, .ref m36, .ref m37, .ref m38, .ref m39, .ref m40, .int s_isBroken, .ref m41, .int s_atoms, .ref m42])), (m30, .inl (ax 0, 180000, .inl x_10)), (m29, .inl (ax 0, 16, .inl (fun j => nI (x_9 j)))), (m31, .inl (ax 0, 180000, .inl x_11)), (m12, .inl (ax 0, 80, .inl (fun j => nI (fi j)))), (m13, .inl (ax 0, 80, .inl (fun j => nI (fs j)))), (m19, .inl (ax 0, 6000, .inl pl))]) hP hD [0, 1, 2, 4, 5, 6, 7] [3] hCs (by decide) (by decide) hk1 hFc hP1 hD1 rfl
  clear hP1 hD1
  clear hPc hDc hFc hCs hz hz1 hk1 ht hvm
  clear hP hD hS
  have hS := hS1
  obtain ⟨hP, hD⟩ := hjn
  clear hS1
  refine lv_goto (tgt := 219) hx hb d_Model_weaken_83 (by decide) ?_
  obtain ⟨hP9, hD9⟩ := xw_sub2 (wc := (fun (u : Nat → Nat) (xtp : Nat → Nat) (xwk : Nat → Int32) (xas : Nat → Int32) => [(m0, .inr (11, [.int s_thrown, .int s_taped, .ref m1, .int s_size, .int s_outSize, .ref m2, .int s_kind, .int s_value, .int s_begin, .int s_end, .int s_failed, .ref m3, .ref m4, .ref m5, .int s_isProgram, .int s_half, .ref m6, .ref m7, .ref m8, .ref m9, .ref m10, .ref m11, .ref m12, .ref m13, .ref m14, .ref m15, .ref m16, .ref m17, .ref m18, .ref m19, .ref m20, .int s_signs, .ref m21, .int s_stacked, .ref m22, .int s_name, .int s_shift, .int s_statements, .int s_ifs, .int s_whiles, .int s_variants, .int s_open, .ref m23, .int s_isMade, .int s_conditions, .ref m24, .ref m25, .ref m26, .ref m27, .int s_kept, .ref m28, .int (nI (mm + 1)), .ref m29, .int (nI (u 0)), .ref m30, .ref m31, .int s_looked, .int s_rows, .int s_firstRow, .ref m32, .ref m33, .ref m34, .ref m35, .ref m36, .ref m37, .ref m38, .ref m39, .ref m40, .int s_isBroken, .ref m41, .int s_atoms, .ref m42])), (m30, .inl (ax 0, 180000, .inl xwk)), (m29, .inl (ax 0, 16, .inl (fun j => nI (xtp j)))), (m7, .inl (ax 0, 80, .inl (fun j => nI (op j)))), (m31, .inl (ax 0, 180000, .inl xas)), (m12, .inl (ax 0, 80, .inl (fun j => nI (fi j)))), (m13, .inl (ax 0, 80, .inl (fun j => nI (fs j)))), (m19, .inl (ax 0, 6000, .inl pl))]) (ixn [(u_5 0)]) x_9 x_10 x_11) hP hD [1, 2, 3, 0, 4, 5, 6, 7] (by decide) rfl
  have hex0 : ∀ i, i ≤ mm → x_9 i = tp i := (by assumption)
  have hex1 : stk x_10 x_9 (mm + 1) ((u_5 0)) := (by assumption)
  have hsp0 : (u_5 0) = us + 2 * fs ix + 4 := (by omega)
  exact W.vret hx hb hr (fun t ht hW => ⟨⟨ixn [(u_5 0)], rfl, hsp0, ⟨x_9, x_10, x_11, hex0, hex1, by rw [ht]; exact hP9, hD9⟩⟩, hS.F ht⟩) hS.2.2 d_Model_weaken_219
set_option maxHeartbeats 40000000 in
set_option maxRecDepth 100000 in
theorem c_M_weaken_od (l : Launch) (D : va_G) (ax : Nat → ClassId) (m0 m1 m2 m3 m4 m5 m6 m7 m8 m9 m10 m11 m12 m13 m14 m15 m16 m17 m18 m19 m20 m21 m22 m23 m24 m25 m26 m27 m28 m29 m30 m31 m32 m33 m34 m35 m36 m37 m38 m39 m40 m41 m42 : Nat) (s_thrown s_taped s_size s_outSize s_kind s_value s_begin s_end s_failed s_isProgram s_half s_signs s_stacked s_name s_shift s_statements s_ifs s_whiles s_variants s_open s_isMade s_conditions s_kept s_looked s_rows s_firstRow s_isBroken s_atoms : Int32) (mm us ix : Nat) (wk : Nat → Int32) (tp op : Nat → Nat) (o P : Nat) (lk se ss gs : Nat → Nat) (pl vr tn tm : Nat → Int32) (sz : Nat) (hix : ix < 80) (hop : op ix = 6) (hm1 : mm < 12) (hlk : lk ix < 80) (hus : us + ss (lk ix) + 2 ≤ 30000) (hk : stk wk tp mm us) (ho : o ≤ 1) (hP5 : P ≤ 500) (hcd2 : cdn 10 o P pl (se (lk ix)) (ss (lk ix))) (hvr : ¬ vr (lk ix) = 0 → nmo 6 (tn (lk ix)) ∧ gs (lk ix) < 10) : Met l y_Model_weaken (xws (.code y_Model_weaken b_Model_weaken 3 none)) ({ frames := 40, cells := 0, slots := 0, locals := 1600 }) (va_Pc [.ref m0, .int (nI ix)] (xo D ax [(m0, .inr (11, [.int s_thrown, .int s_taped, .ref m1, .int s_size, .int s_outSize, .ref m2, .int s_kind, .int s_value, .int s_begin, .int s_end, .int s_failed, .ref m3, .ref m4, .ref m5, .int s_isProgram, .int s_half, .ref m6, .ref m7, .ref m8, .ref m9, .ref m10, .ref m11, .ref m12, .ref m13, .ref m14, .ref m15, .ref m16, .ref m17, .ref m18, .ref m19, .ref m20, .int s_signs, .ref m21, .int s_stacked, .ref m22, .int s_name, .int s_shift, .int s_statements, .int s_ifs, .int s_whiles, .int s_variants, .int s_open, .ref m23, .int s_isMade, .int s_conditions, .ref m24, .ref m25, .ref m26, .ref m27, .int s_kept, .ref m28, .int (nI mm), .ref m29, .int (nI us), .ref m30, .ref m31, .int s_looked, .int s_rows, .int s_firstRow, .ref m32, .ref m33, .ref m34, .ref m35, .ref m36, .ref m37, .ref m38, .ref m39, .ref m40, .int s_isBroken, .ref m41, .int s_atoms, .ref m42])), (m30, .inl (ax 0, 180000, .inl wk)), (m29, .inl (ax 0, 16, .inl (fun j => nI (tp j)))), (m7, .inl (ax 0, 80, .inl (fun j => nI (op j)))), (m18, .inl (ax 0, 80, .inl (fun j => nI (lk j)))), (m16, .inl (ax 3, 80, .inl vr)), (m14, .inl (ax 0, 80, .inl (fun j => nI (se j)))), (m15, .inl (ax 0, 80, .inl (fun j => nI (ss j)))), (m19, .inl (ax 0, 6000, .inl pl)), (m10, .inl (ax 0, 80, .inl tn)), (m11, .inl (ax 0, 80, .inl tm)), (m17, .inl (ax 0, 80, .inl (fun j => nI (gs j))))] sz)) ((va_Qv (fun (u : Nat → Nat) => (u 0 ≤ us + ss (lk ix) + 2 ∧ us ≤ u 0)) (fun (u : Nat → Nat) (t9 : State) => ∃ xtp : Nat → Nat, ∃ xwk : Nat → Int32, (∀ i, i < mm → xtp i = tp i) ∧ (xtp mm = us) ∧ (stk xwk xtp (mm + 1) (u 0)) ∧ va_P D classes [(m0, .inr (11, [.int s_thrown, .int s_taped, .ref m1, .int s_size, .int s_outSize, .ref m2, .int s_kind, .int s_value, .int s_begin, .int s_end, .int s_failed, .ref m3, .ref m4, .ref m5, .int s_isProgram, .int s_half, .ref m6, .ref m7, .ref m8, .ref m9, .ref m10, .ref m11, .ref m12, .ref m13, .ref m14, .ref m15, .ref m16, .ref m17, .ref m18, .ref m19, .ref m20, .int s_signs, .ref m21, .int s_stacked, .ref m22, .int s_name, .int s_shift, .int s_statements, .int s_ifs, .int s_whiles, .int s_variants, .int s_open, .ref m23, .int s_isMade, .int s_conditions, .ref m24, .ref m25, .ref m26, .ref m27, .int s_kept, .ref m28, .int (nI (mm + 1)), .ref m29, .int (nI (u 0)), .ref m30, .ref m31, .int s_looked, .int s_rows, .int s_firstRow, .ref m32, .ref m33, .ref m34, .ref m35, .ref m36, .ref m37, .ref m38, .ref m39, .ref m40, .int s_isBroken, .ref m41, .int s_atoms, .ref m42])), (m30, .inl (ax 0, 180000, .inl xwk)), (m29, .inl (ax 0, 16, .inl (fun j => nI (xtp j)))), (m7, .inl (ax 0, 80, .inl (fun j => nI (op j)))), (m18, .inl (ax 0, 80, .inl (fun j => nI (lk j)))), (m16, .inl (ax 3, 80, .inl vr)), (m14, .inl (ax 0, 80, .inl (fun j => nI (se j)))), (m15, .inl (ax 0, 80, .inl (fun j => nI (ss j)))), (m19, .inl (ax 0, 6000, .inl pl)), (m10, .inl (ax 0, 80, .inl tn)), (m11, .inl (ax 0, 80, .inl tm)), (m17, .inl (ax 0, 80, .inl (fun j => nI (gs j))))] t9.heap ∧ va_D (va_A [(m0, .inr (11, [.int s_thrown, .int s_taped, .ref m1, .int s_size, .int s_outSize, .ref m2, .int s_kind, .int s_value, .int s_begin, .int s_end, .int s_failed, .ref m3, .ref m4, .ref m5, .int s_isProgram, .int s_half, .ref m6, .ref m7, .ref m8, .ref m9, .ref m10, .ref m11, .ref m12, .ref m13, .ref m14, .ref m15, .ref m16, .ref m17, .ref m18, .ref m19, .ref m20, .int s_signs, .ref m21, .int s_stacked, .ref m22, .int s_name, .int s_shift, .int s_statements, .int s_ifs, .int s_whiles, .int s_variants, .int s_open, .ref m23, .int s_isMade, .int s_conditions, .ref m24, .ref m25, .ref m26, .ref m27, .int s_kept, .ref m28, .int (nI mm), .ref m29, .int (nI us), .ref m30, .ref m31, .int s_looked, .int s_rows, .int s_firstRow, .ref m32, .ref m33, .ref m34, .ref m35, .ref m36, .ref m37, .ref m38, .ref m39, .ref m40, .int s_isBroken, .ref m41, .int s_atoms, .ref m42])), (m30, .inl (ax 0, 180000, .inl wk)), (m29, .inl (ax 0, 16, .inl (fun j => nI (tp j)))), (m7, .inl (ax 0, 80, .inl (fun j => nI (op j)))), (m18, .inl (ax 0, 80, .inl (fun j => nI (lk j)))), (m16, .inl (ax 3, 80, .inl vr)), (m14, .inl (ax 0, 80, .inl (fun j => nI (se j)))), (m15, .inl (ax 0, 80, .inl (fun j => nI (ss j)))), (m19, .inl (ax 0, 6000, .inl pl)), (m10, .inl (ax 0, 80, .inl tn)), (m11, .inl (ax 0, 80, .inl tm)), (m17, .inl (ax 0, 80, .inl (fun j => nI (gs j))))] sz) [(m0, .inr (11, [.int s_thrown, .int s_taped, .ref m1, .int s_size, .int s_outSize, .ref m2, .int s_kind, .int s_value, .int s_begin, .int s_end, .int s_failed, .ref m3, .ref m4, .ref m5, .int s_isProgram, .int s_half, .ref m6, .ref m7, .ref m8, .ref m9, .ref m10, .ref m11, .ref m12, .ref m13, .ref m14, .ref m15, .ref m16, .ref m17, .ref m18, .ref m19, .ref m20, .int s_signs, .ref m21, .int s_stacked, .ref m22, .int s_name, .int s_shift, .int s_statements, .int s_ifs, .int s_whiles, .int s_variants, .int s_open, .ref m23, .int s_isMade, .int s_conditions, .ref m24, .ref m25, .ref m26, .ref m27, .int s_kept, .ref m28, .int (nI (mm + 1)), .ref m29, .int (nI (u 0)), .ref m30, .ref m31, .int s_looked, .int s_rows, .int s_firstRow, .ref m32, .ref m33, .ref m34, .ref m35, .ref m36, .ref m37, .ref m38, .ref m39, .ref m40, .int s_isBroken, .ref m41, .int s_atoms, .ref m42])), (m30, .inl (ax 0, 180000, .inl xwk)), (m29, .inl (ax 0, 16, .inl (fun j => nI (xtp j)))), (m7, .inl (ax 0, 80, .inl (fun j => nI (op j)))), (m18, .inl (ax 0, 80, .inl (fun j => nI (lk j)))), (m16, .inl (ax 3, 80, .inl vr)), (m14, .inl (ax 0, 80, .inl (fun j => nI (se j)))), (m15, .inl (ax 0, 80, .inl (fun j => nI (ss j)))), (m19, .inl (ax 0, 6000, .inl pl)), (m10, .inl (ax 0, 80, .inl tn)), (m11, .inl (ax 0, 80, .inl tm)), (m17, .inl (ax 0, 80, .inl (fun j => nI (gs j))))]) (va_A [(m0, .inr (11, [.int s_thrown, .int s_taped, .ref m1, .int s_size, .int s_outSize, .ref m2, .int s_kind, .int s_value, .int s_begin, .int s_end, .int s_failed, .ref m3, .ref m4, .ref m5, .int s_isProgram, .int s_half, .ref m6, .ref m7, .ref m8, .ref m9, .ref m10, .ref m11, .ref m12, .ref m13, .ref m14, .ref m15, .ref m16, .ref m17, .ref m18, .ref m19, .ref m20, .int s_signs, .ref m21, .int s_stacked, .ref m22, .int s_name, .int s_shift, .int s_statements, .int s_ifs, .int s_whiles, .int s_variants, .int s_open, .ref m23, .int s_isMade, .int s_conditions, .ref m24, .ref m25, .ref m26, .ref m27, .int s_kept, .ref m28, .int (nI mm), .ref m29, .int (nI us), .ref m30, .ref m31, .int s_looked, .int s_rows, .int s_firstRow, .ref m32, .ref m33, .ref m34, .ref m35, .ref m36, .ref m37, .ref m38, .ref m39, .ref m40, .int s_isBroken, .ref m41, .int s_atoms, .ref m42])), (m30, .inl (ax 0, 180000, .inl wk)), (m29, .inl (ax 0, 16, .inl (fun j => nI (tp j)))), (m7, .inl (ax 0, 80, .inl (fun j => nI (op j)))), (m18, .inl (ax 0, 80, .inl (fun j => nI (lk j)))), (m16, .inl (ax 3, 80, .inl vr)), (m14, .inl (ax 0, 80, .inl (fun j => nI (se j)))), (m15, .inl (ax 0, 80, .inl (fun j => nI (ss j)))), (m19, .inl (ax 0, 6000, .inl pl)), (m10, .inl (ax 0, 80, .inl tn)), (m11, .inl (ax 0, 80, .inl tm)), (m17, .inl (ax 0, 80, .inl (fun j => nI (gs j))))] sz))) 0 0 (va_A [(m0, .inr (11, [.int s_thrown, .int s_taped, .ref m1, .int s_size, .int s_outSize, .ref m2, .int s_kind, .int s_value, .int s_begin, .int s_end, .int s_failed, .ref m3, .ref m4, .ref m5, .int s_isProgram, .int s_half, .ref m6, .ref m7, .ref m8, .ref m9, .ref m10, .ref m11, .ref m12, .ref m13, .ref m14, .ref m15, .ref m16, .ref m17, .ref m18, .ref m19, .ref m20, .int s_signs, .ref m21, .int s_stacked, .ref m22, .int s_name, .int s_shift, .int s_statements, .int s_ifs, .int s_whiles, .int s_variants, .int s_open, .ref m23, .int s_isMade, .int s_conditions, .ref m24, .ref m25, .ref m26, .ref m27, .int s_kept, .ref m28, .int (nI mm), .ref m29, .int (nI us), .ref m30, .ref m31, .int s_looked, .int s_rows, .int s_firstRow, .ref m32, .ref m33, .ref m34, .ref m35, .ref m36, .ref m37, .ref m38, .ref m39, .ref m40, .int s_isBroken, .ref m41, .int s_atoms, .ref m42])), (m30, .inl (ax 0, 180000, .inl wk)), (m29, .inl (ax 0, 16, .inl (fun j => nI (tp j)))), (m7, .inl (ax 0, 80, .inl (fun j => nI (op j)))), (m18, .inl (ax 0, 80, .inl (fun j => nI (lk j)))), (m16, .inl (ax 3, 80, .inl vr)), (m14, .inl (ax 0, 80, .inl (fun j => nI (se j)))), (m15, .inl (ax 0, 80, .inl (fun j => nI (ss j)))), (m19, .inl (ax 0, 6000, .inl pl)), (m10, .inl (ax 0, 80, .inl tn)), (m11, .inl (ax 0, 80, .inl tm)), (m17, .inl (ax 0, 80, .inl (fun j => nI (gs j))))] sz) := by
  refine Met.ofW (cc := b_Model_weaken) (maxL := 3) (ret := none) (by decide) rfl ?_
  intro p e s m args below meth c s₁ B hml hv
  obtain ⟨rfl, hsz, hP, hK, hD0⟩ := hv
  have hx := B.exec
  have hb := B.bytes
  have hr := B.returns
  have hts := xw_hts B.pre
  have hown : s.vm.findClass R_Model = some m.cls := findClass_of_methodNamed B.named
  have hlocks := B.notSynchronized
  subst hsz
  have hD := hD0.self (sz := s.heap.size)
  have hN := xz_entry hP
  generalize hAe : va_A [(m0, .inr (11, [.int s_thrown, .int s_taped, .ref m1, .int s_size, .int s_outSize, .ref m2, .int s_kind, .int s_value, .int s_begin, .int s_end, .int s_failed, .ref m3, .ref m4, .ref m5, .int s_isProgram, .int s_half, .ref m6, .ref m7, .ref m8, .ref m9, .ref m10, .ref m11, .ref m12, .ref m13, .ref m14, .ref m15, .ref m16, .ref m17, .ref m18, .ref m19, .ref m20, .int s_signs, .ref m21, .int s_stacked, .ref m22, .int s_name, .int s_shift, .int s_statements, .int s_ifs, .int s_whiles, .int s_variants, .int s_open, .ref m23, .int s_isMade, .int s_conditions, .ref m24, .ref m25, .ref m26, .ref m27, .int s_kept, .ref m28, .int (nI mm), .ref m29, .int (nI us), .ref m30, .ref m31, .int s_looked, .int s_rows, .int s_firstRow, .ref m32, .ref m33, .ref m34, .ref m35, .ref m36, .ref m37, .ref m38, .ref m39, .ref m40, .int s_isBroken, .ref m41, .int s_atoms, .ref m42])), (m30, .inl (ax 0, 180000, .inl wk)), (m29, .inl (ax 0, 16, .inl (fun j => nI (tp j)))), (m7, .inl (ax 0, 80, .inl (fun j => nI (op j)))), (m18, .inl (ax 0, 80, .inl (fun j => nI (lk j)))), (m16, .inl (ax 3, 80, .inl vr)), (m14, .inl (ax 0, 80, .inl (fun j => nI (se j)))), (m15, .inl (ax 0, 80, .inl (fun j => nI (ss j)))), (m19, .inl (ax 0, 6000, .inl pl)), (m10, .inl (ax 0, 80, .inl tn)), (m11, .inl (ax 0, 80, .inl tm)), (m17, .inl (ax 0, 80, .inl (fun j => nI (gs j))))] s.heap.size = A at hD hN ⊢
  have hA : ∀ q : Nat, s.heap.size ≤ q → A q := fun q h => by rw [← hAe]; exact Or.inr h
  have hS : va_S A s.heap s.heap [] := va_S.rf
  have hl0 := lv_entry ([.ref m0, .int (nI ix)]) (n := 3) (Nat.le_of_ble_eq_true rfl)
  rw [lg_entry_eq]
  generalize (lg_sl ([.ref m0, .int (nI ix)]) ++ List.replicate (3 - (lg_sl ([.ref m0, .int (nI ix)])).length) Slot.unset).toArray = ls at hl0 ⊢
  have hl1 : lv_has ls 3 [(0, .ref m0), (1, .int (nI ix))] := hl0
  refine lv_aload_n hx hb d_Model_weaken_0 rfl (lv_at hl1 0 rfl) ?_
  refine va_get (D := D) (ci := 11) (v := .ref m7) (C := R_Model) (T := F_Model) (N := 72) hx hb hts i_Model hown hK.1 hP 0 rfl rfl 17 (by decide) (hts _ wd_1053) (fun _ h9 => h9) rfl d_Model_weaken_1 ?_
  refine lv_iload_n hx hb d_Model_weaken_4 rfl (lv_at hl1 1 rfl) ?_
  refine va_iald hx hb hK.1 hP 3 0 rfl rfl (vp_in_nI (by omega) (by omega)) d_Model_weaken_5 ?_
  refine W.eq (g2 := F0 m 6 ls [.int (nI (op ix))]) (by rw [nI_clamp (by omega)]) ?_
  refine lv_if_ne (tgt := 34) hx hb d_Model_weaken_6 (by decide) (fun c_1 => ?_) (fun c_1 => ?_)
  rotate_left
  · exfalso
    replace c_1 : op ix = 0 := (nI_eq (a := op ix) (b := 0) (by omega) (by omega)).mp c_1
    omega
  replace c_1 : ¬ op ix = 0 := fun hq9 => c_1 ((nI_eq (a := op ix) (b := 0) (by omega) (by omega)).mpr hq9)
  refine lv_aload_n hx hb d_Model_weaken_34 rfl (lv_at hl1 0 rfl) ?_
  refine va_get (D := D) (ci := 11) (v := .ref m7) (C := R_Model) (T := F_Model) (N := 72) hx hb hts i_Model hown hK.1 hP 0 rfl rfl 17 (by decide) (hts _ wd_1053) (fun _ h9 => h9) rfl d_Model_weaken_35 ?_
  refine lv_iload_n hx hb d_Model_weaken_38 rfl (lv_at hl1 1 rfl) ?_
  refine va_iald hx hb hK.1 hP 3 0 rfl rfl (vp_in_nI (by omega) (by omega)) d_Model_weaken_39 ?_
  refine W.eq (g2 := F0 m 40 ls [.int (nI (op ix))]) (by rw [nI_clamp (by omega)]) ?_
  refine lv_iconst (v := 4) hx hb d_Model_weaken_40 (by decide) ?_
  refine lv_icmp_ne (tgt := 51) hx hb d_Model_weaken_41 (by decide) (fun c_2 => ?_) (fun c_2 => ?_)
  rotate_left
  · exfalso
    replace c_2 : op ix = 4 := (nI_eq (a := op ix) (b := 4) (by omega) (by omega)).mp c_2
    omega
  replace c_2 : ¬ op ix = 4 := fun hq9 => c_2 ((nI_eq (a := op ix) (b := 4) (by omega) (by omega)).mpr hq9)
  refine lv_aload_n hx hb d_Model_weaken_51 rfl (lv_at hl1 0 rfl) ?_
  refine va_get (D := D) (ci := 11) (v := .ref m7) (C := R_Model) (T := F_Model) (N := 72) hx hb hts i_Model hown hK.1 hP 0 rfl rfl 17 (by decide) (hts _ wd_1053) (fun _ h9 => h9) rfl d_Model_weaken_52 ?_
  refine lv_iload_n hx hb d_Model_weaken_55 rfl (lv_at hl1 1 rfl) ?_
  refine va_iald hx hb hK.1 hP 3 0 rfl rfl (vp_in_nI (by omega) (by omega)) d_Model_weaken_56 ?_
  refine W.eq (g2 := F0 m 57 ls [.int (nI (op ix))]) (by rw [nI_clamp (by omega)]) ?_
  refine lv_iconst (v := 3) hx hb d_Model_weaken_57 (by decide) ?_
  refine lv_icmp_ne (tgt := 68) hx hb d_Model_weaken_58 (by decide) (fun c_3 => ?_) (fun c_3 => ?_)
  rotate_left
  · exfalso
    replace c_3 : op ix = 3 := (nI_eq (a := op ix) (b := 3) (by omega) (by omega)).mp c_3
    omega
  replace c_3 : ¬ op ix = 3 := fun hq9 => c_3 ((nI_eq (a := op ix) (b := 3) (by omega) (by omega)).mpr hq9)
  refine lv_aload_n hx hb d_Model_weaken_68 rfl (lv_at hl1 0 rfl) ?_
  refine va_get (D := D) (ci := 11) (v := .ref m7) (C := R_Model) (T := F_Model) (N := 72) hx hb hts i_Model hown hK.1 hP 0 rfl rfl 17 (by decide) (hts _ wd_1053) (fun _ h9 => h9) rfl d_Model_weaken_69 ?_
  refine lv_iload_n hx hb d_Model_weaken_72 rfl (lv_at hl1 1 rfl) ?_
  refine va_iald hx hb hK.1 hP 3 0 rfl rfl (vp_in_nI (by omega) (by omega)) d_Model_weaken_73 ?_
  refine W.eq (g2 := F0 m 74 ls [.int (nI (op ix))]) (by rw [nI_clamp (by omega)]) ?_
  refine lv_iconst (v := 2) hx hb d_Model_weaken_74 (by decide) ?_
  refine lv_icmp_ne (tgt := 86) hx hb d_Model_weaken_75 (by decide) (fun c_4 => ?_) (fun c_4 => ?_)
  rotate_left
  · exfalso
    replace c_4 : op ix = 2 := (nI_eq (a := op ix) (b := 2) (by omega) (by omega)).mp c_4
    omega
  replace c_4 : ¬ op ix = 2 := fun hq9 => c_4 ((nI_eq (a := op ix) (b := 2) (by omega) (by omega)).mpr hq9)
  refine lv_aload_n hx hb d_Model_weaken_86 rfl (lv_at hl1 0 rfl) ?_
  refine va_get (D := D) (ci := 11) (v := .ref m7) (C := R_Model) (T := F_Model) (N := 72) hx hb hts i_Model hown hK.1 hP 0 rfl rfl 17 (by decide) (hts _ wd_1053) (fun _ h9 => h9) rfl d_Model_weaken_87 ?_
  refine lv_iload_n hx hb d_Model_weaken_90 rfl (lv_at hl1 1 rfl) ?_
  refine va_iald hx hb hK.1 hP 3 0 rfl rfl (vp_in_nI (by omega) (by omega)) d_Model_weaken_91 ?_
  refine W.eq (g2 := F0 m 92 ls [.int (nI (op ix))]) (by rw [nI_clamp (by omega)]) ?_
  refine lv_bipush (v := 6) hx hb d_Model_weaken_92 (by decide) ?_
  refine lv_icmp_ne (tgt := 133) hx hb d_Model_weaken_94 (by decide) (fun c_5 => ?_) (fun c_5 => ?_)
  · exfalso
    replace c_5 : ¬ op ix = 6 := fun hq9 => c_5 ((nI_eq (a := op ix) (b := 6) (by omega) (by omega)).mpr hq9)
    omega
  replace c_5 : op ix = 6 := (nI_eq (a := op ix) (b := 6) (by omega) (by omega)).mp c_5
  refine lv_aload_n hx hb d_Model_weaken_97 rfl (lv_at hl1 0 rfl) ?_
  refine va_get (D := D) (ci := 11) (v := .ref m18) (C := R_Model) (T := F_Model) (N := 72) hx hb hts i_Model hown hK.1 hP 0 rfl rfl 28 (by decide) (hts _ wd_1064) (fun _ h9 => h9) rfl d_Model_weaken_98 ?_
  refine lv_iload_n hx hb d_Model_weaken_101 rfl (lv_at hl1 1 rfl) ?_
  refine va_iald hx hb hK.1 hP 4 0 rfl rfl (vp_in_nI (by omega) (by omega)) d_Model_weaken_102 ?_
  refine W.eq (g2 := F0 m 103 ls [.int (nI (lk ix))]) (by rw [nI_clamp (by omega)]) ?_
  refine lv_istore_n (lv' := [(2, .int (nI (lk ix))), (0, .ref m0), (1, .int (nI ix))]) hx hb d_Model_weaken_103 rfl hl1 (by decide) rfl (fun ls hl2 => ?_)
  clear hl1; have hl1 := hl2; clear hl2
  refine lv_aload_n hx hb d_Model_weaken_104 rfl (lv_at hl1 1 rfl) ?_
  refine lv_iload_n hx hb d_Model_weaken_105 rfl (lv_at hl1 0 rfl) ?_
  obtain ⟨hPc, hDc, hFc, hCs⟩ := xw_sub3 (wc := [(m0, .inr (11, [.int s_thrown, .int s_taped, .ref m1, .int s_size, .int s_outSize, .ref m2, .int s_kind, .int s_value, .int s_begin, .int s_end, .int s_failed, .ref m3, .ref m4, .ref m5, .int s_isProgram, .int s_half, .ref m6, .ref m7, .ref m8, .ref m9, .ref m10, .ref m11, .ref m12, .ref m13, .ref m14, .ref m15, .ref m16, .ref m17, .ref m18, .ref m19, .ref m20, .int s_signs, .ref m21, .int s_stacked, .ref m22, .int s_name, .int s_shift, .int s_statements, .int s_ifs, .int s_whiles, .int s_variants, .int s_open, .ref m23, .int s_isMade, .int s_conditions, .ref m24, .ref m25, .ref m26, .ref m27, .int s_kept, .ref m28, .int (nI mm), .ref m29, .int (nI us), .ref m30, .ref m31, .int s_looked, .int s_rows, .int s_firstRow, .ref m32, .ref m33, .ref m34, .ref m35, .ref m36, .ref m37, .ref m38, .ref m39, .ref m40, .int s_isBroken, .ref m41, .int s_atoms, .ref m42])), (m30, .inl (ax 0, 180000, .inl wk)), (m29, .inl (ax 0, 16, .inl (fun j => nI (tp j)))), (m14, .inl (ax 0, 80, .inl (fun j => nI (se j)))), (m15, .inl (ax 0, 80, .inl (fun j => nI (ss j)))), (m19, .inl (ax 0, 6000, .inl pl))]) hP hD hS hA [0, 1, 2, 6, 7, 8] (by decide) rfl
  have hz := xz_of hN hS
  refine va_callv (va_runV (As := [.int (nI (lk ix))]) (rest := []) ⟨hx, hb, hml, hown, hts⟩ (c_M_pushSecond l D ax m0 m1 m2 m3 m4 m5 m6 m7 m8 m9 m10 m11 m12 m13 m14 m15 m16 m17 m18 m19 m20 m21 m22 m23 m24 m25 m26 m27 m28 m29 m30 m31 m32 m33 m34 m35 m36 m37 m38 m39 m40 m41 m42 s_thrown s_taped s_size s_outSize s_kind s_value s_begin s_end s_failed s_isProgram s_half s_signs s_stacked s_name s_shift s_statements s_ifs s_whiles s_variants s_open s_isMade s_conditions s_kept s_looked s_rows s_firstRow s_isBroken s_atoms mm us wk tp (lk ix) 10 o P se ss pl s.heap.size (by omega) (by omega) hk hlk (by omega) ho hP5 hcd2) (xcV (n := 1) hts wd_1459 wd_15 wd_1456 wd_1458 ps_90 rfl rfl (by decide +kernel) ⟨Nat.le_of_ble_eq_true rfl, Nat.le_of_ble_eq_true rfl⟩) (xpV (ci := 11) (q0 := 0) (As := [.int (nI (lk ix))]) hPc hK hz hDc rfl rfl) rfl rfl hl1.1 rfl (lv_room (Nat.le_of_ble_eq_true rfl)) d_Model_weaken_106 ⟨Nat.le_of_ble_eq_true rfl, Nat.le_of_ble_eq_true rfl⟩) hS (fun q _ h => hFc q h) hFc (fun u_6 t H_7 locs ht hvm hw hB hz1 hk1 hS1 => ?_)
  try dsimp only at hw
  obtain ⟨x_9, hx_10, hP1, hD1⟩ := hB
  rw [ht] at hP1
  have hjn := xw_join3 (wl := [(m7, .inl (ax 0, 80, .inl (fun j => nI (op j)))), (m18, .inl (ax 0, 80, .inl (fun j => nI (lk j)))), (m16, .inl (ax 3, 80, .inl vr)), (m10, .inl (ax 0, 80, .inl tn)), (m11, .inl (ax 0, 80, .inl tm)), (m17, .inl (ax 0, 80, .inl (fun j => nI (gs j)))), (m0, .inr (11, [.int s_thrown, .int s_taped, .ref m1, .int s_size, .int s_outSize, .ref m2, .int s_kind, .int s_value, .int s_begin, .int s_end, .int s_failed, .ref m3, .ref m4, .ref m5, .int s_isProgram, .int s_half, .ref m6, .ref m7, .ref m8, .ref m9, .ref m10, .ref m11, .ref m12, .ref m13, .ref m14, .ref m15, .ref m16, .ref m17, .ref m18, .ref m19, .ref m20, .int s_signs, .ref m21, .int s_stacked, .ref m22, .int s_name, .int s_shift, .int s_statements, .int s_ifs, .int s_whiles, .int s_variants, .int s_open, .ref m23, .int s_isMade, .int s_conditions, .ref m24, .ref m25, .ref m26, .ref m27, .int s_kept, .ref m28, .int (nI (mm + 1)), .ref m29, .int (nI (us + ss (lk ix))), .ref m30, .ref m31, .int s_looked, .int s_rows, .int s_firstRow, .ref m32, .ref m33, .ref m34, .ref m35, .ref m36, .ref m37, .ref m38, .ref m39, .ref m40, .int s_isBroken, .ref m41, .int s_atoms, .ref m42])), (m30, .inl (ax 0, 180000, .inl x_9)), (m29, .inl (ax 0, 16, .inl (fun j => nI (sup tp mm us j)))), (m14, .inl (ax 0, 80, .inl (fun j => nI (se j)))), (m15, .inl (ax 0, 80, .inl (fun j => nI (ss j)))), (m19, .inl (ax 0, 6000, .inl pl))]) hP hD [0, 1, 2, 6, 7, 8] [3, 4, 5, 9, 10, 11] hCs (by decide) (by decide) hk1 hFc hP1 hD1 rfl
  clear hP1 hD1
  clear hPc hDc hFc hCs hz hz1 hk1 ht hvm
  clear hP hD hS
  have hS := hS1
  obtain ⟨hP, hD⟩ := hjn
  clear hS1
  refine lv_aload_n hx hb d_Model_weaken_109 rfl (lv_at hl1 1 rfl) ?_
  refine va_get (D := D) (ci := 11) (v := .ref m16) (C := R_Model) (T := F_Model) (N := 72) hx hb hts i_Model hown hK.1 hP 6 rfl rfl 26 (by decide) (hts _ wd_1062) (fun _ h9 => h9) rfl d_Model_weaken_110 ?_
  refine lv_iload_n hx hb d_Model_weaken_113 rfl (lv_at hl1 0 rfl) ?_
  refine va_zald hx hb hK.1 hP 2 3 rfl rfl (vp_in_nI (by omega) (by omega)) d_Model_weaken_114 ?_
  refine W.eq (g2 := F0 m 115 ls [.int (vr (lk ix))]) (by rw [nI_clamp (by omega)]) ?_
  refine lv_if_eq (tgt := 130) hx hb d_Model_weaken_115 (by decide) (fun c_11 => ?_) (fun c_11 => ?_)
  · refine lv_goto (tgt := 219) hx hb d_Model_weaken_130 (by decide) ?_
    obtain ⟨hP9, hD9⟩ := xw_sub2 (wc := (fun (u : Nat → Nat) (xtp : Nat → Nat) (xwk : Nat → Int32) => [(m0, .inr (11, [.int s_thrown, .int s_taped, .ref m1, .int s_size, .int s_outSize, .ref m2, .int s_kind, .int s_value, .int s_begin, .int s_end, .int s_failed, .ref m3, .ref m4, .ref m5, .int s_isProgram, .int s_half, .ref m6, .ref m7, .ref m8, .ref m9, .ref m10, .ref m11, .ref m12, .ref m13, .ref m14, .ref m15, .ref m16, .ref m17, .ref m18, .ref m19, .ref m20, .int s_signs, .ref m21, .int s_stacked, .ref m22, .int s_name, .int s_shift, .int s_statements, .int s_ifs, .int s_whiles, .int s_variants, .int s_open, .ref m23, .int s_isMade, .int s_conditions, .ref m24, .ref m25, .ref m26, .ref m27, .int s_kept, .ref m28, .int (nI (mm + 1)), .ref m29, .int (nI (u 0)), .ref m30, .ref m31, .int s_looked, .int s_rows, .int s_firstRow, .ref m32, .ref m33, .ref m34, .ref m35, .ref m36, .ref m37, .ref m38, .ref m39, .ref m40, .int s_isBroken, .ref m41, .int s_atoms, .ref m42])), (m30, .inl (ax 0, 180000, .inl xwk)), (m29, .inl (ax 0, 16, .inl (fun j => nI (xtp j)))), (m7, .inl (ax 0, 80, .inl (fun j => nI (op j)))), (m18, .inl (ax 0, 80, .inl (fun j => nI (lk j)))), (m16, .inl (ax 3, 80, .inl vr)), (m14, .inl (ax 0, 80, .inl (fun j => nI (se j)))), (m15, .inl (ax 0, 80, .inl (fun j => nI (ss j)))), (m19, .inl (ax 0, 6000, .inl pl)), (m10, .inl (ax 0, 80, .inl tn)), (m11, .inl (ax 0, 80, .inl tm)), (m17, .inl (ax 0, 80, .inl (fun j => nI (gs j))))]) (ixn [(us + ss (lk ix))]) (sup tp mm us) x_9) hP hD [6, 7, 8, 0, 1, 2, 9, 10, 11, 3, 4, 5] (by decide) rfl
    have hex0 : ∀ i, i < mm → (sup tp mm us) i = tp i := (fun i hi => by (repeat rw [sup_ne (by omega)]))
    have hex1 : (sup tp mm us) mm = us := (by first | exact sup_eq | (rw [sup_ne (by omega)]; exact sup_eq))
    have hex2 : stk x_9 (sup tp mm us) (mm + 1) ((us + ss (lk ix))) := (by assumption)
    have hsp0 : (us + ss (lk ix)) ≤ us + ss (lk ix) + 2 := (by omega)
    have hsp1 : us ≤ (us + ss (lk ix)) := (by omega)
    exact W.vret hx hb hr (fun t ht hW => ⟨⟨ixn [(us + ss (lk ix))], rfl, ⟨hsp0, hsp1⟩, ⟨sup tp mm us, x_9, hex0, hex1, hex2, by rw [ht]; exact hP9, hD9⟩⟩, hS.F ht⟩) hS.2.2 d_Model_weaken_219
  · obtain ⟨hnm, hgs⟩ := hvr (by assumption)
    refine lv_aload_n hx hb d_Model_weaken_118 rfl (lv_at hl1 1 rfl) ?_
    refine lv_iload_n hx hb d_Model_weaken_119 rfl (lv_at hl1 0 rfl) ?_
    refine lv_iconst (v := 0) hx hb d_Model_weaken_120 (by decide) ?_
    refine lv_iconst (v := 1) hx hb d_Model_weaken_121 (by decide) ?_
    obtain ⟨hPc, hDc, hFc, hCs⟩ := xw_sub3 (wc := [(m0, .inr (11, [.int s_thrown, .int s_taped, .ref m1, .int s_size, .int s_outSize, .ref m2, .int s_kind, .int s_value, .int s_begin, .int s_end, .int s_failed, .ref m3, .ref m4, .ref m5, .int s_isProgram, .int s_half, .ref m6, .ref m7, .ref m8, .ref m9, .ref m10, .ref m11, .ref m12, .ref m13, .ref m14, .ref m15, .ref m16, .ref m17, .ref m18, .ref m19, .ref m20, .int s_signs, .ref m21, .int s_stacked, .ref m22, .int s_name, .int s_shift, .int s_statements, .int s_ifs, .int s_whiles, .int s_variants, .int s_open, .ref m23, .int s_isMade, .int s_conditions, .ref m24, .ref m25, .ref m26, .ref m27, .int s_kept, .ref m28, .int (nI (mm + 1)), .ref m29, .int (nI (us + ss (lk ix))), .ref m30, .ref m31, .int s_looked, .int s_rows, .int s_firstRow, .ref m32, .ref m33, .ref m34, .ref m35, .ref m36, .ref m37, .ref m38, .ref m39, .ref m40, .int s_isBroken, .ref m41, .int s_atoms, .ref m42])), (m30, .inl (ax 0, 180000, .inl x_9)), (m29, .inl (ax 0, 16, .inl (fun j => nI ((sup tp mm us) j)))), (m10, .inl (ax 0, 80, .inl tn)), (m11, .inl (ax 0, 80, .inl tm)), (m17, .inl (ax 0, 80, .inl (fun j => nI (gs j))))]) hP hD hS hA [6, 7, 8, 3, 4, 5] (by decide) rfl
    have hz := xz_of hN hS
    refine va_callv (va_runV (As := [.int (nI (lk ix)), .int 0, .int 1]) (rest := []) ⟨hx, hb, hml, hown, hts⟩ (c_M_pushVariant_1 l D ax m0 m1 m2 m3 m4 m5 m6 m7 m8 m9 m10 m11 m12 m13 m14 m15 m16 m17 m18 m19 m20 m21 m22 m23 m24 m25 m26 m27 m28 m29 m30 m31 m32 m33 m34 m35 m36 m37 m38 m39 m40 m41 m42 s_thrown s_taped s_size s_outSize s_kind s_value s_begin s_end s_failed s_isProgram s_half s_signs s_stacked s_name s_shift s_statements s_ifs s_whiles s_variants s_open s_isMade s_conditions s_kept s_looked s_rows s_firstRow s_isBroken s_atoms (mm + 1) (us + ss (lk ix)) x_9 (sup tp mm us) (lk ix) 0 gs tn tm H_7.size (by omega) (by omega) (by assumption) hlk hnm hgs) (xcV (n := 3) hts wd_1463 wd_15 wd_1460 wd_1462 ps_91 rfl rfl (by decide +kernel) ⟨Nat.le_of_ble_eq_true rfl, Nat.le_of_ble_eq_true rfl⟩) (xpV (ci := 11) (q0 := 0) (As := [.int (nI (lk ix)), .int 0, .int 1]) hPc hK hz hDc rfl rfl) rfl rfl hl1.1 rfl (lv_room (Nat.le_of_ble_eq_true rfl)) d_Model_weaken_122 ⟨Nat.le_of_ble_eq_true rfl, Nat.le_of_ble_eq_true rfl⟩) hS (fun q _ h => hFc q h) hFc (fun u_12 t H_13 locs ht hvm hw hB hz1 hk1 hS1 => ?_)
    try dsimp only at hw
    obtain ⟨x_15, hx_16, hP1, hD1⟩ := hB
    rw [ht] at hP1
    have hjn := xw_join3 (wl := [(m7, .inl (ax 0, 80, .inl (fun j => nI (op j)))), (m18, .inl (ax 0, 80, .inl (fun j => nI (lk j)))), (m16, .inl (ax 3, 80, .inl vr)), (m14, .inl (ax 0, 80, .inl (fun j => nI (se j)))), (m15, .inl (ax 0, 80, .inl (fun j => nI (ss j)))), (m19, .inl (ax 0, 6000, .inl pl)), (m0, .inr (11, [.int s_thrown, .int s_taped, .ref m1, .int s_size, .int s_outSize, .ref m2, .int s_kind, .int s_value, .int s_begin, .int s_end, .int s_failed, .ref m3, .ref m4, .ref m5, .int s_isProgram, .int s_half, .ref m6, .ref m7, .ref m8, .ref m9, .ref m10, .ref m11, .ref m12, .ref m13, .ref m14, .ref m15, .ref m16, .ref m17, .ref m18, .ref m19, .ref m20, .int s_signs, .ref m21, .int s_stacked, .ref m22, .int s_name, .int s_shift, .int s_statements, .int s_ifs, .int s_whiles, .int s_variants, .int s_open, .ref m23, .int s_isMade, .int s_conditions, .ref m24, .ref m25, .ref m26, .ref m27, .int s_kept, .ref m28, .int (nI (mm + 2)), .ref m29, .int (nI ((us + ss (lk ix)) + 1)), .ref m30, .ref m31, .int s_looked, .int s_rows, .int s_firstRow, .ref m32, .ref m33, .ref m34, .ref m35, .ref m36, .ref m37, .ref m38, .ref m39, .ref m40, .int s_isBroken, .ref m41, .int s_atoms, .ref m42])), (m30, .inl (ax 0, 180000, .inl x_15)), (m29, .inl (ax 0, 16, .inl (fun j => nI (sup (sup tp mm us) (mm + 1) (us + ss (lk ix)) j)))), (m10, .inl (ax 0, 80, .inl tn)), (m11, .inl (ax 0, 80, .inl tm)), (m17, .inl (ax 0, 80, .inl (fun j => nI (gs j))))]) hP hD [6, 7, 8, 3, 4, 5] [0, 1, 2, 9, 10, 11] hCs (by decide) (by decide) hk1 hFc hP1 hD1 rfl
    clear hP1 hD1
    clear hPc hDc hFc hCs hz hz1 hk1 ht hvm
    clear hP hD hS
    have hS := hS1
    obtain ⟨hP, hD⟩ := hjn
    clear hS1
    refine lv_aload_n hx hb d_Model_weaken_125 rfl (lv_at hl1 1 rfl) ?_
    refine lv_iconst (v := 2) hx hb d_Model_weaken_126 (by decide) ?_
    obtain ⟨hPc, hDc, hFc, hCs⟩ := xw_sub3 (wc := [(m0, .inr (11, [.int s_thrown, .int s_taped, .ref m1, .int s_size, .int s_outSize, .ref m2, .int s_kind, .int s_value, .int s_begin, .int s_end, .int s_failed, .ref m3, .ref m4, .ref m5, .int s_isProgram, .int s_half, .ref m6, .ref m7, .ref m8, .ref m9, .ref m10, .ref m11, .ref m12, .ref m13, .ref m14, .ref m15, .ref m16, .ref m17, .ref m18, .ref m19, .ref m20, .int s_signs, .ref m21, .int s_stacked, .ref m22, .int s_name, .int s_shift, .int s_statements, .int s_ifs, .int s_whiles, .int s_variants, .int s_open, .ref m23, .int s_isMade, .int s_conditions, .ref m24, .ref m25, .ref m26, .ref m27, .int s_kept, .ref m28, .int (nI (mm + 2)), .ref m29, .int (nI ((us + ss (lk ix)) + 1)), .ref m30, .ref m31, .int s_looked, .int s_rows, .int s_firstRow, .ref m32, .ref m33, .ref m34, .ref m35, .ref m36, .ref m37, .ref m38, .ref m39, .ref m40, .int s_isBroken, .ref m41, .int s_atoms, .ref m42])), (m30, .inl (ax 0, 180000, .inl x_15)), (m29, .inl (ax 0, 16, .inl (fun j => nI ((sup (sup tp mm us) (mm + 1) (us + ss (lk ix))) j))))]) hP hD hS hA [6, 7, 8] (by decide) rfl
    have hz := xz_of hN hS
    refine va_callv (va_runV (As := [.int 2]) (rest := []) ⟨hx, hb, hml, hown, hts⟩ (c_M_unite l D ax m0 m1 m2 m3 m4 m5 m6 m7 m8 m9 m10 m11 m12 m13 m14 m15 m16 m17 m18 m19 m20 m21 m22 m23 m24 m25 m26 m27 m28 m29 m30 m31 m32 m33 m34 m35 m36 m37 m38 m39 m40 m41 m42 s_thrown s_taped s_size s_outSize s_kind s_value s_begin s_end s_failed s_isProgram s_half s_signs s_stacked s_name s_shift s_statements s_ifs s_whiles s_variants s_open s_isMade s_conditions s_kept s_looked s_rows s_firstRow s_isBroken s_atoms mm ((us + ss (lk ix)) + 1) 2 x_15 (sup (sup tp mm us) (mm + 1) (us + ss (lk ix))) H_13.size (by omega) (by omega) (by omega) (by assumption)) (xcV (n := 1) hts wd_1451 wd_15 wd_1448 wd_1450 ps_88 rfl rfl (by decide +kernel) ⟨Nat.le_of_ble_eq_true rfl, Nat.le_of_ble_eq_true rfl⟩) (xpV (ci := 11) (q0 := 0) (As := [.int 2]) hPc hK hz hDc rfl rfl) rfl rfl hl1.1 rfl (lv_room (Nat.le_of_ble_eq_true rfl)) d_Model_weaken_127 ⟨Nat.le_of_ble_eq_true rfl, Nat.le_of_ble_eq_true rfl⟩) hS (fun q _ h => hFc q h) hFc (fun u_17 t H_18 locs ht hvm hw hB hz1 hk1 hS1 => ?_)
    try dsimp only at hw
    obtain ⟨x_20, hx_21, hP1, hD1⟩ := hB
    rw [ht] at hP1
    have hjn := xw_join3 (wl := [(m7, .inl (ax 0, 80, .inl (fun j => nI (op j)))), (m18, .inl (ax 0, 80, .inl (fun j => nI (lk j)))), (m16, .inl (ax 3, 80, .inl vr)), (m14, .inl (ax 0, 80, .inl (fun j => nI (se j)))), (m15, .inl (ax 0, 80, .inl (fun j => nI (ss j)))), (m19, .inl (ax 0, 6000, .inl pl)), (m10, .inl (ax 0, 80, .inl tn)), (m11, .inl (ax 0, 80, .inl tm)), (m17, .inl (ax 0, 80, .inl (fun j => nI (gs j)))), (m0, .inr (11, [.int s_thrown, .int s_taped, .ref m1, .int s_size, .int s_outSize, .ref m2, .int s_kind, .int s_value, .int s_begin, .int s_end, .int s_failed, .ref m3, .ref m4, .ref m5, .int s_isProgram, .int s_half, .ref m6, .ref m7, .ref m8, .ref m9, .ref m10, .ref m11, .ref m12, .ref m13, .ref m14, .ref m15, .ref m16, .ref m17, .ref m18, .ref m19, .ref m20, .int s_signs, .ref m21, .int s_stacked, .ref m22, .int s_name, .int s_shift, .int s_statements, .int s_ifs, .int s_whiles, .int s_variants, .int s_open, .ref m23, .int s_isMade, .int s_conditions, .ref m24, .ref m25, .ref m26, .ref m27, .int s_kept, .ref m28, .int (nI (mm + 1)), .ref m29, .int (nI (((us + ss (lk ix)) + 1) + 1)), .ref m30, .ref m31, .int s_looked, .int s_rows, .int s_firstRow, .ref m32, .ref m33, .ref m34, .ref m35, .ref m36, .ref m37, .ref m38, .ref m39, .ref m40, .int s_isBroken, .ref m41, .int s_atoms, .ref m42])), (m30, .inl (ax 0, 180000, .inl x_20)), (m29, .inl (ax 0, 16, .inl (fun j => nI ((sup (sup tp mm us) (mm + 1) (us + ss (lk ix))) j))))]) hP hD [6, 7, 8] [0, 1, 2, 3, 4, 5, 9, 10, 11] hCs (by decide) (by decide) hk1 hFc hP1 hD1 rfl
    clear hP1 hD1
    clear hPc hDc hFc hCs hz hz1 hk1 ht hvm
    clear hP hD hS
    have hS := hS1
    obtain ⟨hP, hD⟩ := hjn
    clear hS1
    refine lv_goto (tgt := 219) hx hb d_Model_weaken_130 (by decide) ?_
    obtain ⟨hP9, hD9⟩ := xw_sub2 (wc := (fun (u : Nat → Nat) (xtp : Nat → Nat) (xwk : Nat → Int32) => [(m0, .inr (11, [.int s_thrown, .int s_taped, .ref m1, .int s_size, .int s_outSize, .ref m2, .int s_kind, .int s_value, .int s_begin, .int s_end, .int s_failed, .ref m3, .ref m4, .ref m5, .int s_isProgram, .int s_half, .ref m6, .ref m7, .ref m8, .ref m9, .ref m10, .ref m11, .ref m12, .ref m13, .ref m14, .ref m15, .ref m16, .ref m17, .ref m18, .ref m19, .ref m20, .int s_signs, .ref m21, .int s_stacked, .ref m22, .int s_name, .int s_shift, .int s_statements, .int s_ifs, .int s_whiles, .int s_variants, .int s_open, .ref m23, .int s_isMade, .int s_conditions, .ref m24, .ref m25, .ref m26, .ref m27, .int s_kept, .ref m28, .int (nI (mm + 1)), .ref m29, .int (nI (u 0)), .ref m30, .ref m31, .int s_looked, .int s_rows, .int s_firstRow, .ref m32, .ref m33, .ref m34, .ref m35, .ref m36, .ref m37, .ref m38, .ref m39, .ref m40, .int s_isBroken, .ref m41, .int s_atoms, .ref m42])), (m30, .inl (ax 0, 180000, .inl xwk)), (m29, .inl (ax 0, 16, .inl (fun j => nI (xtp j)))), (m7, .inl (ax 0, 80, .inl (fun j => nI (op j)))), (m18, .inl (ax 0, 80, .inl (fun j => nI (lk j)))), (m16, .inl (ax 3, 80, .inl vr)), (m14, .inl (ax 0, 80, .inl (fun j => nI (se j)))), (m15, .inl (ax 0, 80, .inl (fun j => nI (ss j)))), (m19, .inl (ax 0, 6000, .inl pl)), (m10, .inl (ax 0, 80, .inl tn)), (m11, .inl (ax 0, 80, .inl tm)), (m17, .inl (ax 0, 80, .inl (fun j => nI (gs j))))]) (ixn [(((us + ss (lk ix)) + 1) + 1)]) (sup (sup tp mm us) (mm + 1) (us + ss (lk ix))) x_20) hP hD [9, 10, 11, 0, 1, 2, 3, 4, 5, 6, 7, 8] (by decide) rfl
    have hex0 : ∀ i, i < mm → (sup (sup tp mm us) (mm + 1) (us + ss (lk ix))) i = tp i := (fun i hi => by (repeat rw [sup_ne (by omega)]))
    have hex1 : (sup (sup tp mm us) (mm + 1) (us + ss (lk ix))) mm = us := (by first | exact sup_eq | (rw [sup_ne (by omega)]; exact sup_eq))
    have hex2 : stk x_20 (sup (sup tp mm us) (mm + 1) (us + ss (lk ix))) (mm + 1) ((((us + ss (lk ix)) + 1) + 1)) := (by assumption)
    have hsp0 : (((us + ss (lk ix)) + 1) + 1) ≤ us + ss (lk ix) + 2 := (by omega)
    have hsp1 : us ≤ (((us + ss (lk ix)) + 1) + 1) := (by omega)
    exact W.vret hx hb hr (fun t ht hW => ⟨⟨ixn [(((us + ss (lk ix)) + 1) + 1)], rfl, ⟨hsp0, hsp1⟩, ⟨sup (sup tp mm us) (mm + 1) (us + ss (lk ix)), x_20, hex0, hex1, hex2, by rw [ht]; exact hP9, hD9⟩⟩, hS.F ht⟩) hS.2.2 d_Model_weaken_219
set_option maxHeartbeats 40000000 in
set_option maxRecDepth 100000 in
theorem c_M_weaken_assert (l : Launch) (D : va_G) (ax : Nat → ClassId) (m0 m1 m2 m3 m4 m5 m6 m7 m8 m9 m10 m11 m12 m13 m14 m15 m16 m17 m18 m19 m20 m21 m22 m23 m24 m25 m26 m27 m28 m29 m30 m31 m32 m33 m34 m35 m36 m37 m38 m39 m40 m41 m42 : Nat) (s_thrown s_taped s_size s_outSize s_kind s_value s_begin s_end s_failed s_isProgram s_half s_signs s_stacked s_name s_shift s_statements s_ifs s_whiles s_variants s_open s_isMade s_conditions s_kept s_looked s_rows s_firstRow s_isBroken s_atoms : Int32) (mm us ix : Nat) (wk : Nat → Int32) (tp op : Nat → Nat) (o P : Nat) (fi fs : Nat → Nat) (pl as : Nat → Int32) (sz : Nat) (hix : ix < 80) (hop : op ix = 7) (hm1 : mm < 12) (hus : us + fs ix + 1 ≤ 30000) (hk : stk wk tp (mm + 1) us) (ho : o ≤ 1) (hP5 : P ≤ 500) (hcd : cdn 6 o P pl (fi ix) (fs ix)) : Met l y_Model_weaken (xws (.code y_Model_weaken b_Model_weaken 3 none)) ({ frames := 40, cells := 0, slots := 0, locals := 1600 }) (va_Pc [.ref m0, .int (nI ix)] (xo D ax [(m0, .inr (11, [.int s_thrown, .int s_taped, .ref m1, .int s_size, .int s_outSize, .ref m2, .int s_kind, .int s_value, .int s_begin, .int s_end, .int s_failed, .ref m3, .ref m4, .ref m5, .int s_isProgram, .int s_half, .ref m6, .ref m7, .ref m8, .ref m9, .ref m10, .ref m11, .ref m12, .ref m13, .ref m14, .ref m15, .ref m16, .ref m17, .ref m18, .ref m19, .ref m20, .int s_signs, .ref m21, .int s_stacked, .ref m22, .int s_name, .int s_shift, .int s_statements, .int s_ifs, .int s_whiles, .int s_variants, .int s_open, .ref m23, .int s_isMade, .int s_conditions, .ref m24, .ref m25, .ref m26, .ref m27, .int s_kept, .ref m28, .int (nI (mm + 1)), .ref m29, .int (nI us), .ref m30, .ref m31, .int s_looked, .int s_rows, .int s_firstRow, .ref m32, .ref m33, .ref m34, .ref m35, .ref m36, .ref m37, .ref m38, .ref m39, .ref m40, .int s_isBroken, .ref m41, .int s_atoms, .ref m42])), (m30, .inl (ax 0, 180000, .inl wk)), (m29, .inl (ax 0, 16, .inl (fun j => nI (tp j)))), (m7, .inl (ax 0, 80, .inl (fun j => nI (op j)))), (m31, .inl (ax 0, 180000, .inl as)), (m12, .inl (ax 0, 80, .inl (fun j => nI (fi j)))), (m13, .inl (ax 0, 80, .inl (fun j => nI (fs j)))), (m19, .inl (ax 0, 6000, .inl pl))] sz)) ((va_Qv (fun (u : Nat → Nat) => (u 0 = us + fs ix + 1)) (fun (u : Nat → Nat) (t9 : State) => ∃ xtp : Nat → Nat, ∃ xwk : Nat → Int32, ∃ xas : Nat → Int32, (∀ i, i ≤ mm → xtp i = tp i) ∧ (stk xwk xtp (mm + 1) (u 0)) ∧ va_P D classes [(m0, .inr (11, [.int s_thrown, .int s_taped, .ref m1, .int s_size, .int s_outSize, .ref m2, .int s_kind, .int s_value, .int s_begin, .int s_end, .int s_failed, .ref m3, .ref m4, .ref m5, .int s_isProgram, .int s_half, .ref m6, .ref m7, .ref m8, .ref m9, .ref m10, .ref m11, .ref m12, .ref m13, .ref m14, .ref m15, .ref m16, .ref m17, .ref m18, .ref m19, .ref m20, .int s_signs, .ref m21, .int s_stacked, .ref m22, .int s_name, .int s_shift, .int s_statements, .int s_ifs, .int s_whiles, .int s_variants, .int s_open, .ref m23, .int s_isMade, .int s_conditions, .ref m24, .ref m25, .ref m26, .ref m27, .int s_kept, .ref m28, .int (nI (mm + 1)), .ref m29, .int (nI (u 0)), .ref m30, .ref m31, .int s_looked, .int s_rows, .int s_firstRow, .ref m32, .ref m33, .ref m34, .ref m35, .ref m36, .ref m37, .ref m38, .ref m39, .ref m40, .int s_isBroken, .ref m41, .int s_atoms, .ref m42])), (m30, .inl (ax 0, 180000, .inl xwk)), (m29, .inl (ax 0, 16, .inl (fun j => nI (xtp j)))), (m7, .inl (ax 0, 80, .inl (fun j => nI (op j)))), (m31, .inl (ax 0, 180000, .inl xas)), (m12, .inl (ax 0, 80, .inl (fun j => nI (fi j)))), (m13, .inl (ax 0, 80, .inl (fun j => nI (fs j)))), (m19, .inl (ax 0, 6000, .inl pl))] t9.heap ∧ va_D (va_A [(m0, .inr (11, [.int s_thrown, .int s_taped, .ref m1, .int s_size, .int s_outSize, .ref m2, .int s_kind, .int s_value, .int s_begin, .int s_end, .int s_failed, .ref m3, .ref m4, .ref m5, .int s_isProgram, .int s_half, .ref m6, .ref m7, .ref m8, .ref m9, .ref m10, .ref m11, .ref m12, .ref m13, .ref m14, .ref m15, .ref m16, .ref m17, .ref m18, .ref m19, .ref m20, .int s_signs, .ref m21, .int s_stacked, .ref m22, .int s_name, .int s_shift, .int s_statements, .int s_ifs, .int s_whiles, .int s_variants, .int s_open, .ref m23, .int s_isMade, .int s_conditions, .ref m24, .ref m25, .ref m26, .ref m27, .int s_kept, .ref m28, .int (nI (mm + 1)), .ref m29, .int (nI us), .ref m30, .ref m31, .int s_looked, .int s_rows, .int s_firstRow, .ref m32, .ref m33, .ref m34, .ref m35, .ref m36, .ref m37, .ref m38, .ref m39, .ref m40, .int s_isBroken, .ref m41, .int s_atoms, .ref m42])), (m30, .inl (ax 0, 180000, .inl wk)), (m29, .inl (ax 0, 16, .inl (fun j => nI (tp j)))), (m7, .inl (ax 0, 80, .inl (fun j => nI (op j)))), (m31, .inl (ax 0, 180000, .inl as)), (m12, .inl (ax 0, 80, .inl (fun j => nI (fi j)))), (m13, .inl (ax 0, 80, .inl (fun j => nI (fs j)))), (m19, .inl (ax 0, 6000, .inl pl))] sz) [(m0, .inr (11, [.int s_thrown, .int s_taped, .ref m1, .int s_size, .int s_outSize, .ref m2, .int s_kind, .int s_value, .int s_begin, .int s_end, .int s_failed, .ref m3, .ref m4, .ref m5, .int s_isProgram, .int s_half, .ref m6, .ref m7, .ref m8, .ref m9, .ref m10, .ref m11, .ref m12, .ref m13, .ref m14, .ref m15, .ref m16, .ref m17, .ref m18, .ref m19, .ref m20, .int s_signs, .ref m21, .int s_stacked, .ref m22, .int s_name, .int s_shift, .int s_statements, .int s_ifs, .int s_whiles, .int s_variants, .int s_open, .ref m23, .int s_isMade, .int s_conditions, .ref m24, .ref m25, .ref m26, .ref m27, .int s_kept, .ref m28, .int (nI (mm + 1)), .ref m29, .int (nI (u 0)), .ref m30, .ref m31, .int s_looked, .int s_rows, .int s_firstRow, .ref m32, .ref m33, .ref m34, .ref m35, .ref m36, .ref m37, .ref m38, .ref m39, .ref m40, .int s_isBroken, .ref m41, .int s_atoms, .ref m42])), (m30, .inl (ax 0, 180000, .inl xwk)), (m29, .inl (ax 0, 16, .inl (fun j => nI (xtp j)))), (m7, .inl (ax 0, 80, .inl (fun j => nI (op j)))), (m31, .inl (ax 0, 180000, .inl xas)), (m12, .inl (ax 0, 80, .inl (fun j => nI (fi j)))), (m13, .inl (ax 0, 80, .inl (fun j => nI (fs j)))), (m19, .inl (ax 0, 6000, .inl pl))]) (va_A [(m0, .inr (11, [.int s_thrown, .int s_taped, .ref m1, .int s_size, .int s_outSize, .ref m2, .int s_kind, .int s_value, .int s_begin, .int s_end, .int s_failed, .ref m3, .ref m4, .ref m5, .int s_isProgram, .int s_half, .ref m6, .ref m7, .ref m8, .ref m9, .ref m10, .ref m11, .ref m12, .ref m13, .ref m14, .ref m15, .ref m16, .ref m17, .ref m18, .ref m19, .ref m20, .int s_signs, .ref m21, .int s_stacked, .ref m22, .int s_name, .int s_shift, .int s_statements, .int s_ifs, .int s_whiles, .int s_variants, .int s_open, .ref m23, .int s_isMade, .int s_conditions, .ref m24, .ref m25, .ref m26, .ref m27, .int s_kept, .ref m28, .int (nI (mm + 1)), .ref m29, .int (nI us), .ref m30, .ref m31, .int s_looked, .int s_rows, .int s_firstRow, .ref m32, .ref m33, .ref m34, .ref m35, .ref m36, .ref m37, .ref m38, .ref m39, .ref m40, .int s_isBroken, .ref m41, .int s_atoms, .ref m42])), (m30, .inl (ax 0, 180000, .inl wk)), (m29, .inl (ax 0, 16, .inl (fun j => nI (tp j)))), (m7, .inl (ax 0, 80, .inl (fun j => nI (op j)))), (m31, .inl (ax 0, 180000, .inl as)), (m12, .inl (ax 0, 80, .inl (fun j => nI (fi j)))), (m13, .inl (ax 0, 80, .inl (fun j => nI (fs j)))), (m19, .inl (ax 0, 6000, .inl pl))] sz))) 0 0 (va_A [(m0, .inr (11, [.int s_thrown, .int s_taped, .ref m1, .int s_size, .int s_outSize, .ref m2, .int s_kind, .int s_value, .int s_begin, .int s_end, .int s_failed, .ref m3, .ref m4, .ref m5, .int s_isProgram, .int s_half, .ref m6, .ref m7, .ref m8, .ref m9, .ref m10, .ref m11, .ref m12, .ref m13, .ref m14, .ref m15, .ref m16, .ref m17, .ref m18, .ref m19, .ref m20, .int s_signs, .ref m21, .int s_stacked, .ref m22, .int s_name, .int s_shift, .int s_statements, .int s_ifs, .int s_whiles, .int s_variants, .int s_open, .ref m23, .int s_isMade, .int s_conditions, .ref m24, .ref m25, .ref m26, .ref m27, .int s_kept, .ref m28, .int (nI (mm + 1)), .ref m29, .int (nI us), .ref m30, .ref m31, .int s_looked, .int s_rows, .int s_firstRow, .ref m32, .ref m33, .ref m34, .ref m35, .ref m36, .ref m37, .ref m38, .ref m39, .ref m40, .int s_isBroken, .ref m41, .int s_atoms, .ref m42])), (m30, .inl (ax 0, 180000, .inl wk)), (m29, .inl (ax 0, 16, .inl (fun j => nI (tp j)))), (m7, .inl (ax 0, 80, .inl (fun j => nI (op j)))), (m31, .inl (ax 0, 180000, .inl as)), (m12, .inl (ax 0, 80, .inl (fun j => nI (fi j)))), (m13, .inl (ax 0, 80, .inl (fun j => nI (fs j)))), (m19, .inl (ax 0, 6000, .inl pl))] sz) := by
  refine Met.ofW (cc := b_Model_weaken) (maxL := 3) (ret := none) (by decide) rfl ?_
  intro p e s m args below meth c s₁ B hml hv
  obtain ⟨rfl, hsz, hP, hK, hD0⟩ := hv
  have hx := B.exec
  have hb := B.bytes
  have hr := B.returns
  have hts := xw_hts B.pre
  have hown : s.vm.findClass R_Model = some m.cls := findClass_of_methodNamed B.named
  have hlocks := B.notSynchronized
  subst hsz
  have hD := hD0.self (sz := s.heap.size)
  have hN := xz_entry hP
  generalize hAe : va_A [(m0, .inr (11, [.int s_thrown, .int s_taped, .ref m1, .int s_size, .int s_outSize, .ref m2, .int s_kind, .int s_value, .int s_begin, .int s_end, .int s_failed, .ref m3, .ref m4, .ref m5, .int s_isProgram, .int s_half, .ref m6, .ref m7, .ref m8, .ref m9, .ref m10, .ref m11, .ref m12, .ref m13, .ref m14, .ref m15, .ref m16, .ref m17, .ref m18, .ref m19, .ref m20, .int s_signs, .ref m21, .int s_stacked, .ref m22, .int s_name, .int s_shift, .int s_statements, .int s_ifs, .int s_whiles, .int s_variants, .int s_open, .ref m23, .int s_isMade, .int s_conditions, .ref m24, .ref m25, .ref m26, .ref m27, .int s_kept, .ref m28, .int (nI (mm + 1)), .ref m29, .int (nI us), .ref m30, .ref m31, .int s_looked, .int s_rows, .int s_firstRow, .ref m32, .ref m33, .ref m34, .ref m35, .ref m36, .ref m37, .ref m38, .ref m39, .ref m40, .int s_isBroken, .ref m41, .int s_atoms, .ref m42])), (m30, .inl (ax 0, 180000, .inl wk)), (m29, .inl (ax 0, 16, .inl (fun j => nI (tp j)))), (m7, .inl (ax 0, 80, .inl (fun j => nI (op j)))), (m31, .inl (ax 0, 180000, .inl as)), (m12, .inl (ax 0, 80, .inl (fun j => nI (fi j)))), (m13, .inl (ax 0, 80, .inl (fun j => nI (fs j)))), (m19, .inl (ax 0, 6000, .inl pl))] s.heap.size = A at hD hN ⊢
  have hA : ∀ q : Nat, s.heap.size ≤ q → A q := fun q h => by rw [← hAe]; exact Or.inr h
  have hS : va_S A s.heap s.heap [] := va_S.rf
  have hl0 := lv_entry ([.ref m0, .int (nI ix)]) (n := 3) (Nat.le_of_ble_eq_true rfl)
  rw [lg_entry_eq]
  generalize (lg_sl ([.ref m0, .int (nI ix)]) ++ List.replicate (3 - (lg_sl ([.ref m0, .int (nI ix)])).length) Slot.unset).toArray = ls at hl0 ⊢
  have hl1 : lv_has ls 3 [(0, .ref m0), (1, .int (nI ix))] := hl0
  refine lv_aload_n hx hb d_Model_weaken_0 rfl (lv_at hl1 0 rfl) ?_
  refine va_get (D := D) (ci := 11) (v := .ref m7) (C := R_Model) (T := F_Model) (N := 72) hx hb hts i_Model hown hK.1 hP 0 rfl rfl 17 (by decide) (hts _ wd_1053) (fun _ h9 => h9) rfl d_Model_weaken_1 ?_
  refine lv_iload_n hx hb d_Model_weaken_4 rfl (lv_at hl1 1 rfl) ?_
  refine va_iald hx hb hK.1 hP 3 0 rfl rfl (vp_in_nI (by omega) (by omega)) d_Model_weaken_5 ?_
  refine W.eq (g2 := F0 m 6 ls [.int (nI (op ix))]) (by rw [nI_clamp (by omega)]) ?_
  refine lv_if_ne (tgt := 34) hx hb d_Model_weaken_6 (by decide) (fun c_1 => ?_) (fun c_1 => ?_)
  rotate_left
  · exfalso
    replace c_1 : op ix = 0 := (nI_eq (a := op ix) (b := 0) (by omega) (by omega)).mp c_1
    omega
  replace c_1 : ¬ op ix = 0 := fun hq9 => c_1 ((nI_eq (a := op ix) (b := 0) (by omega) (by omega)).mpr hq9)
  refine lv_aload_n hx hb d_Model_weaken_34 rfl (lv_at hl1 0 rfl) ?_
  refine va_get (D := D) (ci := 11) (v := .ref m7) (C := R_Model) (T := F_Model) (N := 72) hx hb hts i_Model hown hK.1 hP 0 rfl rfl 17 (by decide) (hts _ wd_1053) (fun _ h9 => h9) rfl d_Model_weaken_35 ?_
  refine lv_iload_n hx hb d_Model_weaken_38 rfl (lv_at hl1 1 rfl) ?_
  refine va_iald hx hb hK.1 hP 3 0 rfl rfl (vp_in_nI (by omega) (by omega)) d_Model_weaken_39 ?_
  refine W.eq (g2 := F0 m 40 ls [.int (nI (op ix))]) (by rw [nI_clamp (by omega)]) ?_
  refine lv_iconst (v := 4) hx hb d_Model_weaken_40 (by decide) ?_
  refine lv_icmp_ne (tgt := 51) hx hb d_Model_weaken_41 (by decide) (fun c_2 => ?_) (fun c_2 => ?_)
  rotate_left
  · exfalso
    replace c_2 : op ix = 4 := (nI_eq (a := op ix) (b := 4) (by omega) (by omega)).mp c_2
    omega
  replace c_2 : ¬ op ix = 4 := fun hq9 => c_2 ((nI_eq (a := op ix) (b := 4) (by omega) (by omega)).mpr hq9)
  refine lv_aload_n hx hb d_Model_weaken_51 rfl (lv_at hl1 0 rfl) ?_
  refine va_get (D := D) (ci := 11) (v := .ref m7) (C := R_Model) (T := F_Model) (N := 72) hx hb hts i_Model hown hK.1 hP 0 rfl rfl 17 (by decide) (hts _ wd_1053) (fun _ h9 => h9) rfl d_Model_weaken_52 ?_
  refine lv_iload_n hx hb d_Model_weaken_55 rfl (lv_at hl1 1 rfl) ?_
  refine va_iald hx hb hK.1 hP 3 0 rfl rfl (vp_in_nI (by omega) (by omega)) d_Model_weaken_56 ?_
  refine W.eq (g2 := F0 m 57 ls [.int (nI (op ix))]) (by rw [nI_clamp (by omega)]) ?_
  refine lv_iconst (v := 3) hx hb d_Model_weaken_57 (by decide) ?_
  refine lv_icmp_ne (tgt := 68) hx hb d_Model_weaken_58 (by decide) (fun c_3 => ?_) (fun c_3 => ?_)
  rotate_left
  · exfalso
    replace c_3 : op ix = 3 := (nI_eq (a := op ix) (b := 3) (by omega) (by omega)).mp c_3
    omega
  replace c_3 : ¬ op ix = 3 := fun hq9 => c_3 ((nI_eq (a := op ix) (b := 3) (by omega) (by omega)).mpr hq9)
  refine lv_aload_n hx hb d_Model_weaken_68 rfl (lv_at hl1 0 rfl) ?_
  refine va_get (D := D) (ci := 11) (v := .ref m7) (C := R_Model) (T := F_Model) (N := 72) hx hb hts i_Model hown hK.1 hP 0 rfl rfl 17 (by decide) (hts _ wd_1053) (fun _ h9 => h9) rfl d_Model_weaken_69 ?_
  refine lv_iload_n hx hb d_Model_weaken_72 rfl (lv_at hl1 1 rfl) ?_
  refine va_iald hx hb hK.1 hP 3 0 rfl rfl (vp_in_nI (by omega) (by omega)) d_Model_weaken_73 ?_
  refine W.eq (g2 := F0 m 74 ls [.int (nI (op ix))]) (by rw [nI_clamp (by omega)]) ?_
  refine lv_iconst (v := 2) hx hb d_Model_weaken_74 (by decide) ?_
  refine lv_icmp_ne (tgt := 86) hx hb d_Model_weaken_75 (by decide) (fun c_4 => ?_) (fun c_4 => ?_)
  rotate_left
  · exfalso
    replace c_4 : op ix = 2 := (nI_eq (a := op ix) (b := 2) (by omega) (by omega)).mp c_4
    omega
  replace c_4 : ¬ op ix = 2 := fun hq9 => c_4 ((nI_eq (a := op ix) (b := 2) (by omega) (by omega)).mpr hq9)
  refine lv_aload_n hx hb d_Model_weaken_86 rfl (lv_at hl1 0 rfl) ?_
  refine va_get (D := D) (ci := 11) (v := .ref m7) (C := R_Model) (T := F_Model) (N := 72) hx hb hts i_Model hown hK.1 hP 0 rfl rfl 17 (by decide) (hts _ wd_1053) (fun _ h9 => h9) rfl d_Model_weaken_87 ?_
  refine lv_iload_n hx hb d_Model_weaken_90 rfl (lv_at hl1 1 rfl) ?_
  refine va_iald hx hb hK.1 hP 3 0 rfl rfl (vp_in_nI (by omega) (by omega)) d_Model_weaken_91 ?_
  refine W.eq (g2 := F0 m 92 ls [.int (nI (op ix))]) (by rw [nI_clamp (by omega)]) ?_
  refine lv_bipush (v := 6) hx hb d_Model_weaken_92 (by decide) ?_
  refine lv_icmp_ne (tgt := 133) hx hb d_Model_weaken_94 (by decide) (fun c_5 => ?_) (fun c_5 => ?_)
  rotate_left
  · exfalso
    replace c_5 : op ix = 6 := (nI_eq (a := op ix) (b := 6) (by omega) (by omega)).mp c_5
    omega
  replace c_5 : ¬ op ix = 6 := fun hq9 => c_5 ((nI_eq (a := op ix) (b := 6) (by omega) (by omega)).mpr hq9)
  refine lv_aload_n hx hb d_Model_weaken_133 rfl (lv_at hl1 0 rfl) ?_
  refine va_get (D := D) (ci := 11) (v := .ref m7) (C := R_Model) (T := F_Model) (N := 72) hx hb hts i_Model hown hK.1 hP 0 rfl rfl 17 (by decide) (hts _ wd_1053) (fun _ h9 => h9) rfl d_Model_weaken_134 ?_
  refine lv_iload_n hx hb d_Model_weaken_137 rfl (lv_at hl1 1 rfl) ?_
  refine va_iald hx hb hK.1 hP 3 0 rfl rfl (vp_in_nI (by omega) (by omega)) d_Model_weaken_138 ?_
  refine W.eq (g2 := F0 m 139 ls [.int (nI (op ix))]) (by rw [nI_clamp (by omega)]) ?_
  refine lv_iconst (v := 5) hx hb d_Model_weaken_139 (by decide) ?_
  refine lv_icmp_ne (tgt := 151) hx hb d_Model_weaken_140 (by decide) (fun c_6 => ?_) (fun c_6 => ?_)
  rotate_left
  · exfalso
    replace c_6 : op ix = 5 := (nI_eq (a := op ix) (b := 5) (by omega) (by omega)).mp c_6
    omega
  replace c_6 : ¬ op ix = 5 := fun hq9 => c_6 ((nI_eq (a := op ix) (b := 5) (by omega) (by omega)).mpr hq9)
  refine lv_aload_n hx hb d_Model_weaken_151 rfl (lv_at hl1 0 rfl) ?_
  refine va_get (D := D) (ci := 11) (v := .ref m7) (C := R_Model) (T := F_Model) (N := 72) hx hb hts i_Model hown hK.1 hP 0 rfl rfl 17 (by decide) (hts _ wd_1053) (fun _ h9 => h9) rfl d_Model_weaken_152 ?_
  refine lv_iload_n hx hb d_Model_weaken_155 rfl (lv_at hl1 1 rfl) ?_
  refine va_iald hx hb hK.1 hP 3 0 rfl rfl (vp_in_nI (by omega) (by omega)) d_Model_weaken_156 ?_
  refine W.eq (g2 := F0 m 157 ls [.int (nI (op ix))]) (by rw [nI_clamp (by omega)]) ?_
  refine lv_bipush (v := 7) hx hb d_Model_weaken_157 (by decide) ?_
  refine lv_icmp_ne (tgt := 179) hx hb d_Model_weaken_159 (by decide) (fun c_7 => ?_) (fun c_7 => ?_)
  · exfalso
    replace c_7 : ¬ op ix = 7 := fun hq9 => c_7 ((nI_eq (a := op ix) (b := 7) (by omega) (by omega)).mpr hq9)
    omega
  replace c_7 : op ix = 7 := (nI_eq (a := op ix) (b := 7) (by omega) (by omega)).mp c_7
  refine lv_aload_n hx hb d_Model_weaken_162 rfl (lv_at hl1 0 rfl) ?_
  refine lv_iload_n hx hb d_Model_weaken_163 rfl (lv_at hl1 1 rfl) ?_
  obtain ⟨hPc, hDc, hFc, hCs⟩ := xw_sub3 (wc := [(m0, .inr (11, [.int s_thrown, .int s_taped, .ref m1, .int s_size, .int s_outSize, .ref m2, .int s_kind, .int s_value, .int s_begin, .int s_end, .int s_failed, .ref m3, .ref m4, .ref m5, .int s_isProgram, .int s_half, .ref m6, .ref m7, .ref m8, .ref m9, .ref m10, .ref m11, .ref m12, .ref m13, .ref m14, .ref m15, .ref m16, .ref m17, .ref m18, .ref m19, .ref m20, .int s_signs, .ref m21, .int s_stacked, .ref m22, .int s_name, .int s_shift, .int s_statements, .int s_ifs, .int s_whiles, .int s_variants, .int s_open, .ref m23, .int s_isMade, .int s_conditions, .ref m24, .ref m25, .ref m26, .ref m27, .int s_kept, .ref m28, .int (nI (mm + 1)), .ref m29, .int (nI us), .ref m30, .ref m31, .int s_looked, .int s_rows, .int s_firstRow, .ref m32, .ref m33, .ref m34, .ref m35, .ref m36, .ref m37, .ref m38, .ref m39, .ref m40, .int s_isBroken, .ref m41, .int s_atoms, .ref m42])), (m30, .inl (ax 0, 180000, .inl wk)), (m29, .inl (ax 0, 16, .inl (fun j => nI (tp j)))), (m12, .inl (ax 0, 80, .inl (fun j => nI (fi j)))), (m13, .inl (ax 0, 80, .inl (fun j => nI (fs j)))), (m19, .inl (ax 0, 6000, .inl pl))]) hP hD hS hA [0, 1, 2, 5, 6, 7] (by decide) rfl
  have hz := xz_of hN hS
  refine va_callv (va_runV (As := [.int (nI ix)]) (rest := []) ⟨hx, hb, hml, hown, hts⟩ (c_M_pushFirst l D ax m0 m1 m2 m3 m4 m5 m6 m7 m8 m9 m10 m11 m12 m13 m14 m15 m16 m17 m18 m19 m20 m21 m22 m23 m24 m25 m26 m27 m28 m29 m30 m31 m32 m33 m34 m35 m36 m37 m38 m39 m40 m41 m42 s_thrown s_taped s_size s_outSize s_kind s_value s_begin s_end s_failed s_isProgram s_half s_signs s_stacked s_name s_shift s_statements s_ifs s_whiles s_variants s_open s_isMade s_conditions s_kept s_looked s_rows s_firstRow s_isBroken s_atoms (mm + 1) us wk tp ix 6 o P fi fs pl s.heap.size (by omega) (by omega) (by assumption) hix (by omega) ho hP5 hcd) (xcV (n := 1) hts wd_1447 wd_15 wd_1444 wd_1446 ps_87 rfl rfl (by decide +kernel) ⟨Nat.le_of_ble_eq_true rfl, Nat.le_of_ble_eq_true rfl⟩) (xpV (ci := 11) (q0 := 0) (As := [.int (nI ix)]) hPc hK hz hDc rfl rfl) rfl rfl hl1.1 rfl (lv_room (Nat.le_of_ble_eq_true rfl)) d_Model_weaken_164 ⟨Nat.le_of_ble_eq_true rfl, Nat.le_of_ble_eq_true rfl⟩) hS (fun q _ h => hFc q h) hFc (fun u_8 t H_9 locs ht hvm hw hB hz1 hk1 hS1 => ?_)
  try dsimp only at hw
  obtain ⟨x_11, hx_12, hP1, hD1⟩ := hB
  rw [ht] at hP1
  have hjn := xw_join3 (wl := [(m7, .inl (ax 0, 80, .inl (fun j => nI (op j)))), (m31, .inl (ax 0, 180000, .inl as)), (m0, .inr (11, [.int s_thrown, .int s_taped, .ref m1, .int s_size, .int s_outSize, .ref m2, .int s_kind, .int s_value, .int s_begin, .int s_end, .int s_failed, .ref m3, .ref m4, .ref m5, .int s_isProgram, .int s_half, .ref m6, .ref m7, .ref m8, .ref m9, .ref m10, .ref m11, .ref m12, .ref m13, .ref m14, .ref m15, .ref m16, .ref m17, .ref m18, .ref m19, .ref m20, .int s_signs, .ref m21, .int s_stacked, .ref m22, .int s_name, .int s_shift, .int s_statements, .int s_ifs, .int s_whiles, .int s_variants, .int s_open, .ref m23, .int s_isMade, .int s_conditions, .ref m24, .ref m25, .ref m26, .ref m27, .int s_kept, .ref m28, .int (nI (mm + 2)), .ref m29, .int (nI (us + fs ix)), .ref m30, .ref m31, .int s_looked, .int s_rows, .int s_firstRow, .ref m32, .ref m33, .ref m34, .ref m35, .ref m36, .ref m37, .ref m38, .ref m39, .ref m40, .int s_isBroken, .ref m41, .int s_atoms, .ref m42])), (m30, .inl (ax 0, 180000, .inl x_11)), (m29, .inl (ax 0, 16, .inl (fun j => nI (sup tp (mm + 1) us j)))), (m12, .inl (ax 0, 80, .inl (fun j => nI (fi j)))), (m13, .inl (ax 0, 80, .inl (fun j => nI (fs j)))), (m19, .inl (ax 0, 6000, .inl pl))]) hP hD [0, 1, 2, 5, 6, 7] [3, 4] hCs (by decide) (by decide) hk1 hFc hP1 hD1 rfl
  clear hP1 hD1
  clear hPc hDc hFc hCs hz hz1 hk1 ht hvm
  clear hP hD hS
  have hS := hS1
  obtain ⟨hP, hD⟩ := hjn
  clear hS1
  refine lv_aload_n hx hb d_Model_weaken_167 rfl (lv_at hl1 0 rfl) ?_
  obtain ⟨hPc, hDc, hFc, hCs⟩ := xw_sub3 (wc := [(m0, .inr (11, [.int s_thrown, .int s_taped, .ref m1, .int s_size, .int s_outSize, .ref m2, .int s_kind, .int s_value, .int s_begin, .int s_end, .int s_failed, .ref m3, .ref m4, .ref m5, .int s_isProgram, .int s_half, .ref m6, .ref m7, .ref m8, .ref m9, .ref m10, .ref m11, .ref m12, .ref m13, .ref m14, .ref m15, .ref m16, .ref m17, .ref m18, .ref m19, .ref m20, .int s_signs, .ref m21, .int s_stacked, .ref m22, .int s_name, .int s_shift, .int s_statements, .int s_ifs, .int s_whiles, .int s_variants, .int s_open, .ref m23, .int s_isMade, .int s_conditions, .ref m24, .ref m25, .ref m26, .ref m27, .int s_kept, .ref m28, .int (nI (mm + 2)), .ref m29, .int (nI (us + fs ix)), .ref m30, .ref m31, .int s_looked, .int s_rows, .int s_firstRow, .ref m32, .ref m33, .ref m34, .ref m35, .ref m36, .ref m37, .ref m38, .ref m39, .ref m40, .int s_isBroken, .ref m41, .int s_atoms, .ref m42])), (m30, .inl (ax 0, 180000, .inl x_11)), (m29, .inl (ax 0, 16, .inl (fun j => nI ((sup tp (mm + 1) us) j)))), (m31, .inl (ax 0, 180000, .inl as))]) hP hD hS hA [2, 3, 4, 1] (by decide) rfl
  have hz := xz_of hN hS
  refine va_callv (va_runV (As := []) (rest := []) ⟨hx, hb, hml, hown, hts⟩ (c_M_swapTops l D ax m0 m1 m2 m3 m4 m5 m6 m7 m8 m9 m10 m11 m12 m13 m14 m15 m16 m17 m18 m19 m20 m21 m22 m23 m24 m25 m26 m27 m28 m29 m30 m31 m32 m33 m34 m35 m36 m37 m38 m39 m40 m41 m42 s_thrown s_taped s_size s_outSize s_kind s_value s_begin s_end s_failed s_isProgram s_half s_signs s_stacked s_name s_shift s_statements s_ifs s_whiles s_variants s_open s_isMade s_conditions s_kept s_looked s_rows s_firstRow s_isBroken s_atoms mm (us + fs ix) x_11 (sup tp (mm + 1) us) as H_9.size (by omega) (by omega) (by assumption)) (xcV (n := 0) hts wd_1439 wd_15 wd_1436 wd_1438 ps_85 rfl rfl (by decide +kernel) ⟨Nat.le_of_ble_eq_true rfl, Nat.le_of_ble_eq_true rfl⟩) (xpV (ci := 11) (q0 := 0) (As := []) hPc hK hz hDc rfl rfl) rfl rfl hl1.1 rfl (lv_room (Nat.le_of_ble_eq_true rfl)) d_Model_weaken_168 ⟨Nat.le_of_ble_eq_true rfl, Nat.le_of_ble_eq_true rfl⟩) hS (fun q _ h => hFc q h) hFc (fun u_13 t H_14 locs ht hvm hw hB hz1 hk1 hS1 => ?_)
  try dsimp only at hw
  obtain ⟨x_16, x_17, x_18, hx_19, hx_20, hx_21, hP1, hD1⟩ := hB
  rw [ht] at hP1
  have hjn := xw_join3 (wl := [(m7, .inl (ax 0, 80, .inl (fun j => nI (op j)))), (m12, .inl (ax 0, 80, .inl (fun j => nI (fi j)))), (m13, .inl (ax 0, 80, .inl (fun j => nI (fs j)))), (m19, .inl (ax 0, 6000, .inl pl)), (m0, .inr (11, [.int s_thrown, .int s_taped, .ref m1, .int s_size, .int s_outSize, .ref m2, .int s_kind, .int s_value, .int s_begin, .int s_end, .int s_failed, .ref m3, .ref m4, .ref m5, .int s_isProgram, .int s_half, .ref m6, .ref m7, .ref m8, .ref m9, .ref m10, .ref m11, .ref m12, .ref m13, .ref m14, .ref m15, .ref m16, .ref m17, .ref m18, .ref m19, .ref m20, .int s_signs, .ref m21, .int s_stacked, .ref m22, .int s_name, .int s_shift, .int s_statements, .int s_ifs, .int s_whiles, .int s_variants, .int s_open, .ref m23, .int s_isMade, .int s_conditions, .ref m24, .ref m25, .ref m26, .ref m27, .int s_kept, .ref m28, .int (nI (mm + 2)), .ref m29, .int (nI (us + fs ix)), .ref m30, .ref m31, .int s_looked, .int s_rows, .int s_firstRow, .ref m32, .ref m33, .ref m34, .ref m35, .ref m36, .ref m37, .ref m38, .ref m39, .ref m40, .int s_isBroken, .ref m41, .int s_atoms, .ref m42])), (m30, .inl (ax 0, 180000, .inl x_17)), (m29, .inl (ax 0, 16, .inl (fun j => nI (x_16 j)))), (m31, .inl (ax 0, 180000, .inl x_18))]) hP hD [2, 3, 4, 1] [0, 5, 6, 7] hCs (by decide) (by decide) hk1 hFc hP1 hD1 rfl
  clear hP1 hD1
  clear hPc hDc hFc hCs hz hz1 hk1 ht hvm
  clear hP hD hS
  have hS := hS1
  obtain ⟨hP, hD⟩ := hjn
  clear hS1
  refine lv_aload_n hx hb d_Model_weaken_171 rfl (lv_at hl1 0 rfl) ?_
  refine lv_iconst (v := 2) hx hb d_Model_weaken_172 (by decide) ?_
  obtain ⟨hPc, hDc, hFc, hCs⟩ := xw_sub3 (wc := [(m0, .inr (11, [.int s_thrown, .int s_taped, .ref m1, .int s_size, .int s_outSize, .ref m2, .int s_kind, .int s_value, .int s_begin, .int s_end, .int s_failed, .ref m3, .ref m4, .ref m5, .int s_isProgram, .int s_half, .ref m6, .ref m7, .ref m8, .ref m9, .ref m10, .ref m11, .ref m12, .ref m13, .ref m14, .ref m15, .ref m16, .ref m17, .ref m18, .ref m19, .ref m20, .int s_signs, .ref m21, .int s_stacked, .ref m22, .int s_name, .int s_shift, .int s_statements, .int s_ifs, .int s_whiles, .int s_variants, .int s_open, .ref m23, .int s_isMade, .int s_conditions, .ref m24, .ref m25, .ref m26, .ref m27, .int s_kept, .ref m28, .int (nI (mm + 2)), .ref m29, .int (nI (us + fs ix)), .ref m30, .ref m31, .int s_looked, .int s_rows, .int s_firstRow, .ref m32, .ref m33, .ref m34, .ref m35, .ref m36, .ref m37, .ref m38, .ref m39, .ref m40, .int s_isBroken, .ref m41, .int s_atoms, .ref m42])), (m30, .inl (ax 0, 180000, .inl x_17)), (m29, .inl (ax 0, 16, .inl (fun j => nI (x_16 j))))]) hP hD hS hA [4, 5, 6] (by decide) rfl
  have hz := xz_of hN hS
  refine va_callv (va_runV (As := [.int 2]) (rest := []) ⟨hx, hb, hml, hown, hts⟩ (c_M_unite l D ax m0 m1 m2 m3 m4 m5 m6 m7 m8 m9 m10 m11 m12 m13 m14 m15 m16 m17 m18 m19 m20 m21 m22 m23 m24 m25 m26 m27 m28 m29 m30 m31 m32 m33 m34 m35 m36 m37 m38 m39 m40 m41 m42 s_thrown s_taped s_size s_outSize s_kind s_value s_begin s_end s_failed s_isProgram s_half s_signs s_stacked s_name s_shift s_statements s_ifs s_whiles s_variants s_open s_isMade s_conditions s_kept s_looked s_rows s_firstRow s_isBroken s_atoms mm (us + fs ix) 2 x_17 x_16 H_14.size (by omega) (by omega) (by omega) (by assumption)) (xcV (n := 1) hts wd_1451 wd_15 wd_1448 wd_1450 ps_88 rfl rfl (by decide +kernel) ⟨Nat.le_of_ble_eq_true rfl, Nat.le_of_ble_eq_true rfl⟩) (xpV (ci := 11) (q0 := 0) (As := [.int 2]) hPc hK hz hDc rfl rfl) rfl rfl hl1.1 rfl (lv_room (Nat.le_of_ble_eq_true rfl)) d_Model_weaken_173 ⟨Nat.le_of_ble_eq_true rfl, Nat.le_of_ble_eq_true rfl⟩) hS (fun q _ h => hFc q h) hFc (fun u_22 t H_23 locs ht hvm hw hB hz1 hk1 hS1 => ?_)
  try dsimp only at hw
  obtain ⟨x_25, hx_26, hP1, hD1⟩ := hB
  rw [ht] at hP1
  have hjn := xw_join3 (wl := [(m7, .inl (ax 0, 80, .inl (fun j => nI (op j)))), (m12, .inl (ax 0, 80, .inl (fun j => nI (fi j)))), (m13, .inl (ax 0, 80, .inl (fun j => nI (fs j)))), (m19, .inl (ax 0, 6000, .inl pl)), (m31, .inl (ax 0, 180000, .inl x_18)), (m0, .inr (11, [.int s_thrown, .int s_taped, .ref m1, .int s_size, .int s_outSize, .ref m2, .int s_kind, .int s_value, .int s_begin, .int s_end, .int s_failed, .ref m3, .ref m4, .ref m5, .int s_isProgram, .int s_half, .ref m6, .ref m7, .ref m8, .ref m9, .ref m10, .ref m11, .ref m12, .ref m13, .ref m14, .ref m15, .ref m16, .ref m17, .ref m18, .ref m19, .ref m20, .int s_signs, .ref m21, .int s_stacked, .ref m22, .int s_name, .int s_shift, .int s_statements, .int s_ifs, .int s_whiles, .int s_variants, .int s_open, .ref m23, .int s_isMade, .int s_conditions, .ref m24, .ref m25, .ref m26, .ref m27, .int s_kept, .ref m28, .int (nI (mm + 1)), .ref m29, .int (nI ((us + fs ix) + 1)), .ref m30, .ref m31, .int s_looked, .int s_rows, .int s_firstRow, .ref m32, .ref m33, .ref m34, .ref m35, .ref m36, .ref m37, .ref m38, .ref m39, .ref m40, .int s_isBroken, .ref m41, .int s_atoms, .ref m42])), (m30, .inl (ax 0, 180000, .inl x_25)), (m29, .inl (ax 0, 16, .inl (fun j => nI (x_16 j))))]) hP hD [4, 5, 6] [0, 1, 2, 3, 7] hCs (by decide) (by decide) hk1 hFc hP1 hD1 rfl
  clear hP1 hD1
  clear hPc hDc hFc hCs hz hz1 hk1 ht hvm
  clear hP hD hS
  have hS := hS1
  obtain ⟨hP, hD⟩ := hjn
  clear hS1
  refine lv_goto (tgt := 219) hx hb d_Model_weaken_176 (by decide) ?_
  obtain ⟨hP9, hD9⟩ := xw_sub2 (wc := (fun (u : Nat → Nat) (xtp : Nat → Nat) (xwk : Nat → Int32) (xas : Nat → Int32) => [(m0, .inr (11, [.int s_thrown, .int s_taped, .ref m1, .int s_size, .int s_outSize, .ref m2, .int s_kind, .int s_value, .int s_begin, .int s_end, .int s_failed, .ref m3, .ref m4, .ref m5, .int s_isProgram, .int s_half, .ref m6, .ref m7, .ref m8, .ref m9, .ref m10, .ref m11, .ref m12, .ref m13, .ref m14, .ref m15, .ref m16, .ref m17, .ref m18, .ref m19, .ref m20, .int s_signs, .ref m21, .int s_stacked, .ref m22, .int s_name, .int s_shift, .int s_statements, .int s_ifs, .int s_whiles, .int s_variants, .int s_open, .ref m23, .int s_isMade, .int s_conditions, .ref m24, .ref m25, .ref m26, .ref m27, .int s_kept, .ref m28, .int (nI (mm + 1)), .ref m29, .int (nI (u 0)), .ref m30, .ref m31, .int s_looked, .int s_rows, .int s_firstRow, .ref m32, .ref m33, .ref m34, .ref m35, .ref m36, .ref m37, .ref m38, .ref m39, .ref m40, .int s_isBroken, .ref m41, .int s_atoms, .ref m42])), (m30, .inl (ax 0, 180000, .inl xwk)), (m29, .inl (ax 0, 16, .inl (fun j => nI (xtp j)))), (m7, .inl (ax 0, 80, .inl (fun j => nI (op j)))), (m31, .inl (ax 0, 180000, .inl xas)), (m12, .inl (ax 0, 80, .inl (fun j => nI (fi j)))), (m13, .inl (ax 0, 80, .inl (fun j => nI (fs j)))), (m19, .inl (ax 0, 6000, .inl pl))]) (ixn [((us + fs ix) + 1)]) x_16 x_25 x_18) hP hD [5, 6, 7, 0, 4, 1, 2, 3] (by decide) rfl
  have hex0 : ∀ i, i ≤ mm → x_16 i = tp i := (fun i hi => by rw [hx_19 i (by omega), sup_ne (by omega)])
  have hex1 : stk x_25 x_16 (mm + 1) (((us + fs ix) + 1)) := (by assumption)
  have hsp0 : ((us + fs ix) + 1) = us + fs ix + 1 := (by omega)
  exact W.vret hx hb hr (fun t ht hW => ⟨⟨ixn [((us + fs ix) + 1)], rfl, hsp0, ⟨x_16, x_25, x_18, hex0, hex1, by rw [ht]; exact hP9, hD9⟩⟩, hS.F ht⟩) hS.2.2 d_Model_weaken_219
