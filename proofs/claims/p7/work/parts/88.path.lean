theorem ps_102 : Cond.selects "TripleDeskModel" ⟨"TripleDeskModel", "takeRow", "(III)V"⟩ ⟨"TripleDeskModel", "takeRow", "(III)V"⟩ ∈ lw_gd := ps_in (q := (⟨"TripleDeskModel", "takeRow", "(III)V"⟩, 72)) (i := 102) (by decide +kernel)
theorem ps_103 : Cond.selects "TripleDeskModel" ⟨"TripleDeskModel", "takeAtom", "(IZI)V"⟩ ⟨"TripleDeskModel", "takeAtom", "(IZI)V"⟩ ∈ lw_gd := ps_in (q := (⟨"TripleDeskModel", "takeAtom", "(IZI)V"⟩, 72)) (i := 103) (by decide +kernel)
theorem ps_104 : Cond.selects "TripleDeskModel" ⟨"TripleDeskModel", "take", "(III)V"⟩ ⟨"TripleDeskModel", "take", "(III)V"⟩ ∈ lw_gd := ps_in (q := (⟨"TripleDeskModel", "take", "(III)V"⟩, 72)) (i := 104) (by decide +kernel)
theorem ps_105 : Cond.selects "TripleDeskModel" ⟨"TripleDeskModel", "solve", "()Z"⟩ ⟨"TripleDeskModel", "solve", "()Z"⟩ ∈ lw_gd := ps_in (q := (⟨"TripleDeskModel", "solve", "()Z"⟩, 72)) (i := 105) (by decide +kernel)
theorem wd_1098 : ((Jvm.Cond.fieldLink "TripleDeskModel" (119 : Nat) "TripleDeskModel" "path" "[I")) ∈ lw_gd := lw_gd_in (i := 1098) (by decide +kernel) rfl
theorem wd_1099 : ((Jvm.Cond.fieldLink "TripleDeskModel" (122 : Nat) "TripleDeskModel" "pathRow" "[I")) ∈ lw_gd := lw_gd_in (i := 1099) (by decide +kernel) rfl
theorem wd_1100 : ((Jvm.Cond.fieldLink "TripleDeskModel" (125 : Nat) "TripleDeskModel" "pathTrue" "[Z")) ∈ lw_gd := lw_gd_in (i := 1100) (by decide +kernel) rfl
theorem wd_1518 : ((Jvm.Cond.methodLink "TripleDeskModel" (415 : Nat) ({ cls := "TripleDeskModel", name := "takeRow", desc := "(III)V" } : Jvm.MethodName))) ∈ lw_gd := lw_gd_in (i := 1518) (by decide +kernel) rfl
theorem wd_1520 : ((Jvm.Cond.instanceMethod ({ cls := "TripleDeskModel", name := "takeRow", desc := "(III)V" } : Jvm.MethodName))) ∈ lw_gd := lw_gd_in (i := 1520) (by decide +kernel) rfl
theorem wd_1521 : ((Jvm.Cond.code ({ cls := "TripleDeskModel", name := "takeRow", desc := "(III)V" } : Jvm.MethodName) prog_13_method_66_code (13 : Nat) (Option.none : Option Jvm.ClassFile.FieldType))) ∈ lw_gd := lw_gd_in (i := 1521) (by decide +kernel) rfl
theorem wd_1522 : ((Jvm.Cond.methodLink "TripleDeskModel" (411 : Nat) ({ cls := "TripleDeskModel", name := "takeAtom", desc := "(IZI)V" } : Jvm.MethodName))) ∈ lw_gd := lw_gd_in (i := 1522) (by decide +kernel) rfl
theorem wd_1524 : ((Jvm.Cond.instanceMethod ({ cls := "TripleDeskModel", name := "takeAtom", desc := "(IZI)V" } : Jvm.MethodName))) ∈ lw_gd := lw_gd_in (i := 1524) (by decide +kernel) rfl
theorem wd_1525 : ((Jvm.Cond.code ({ cls := "TripleDeskModel", name := "takeAtom", desc := "(IZI)V" } : Jvm.MethodName) prog_13_method_65_code (8 : Nat) (Option.none : Option Jvm.ClassFile.FieldType))) ∈ lw_gd := lw_gd_in (i := 1525) (by decide +kernel) rfl
theorem wd_1526 : ((Jvm.Cond.methodLink "TripleDeskModel" (405 : Nat) ({ cls := "TripleDeskModel", name := "negated", desc := "(I)I" } : Jvm.MethodName))) ∈ lw_gd := lw_gd_in (i := 1526) (by decide +kernel) rfl
theorem wd_1527 : ((Jvm.Cond.static ({ cls := "TripleDeskModel", name := "negated", desc := "(I)I" } : Jvm.MethodName))) ∈ lw_gd := lw_gd_in (i := 1527) (by decide +kernel) rfl
theorem wd_1528 : ((Jvm.Cond.code ({ cls := "TripleDeskModel", name := "negated", desc := "(I)I" } : Jvm.MethodName) prog_13_method_64_code (1 : Nat) (Option.some Jvm.ClassFile.FieldType.int))) ∈ lw_gd := lw_gd_in (i := 1528) (by decide +kernel) rfl
theorem wd_1529 : ((Jvm.Cond.methodLink "TripleDeskModel" (408 : Nat) ({ cls := "TripleDeskModel", name := "take", desc := "(III)V" } : Jvm.MethodName))) ∈ lw_gd := lw_gd_in (i := 1529) (by decide +kernel) rfl
theorem wd_1531 : ((Jvm.Cond.instanceMethod ({ cls := "TripleDeskModel", name := "take", desc := "(III)V" } : Jvm.MethodName))) ∈ lw_gd := lw_gd_in (i := 1531) (by decide +kernel) rfl
theorem wd_1532 : ((Jvm.Cond.code ({ cls := "TripleDeskModel", name := "take", desc := "(III)V" } : Jvm.MethodName) prog_13_method_63_code (5 : Nat) (Option.none : Option Jvm.ClassFile.FieldType))) ∈ lw_gd := lw_gd_in (i := 1532) (by decide +kernel) rfl
theorem wd_1533 : ((Jvm.Cond.methodLink "TripleDeskModel" (418 : Nat) ({ cls := "TripleDeskModel", name := "solve", desc := "()Z" } : Jvm.MethodName))) ∈ lw_gd := lw_gd_in (i := 1533) (by decide +kernel) rfl
theorem wd_1535 : ((Jvm.Cond.instanceMethod ({ cls := "TripleDeskModel", name := "solve", desc := "()Z" } : Jvm.MethodName))) ∈ lw_gd := lw_gd_in (i := 1535) (by decide +kernel) rfl
theorem wd_1536 : ((Jvm.Cond.code ({ cls := "TripleDeskModel", name := "solve", desc := "()Z" } : Jvm.MethodName) prog_13_method_67_code (6 : Nat) (Option.some Jvm.ClassFile.FieldType.boolean))) ∈ lw_gd := lw_gd_in (i := 1536) (by decide +kernel) rfl
abbrev b_Model_takeAtom : ByteArray := prog_13_method_65_code
def y_Model_takeAtom : MethodName := ⟨R_Model, "takeAtom", "(IZI)V"⟩
theorem d_Model_takeAtom_0 : decode b_Model_takeAtom 0 = .ok (.iload_n 2, 1) := by decide +kernel
theorem d_Model_takeAtom_1 : decode b_Model_takeAtom 1 = .ok (.ifCond .eq 14, 3) := by decide +kernel
theorem d_Model_takeAtom_4 : decode b_Model_takeAtom 4 = .ok (.aload_n 0, 1) := by decide +kernel
theorem d_Model_takeAtom_5 : decode b_Model_takeAtom 5 = .ok (.getfield 94, 3) := by decide +kernel
theorem d_Model_takeAtom_8 : decode b_Model_takeAtom 8 = .ok (.iload_n 1, 1) := by decide +kernel
theorem d_Model_takeAtom_9 : decode b_Model_takeAtom 9 = .ok (.iconst 3, 1) := by decide +kernel
theorem d_Model_takeAtom_10 : decode b_Model_takeAtom 10 = .ok (.iadd, 1) := by decide +kernel
theorem d_Model_takeAtom_11 : decode b_Model_takeAtom 11 = .ok (.iaload, 1) := by decide +kernel
theorem d_Model_takeAtom_12 : decode b_Model_takeAtom 12 = .ok (.goto 14, 3) := by decide +kernel
theorem d_Model_takeAtom_15 : decode b_Model_takeAtom 15 = .ok (.aload_n 0, 1) := by decide +kernel
theorem d_Model_takeAtom_16 : decode b_Model_takeAtom 16 = .ok (.getfield 94, 3) := by decide +kernel
theorem d_Model_takeAtom_19 : decode b_Model_takeAtom 19 = .ok (.iload_n 1, 1) := by decide +kernel
theorem d_Model_takeAtom_20 : decode b_Model_takeAtom 20 = .ok (.iconst 3, 1) := by decide +kernel
theorem d_Model_takeAtom_21 : decode b_Model_takeAtom 21 = .ok (.iadd, 1) := by decide +kernel
theorem d_Model_takeAtom_22 : decode b_Model_takeAtom 22 = .ok (.iaload, 1) := by decide +kernel
theorem d_Model_takeAtom_23 : decode b_Model_takeAtom 23 = .ok (.invokestatic 405, 3) := by decide +kernel
theorem d_Model_takeAtom_26 : decode b_Model_takeAtom 26 = .ok (.istore 4, 2) := by decide +kernel
theorem d_Model_takeAtom_28 : decode b_Model_takeAtom 28 = .ok (.iload 4, 2) := by decide +kernel
theorem d_Model_takeAtom_30 : decode b_Model_takeAtom 30 = .ok (.iconst 3, 1) := by decide +kernel
theorem d_Model_takeAtom_31 : decode b_Model_takeAtom 31 = .ok (.if_icmp .ne 15, 3) := by decide +kernel
theorem d_Model_takeAtom_34 : decode b_Model_takeAtom 34 = .ok (.iload_n 3, 1) := by decide +kernel
theorem d_Model_takeAtom_35 : decode b_Model_takeAtom 35 = .ok (.ifCond .ne 7, 3) := by decide +kernel
theorem d_Model_takeAtom_38 : decode b_Model_takeAtom 38 = .ok (.iconst 0, 1) := by decide +kernel
theorem d_Model_takeAtom_39 : decode b_Model_takeAtom 39 = .ok (.goto 9, 3) := by decide +kernel
theorem d_Model_takeAtom_42 : decode b_Model_takeAtom 42 = .ok (.iconst 5, 1) := by decide +kernel
theorem d_Model_takeAtom_43 : decode b_Model_takeAtom 43 = .ok (.goto 5, 3) := by decide +kernel
theorem d_Model_takeAtom_46 : decode b_Model_takeAtom 46 = .ok (.iload 4, 2) := by decide +kernel
theorem d_Model_takeAtom_48 : decode b_Model_takeAtom 48 = .ok (.istore 4, 2) := by decide +kernel
theorem d_Model_takeAtom_50 : decode b_Model_takeAtom 50 = .ok (.aload_n 0, 1) := by decide +kernel
theorem d_Model_takeAtom_51 : decode b_Model_takeAtom 51 = .ok (.getfield 94, 3) := by decide +kernel
theorem d_Model_takeAtom_54 : decode b_Model_takeAtom 54 = .ok (.iload_n 1, 1) := by decide +kernel
theorem d_Model_takeAtom_55 : decode b_Model_takeAtom 55 = .ok (.iconst 1, 1) := by decide +kernel
theorem d_Model_takeAtom_56 : decode b_Model_takeAtom 56 = .ok (.iadd, 1) := by decide +kernel
theorem d_Model_takeAtom_57 : decode b_Model_takeAtom 57 = .ok (.iaload, 1) := by decide +kernel
theorem d_Model_takeAtom_58 : decode b_Model_takeAtom 58 = .ok (.iconst (-1), 1) := by decide +kernel
theorem d_Model_takeAtom_59 : decode b_Model_takeAtom 59 = .ok (.if_icmp .ne 8, 3) := by decide +kernel
theorem d_Model_takeAtom_62 : decode b_Model_takeAtom 62 = .ok (.bipush 10, 2) := by decide +kernel
theorem d_Model_takeAtom_64 : decode b_Model_takeAtom 64 = .ok (.goto 11, 3) := by decide +kernel
theorem d_Model_takeAtom_67 : decode b_Model_takeAtom 67 = .ok (.aload_n 0, 1) := by decide +kernel
theorem d_Model_takeAtom_68 : decode b_Model_takeAtom 68 = .ok (.getfield 94, 3) := by decide +kernel
theorem d_Model_takeAtom_71 : decode b_Model_takeAtom 71 = .ok (.iload_n 1, 1) := by decide +kernel
theorem d_Model_takeAtom_72 : decode b_Model_takeAtom 72 = .ok (.iconst 1, 1) := by decide +kernel
theorem d_Model_takeAtom_73 : decode b_Model_takeAtom 73 = .ok (.iadd, 1) := by decide +kernel
theorem d_Model_takeAtom_74 : decode b_Model_takeAtom 74 = .ok (.iaload, 1) := by decide +kernel
theorem d_Model_takeAtom_75 : decode b_Model_takeAtom 75 = .ok (.istore 5, 2) := by decide +kernel
theorem d_Model_takeAtom_77 : decode b_Model_takeAtom 77 = .ok (.aload_n 0, 1) := by decide +kernel
theorem d_Model_takeAtom_78 : decode b_Model_takeAtom 78 = .ok (.getfield 94, 3) := by decide +kernel
theorem d_Model_takeAtom_81 : decode b_Model_takeAtom 81 = .ok (.iload_n 1, 1) := by decide +kernel
theorem d_Model_takeAtom_82 : decode b_Model_takeAtom 82 = .ok (.iconst 4, 1) := by decide +kernel
theorem d_Model_takeAtom_83 : decode b_Model_takeAtom 83 = .ok (.iadd, 1) := by decide +kernel
theorem d_Model_takeAtom_84 : decode b_Model_takeAtom 84 = .ok (.iaload, 1) := by decide +kernel
theorem d_Model_takeAtom_85 : decode b_Model_takeAtom 85 = .ok (.iconst (-1), 1) := by decide +kernel
theorem d_Model_takeAtom_86 : decode b_Model_takeAtom 86 = .ok (.if_icmp .ne 8, 3) := by decide +kernel
theorem d_Model_takeAtom_89 : decode b_Model_takeAtom 89 = .ok (.bipush 10, 2) := by decide +kernel
theorem d_Model_takeAtom_91 : decode b_Model_takeAtom 91 = .ok (.goto 11, 3) := by decide +kernel
theorem d_Model_takeAtom_94 : decode b_Model_takeAtom 94 = .ok (.aload_n 0, 1) := by decide +kernel
theorem d_Model_takeAtom_95 : decode b_Model_takeAtom 95 = .ok (.getfield 94, 3) := by decide +kernel
theorem d_Model_takeAtom_98 : decode b_Model_takeAtom 98 = .ok (.iload_n 1, 1) := by decide +kernel
theorem d_Model_takeAtom_99 : decode b_Model_takeAtom 99 = .ok (.iconst 4, 1) := by decide +kernel
theorem d_Model_takeAtom_100 : decode b_Model_takeAtom 100 = .ok (.iadd, 1) := by decide +kernel
theorem d_Model_takeAtom_101 : decode b_Model_takeAtom 101 = .ok (.iaload, 1) := by decide +kernel
theorem d_Model_takeAtom_102 : decode b_Model_takeAtom 102 = .ok (.istore 6, 2) := by decide +kernel
theorem d_Model_takeAtom_104 : decode b_Model_takeAtom 104 = .ok (.aload_n 0, 1) := by decide +kernel
theorem d_Model_takeAtom_105 : decode b_Model_takeAtom 105 = .ok (.getfield 94, 3) := by decide +kernel
theorem d_Model_takeAtom_108 : decode b_Model_takeAtom 108 = .ok (.iload_n 1, 1) := by decide +kernel
theorem d_Model_takeAtom_109 : decode b_Model_takeAtom 109 = .ok (.iconst 5, 1) := by decide +kernel
theorem d_Model_takeAtom_110 : decode b_Model_takeAtom 110 = .ok (.iadd, 1) := by decide +kernel
theorem d_Model_takeAtom_111 : decode b_Model_takeAtom 111 = .ok (.iaload, 1) := by decide +kernel
theorem d_Model_takeAtom_112 : decode b_Model_takeAtom 112 = .ok (.aload_n 0, 1) := by decide +kernel
theorem d_Model_takeAtom_113 : decode b_Model_takeAtom 113 = .ok (.getfield 94, 3) := by decide +kernel
theorem d_Model_takeAtom_116 : decode b_Model_takeAtom 116 = .ok (.iload_n 1, 1) := by decide +kernel
theorem d_Model_takeAtom_117 : decode b_Model_takeAtom 117 = .ok (.iconst 2, 1) := by decide +kernel
theorem d_Model_takeAtom_118 : decode b_Model_takeAtom 118 = .ok (.iadd, 1) := by decide +kernel
theorem d_Model_takeAtom_119 : decode b_Model_takeAtom 119 = .ok (.iaload, 1) := by decide +kernel
theorem d_Model_takeAtom_120 : decode b_Model_takeAtom 120 = .ok (.isub, 1) := by decide +kernel
theorem d_Model_takeAtom_121 : decode b_Model_takeAtom 121 = .ok (.istore 7, 2) := by decide +kernel
theorem d_Model_takeAtom_123 : decode b_Model_takeAtom 123 = .ok (.iload 4, 2) := by decide +kernel
theorem d_Model_takeAtom_125 : decode b_Model_takeAtom 125 = .ok (.ifCond .eq 15, 3) := by decide +kernel
theorem d_Model_takeAtom_128 : decode b_Model_takeAtom 128 = .ok (.iload 4, 2) := by decide +kernel
theorem d_Model_takeAtom_130 : decode b_Model_takeAtom 130 = .ok (.iconst 1, 1) := by decide +kernel
theorem d_Model_takeAtom_131 : decode b_Model_takeAtom 131 = .ok (.if_icmp .eq 9, 3) := by decide +kernel
theorem d_Model_takeAtom_134 : decode b_Model_takeAtom 134 = .ok (.iload 4, 2) := by decide +kernel
theorem d_Model_takeAtom_136 : decode b_Model_takeAtom 136 = .ok (.iconst 2, 1) := by decide +kernel
theorem d_Model_takeAtom_137 : decode b_Model_takeAtom 137 = .ok (.if_icmp .ne 25, 3) := by decide +kernel
theorem d_Model_takeAtom_140 : decode b_Model_takeAtom 140 = .ok (.aload_n 0, 1) := by decide +kernel
theorem d_Model_takeAtom_141 : decode b_Model_takeAtom 141 = .ok (.iload 5, 2) := by decide +kernel
theorem d_Model_takeAtom_143 : decode b_Model_takeAtom 143 = .ok (.iload 6, 2) := by decide +kernel
theorem d_Model_takeAtom_145 : decode b_Model_takeAtom 145 = .ok (.iload 4, 2) := by decide +kernel
theorem d_Model_takeAtom_147 : decode b_Model_takeAtom 147 = .ok (.ifCond .ne 10, 3) := by decide +kernel
theorem d_Model_takeAtom_150 : decode b_Model_takeAtom 150 = .ok (.iload 7, 2) := by decide +kernel
theorem d_Model_takeAtom_152 : decode b_Model_takeAtom 152 = .ok (.iconst 1, 1) := by decide +kernel
theorem d_Model_takeAtom_153 : decode b_Model_takeAtom 153 = .ok (.isub, 1) := by decide +kernel
theorem d_Model_takeAtom_154 : decode b_Model_takeAtom 154 = .ok (.goto 5, 3) := by decide +kernel
theorem d_Model_takeAtom_157 : decode b_Model_takeAtom 157 = .ok (.iload 7, 2) := by decide +kernel
theorem d_Model_takeAtom_159 : decode b_Model_takeAtom 159 = .ok (.invokevirtual 408, 3) := by decide +kernel
theorem d_Model_takeAtom_162 : decode b_Model_takeAtom 162 = .ok (.iload 4, 2) := by decide +kernel
theorem d_Model_takeAtom_164 : decode b_Model_takeAtom 164 = .ok (.iconst 5, 1) := by decide +kernel
theorem d_Model_takeAtom_165 : decode b_Model_takeAtom 165 = .ok (.if_icmp .eq 15, 3) := by decide +kernel
theorem d_Model_takeAtom_168 : decode b_Model_takeAtom 168 = .ok (.iload 4, 2) := by decide +kernel
theorem d_Model_takeAtom_170 : decode b_Model_takeAtom 170 = .ok (.iconst 4, 1) := by decide +kernel
theorem d_Model_takeAtom_171 : decode b_Model_takeAtom 171 = .ok (.if_icmp .eq 9, 3) := by decide +kernel
theorem d_Model_takeAtom_174 : decode b_Model_takeAtom 174 = .ok (.iload 4, 2) := by decide +kernel
theorem d_Model_takeAtom_176 : decode b_Model_takeAtom 176 = .ok (.iconst 2, 1) := by decide +kernel
theorem d_Model_takeAtom_177 : decode b_Model_takeAtom 177 = .ok (.if_icmp .ne 28, 3) := by decide +kernel
theorem d_Model_takeAtom_180 : decode b_Model_takeAtom 180 = .ok (.aload_n 0, 1) := by decide +kernel
theorem d_Model_takeAtom_181 : decode b_Model_takeAtom 181 = .ok (.iload 6, 2) := by decide +kernel
theorem d_Model_takeAtom_183 : decode b_Model_takeAtom 183 = .ok (.iload 5, 2) := by decide +kernel
theorem d_Model_takeAtom_185 : decode b_Model_takeAtom 185 = .ok (.iload 4, 2) := by decide +kernel
theorem d_Model_takeAtom_187 : decode b_Model_takeAtom 187 = .ok (.iconst 5, 1) := by decide +kernel
theorem d_Model_takeAtom_188 : decode b_Model_takeAtom 188 = .ok (.if_icmp .ne 11, 3) := by decide +kernel
theorem d_Model_takeAtom_191 : decode b_Model_takeAtom 191 = .ok (.iload 7, 2) := by decide +kernel
theorem d_Model_takeAtom_193 : decode b_Model_takeAtom 193 = .ok (.ineg, 1) := by decide +kernel
theorem d_Model_takeAtom_194 : decode b_Model_takeAtom 194 = .ok (.iconst 1, 1) := by decide +kernel
theorem d_Model_takeAtom_195 : decode b_Model_takeAtom 195 = .ok (.isub, 1) := by decide +kernel
theorem d_Model_takeAtom_196 : decode b_Model_takeAtom 196 = .ok (.goto 6, 3) := by decide +kernel
theorem d_Model_takeAtom_199 : decode b_Model_takeAtom 199 = .ok (.iload 7, 2) := by decide +kernel
theorem d_Model_takeAtom_201 : decode b_Model_takeAtom 201 = .ok (.ineg, 1) := by decide +kernel
theorem d_Model_takeAtom_202 : decode b_Model_takeAtom 202 = .ok (.invokevirtual 408, 3) := by decide +kernel
theorem d_Model_takeAtom_205 : decode b_Model_takeAtom 205 = .ok (.return_, 1) := by decide +kernel
set_option maxHeartbeats 40000000 in
set_option maxRecDepth 100000 in
theorem c_M_takeAtom (l : Launch) (D : va_G) (ax : Nat → ClassId) (m0 m1 m2 m3 m4 m5 m6 m7 m8 m9 m10 m11 m12 m13 m14 m15 m16 m17 m18 m19 m20 m21 m22 m23 m24 m25 m26 m27 m28 m29 m30 m31 m32 m33 m34 m35 m36 m37 m38 m39 m40 m41 m42 : Nat) (s_thrown s_taped s_size s_outSize s_kind s_value s_begin s_end s_failed s_isProgram s_half s_signs s_stacked s_name s_shift s_statements s_ifs s_whiles s_variants s_open s_isMade s_conditions s_kept s_tops s_used s_looked s_rows s_firstRow s_atoms : Int32) (br p1 tt9 r9 : Nat) (kp bd ib : Nat → Int32) (sz : Nat) (hp1 : p1 + 5 < 180000) (hbr : br ≤ 1) (hn1 : nmo 10 (kp (p1 + 1))) (hn4 : nmo 10 (kp (p1 + 4))) (ht9 : tt9 ≤ 1) (hr9 : r9 ≤ 5001) (hb8 : atb8 kp p1) (hW8 : bdW8 bd ib) : Met l y_Model_takeAtom (xws (.code y_Model_takeAtom b_Model_takeAtom 8 none)) ({ frames := 20, cells := 0, slots := 0, locals := 800 }) (va_Pc [.ref m0, .int (nI p1), .int (nI tt9), .int (nI r9)] (xo D ax [(m0, .inr (11, [.int s_thrown, .int s_taped, .ref m1, .int s_size, .int s_outSize, .ref m2, .int s_kind, .int s_value, .int s_begin, .int s_end, .int s_failed, .ref m3, .ref m4, .ref m5, .int s_isProgram, .int s_half, .ref m6, .ref m7, .ref m8, .ref m9, .ref m10, .ref m11, .ref m12, .ref m13, .ref m14, .ref m15, .ref m16, .ref m17, .ref m18, .ref m19, .ref m20, .int s_signs, .ref m21, .int s_stacked, .ref m22, .int s_name, .int s_shift, .int s_statements, .int s_ifs, .int s_whiles, .int s_variants, .int s_open, .ref m23, .int s_isMade, .int s_conditions, .ref m24, .ref m25, .ref m26, .ref m27, .int s_kept, .ref m28, .int s_tops, .ref m29, .int s_used, .ref m30, .ref m31, .int s_looked, .int s_rows, .int s_firstRow, .ref m32, .ref m33, .ref m34, .ref m35, .ref m36, .ref m37, .ref m38, .ref m39, .ref m40, .int (nI br), .ref m41, .int s_atoms, .ref m42])), (m28, .inl (ax 0, 180000, .inl kp)), (m38, .inl (ax 0, 121, .inl bd)), (m39, .inl (ax 3, 121, .inl ib))] sz)) ((va_Qv (fun (u : Nat → Nat) => (u 0 ≤ 1)) (fun (u : Nat → Nat) (t9 : State) => ∃ xbd : Nat → Int32, ∃ xib : Nat → Int32, (tA8 br bd ib (fun v => atq8 (adc8 kp p1) tt9 r9 v) (u 0) xbd xib) ∧ va_P D classes [(m0, .inr (11, [.int s_thrown, .int s_taped, .ref m1, .int s_size, .int s_outSize, .ref m2, .int s_kind, .int s_value, .int s_begin, .int s_end, .int s_failed, .ref m3, .ref m4, .ref m5, .int s_isProgram, .int s_half, .ref m6, .ref m7, .ref m8, .ref m9, .ref m10, .ref m11, .ref m12, .ref m13, .ref m14, .ref m15, .ref m16, .ref m17, .ref m18, .ref m19, .ref m20, .int s_signs, .ref m21, .int s_stacked, .ref m22, .int s_name, .int s_shift, .int s_statements, .int s_ifs, .int s_whiles, .int s_variants, .int s_open, .ref m23, .int s_isMade, .int s_conditions, .ref m24, .ref m25, .ref m26, .ref m27, .int s_kept, .ref m28, .int s_tops, .ref m29, .int s_used, .ref m30, .ref m31, .int s_looked, .int s_rows, .int s_firstRow, .ref m32, .ref m33, .ref m34, .ref m35, .ref m36, .ref m37, .ref m38, .ref m39, .ref m40, .int (nI (u 0)), .ref m41, .int s_atoms, .ref m42])), (m28, .inl (ax 0, 180000, .inl kp)), (m38, .inl (ax 0, 121, .inl xbd)), (m39, .inl (ax 3, 121, .inl xib))] t9.heap ∧ va_D (va_A [(m0, .inr (11, [.int s_thrown, .int s_taped, .ref m1, .int s_size, .int s_outSize, .ref m2, .int s_kind, .int s_value, .int s_begin, .int s_end, .int s_failed, .ref m3, .ref m4, .ref m5, .int s_isProgram, .int s_half, .ref m6, .ref m7, .ref m8, .ref m9, .ref m10, .ref m11, .ref m12, .ref m13, .ref m14, .ref m15, .ref m16, .ref m17, .ref m18, .ref m19, .ref m20, .int s_signs, .ref m21, .int s_stacked, .ref m22, .int s_name, .int s_shift, .int s_statements, .int s_ifs, .int s_whiles, .int s_variants, .int s_open, .ref m23, .int s_isMade, .int s_conditions, .ref m24, .ref m25, .ref m26, .ref m27, .int s_kept, .ref m28, .int s_tops, .ref m29, .int s_used, .ref m30, .ref m31, .int s_looked, .int s_rows, .int s_firstRow, .ref m32, .ref m33, .ref m34, .ref m35, .ref m36, .ref m37, .ref m38, .ref m39, .ref m40, .int (nI br), .ref m41, .int s_atoms, .ref m42])), (m28, .inl (ax 0, 180000, .inl kp)), (m38, .inl (ax 0, 121, .inl bd)), (m39, .inl (ax 3, 121, .inl ib))] sz) [(m0, .inr (11, [.int s_thrown, .int s_taped, .ref m1, .int s_size, .int s_outSize, .ref m2, .int s_kind, .int s_value, .int s_begin, .int s_end, .int s_failed, .ref m3, .ref m4, .ref m5, .int s_isProgram, .int s_half, .ref m6, .ref m7, .ref m8, .ref m9, .ref m10, .ref m11, .ref m12, .ref m13, .ref m14, .ref m15, .ref m16, .ref m17, .ref m18, .ref m19, .ref m20, .int s_signs, .ref m21, .int s_stacked, .ref m22, .int s_name, .int s_shift, .int s_statements, .int s_ifs, .int s_whiles, .int s_variants, .int s_open, .ref m23, .int s_isMade, .int s_conditions, .ref m24, .ref m25, .ref m26, .ref m27, .int s_kept, .ref m28, .int s_tops, .ref m29, .int s_used, .ref m30, .ref m31, .int s_looked, .int s_rows, .int s_firstRow, .ref m32, .ref m33, .ref m34, .ref m35, .ref m36, .ref m37, .ref m38, .ref m39, .ref m40, .int (nI (u 0)), .ref m41, .int s_atoms, .ref m42])), (m28, .inl (ax 0, 180000, .inl kp)), (m38, .inl (ax 0, 121, .inl xbd)), (m39, .inl (ax 3, 121, .inl xib))]) (va_A [(m0, .inr (11, [.int s_thrown, .int s_taped, .ref m1, .int s_size, .int s_outSize, .ref m2, .int s_kind, .int s_value, .int s_begin, .int s_end, .int s_failed, .ref m3, .ref m4, .ref m5, .int s_isProgram, .int s_half, .ref m6, .ref m7, .ref m8, .ref m9, .ref m10, .ref m11, .ref m12, .ref m13, .ref m14, .ref m15, .ref m16, .ref m17, .ref m18, .ref m19, .ref m20, .int s_signs, .ref m21, .int s_stacked, .ref m22, .int s_name, .int s_shift, .int s_statements, .int s_ifs, .int s_whiles, .int s_variants, .int s_open, .ref m23, .int s_isMade, .int s_conditions, .ref m24, .ref m25, .ref m26, .ref m27, .int s_kept, .ref m28, .int s_tops, .ref m29, .int s_used, .ref m30, .ref m31, .int s_looked, .int s_rows, .int s_firstRow, .ref m32, .ref m33, .ref m34, .ref m35, .ref m36, .ref m37, .ref m38, .ref m39, .ref m40, .int (nI br), .ref m41, .int s_atoms, .ref m42])), (m28, .inl (ax 0, 180000, .inl kp)), (m38, .inl (ax 0, 121, .inl bd)), (m39, .inl (ax 3, 121, .inl ib))] sz))) 0 0 (va_A [(m0, .inr (11, [.int s_thrown, .int s_taped, .ref m1, .int s_size, .int s_outSize, .ref m2, .int s_kind, .int s_value, .int s_begin, .int s_end, .int s_failed, .ref m3, .ref m4, .ref m5, .int s_isProgram, .int s_half, .ref m6, .ref m7, .ref m8, .ref m9, .ref m10, .ref m11, .ref m12, .ref m13, .ref m14, .ref m15, .ref m16, .ref m17, .ref m18, .ref m19, .ref m20, .int s_signs, .ref m21, .int s_stacked, .ref m22, .int s_name, .int s_shift, .int s_statements, .int s_ifs, .int s_whiles, .int s_variants, .int s_open, .ref m23, .int s_isMade, .int s_conditions, .ref m24, .ref m25, .ref m26, .ref m27, .int s_kept, .ref m28, .int s_tops, .ref m29, .int s_used, .ref m30, .ref m31, .int s_looked, .int s_rows, .int s_firstRow, .ref m32, .ref m33, .ref m34, .ref m35, .ref m36, .ref m37, .ref m38, .ref m39, .ref m40, .int (nI br), .ref m41, .int s_atoms, .ref m42])), (m28, .inl (ax 0, 180000, .inl kp)), (m38, .inl (ax 0, 121, .inl bd)), (m39, .inl (ax 3, 121, .inl ib))] sz) := by
  refine Met.ofW (cc := b_Model_takeAtom) (maxL := 8) (ret := none) (by decide) rfl ?_
  intro p e s m args below meth c s₁ B hml hv
  obtain ⟨rfl, hsz, hP, hK, hD0⟩ := hv
  have hx := B.exec
  have hb := B.bytes
  have hr := B.returns
  have hts := xw_hts B.pre
  have hown : s.vm.findClass R_Model = some m.cls := findClass_of_methodNamed B.named
  have hlocks := B.notSynchronized
  subst hsz
  have hD := hD0.self (sz := s.heap.size)
  have hN := xz_entry hP
  generalize hAe : va_A [(m0, .inr (11, [.int s_thrown, .int s_taped, .ref m1, .int s_size, .int s_outSize, .ref m2, .int s_kind, .int s_value, .int s_begin, .int s_end, .int s_failed, .ref m3, .ref m4, .ref m5, .int s_isProgram, .int s_half, .ref m6, .ref m7, .ref m8, .ref m9, .ref m10, .ref m11, .ref m12, .ref m13, .ref m14, .ref m15, .ref m16, .ref m17, .ref m18, .ref m19, .ref m20, .int s_signs, .ref m21, .int s_stacked, .ref m22, .int s_name, .int s_shift, .int s_statements, .int s_ifs, .int s_whiles, .int s_variants, .int s_open, .ref m23, .int s_isMade, .int s_conditions, .ref m24, .ref m25, .ref m26, .ref m27, .int s_kept, .ref m28, .int s_tops, .ref m29, .int s_used, .ref m30, .ref m31, .int s_looked, .int s_rows, .int s_firstRow, .ref m32, .ref m33, .ref m34, .ref m35, .ref m36, .ref m37, .ref m38, .ref m39, .ref m40, .int (nI br), .ref m41, .int s_atoms, .ref m42])), (m28, .inl (ax 0, 180000, .inl kp)), (m38, .inl (ax 0, 121, .inl bd)), (m39, .inl (ax 3, 121, .inl ib))] s.heap.size = A at hD hN ⊢
  have hA : ∀ q : Nat, s.heap.size ≤ q → A q := fun q h => by rw [← hAe]; exact Or.inr h
  have hS : va_S A s.heap s.heap [] := va_S.rf
  have hl0 := lv_entry ([.ref m0, .int (nI p1), .int (nI tt9), .int (nI r9)]) (n := 8) (Nat.le_of_ble_eq_true rfl)
  rw [lg_entry_eq]
  generalize (lg_sl ([.ref m0, .int (nI p1), .int (nI tt9), .int (nI r9)]) ++ List.replicate (8 - (lg_sl ([.ref m0, .int (nI p1), .int (nI tt9), .int (nI r9)])).length) Slot.unset).toArray = ls at hl0 ⊢
  have hl1 : lv_has ls 8 [(0, .ref m0), (1, .int (nI p1)), (2, .int (nI tt9)), (3, .int (nI r9))] := hl0
  refine xw_gen (fun Z9 hQe => ?_)
  have jn_1 : ∀ (y4 : Int32), cw8 (kp (p1 + 3)) tt9 y4 → ∀ (H : Heap) (locs : List Loc) (ls : Array Slot), va_P D classes [(m0, .inr (11, [.int s_thrown, .int s_taped, .ref m1, .int s_size, .int s_outSize, .ref m2, .int s_kind, .int s_value, .int s_begin, .int s_end, .int s_failed, .ref m3, .ref m4, .ref m5, .int s_isProgram, .int s_half, .ref m6, .ref m7, .ref m8, .ref m9, .ref m10, .ref m11, .ref m12, .ref m13, .ref m14, .ref m15, .ref m16, .ref m17, .ref m18, .ref m19, .ref m20, .int s_signs, .ref m21, .int s_stacked, .ref m22, .int s_name, .int s_shift, .int s_statements, .int s_ifs, .int s_whiles, .int s_variants, .int s_open, .ref m23, .int s_isMade, .int s_conditions, .ref m24, .ref m25, .ref m26, .ref m27, .int s_kept, .ref m28, .int s_tops, .ref m29, .int s_used, .ref m30, .ref m31, .int s_looked, .int s_rows, .int s_firstRow, .ref m32, .ref m33, .ref m34, .ref m35, .ref m36, .ref m37, .ref m38, .ref m39, .ref m40, .int (nI br), .ref m41, .int s_atoms, .ref m42])), (m28, .inl (ax 0, 180000, .inl kp)), (m38, .inl (ax 0, 121, .inl bd)), (m39, .inl (ax 3, 121, .inl ib))] H → va_D A [(m0, .inr (11, [.int s_thrown, .int s_taped, .ref m1, .int s_size, .int s_outSize, .ref m2, .int s_kind, .int s_value, .int s_begin, .int s_end, .int s_failed, .ref m3, .ref m4, .ref m5, .int s_isProgram, .int s_half, .ref m6, .ref m7, .ref m8, .ref m9, .ref m10, .ref m11, .ref m12, .ref m13, .ref m14, .ref m15, .ref m16, .ref m17, .ref m18, .ref m19, .ref m20, .int s_signs, .ref m21, .int s_stacked, .ref m22, .int s_name, .int s_shift, .int s_statements, .int s_ifs, .int s_whiles, .int s_variants, .int s_open, .ref m23, .int s_isMade, .int s_conditions, .ref m24, .ref m25, .ref m26, .ref m27, .int s_kept, .ref m28, .int s_tops, .ref m29, .int s_used, .ref m30, .ref m31, .int s_looked, .int s_rows, .int s_firstRow, .ref m32, .ref m33, .ref m34, .ref m35, .ref m36, .ref m37, .ref m38, .ref m39, .ref m40, .int (nI br), .ref m41, .int s_atoms, .ref m42])), (m28, .inl (ax 0, 180000, .inl kp)), (m38, .inl (ax 0, 121, .inl bd)), (m39, .inl (ax 3, 121, .inl ib))] → va_S A s.heap H locs → lv_has ls 8 [(0, .ref m0), (1, .int (nI p1)), (3, .int (nI r9)), (4, .int y4)] → W p l e (headSpec (xws (.code y_Model_takeAtom b_Model_takeAtom 8 none)) ({ frames := 20, cells := 0, slots := 0, locals := 800 })).room s m ([.ref m0, .int (nI p1), .int (nI tt9), .int (nI r9)] : List Value).toArray below meth c H locs 0 0 Z9 (F0 m 28 ls []) := by
    clear hP hD hS hl1
    intro y4 hy4 H locs ls hP hD hS hl1
    have jn_2 : ∀ (y5 : Int32), cok8 y5 ∧ wcd y5 = cd8 (wcd (kp (p1 + 3))) tt9 r9 → ∀ (H : Heap) (locs : List Loc) (ls : Array Slot), va_P D classes [(m0, .inr (11, [.int s_thrown, .int s_taped, .ref m1, .int s_size, .int s_outSize, .ref m2, .int s_kind, .int s_value, .int s_begin, .int s_end, .int s_failed, .ref m3, .ref m4, .ref m5, .int s_isProgram, .int s_half, .ref m6, .ref m7, .ref m8, .ref m9, .ref m10, .ref m11, .ref m12, .ref m13, .ref m14, .ref m15, .ref m16, .ref m17, .ref m18, .ref m19, .ref m20, .int s_signs, .ref m21, .int s_stacked, .ref m22, .int s_name, .int s_shift, .int s_statements, .int s_ifs, .int s_whiles, .int s_variants, .int s_open, .ref m23, .int s_isMade, .int s_conditions, .ref m24, .ref m25, .ref m26, .ref m27, .int s_kept, .ref m28, .int s_tops, .ref m29, .int s_used, .ref m30, .ref m31, .int s_looked, .int s_rows, .int s_firstRow, .ref m32, .ref m33, .ref m34, .ref m35, .ref m36, .ref m37, .ref m38, .ref m39, .ref m40, .int (nI br), .ref m41, .int s_atoms, .ref m42])), (m28, .inl (ax 0, 180000, .inl kp)), (m38, .inl (ax 0, 121, .inl bd)), (m39, .inl (ax 3, 121, .inl ib))] H → va_D A [(m0, .inr (11, [.int s_thrown, .int s_taped, .ref m1, .int s_size, .int s_outSize, .ref m2, .int s_kind, .int s_value, .int s_begin, .int s_end, .int s_failed, .ref m3, .ref m4, .ref m5, .int s_isProgram, .int s_half, .ref m6, .ref m7, .ref m8, .ref m9, .ref m10, .ref m11, .ref m12, .ref m13, .ref m14, .ref m15, .ref m16, .ref m17, .ref m18, .ref m19, .ref m20, .int s_signs, .ref m21, .int s_stacked, .ref m22, .int s_name, .int s_shift, .int s_statements, .int s_ifs, .int s_whiles, .int s_variants, .int s_open, .ref m23, .int s_isMade, .int s_conditions, .ref m24, .ref m25, .ref m26, .ref m27, .int s_kept, .ref m28, .int s_tops, .ref m29, .int s_used, .ref m30, .ref m31, .int s_looked, .int s_rows, .int s_firstRow, .ref m32, .ref m33, .ref m34, .ref m35, .ref m36, .ref m37, .ref m38, .ref m39, .ref m40, .int (nI br), .ref m41, .int s_atoms, .ref m42])), (m28, .inl (ax 0, 180000, .inl kp)), (m38, .inl (ax 0, 121, .inl bd)), (m39, .inl (ax 3, 121, .inl ib))] → va_S A s.heap H locs → lv_has ls 8 [(0, .ref m0), (1, .int (nI p1)), (4, .int y5)] → W p l e (headSpec (xws (.code y_Model_takeAtom b_Model_takeAtom 8 none)) ({ frames := 20, cells := 0, slots := 0, locals := 800 })).room s m ([.ref m0, .int (nI p1), .int (nI tt9), .int (nI r9)] : List Value).toArray below meth c H locs 0 0 Z9 (F0 m 50 ls []) := by
      clear hP hD hS hl1
      intro y5 hy5 H locs ls hP hD hS hl1
      have jn_3 : ∀ (x9 : Nat), x9 ≤ 10 → x9 = nmI (kp (p1 + 1)) → ∀ (H : Heap) (locs : List Loc) (ls : Array Slot), va_P D classes [(m0, .inr (11, [.int s_thrown, .int s_taped, .ref m1, .int s_size, .int s_outSize, .ref m2, .int s_kind, .int s_value, .int s_begin, .int s_end, .int s_failed, .ref m3, .ref m4, .ref m5, .int s_isProgram, .int s_half, .ref m6, .ref m7, .ref m8, .ref m9, .ref m10, .ref m11, .ref m12, .ref m13, .ref m14, .ref m15, .ref m16, .ref m17, .ref m18, .ref m19, .ref m20, .int s_signs, .ref m21, .int s_stacked, .ref m22, .int s_name, .int s_shift, .int s_statements, .int s_ifs, .int s_whiles, .int s_variants, .int s_open, .ref m23, .int s_isMade, .int s_conditions, .ref m24, .ref m25, .ref m26, .ref m27, .int s_kept, .ref m28, .int s_tops, .ref m29, .int s_used, .ref m30, .ref m31, .int s_looked, .int s_rows, .int s_firstRow, .ref m32, .ref m33, .ref m34, .ref m35, .ref m36, .ref m37, .ref m38, .ref m39, .ref m40, .int (nI br), .ref m41, .int s_atoms, .ref m42])), (m28, .inl (ax 0, 180000, .inl kp)), (m38, .inl (ax 0, 121, .inl bd)), (m39, .inl (ax 3, 121, .inl ib))] H → va_D A [(m0, .inr (11, [.int s_thrown, .int s_taped, .ref m1, .int s_size, .int s_outSize, .ref m2, .int s_kind, .int s_value, .int s_begin, .int s_end, .int s_failed, .ref m3, .ref m4, .ref m5, .int s_isProgram, .int s_half, .ref m6, .ref m7, .ref m8, .ref m9, .ref m10, .ref m11, .ref m12, .ref m13, .ref m14, .ref m15, .ref m16, .ref m17, .ref m18, .ref m19, .ref m20, .int s_signs, .ref m21, .int s_stacked, .ref m22, .int s_name, .int s_shift, .int s_statements, .int s_ifs, .int s_whiles, .int s_variants, .int s_open, .ref m23, .int s_isMade, .int s_conditions, .ref m24, .ref m25, .ref m26, .ref m27, .int s_kept, .ref m28, .int s_tops, .ref m29, .int s_used, .ref m30, .ref m31, .int s_looked, .int s_rows, .int s_firstRow, .ref m32, .ref m33, .ref m34, .ref m35, .ref m36, .ref m37, .ref m38, .ref m39, .ref m40, .int (nI br), .ref m41, .int s_atoms, .ref m42])), (m28, .inl (ax 0, 180000, .inl kp)), (m38, .inl (ax 0, 121, .inl bd)), (m39, .inl (ax 3, 121, .inl ib))] → va_S A s.heap H locs → lv_has ls 8 [(0, .ref m0), (1, .int (nI p1)), (4, .int y5), (5, .int (nI x9))] → W p l e (headSpec (xws (.code y_Model_takeAtom b_Model_takeAtom 8 none)) ({ frames := 20, cells := 0, slots := 0, locals := 800 })).room s m ([.ref m0, .int (nI p1), .int (nI tt9), .int (nI r9)] : List Value).toArray below meth c H locs 0 0 Z9 (F0 m 77 ls []) := by
        clear hP hD hS hl1
        intro x9 hx9 hx98 H locs ls hP hD hS hl1
        have jn_4 : ∀ (y9 : Nat), y9 ≤ 10 → y9 = nmI (kp (p1 + 4)) → ∀ (H : Heap) (locs : List Loc) (ls : Array Slot), va_P D classes [(m0, .inr (11, [.int s_thrown, .int s_taped, .ref m1, .int s_size, .int s_outSize, .ref m2, .int s_kind, .int s_value, .int s_begin, .int s_end, .int s_failed, .ref m3, .ref m4, .ref m5, .int s_isProgram, .int s_half, .ref m6, .ref m7, .ref m8, .ref m9, .ref m10, .ref m11, .ref m12, .ref m13, .ref m14, .ref m15, .ref m16, .ref m17, .ref m18, .ref m19, .ref m20, .int s_signs, .ref m21, .int s_stacked, .ref m22, .int s_name, .int s_shift, .int s_statements, .int s_ifs, .int s_whiles, .int s_variants, .int s_open, .ref m23, .int s_isMade, .int s_conditions, .ref m24, .ref m25, .ref m26, .ref m27, .int s_kept, .ref m28, .int s_tops, .ref m29, .int s_used, .ref m30, .ref m31, .int s_looked, .int s_rows, .int s_firstRow, .ref m32, .ref m33, .ref m34, .ref m35, .ref m36, .ref m37, .ref m38, .ref m39, .ref m40, .int (nI br), .ref m41, .int s_atoms, .ref m42])), (m28, .inl (ax 0, 180000, .inl kp)), (m38, .inl (ax 0, 121, .inl bd)), (m39, .inl (ax 3, 121, .inl ib))] H → va_D A [(m0, .inr (11, [.int s_thrown, .int s_taped, .ref m1, .int s_size, .int s_outSize, .ref m2, .int s_kind, .int s_value, .int s_begin, .int s_end, .int s_failed, .ref m3, .ref m4, .ref m5, .int s_isProgram, .int s_half, .ref m6, .ref m7, .ref m8, .ref m9, .ref m10, .ref m11, .ref m12, .ref m13, .ref m14, .ref m15, .ref m16, .ref m17, .ref m18, .ref m19, .ref m20, .int s_signs, .ref m21, .int s_stacked, .ref m22, .int s_name, .int s_shift, .int s_statements, .int s_ifs, .int s_whiles, .int s_variants, .int s_open, .ref m23, .int s_isMade, .int s_conditions, .ref m24, .ref m25, .ref m26, .ref m27, .int s_kept, .ref m28, .int s_tops, .ref m29, .int s_used, .ref m30, .ref m31, .int s_looked, .int s_rows, .int s_firstRow, .ref m32, .ref m33, .ref m34, .ref m35, .ref m36, .ref m37, .ref m38, .ref m39, .ref m40, .int (nI br), .ref m41, .int s_atoms, .ref m42])), (m28, .inl (ax 0, 180000, .inl kp)), (m38, .inl (ax 0, 121, .inl bd)), (m39, .inl (ax 3, 121, .inl ib))] → va_S A s.heap H locs → lv_has ls 8 [(0, .ref m0), (1, .int (nI p1)), (4, .int y5), (5, .int (nI x9)), (6, .int (nI y9))] → W p l e (headSpec (xws (.code y_Model_takeAtom b_Model_takeAtom 8 none)) ({ frames := 20, cells := 0, slots := 0, locals := 800 })).room s m ([.ref m0, .int (nI p1), .int (nI tt9), .int (nI r9)] : List Value).toArray below meth c H locs 0 0 Z9 (F0 m 104 ls []) := by
          clear hP hD hS hl1
          intro y9 hy9 hy98 H locs ls hP hD hS hl1
          have jn_5 : ∀ (z7 : Int32), z7 = kp (p1 + 5) - kp (p1 + 2) → ∀ (H : Heap) (locs : List Loc) (ls : Array Slot), va_P D classes [(m0, .inr (11, [.int s_thrown, .int s_taped, .ref m1, .int s_size, .int s_outSize, .ref m2, .int s_kind, .int s_value, .int s_begin, .int s_end, .int s_failed, .ref m3, .ref m4, .ref m5, .int s_isProgram, .int s_half, .ref m6, .ref m7, .ref m8, .ref m9, .ref m10, .ref m11, .ref m12, .ref m13, .ref m14, .ref m15, .ref m16, .ref m17, .ref m18, .ref m19, .ref m20, .int s_signs, .ref m21, .int s_stacked, .ref m22, .int s_name, .int s_shift, .int s_statements, .int s_ifs, .int s_whiles, .int s_variants, .int s_open, .ref m23, .int s_isMade, .int s_conditions, .ref m24, .ref m25, .ref m26, .ref m27, .int s_kept, .ref m28, .int s_tops, .ref m29, .int s_used, .ref m30, .ref m31, .int s_looked, .int s_rows, .int s_firstRow, .ref m32, .ref m33, .ref m34, .ref m35, .ref m36, .ref m37, .ref m38, .ref m39, .ref m40, .int (nI br), .ref m41, .int s_atoms, .ref m42])), (m28, .inl (ax 0, 180000, .inl kp)), (m38, .inl (ax 0, 121, .inl bd)), (m39, .inl (ax 3, 121, .inl ib))] H → va_D A [(m0, .inr (11, [.int s_thrown, .int s_taped, .ref m1, .int s_size, .int s_outSize, .ref m2, .int s_kind, .int s_value, .int s_begin, .int s_end, .int s_failed, .ref m3, .ref m4, .ref m5, .int s_isProgram, .int s_half, .ref m6, .ref m7, .ref m8, .ref m9, .ref m10, .ref m11, .ref m12, .ref m13, .ref m14, .ref m15, .ref m16, .ref m17, .ref m18, .ref m19, .ref m20, .int s_signs, .ref m21, .int s_stacked, .ref m22, .int s_name, .int s_shift, .int s_statements, .int s_ifs, .int s_whiles, .int s_variants, .int s_open, .ref m23, .int s_isMade, .int s_conditions, .ref m24, .ref m25, .ref m26, .ref m27, .int s_kept, .ref m28, .int s_tops, .ref m29, .int s_used, .ref m30, .ref m31, .int s_looked, .int s_rows, .int s_firstRow, .ref m32, .ref m33, .ref m34, .ref m35, .ref m36, .ref m37, .ref m38, .ref m39, .ref m40, .int (nI br), .ref m41, .int s_atoms, .ref m42])), (m28, .inl (ax 0, 180000, .inl kp)), (m38, .inl (ax 0, 121, .inl bd)), (m39, .inl (ax 3, 121, .inl ib))] → va_S A s.heap H locs → lv_has ls 8 [(0, .ref m0), (1, .int (nI p1)), (4, .int y5), (5, .int (nI x9)), (6, .int (nI y9)), (7, .int z7)] → W p l e (headSpec (xws (.code y_Model_takeAtom b_Model_takeAtom 8 none)) ({ frames := 20, cells := 0, slots := 0, locals := 800 })).room s m ([.ref m0, .int (nI p1), .int (nI tt9), .int (nI r9)] : List Value).toArray below meth c H locs 0 0 Z9 (F0 m 123 ls []) := by
            clear hP hD hS hl1
            intro z7 hz78 H locs ls hP hD hS hl1
            have jn_6 : ∀ (br2 : Nat) (bd2 ib2 : Nat → Int32), br2 ≤ 1 → tA8 br bd ib (fun v => hA8 y5 x9 y9 ((kp (p1 + 5)).toInt - (kp (p1 + 2)).toInt) v) br2 bd2 ib2 → ∀ (H : Heap) (locs : List Loc) (ls : Array Slot), va_P D classes [(m0, .inr (11, [.int s_thrown, .int s_taped, .ref m1, .int s_size, .int s_outSize, .ref m2, .int s_kind, .int s_value, .int s_begin, .int s_end, .int s_failed, .ref m3, .ref m4, .ref m5, .int s_isProgram, .int s_half, .ref m6, .ref m7, .ref m8, .ref m9, .ref m10, .ref m11, .ref m12, .ref m13, .ref m14, .ref m15, .ref m16, .ref m17, .ref m18, .ref m19, .ref m20, .int s_signs, .ref m21, .int s_stacked, .ref m22, .int s_name, .int s_shift, .int s_statements, .int s_ifs, .int s_whiles, .int s_variants, .int s_open, .ref m23, .int s_isMade, .int s_conditions, .ref m24, .ref m25, .ref m26, .ref m27, .int s_kept, .ref m28, .int s_tops, .ref m29, .int s_used, .ref m30, .ref m31, .int s_looked, .int s_rows, .int s_firstRow, .ref m32, .ref m33, .ref m34, .ref m35, .ref m36, .ref m37, .ref m38, .ref m39, .ref m40, .int (nI br2), .ref m41, .int s_atoms, .ref m42])), (m28, .inl (ax 0, 180000, .inl kp)), (m38, .inl (ax 0, 121, .inl bd2)), (m39, .inl (ax 3, 121, .inl ib2))] H → va_D A [(m0, .inr (11, [.int s_thrown, .int s_taped, .ref m1, .int s_size, .int s_outSize, .ref m2, .int s_kind, .int s_value, .int s_begin, .int s_end, .int s_failed, .ref m3, .ref m4, .ref m5, .int s_isProgram, .int s_half, .ref m6, .ref m7, .ref m8, .ref m9, .ref m10, .ref m11, .ref m12, .ref m13, .ref m14, .ref m15, .ref m16, .ref m17, .ref m18, .ref m19, .ref m20, .int s_signs, .ref m21, .int s_stacked, .ref m22, .int s_name, .int s_shift, .int s_statements, .int s_ifs, .int s_whiles, .int s_variants, .int s_open, .ref m23, .int s_isMade, .int s_conditions, .ref m24, .ref m25, .ref m26, .ref m27, .int s_kept, .ref m28, .int s_tops, .ref m29, .int s_used, .ref m30, .ref m31, .int s_looked, .int s_rows, .int s_firstRow, .ref m32, .ref m33, .ref m34, .ref m35, .ref m36, .ref m37, .ref m38, .ref m39, .ref m40, .int (nI br2), .ref m41, .int s_atoms, .ref m42])), (m28, .inl (ax 0, 180000, .inl kp)), (m38, .inl (ax 0, 121, .inl bd2)), (m39, .inl (ax 3, 121, .inl ib2))] → va_S A s.heap H locs → lv_has ls 8 [(0, .ref m0), (1, .int (nI p1)), (4, .int y5), (5, .int (nI x9)), (6, .int (nI y9)), (7, .int z7)] → W p l e (headSpec (xws (.code y_Model_takeAtom b_Model_takeAtom 8 none)) ({ frames := 20, cells := 0, slots := 0, locals := 800 })).room s m ([.ref m0, .int (nI p1), .int (nI tt9), .int (nI r9)] : List Value).toArray below meth c H locs 0 0 Z9 (F0 m 162 ls []) := by
              clear hP hD hS hl1
              intro br2 bd2 ib2 hbr2 hTA H locs ls hP hD hS hl1
              refine lv_iload hx hb d_Model_takeAtom_162 (lv_at hl1 2 rfl) ?_
              have hm8 := hb8.m hz78
              refine lv_iconst (v := 5) hx hb d_Model_takeAtom_164 (by decide) ?_
              refine lv_icmp_eq (tgt := 180) hx hb d_Model_takeAtom_165 (by decide) (fun c_7 => ?_) (fun c_7 => ?_)
              · refine lv_aload_n hx hb d_Model_takeAtom_180 rfl (lv_at hl1 0 rfl) ?_
                refine lv_iload hx hb d_Model_takeAtom_181 (lv_at hl1 4 rfl) ?_
                refine lv_iload hx hb d_Model_takeAtom_183 (lv_at hl1 3 rfl) ?_
                refine lv_iload hx hb d_Model_takeAtom_185 (lv_at hl1 2 rfl) ?_
                refine lv_iconst (v := 5) hx hb d_Model_takeAtom_187 (by decide) ?_
                refine lv_icmp_ne (tgt := 199) hx hb d_Model_takeAtom_188 (by decide) (fun c_8 => ?_) (fun c_8 => ?_)
                · refine lv_iload hx hb d_Model_takeAtom_199 (lv_at hl1 5 rfl) ?_
                  refine lv_ineg hx hb d_Model_takeAtom_201 ?_
                  refine lv_topi (fun z_9 ez_9 => ?_)
                  have hn8 : (z_9).toInt = -z7.toInt := by rw [ez_9]; exact i32_neg (by first | assumption | omega) (by first | assumption | omega)
                  have hcA : -50000 ≤ (z_9).toInt ∧ (z_9).toInt ≤ 50000 := by rw [hn8]; omega
                  obtain ⟨hPc, hDc, hFc, hCs⟩ := xw_sub3 (wc := [(m0, .inr (11, [.int s_thrown, .int s_taped, .ref m1, .int s_size, .int s_outSize, .ref m2, .int s_kind, .int s_value, .int s_begin, .int s_end, .int s_failed, .ref m3, .ref m4, .ref m5, .int s_isProgram, .int s_half, .ref m6, .ref m7, .ref m8, .ref m9, .ref m10, .ref m11, .ref m12, .ref m13, .ref m14, .ref m15, .ref m16, .ref m17, .ref m18, .ref m19, .ref m20, .int s_signs, .ref m21, .int s_stacked, .ref m22, .int s_name, .int s_shift, .int s_statements, .int s_ifs, .int s_whiles, .int s_variants, .int s_open, .ref m23, .int s_isMade, .int s_conditions, .ref m24, .ref m25, .ref m26, .ref m27, .int s_kept, .ref m28, .int s_tops, .ref m29, .int s_used, .ref m30, .ref m31, .int s_looked, .int s_rows, .int s_firstRow, .ref m32, .ref m33, .ref m34, .ref m35, .ref m36, .ref m37, .ref m38, .ref m39, .ref m40, .int (nI br2), .ref m41, .int s_atoms, .ref m42])), (m38, .inl (ax 0, 121, .inl bd2)), (m39, .inl (ax 3, 121, .inl ib2))]) hP hD hS hA [0, 2, 3] (by decide) rfl
                  have hz := xz_of hN hS
                  refine va_callv (va_runV (As := [.int (nI y9), .int (nI x9), .int z_9]) (rest := []) ⟨hx, hb, hml, hown, hts⟩ (c_M_take l D ax m0 m1 m2 m3 m4 m5 m6 m7 m8 m9 m10 m11 m12 m13 m14 m15 m16 m17 m18 m19 m20 m21 m22 m23 m24 m25 m26 m27 m28 m29 m30 m31 m32 m33 m34 m35 m36 m37 m38 m39 m40 m41 m42 s_thrown s_taped s_size s_outSize s_kind s_value s_begin s_end s_failed s_isProgram s_half s_signs s_stacked s_name s_shift s_statements s_ifs s_whiles s_variants s_open s_isMade s_conditions s_kept s_tops s_used s_looked s_rows s_firstRow s_atoms br2 y9 x9 z_9 bd2 ib2 H.size (by first | assumption | omega) (by first | assumption | omega) (by first | assumption | omega) hTA.1 hcA) (xcV (n := 3) hts wd_1532 wd_15 wd_1529 wd_1531 ps_104 rfl rfl (by decide +kernel) ⟨Nat.le_of_ble_eq_true rfl, Nat.le_of_ble_eq_true rfl⟩) (xpV (ci := 11) (q0 := 0) (As := [.int (nI y9), .int (nI x9), .int z_9]) hPc hK hz hDc rfl rfl) rfl rfl hl1.1 rfl (lv_room (Nat.le_of_ble_eq_true rfl)) d_Model_takeAtom_202 ⟨Nat.le_of_ble_eq_true rfl, Nat.le_of_ble_eq_true rfl⟩) hS (fun q _ h => hFc q h) hFc (fun u_10 t H_11 locs ht hvm hw hB hz1 hk1 hS1 => ?_)
                  try dsimp only at hw
                  have hs_13 := hw
                  obtain ⟨x_14, x_15, hx_16, hP1, hD1⟩ := hB
                  rw [ht] at hP1
                  have hjn := xw_join3 (wl := [(m28, .inl (ax 0, 180000, .inl kp)), (m0, .inr (11, [.int s_thrown, .int s_taped, .ref m1, .int s_size, .int s_outSize, .ref m2, .int s_kind, .int s_value, .int s_begin, .int s_end, .int s_failed, .ref m3, .ref m4, .ref m5, .int s_isProgram, .int s_half, .ref m6, .ref m7, .ref m8, .ref m9, .ref m10, .ref m11, .ref m12, .ref m13, .ref m14, .ref m15, .ref m16, .ref m17, .ref m18, .ref m19, .ref m20, .int s_signs, .ref m21, .int s_stacked, .ref m22, .int s_name, .int s_shift, .int s_statements, .int s_ifs, .int s_whiles, .int s_variants, .int s_open, .ref m23, .int s_isMade, .int s_conditions, .ref m24, .ref m25, .ref m26, .ref m27, .int s_kept, .ref m28, .int s_tops, .ref m29, .int s_used, .ref m30, .ref m31, .int s_looked, .int s_rows, .int s_firstRow, .ref m32, .ref m33, .ref m34, .ref m35, .ref m36, .ref m37, .ref m38, .ref m39, .ref m40, .int (nI (u_10 0)), .ref m41, .int s_atoms, .ref m42])), (m38, .inl (ax 0, 121, .inl x_14)), (m39, .inl (ax 3, 121, .inl x_15))]) hP hD [0, 2, 3] [1] hCs (by decide) (by decide) hk1 hFc hP1 hD1 rfl
                  clear hP1 hD1
                  clear hPc hDc hFc hCs hz hz1 hk1 ht hvm
                  clear hP hD hS
                  have hS := hS1
                  obtain ⟨hP, hD⟩ := hjn
                  clear hS1
                  rw [← hQe]
                  obtain ⟨hP9, hD9⟩ := xw_sub2 (wc := (fun (u : Nat → Nat) (xbd : Nat → Int32) (xib : Nat → Int32) => [(m0, .inr (11, [.int s_thrown, .int s_taped, .ref m1, .int s_size, .int s_outSize, .ref m2, .int s_kind, .int s_value, .int s_begin, .int s_end, .int s_failed, .ref m3, .ref m4, .ref m5, .int s_isProgram, .int s_half, .ref m6, .ref m7, .ref m8, .ref m9, .ref m10, .ref m11, .ref m12, .ref m13, .ref m14, .ref m15, .ref m16, .ref m17, .ref m18, .ref m19, .ref m20, .int s_signs, .ref m21, .int s_stacked, .ref m22, .int s_name, .int s_shift, .int s_statements, .int s_ifs, .int s_whiles, .int s_variants, .int s_open, .ref m23, .int s_isMade, .int s_conditions, .ref m24, .ref m25, .ref m26, .ref m27, .int s_kept, .ref m28, .int s_tops, .ref m29, .int s_used, .ref m30, .ref m31, .int s_looked, .int s_rows, .int s_firstRow, .ref m32, .ref m33, .ref m34, .ref m35, .ref m36, .ref m37, .ref m38, .ref m39, .ref m40, .int (nI (u 0)), .ref m41, .int s_atoms, .ref m42])), (m28, .inl (ax 0, 180000, .inl kp)), (m38, .inl (ax 0, 121, .inl xbd)), (m39, .inl (ax 3, 121, .inl xib))]) (ixn [(u_10 0)]) x_14 x_15) hP hD [1, 0, 2, 3] (by decide) rfl
                  have hex0 : tA8 br bd ib (fun v => atq8 (adc8 kp p1) tt9 r9 v) ((u_10 0)) x_14 x_15 := ((hTA.tr (hx_16.as (fun v => hB8_m (by assumption) (by first | exact Or.inl (by assumption) | exact Or.inr (by assumption) | exact absurd (show y5 = 5 by assumption) (by assumption)) (by rw [hn8, hm8.1])))).as (fun v => at8_w hy5 hx98 hy98))
                  have hsp0 : (u_10 0) ≤ 1 := (by first | assumption | omega)
                  exact W.vret hx hb hr (fun t ht hW => ⟨⟨ixn [(u_10 0)], rfl, hsp0, ⟨x_14, x_15, hex0, by rw [ht]; exact hP9, hD9⟩⟩, hS.F ht⟩) hS.2.2 d_Model_takeAtom_205
                · refine lv_iload hx hb d_Model_takeAtom_191 (lv_at hl1 5 rfl) ?_
                  refine lv_ineg hx hb d_Model_takeAtom_193 ?_
                  refine lv_topi (fun z_17 ez_17 => ?_)
                  have hn8 : (z_17).toInt = -z7.toInt := by rw [ez_17]; exact i32_neg (by first | assumption | omega) (by first | assumption | omega)
                  refine lv_iconst (v := 1) hx hb d_Model_takeAtom_194 (by decide) ?_
                  refine lv_isub hx hb d_Model_takeAtom_195 ?_
                  refine lv_topi (fun z_18 ez_18 => ?_)
                  refine lv_goto (tgt := 202) hx hb d_Model_takeAtom_196 (by decide) ?_
                  have hcA : -50000 ≤ (z_18).toInt ∧ (z_18).toInt ≤ 50000 := by rw [ez_18, i32_sub (by rw [hn8]; omega) (by rw [hn8]; omega) (by decide) (by decide), i32_1, hn8]; omega
                  obtain ⟨hPc, hDc, hFc, hCs⟩ := xw_sub3 (wc := [(m0, .inr (11, [.int s_thrown, .int s_taped, .ref m1, .int s_size, .int s_outSize, .ref m2, .int s_kind, .int s_value, .int s_begin, .int s_end, .int s_failed, .ref m3, .ref m4, .ref m5, .int s_isProgram, .int s_half, .ref m6, .ref m7, .ref m8, .ref m9, .ref m10, .ref m11, .ref m12, .ref m13, .ref m14, .ref m15, .ref m16, .ref m17, .ref m18, .ref m19, .ref m20, .int s_signs, .ref m21, .int s_stacked, .ref m22, .int s_name, .int s_shift, .int s_statements, .int s_ifs, .int s_whiles, .int s_variants, .int s_open, .ref m23, .int s_isMade, .int s_conditions, .ref m24, .ref m25, .ref m26, .ref m27, .int s_kept, .ref m28, .int s_tops, .ref m29, .int s_used, .ref m30, .ref m31, .int s_looked, .int s_rows, .int s_firstRow, .ref m32, .ref m33, .ref m34, .ref m35, .ref m36, .ref m37, .ref m38, .ref m39, .ref m40, .int (nI br2), .ref m41, .int s_atoms, .ref m42])), (m38, .inl (ax 0, 121, .inl bd2)), (m39, .inl (ax 3, 121, .inl ib2))]) hP hD hS hA [0, 2, 3] (by decide) rfl
                  have hz := xz_of hN hS
                  refine va_callv (va_runV (As := [.int (nI y9), .int (nI x9), .int z_18]) (rest := []) ⟨hx, hb, hml, hown, hts⟩ (c_M_take l D ax m0 m1 m2 m3 m4 m5 m6 m7 m8 m9 m10 m11 m12 m13 m14 m15 m16 m17 m18 m19 m20 m21 m22 m23 m24 m25 m26 m27 m28 m29 m30 m31 m32 m33 m34 m35 m36 m37 m38 m39 m40 m41 m42 s_thrown s_taped s_size s_outSize s_kind s_value s_begin s_end s_failed s_isProgram s_half s_signs s_stacked s_name s_shift s_statements s_ifs s_whiles s_variants s_open s_isMade s_conditions s_kept s_tops s_used s_looked s_rows s_firstRow s_atoms br2 y9 x9 z_18 bd2 ib2 H.size (by first | assumption | omega) (by first | assumption | omega) (by first | assumption | omega) hTA.1 hcA) (xcV (n := 3) hts wd_1532 wd_15 wd_1529 wd_1531 ps_104 rfl rfl (by decide +kernel) ⟨Nat.le_of_ble_eq_true rfl, Nat.le_of_ble_eq_true rfl⟩) (xpV (ci := 11) (q0 := 0) (As := [.int (nI y9), .int (nI x9), .int z_18]) hPc hK hz hDc rfl rfl) rfl rfl hl1.1 rfl (lv_room (Nat.le_of_ble_eq_true rfl)) d_Model_takeAtom_202 ⟨Nat.le_of_ble_eq_true rfl, Nat.le_of_ble_eq_true rfl⟩) hS (fun q _ h => hFc q h) hFc (fun u_19 t H_20 locs ht hvm hw hB hz1 hk1 hS1 => ?_)
                  try dsimp only at hw
                  have hs_22 := hw
                  obtain ⟨x_23, x_24, hx_25, hP1, hD1⟩ := hB
                  rw [ht] at hP1
                  have hjn := xw_join3 (wl := [(m28, .inl (ax 0, 180000, .inl kp)), (m0, .inr (11, [.int s_thrown, .int s_taped, .ref m1, .int s_size, .int s_outSize, .ref m2, .int s_kind, .int s_value, .int s_begin, .int s_end, .int s_failed, .ref m3, .ref m4, .ref m5, .int s_isProgram, .int s_half, .ref m6, .ref m7, .ref m8, .ref m9, .ref m10, .ref m11, .ref m12, .ref m13, .ref m14, .ref m15, .ref m16, .ref m17, .ref m18, .ref m19, .ref m20, .int s_signs, .ref m21, .int s_stacked, .ref m22, .int s_name, .int s_shift, .int s_statements, .int s_ifs, .int s_whiles, .int s_variants, .int s_open, .ref m23, .int s_isMade, .int s_conditions, .ref m24, .ref m25, .ref m26, .ref m27, .int s_kept, .ref m28, .int s_tops, .ref m29, .int s_used, .ref m30, .ref m31, .int s_looked, .int s_rows, .int s_firstRow, .ref m32, .ref m33, .ref m34, .ref m35, .ref m36, .ref m37, .ref m38, .ref m39, .ref m40, .int (nI (u_19 0)), .ref m41, .int s_atoms, .ref m42])), (m38, .inl (ax 0, 121, .inl x_23)), (m39, .inl (ax 3, 121, .inl x_24))]) hP hD [0, 2, 3] [1] hCs (by decide) (by decide) hk1 hFc hP1 hD1 rfl
                  clear hP1 hD1
                  clear hPc hDc hFc hCs hz hz1 hk1 ht hvm
                  clear hP hD hS
                  have hS := hS1
                  obtain ⟨hP, hD⟩ := hjn
                  clear hS1
                  rw [← hQe]
                  obtain ⟨hP9, hD9⟩ := xw_sub2 (wc := (fun (u : Nat → Nat) (xbd : Nat → Int32) (xib : Nat → Int32) => [(m0, .inr (11, [.int s_thrown, .int s_taped, .ref m1, .int s_size, .int s_outSize, .ref m2, .int s_kind, .int s_value, .int s_begin, .int s_end, .int s_failed, .ref m3, .ref m4, .ref m5, .int s_isProgram, .int s_half, .ref m6, .ref m7, .ref m8, .ref m9, .ref m10, .ref m11, .ref m12, .ref m13, .ref m14, .ref m15, .ref m16, .ref m17, .ref m18, .ref m19, .ref m20, .int s_signs, .ref m21, .int s_stacked, .ref m22, .int s_name, .int s_shift, .int s_statements, .int s_ifs, .int s_whiles, .int s_variants, .int s_open, .ref m23, .int s_isMade, .int s_conditions, .ref m24, .ref m25, .ref m26, .ref m27, .int s_kept, .ref m28, .int s_tops, .ref m29, .int s_used, .ref m30, .ref m31, .int s_looked, .int s_rows, .int s_firstRow, .ref m32, .ref m33, .ref m34, .ref m35, .ref m36, .ref m37, .ref m38, .ref m39, .ref m40, .int (nI (u 0)), .ref m41, .int s_atoms, .ref m42])), (m28, .inl (ax 0, 180000, .inl kp)), (m38, .inl (ax 0, 121, .inl xbd)), (m39, .inl (ax 3, 121, .inl xib))]) (ixn [(u_19 0)]) x_23 x_24) hP hD [1, 0, 2, 3] (by decide) rfl
                  have hex0 : tA8 br bd ib (fun v => atq8 (adc8 kp p1) tt9 r9 v) ((u_19 0)) x_23 x_24 := ((hTA.tr (hx_25.as (fun v => hB8_l (by assumption) (by rw [ez_18, i32_sub (by rw [hn8]; omega) (by rw [hn8]; omega) (by decide) (by decide), i32_1, hn8, hm8.1])))).as (fun v => at8_w hy5 hx98 hy98))
                  have hsp0 : (u_19 0) ≤ 1 := (by first | assumption | omega)
                  exact W.vret hx hb hr (fun t ht hW => ⟨⟨ixn [(u_19 0)], rfl, hsp0, ⟨x_23, x_24, hex0, by rw [ht]; exact hP9, hD9⟩⟩, hS.F ht⟩) hS.2.2 d_Model_takeAtom_205
              · refine lv_iload hx hb d_Model_takeAtom_168 (lv_at hl1 2 rfl) ?_
                refine lv_iconst (v := 4) hx hb d_Model_takeAtom_170 (by decide) ?_
                refine lv_icmp_eq (tgt := 180) hx hb d_Model_takeAtom_171 (by decide) (fun c_26 => ?_) (fun c_26 => ?_)
                · refine lv_aload_n hx hb d_Model_takeAtom_180 rfl (lv_at hl1 0 rfl) ?_
                  refine lv_iload hx hb d_Model_takeAtom_181 (lv_at hl1 4 rfl) ?_
                  refine lv_iload hx hb d_Model_takeAtom_183 (lv_at hl1 3 rfl) ?_
                  refine lv_iload hx hb d_Model_takeAtom_185 (lv_at hl1 2 rfl) ?_
                  refine lv_iconst (v := 5) hx hb d_Model_takeAtom_187 (by decide) ?_
                  refine lv_icmp_ne (tgt := 199) hx hb d_Model_takeAtom_188 (by decide) (fun c_27 => ?_) (fun c_27 => ?_)
                  · refine lv_iload hx hb d_Model_takeAtom_199 (lv_at hl1 5 rfl) ?_
                    refine lv_ineg hx hb d_Model_takeAtom_201 ?_
                    refine lv_topi (fun z_28 ez_28 => ?_)
                    have hn8 : (z_28).toInt = -z7.toInt := by rw [ez_28]; exact i32_neg (by first | assumption | omega) (by first | assumption | omega)
                    have hcA : -50000 ≤ (z_28).toInt ∧ (z_28).toInt ≤ 50000 := by rw [hn8]; omega
                    obtain ⟨hPc, hDc, hFc, hCs⟩ := xw_sub3 (wc := [(m0, .inr (11, [.int s_thrown, .int s_taped, .ref m1, .int s_size, .int s_outSize, .ref m2, .int s_kind, .int s_value, .int s_begin, .int s_end, .int s_failed, .ref m3, .ref m4, .ref m5, .int s_isProgram, .int s_half, .ref m6, .ref m7, .ref m8, .ref m9, .ref m10, .ref m11, .ref m12, .ref m13, .ref m14, .ref m15, .ref m16, .ref m17, .ref m18, .ref m19, .ref m20, .int s_signs, .ref m21, .int s_stacked, .ref m22, .int s_name, .int s_shift, .int s_statements, .int s_ifs, .int s_whiles, .int s_variants, .int s_open, .ref m23, .int s_isMade, .int s_conditions, .ref m24, .ref m25, .ref m26, .ref m27, .int s_kept, .ref m28, .int s_tops, .ref m29, .int s_used, .ref m30, .ref m31, .int s_looked, .int s_rows, .int s_firstRow, .ref m32, .ref m33, .ref m34, .ref m35, .ref m36, .ref m37, .ref m38, .ref m39, .ref m40, .int (nI br2), .ref m41, .int s_atoms, .ref m42])), (m38, .inl (ax 0, 121, .inl bd2)), (m39, .inl (ax 3, 121, .inl ib2))]) hP hD hS hA [0, 2, 3] (by decide) rfl
                    have hz := xz_of hN hS
                    refine va_callv (va_runV (As := [.int (nI y9), .int (nI x9), .int z_28]) (rest := []) ⟨hx, hb, hml, hown, hts⟩ (c_M_take l D ax m0 m1 m2 m3 m4 m5 m6 m7 m8 m9 m10 m11 m12 m13 m14 m15 m16 m17 m18 m19 m20 m21 m22 m23 m24 m25 m26 m27 m28 m29 m30 m31 m32 m33 m34 m35 m36 m37 m38 m39 m40 m41 m42 s_thrown s_taped s_size s_outSize s_kind s_value s_begin s_end s_failed s_isProgram s_half s_signs s_stacked s_name s_shift s_statements s_ifs s_whiles s_variants s_open s_isMade s_conditions s_kept s_tops s_used s_looked s_rows s_firstRow s_atoms br2 y9 x9 z_28 bd2 ib2 H.size (by first | assumption | omega) (by first | assumption | omega) (by first | assumption | omega) hTA.1 hcA) (xcV (n := 3) hts wd_1532 wd_15 wd_1529 wd_1531 ps_104 rfl rfl (by decide +kernel) ⟨Nat.le_of_ble_eq_true rfl, Nat.le_of_ble_eq_true rfl⟩) (xpV (ci := 11) (q0 := 0) (As := [.int (nI y9), .int (nI x9), .int z_28]) hPc hK hz hDc rfl rfl) rfl rfl hl1.1 rfl (lv_room (Nat.le_of_ble_eq_true rfl)) d_Model_takeAtom_202 ⟨Nat.le_of_ble_eq_true rfl, Nat.le_of_ble_eq_true rfl⟩) hS (fun q _ h => hFc q h) hFc (fun u_29 t H_30 locs ht hvm hw hB hz1 hk1 hS1 => ?_)
                    try dsimp only at hw
                    have hs_32 := hw
                    obtain ⟨x_33, x_34, hx_35, hP1, hD1⟩ := hB
                    rw [ht] at hP1
                    have hjn := xw_join3 (wl := [(m28, .inl (ax 0, 180000, .inl kp)), (m0, .inr (11, [.int s_thrown, .int s_taped, .ref m1, .int s_size, .int s_outSize, .ref m2, .int s_kind, .int s_value, .int s_begin, .int s_end, .int s_failed, .ref m3, .ref m4, .ref m5, .int s_isProgram, .int s_half, .ref m6, .ref m7, .ref m8, .ref m9, .ref m10, .ref m11, .ref m12, .ref m13, .ref m14, .ref m15, .ref m16, .ref m17, .ref m18, .ref m19, .ref m20, .int s_signs, .ref m21, .int s_stacked, .ref m22, .int s_name, .int s_shift, .int s_statements, .int s_ifs, .int s_whiles, .int s_variants, .int s_open, .ref m23, .int s_isMade, .int s_conditions, .ref m24, .ref m25, .ref m26, .ref m27, .int s_kept, .ref m28, .int s_tops, .ref m29, .int s_used, .ref m30, .ref m31, .int s_looked, .int s_rows, .int s_firstRow, .ref m32, .ref m33, .ref m34, .ref m35, .ref m36, .ref m37, .ref m38, .ref m39, .ref m40, .int (nI (u_29 0)), .ref m41, .int s_atoms, .ref m42])), (m38, .inl (ax 0, 121, .inl x_33)), (m39, .inl (ax 3, 121, .inl x_34))]) hP hD [0, 2, 3] [1] hCs (by decide) (by decide) hk1 hFc hP1 hD1 rfl
                    clear hP1 hD1
                    clear hPc hDc hFc hCs hz hz1 hk1 ht hvm
                    clear hP hD hS
                    have hS := hS1
                    obtain ⟨hP, hD⟩ := hjn
                    clear hS1
                    rw [← hQe]
                    obtain ⟨hP9, hD9⟩ := xw_sub2 (wc := (fun (u : Nat → Nat) (xbd : Nat → Int32) (xib : Nat → Int32) => [(m0, .inr (11, [.int s_thrown, .int s_taped, .ref m1, .int s_size, .int s_outSize, .ref m2, .int s_kind, .int s_value, .int s_begin, .int s_end, .int s_failed, .ref m3, .ref m4, .ref m5, .int s_isProgram, .int s_half, .ref m6, .ref m7, .ref m8, .ref m9, .ref m10, .ref m11, .ref m12, .ref m13, .ref m14, .ref m15, .ref m16, .ref m17, .ref m18, .ref m19, .ref m20, .int s_signs, .ref m21, .int s_stacked, .ref m22, .int s_name, .int s_shift, .int s_statements, .int s_ifs, .int s_whiles, .int s_variants, .int s_open, .ref m23, .int s_isMade, .int s_conditions, .ref m24, .ref m25, .ref m26, .ref m27, .int s_kept, .ref m28, .int s_tops, .ref m29, .int s_used, .ref m30, .ref m31, .int s_looked, .int s_rows, .int s_firstRow, .ref m32, .ref m33, .ref m34, .ref m35, .ref m36, .ref m37, .ref m38, .ref m39, .ref m40, .int (nI (u 0)), .ref m41, .int s_atoms, .ref m42])), (m28, .inl (ax 0, 180000, .inl kp)), (m38, .inl (ax 0, 121, .inl xbd)), (m39, .inl (ax 3, 121, .inl xib))]) (ixn [(u_29 0)]) x_33 x_34) hP hD [1, 0, 2, 3] (by decide) rfl
                    have hex0 : tA8 br bd ib (fun v => atq8 (adc8 kp p1) tt9 r9 v) ((u_29 0)) x_33 x_34 := ((hTA.tr (hx_35.as (fun v => hB8_m (by assumption) (by first | exact Or.inl (by assumption) | exact Or.inr (by assumption) | exact absurd (show y5 = 5 by assumption) (by assumption)) (by rw [hn8, hm8.1])))).as (fun v => at8_w hy5 hx98 hy98))
                    have hsp0 : (u_29 0) ≤ 1 := (by first | assumption | omega)
                    exact W.vret hx hb hr (fun t ht hW => ⟨⟨ixn [(u_29 0)], rfl, hsp0, ⟨x_33, x_34, hex0, by rw [ht]; exact hP9, hD9⟩⟩, hS.F ht⟩) hS.2.2 d_Model_takeAtom_205
                  · refine lv_iload hx hb d_Model_takeAtom_191 (lv_at hl1 5 rfl) ?_
                    refine lv_ineg hx hb d_Model_takeAtom_193 ?_
                    refine lv_topi (fun z_36 ez_36 => ?_)
                    have hn8 : (z_36).toInt = -z7.toInt := by rw [ez_36]; exact i32_neg (by first | assumption | omega) (by first | assumption | omega)
                    refine lv_iconst (v := 1) hx hb d_Model_takeAtom_194 (by decide) ?_
                    refine lv_isub hx hb d_Model_takeAtom_195 ?_
                    refine lv_topi (fun z_37 ez_37 => ?_)
                    refine lv_goto (tgt := 202) hx hb d_Model_takeAtom_196 (by decide) ?_
                    have hcA : -50000 ≤ (z_37).toInt ∧ (z_37).toInt ≤ 50000 := by rw [ez_37, i32_sub (by rw [hn8]; omega) (by rw [hn8]; omega) (by decide) (by decide), i32_1, hn8]; omega
                    obtain ⟨hPc, hDc, hFc, hCs⟩ := xw_sub3 (wc := [(m0, .inr (11, [.int s_thrown, .int s_taped, .ref m1, .int s_size, .int s_outSize, .ref m2, .int s_kind, .int s_value, .int s_begin, .int s_end, .int s_failed, .ref m3, .ref m4, .ref m5, .int s_isProgram, .int s_half, .ref m6, .ref m7, .ref m8, .ref m9, .ref m10, .ref m11, .ref m12, .ref m13, .ref m14, .ref m15, .ref m16, .ref m17, .ref m18, .ref m19, .ref m20, .int s_signs, .ref m21, .int s_stacked, .ref m22, .int s_name, .int s_shift, .int s_statements, .int s_ifs, .int s_whiles, .int s_variants, .int s_open, .ref m23, .int s_isMade, .int s_conditions, .ref m24, .ref m25, .ref m26, .ref m27, .int s_kept, .ref m28, .int s_tops, .ref m29, .int s_used, .ref m30, .ref m31, .int s_looked, .int s_rows, .int s_firstRow, .ref m32, .ref m33, .ref m34, .ref m35, .ref m36, .ref m37, .ref m38, .ref m39, .ref m40, .int (nI br2), .ref m41, .int s_atoms, .ref m42])), (m38, .inl (ax 0, 121, .inl bd2)), (m39, .inl (ax 3, 121, .inl ib2))]) hP hD hS hA [0, 2, 3] (by decide) rfl
                    have hz := xz_of hN hS
                    refine va_callv (va_runV (As := [.int (nI y9), .int (nI x9), .int z_37]) (rest := []) ⟨hx, hb, hml, hown, hts⟩ (c_M_take l D ax m0 m1 m2 m3 m4 m5 m6 m7 m8 m9 m10 m11 m12 m13 m14 m15 m16 m17 m18 m19 m20 m21 m22 m23 m24 m25 m26 m27 m28 m29 m30 m31 m32 m33 m34 m35 m36 m37 m38 m39 m40 m41 m42 s_thrown s_taped s_size s_outSize s_kind s_value s_begin s_end s_failed s_isProgram s_half s_signs s_stacked s_name s_shift s_statements s_ifs s_whiles s_variants s_open s_isMade s_conditions s_kept s_tops s_used s_looked s_rows s_firstRow s_atoms br2 y9 x9 z_37 bd2 ib2 H.size (by first | assumption | omega) (by first | assumption | omega) (by first | assumption | omega) hTA.1 hcA) (xcV (n := 3) hts wd_1532 wd_15 wd_1529 wd_1531 ps_104 rfl rfl (by decide +kernel) ⟨Nat.le_of_ble_eq_true rfl, Nat.le_of_ble_eq_true rfl⟩) (xpV (ci := 11) (q0 := 0) (As := [.int (nI y9), .int (nI x9), .int z_37]) hPc hK hz hDc rfl rfl) rfl rfl hl1.1 rfl (lv_room (Nat.le_of_ble_eq_true rfl)) d_Model_takeAtom_202 ⟨Nat.le_of_ble_eq_true rfl, Nat.le_of_ble_eq_true rfl⟩) hS (fun q _ h => hFc q h) hFc (fun u_38 t H_39 locs ht hvm hw hB hz1 hk1 hS1 => ?_)
                    try dsimp only at hw
                    have hs_41 := hw
                    obtain ⟨x_42, x_43, hx_44, hP1, hD1⟩ := hB
                    rw [ht] at hP1
                    have hjn := xw_join3 (wl := [(m28, .inl (ax 0, 180000, .inl kp)), (m0, .inr (11, [.int s_thrown, .int s_taped, .ref m1, .int s_size, .int s_outSize, .ref m2, .int s_kind, .int s_value, .int s_begin, .int s_end, .int s_failed, .ref m3, .ref m4, .ref m5, .int s_isProgram, .int s_half, .ref m6, .ref m7, .ref m8, .ref m9, .ref m10, .ref m11, .ref m12, .ref m13, .ref m14, .ref m15, .ref m16, .ref m17, .ref m18, .ref m19, .ref m20, .int s_signs, .ref m21, .int s_stacked, .ref m22, .int s_name, .int s_shift, .int s_statements, .int s_ifs, .int s_whiles, .int s_variants, .int s_open, .ref m23, .int s_isMade, .int s_conditions, .ref m24, .ref m25, .ref m26, .ref m27, .int s_kept, .ref m28, .int s_tops, .ref m29, .int s_used, .ref m30, .ref m31, .int s_looked, .int s_rows, .int s_firstRow, .ref m32, .ref m33, .ref m34, .ref m35, .ref m36, .ref m37, .ref m38, .ref m39, .ref m40, .int (nI (u_38 0)), .ref m41, .int s_atoms, .ref m42])), (m38, .inl (ax 0, 121, .inl x_42)), (m39, .inl (ax 3, 121, .inl x_43))]) hP hD [0, 2, 3] [1] hCs (by decide) (by decide) hk1 hFc hP1 hD1 rfl
                    clear hP1 hD1
                    clear hPc hDc hFc hCs hz hz1 hk1 ht hvm
                    clear hP hD hS
                    have hS := hS1
                    obtain ⟨hP, hD⟩ := hjn
                    clear hS1
                    rw [← hQe]
                    obtain ⟨hP9, hD9⟩ := xw_sub2 (wc := (fun (u : Nat → Nat) (xbd : Nat → Int32) (xib : Nat → Int32) => [(m0, .inr (11, [.int s_thrown, .int s_taped, .ref m1, .int s_size, .int s_outSize, .ref m2, .int s_kind, .int s_value, .int s_begin, .int s_end, .int s_failed, .ref m3, .ref m4, .ref m5, .int s_isProgram, .int s_half, .ref m6, .ref m7, .ref m8, .ref m9, .ref m10, .ref m11, .ref m12, .ref m13, .ref m14, .ref m15, .ref m16, .ref m17, .ref m18, .ref m19, .ref m20, .int s_signs, .ref m21, .int s_stacked, .ref m22, .int s_name, .int s_shift, .int s_statements, .int s_ifs, .int s_whiles, .int s_variants, .int s_open, .ref m23, .int s_isMade, .int s_conditions, .ref m24, .ref m25, .ref m26, .ref m27, .int s_kept, .ref m28, .int s_tops, .ref m29, .int s_used, .ref m30, .ref m31, .int s_looked, .int s_rows, .int s_firstRow, .ref m32, .ref m33, .ref m34, .ref m35, .ref m36, .ref m37, .ref m38, .ref m39, .ref m40, .int (nI (u 0)), .ref m41, .int s_atoms, .ref m42])), (m28, .inl (ax 0, 180000, .inl kp)), (m38, .inl (ax 0, 121, .inl xbd)), (m39, .inl (ax 3, 121, .inl xib))]) (ixn [(u_38 0)]) x_42 x_43) hP hD [1, 0, 2, 3] (by decide) rfl
                    have hex0 : tA8 br bd ib (fun v => atq8 (adc8 kp p1) tt9 r9 v) ((u_38 0)) x_42 x_43 := ((hTA.tr (hx_44.as (fun v => hB8_l (by assumption) (by rw [ez_37, i32_sub (by rw [hn8]; omega) (by rw [hn8]; omega) (by decide) (by decide), i32_1, hn8, hm8.1])))).as (fun v => at8_w hy5 hx98 hy98))
                    have hsp0 : (u_38 0) ≤ 1 := (by first | assumption | omega)
                    exact W.vret hx hb hr (fun t ht hW => ⟨⟨ixn [(u_38 0)], rfl, hsp0, ⟨x_42, x_43, hex0, by rw [ht]; exact hP9, hD9⟩⟩, hS.F ht⟩) hS.2.2 d_Model_takeAtom_205
                · refine lv_iload hx hb d_Model_takeAtom_174 (lv_at hl1 2 rfl) ?_
                  refine lv_iconst (v := 2) hx hb d_Model_takeAtom_176 (by decide) ?_
                  refine lv_icmp_ne (tgt := 205) hx hb d_Model_takeAtom_177 (by decide) (fun c_45 => ?_) (fun c_45 => ?_)
                  · rw [← hQe]
                    obtain ⟨hP9, hD9⟩ := xw_sub2 (wc := (fun (u : Nat → Nat) (xbd : Nat → Int32) (xib : Nat → Int32) => [(m0, .inr (11, [.int s_thrown, .int s_taped, .ref m1, .int s_size, .int s_outSize, .ref m2, .int s_kind, .int s_value, .int s_begin, .int s_end, .int s_failed, .ref m3, .ref m4, .ref m5, .int s_isProgram, .int s_half, .ref m6, .ref m7, .ref m8, .ref m9, .ref m10, .ref m11, .ref m12, .ref m13, .ref m14, .ref m15, .ref m16, .ref m17, .ref m18, .ref m19, .ref m20, .int s_signs, .ref m21, .int s_stacked, .ref m22, .int s_name, .int s_shift, .int s_statements, .int s_ifs, .int s_whiles, .int s_variants, .int s_open, .ref m23, .int s_isMade, .int s_conditions, .ref m24, .ref m25, .ref m26, .ref m27, .int s_kept, .ref m28, .int s_tops, .ref m29, .int s_used, .ref m30, .ref m31, .int s_looked, .int s_rows, .int s_firstRow, .ref m32, .ref m33, .ref m34, .ref m35, .ref m36, .ref m37, .ref m38, .ref m39, .ref m40, .int (nI (u 0)), .ref m41, .int s_atoms, .ref m42])), (m28, .inl (ax 0, 180000, .inl kp)), (m38, .inl (ax 0, 121, .inl xbd)), (m39, .inl (ax 3, 121, .inl xib))]) (ixn [br2]) bd2 ib2) hP hD [0, 1, 2, 3] (by decide) rfl
                    have hex0 : tA8 br bd ib (fun v => atq8 (adc8 kp p1) tt9 r9 v) (br2) bd2 ib2 := ((hTA.tr (tA8_0 hTA.1 (hB8_n (by assumption) (by assumption) (by assumption)))).as (fun v => at8_w hy5 hx98 hy98))
                    have hsp0 : br2 ≤ 1 := (by first | assumption | omega)
                    exact W.vret hx hb hr (fun t ht hW => ⟨⟨ixn [br2], rfl, hsp0, ⟨bd2, ib2, hex0, by rw [ht]; exact hP9, hD9⟩⟩, hS.F ht⟩) hS.2.2 d_Model_takeAtom_205
                  · refine lv_aload_n hx hb d_Model_takeAtom_180 rfl (lv_at hl1 0 rfl) ?_
                    refine lv_iload hx hb d_Model_takeAtom_181 (lv_at hl1 4 rfl) ?_
                    refine lv_iload hx hb d_Model_takeAtom_183 (lv_at hl1 3 rfl) ?_
                    refine lv_iload hx hb d_Model_takeAtom_185 (lv_at hl1 2 rfl) ?_
                    refine lv_iconst (v := 5) hx hb d_Model_takeAtom_187 (by decide) ?_
                    refine lv_icmp_ne (tgt := 199) hx hb d_Model_takeAtom_188 (by decide) (fun c_46 => ?_) (fun c_46 => ?_)
                    · refine lv_iload hx hb d_Model_takeAtom_199 (lv_at hl1 5 rfl) ?_
                      refine lv_ineg hx hb d_Model_takeAtom_201 ?_
                      refine lv_topi (fun z_47 ez_47 => ?_)
                      have hn8 : (z_47).toInt = -z7.toInt := by rw [ez_47]; exact i32_neg (by first | assumption | omega) (by first | assumption | omega)
                      have hcA : -50000 ≤ (z_47).toInt ∧ (z_47).toInt ≤ 50000 := by rw [hn8]; omega
                      obtain ⟨hPc, hDc, hFc, hCs⟩ := xw_sub3 (wc := [(m0, .inr (11, [.int s_thrown, .int s_taped, .ref m1, .int s_size, .int s_outSize, .ref m2, .int s_kind, .int s_value, .int s_begin, .int s_end, .int s_failed, .ref m3, .ref m4, .ref m5, .int s_isProgram, .int s_half, .ref m6, .ref m7, .ref m8, .ref m9, .ref m10, .ref m11, .ref m12, .ref m13, .ref m14, .ref m15, .ref m16, .ref m17, .ref m18, .ref m19, .ref m20, .int s_signs, .ref m21, .int s_stacked, .ref m22, .int s_name, .int s_shift, .int s_statements, .int s_ifs, .int s_whiles, .int s_variants, .int s_open, .ref m23, .int s_isMade, .int s_conditions, .ref m24, .ref m25, .ref m26, .ref m27, .int s_kept, .ref m28, .int s_tops, .ref m29, .int s_used, .ref m30, .ref m31, .int s_looked, .int s_rows, .int s_firstRow, .ref m32, .ref m33, .ref m34, .ref m35, .ref m36, .ref m37, .ref m38, .ref m39, .ref m40, .int (nI br2), .ref m41, .int s_atoms, .ref m42])), (m38, .inl (ax 0, 121, .inl bd2)), (m39, .inl (ax 3, 121, .inl ib2))]) hP hD hS hA [0, 2, 3] (by decide) rfl
                      have hz := xz_of hN hS
                      refine va_callv (va_runV (As := [.int (nI y9), .int (nI x9), .int z_47]) (rest := []) ⟨hx, hb, hml, hown, hts⟩ (c_M_take l D ax m0 m1 m2 m3 m4 m5 m6 m7 m8 m9 m10 m11 m12 m13 m14 m15 m16 m17 m18 m19 m20 m21 m22 m23 m24 m25 m26 m27 m28 m29 m30 m31 m32 m33 m34 m35 m36 m37 m38 m39 m40 m41 m42 s_thrown s_taped s_size s_outSize s_kind s_value s_begin s_end s_failed s_isProgram s_half s_signs s_stacked s_name s_shift s_statements s_ifs s_whiles s_variants s_open s_isMade s_conditions s_kept s_tops s_used s_looked s_rows s_firstRow s_atoms br2 y9 x9 z_47 bd2 ib2 H.size (by first | assumption | omega) (by first | assumption | omega) (by first | assumption | omega) hTA.1 hcA) (xcV (n := 3) hts wd_1532 wd_15 wd_1529 wd_1531 ps_104 rfl rfl (by decide +kernel) ⟨Nat.le_of_ble_eq_true rfl, Nat.le_of_ble_eq_true rfl⟩) (xpV (ci := 11) (q0 := 0) (As := [.int (nI y9), .int (nI x9), .int z_47]) hPc hK hz hDc rfl rfl) rfl rfl hl1.1 rfl (lv_room (Nat.le_of_ble_eq_true rfl)) d_Model_takeAtom_202 ⟨Nat.le_of_ble_eq_true rfl, Nat.le_of_ble_eq_true rfl⟩) hS (fun q _ h => hFc q h) hFc (fun u_48 t H_49 locs ht hvm hw hB hz1 hk1 hS1 => ?_)
                      try dsimp only at hw
                      have hs_51 := hw
                      obtain ⟨x_52, x_53, hx_54, hP1, hD1⟩ := hB
                      rw [ht] at hP1
                      have hjn := xw_join3 (wl := [(m28, .inl (ax 0, 180000, .inl kp)), (m0, .inr (11, [.int s_thrown, .int s_taped, .ref m1, .int s_size, .int s_outSize, .ref m2, .int s_kind, .int s_value, .int s_begin, .int s_end, .int s_failed, .ref m3, .ref m4, .ref m5, .int s_isProgram, .int s_half, .ref m6, .ref m7, .ref m8, .ref m9, .ref m10, .ref m11, .ref m12, .ref m13, .ref m14, .ref m15, .ref m16, .ref m17, .ref m18, .ref m19, .ref m20, .int s_signs, .ref m21, .int s_stacked, .ref m22, .int s_name, .int s_shift, .int s_statements, .int s_ifs, .int s_whiles, .int s_variants, .int s_open, .ref m23, .int s_isMade, .int s_conditions, .ref m24, .ref m25, .ref m26, .ref m27, .int s_kept, .ref m28, .int s_tops, .ref m29, .int s_used, .ref m30, .ref m31, .int s_looked, .int s_rows, .int s_firstRow, .ref m32, .ref m33, .ref m34, .ref m35, .ref m36, .ref m37, .ref m38, .ref m39, .ref m40, .int (nI (u_48 0)), .ref m41, .int s_atoms, .ref m42])), (m38, .inl (ax 0, 121, .inl x_52)), (m39, .inl (ax 3, 121, .inl x_53))]) hP hD [0, 2, 3] [1] hCs (by decide) (by decide) hk1 hFc hP1 hD1 rfl
                      clear hP1 hD1
                      clear hPc hDc hFc hCs hz hz1 hk1 ht hvm
                      clear hP hD hS
                      have hS := hS1
                      obtain ⟨hP, hD⟩ := hjn
                      clear hS1
                      rw [← hQe]
                      obtain ⟨hP9, hD9⟩ := xw_sub2 (wc := (fun (u : Nat → Nat) (xbd : Nat → Int32) (xib : Nat → Int32) => [(m0, .inr (11, [.int s_thrown, .int s_taped, .ref m1, .int s_size, .int s_outSize, .ref m2, .int s_kind, .int s_value, .int s_begin, .int s_end, .int s_failed, .ref m3, .ref m4, .ref m5, .int s_isProgram, .int s_half, .ref m6, .ref m7, .ref m8, .ref m9, .ref m10, .ref m11, .ref m12, .ref m13, .ref m14, .ref m15, .ref m16, .ref m17, .ref m18, .ref m19, .ref m20, .int s_signs, .ref m21, .int s_stacked, .ref m22, .int s_name, .int s_shift, .int s_statements, .int s_ifs, .int s_whiles, .int s_variants, .int s_open, .ref m23, .int s_isMade, .int s_conditions, .ref m24, .ref m25, .ref m26, .ref m27, .int s_kept, .ref m28, .int s_tops, .ref m29, .int s_used, .ref m30, .ref m31, .int s_looked, .int s_rows, .int s_firstRow, .ref m32, .ref m33, .ref m34, .ref m35, .ref m36, .ref m37, .ref m38, .ref m39, .ref m40, .int (nI (u 0)), .ref m41, .int s_atoms, .ref m42])), (m28, .inl (ax 0, 180000, .inl kp)), (m38, .inl (ax 0, 121, .inl xbd)), (m39, .inl (ax 3, 121, .inl xib))]) (ixn [(u_48 0)]) x_52 x_53) hP hD [1, 0, 2, 3] (by decide) rfl
                      have hex0 : tA8 br bd ib (fun v => atq8 (adc8 kp p1) tt9 r9 v) ((u_48 0)) x_52 x_53 := ((hTA.tr (hx_54.as (fun v => hB8_m (by assumption) (by first | exact Or.inl (by assumption) | exact Or.inr (by assumption) | exact absurd (show y5 = 5 by assumption) (by assumption)) (by rw [hn8, hm8.1])))).as (fun v => at8_w hy5 hx98 hy98))
                      have hsp0 : (u_48 0) ≤ 1 := (by first | assumption | omega)
                      exact W.vret hx hb hr (fun t ht hW => ⟨⟨ixn [(u_48 0)], rfl, hsp0, ⟨x_52, x_53, hex0, by rw [ht]; exact hP9, hD9⟩⟩, hS.F ht⟩) hS.2.2 d_Model_takeAtom_205
                    · refine lv_iload hx hb d_Model_takeAtom_191 (lv_at hl1 5 rfl) ?_
                      refine lv_ineg hx hb d_Model_takeAtom_193 ?_
                      refine lv_topi (fun z_55 ez_55 => ?_)
                      have hn8 : (z_55).toInt = -z7.toInt := by rw [ez_55]; exact i32_neg (by first | assumption | omega) (by first | assumption | omega)
                      refine lv_iconst (v := 1) hx hb d_Model_takeAtom_194 (by decide) ?_
                      refine lv_isub hx hb d_Model_takeAtom_195 ?_
                      refine lv_topi (fun z_56 ez_56 => ?_)
                      refine lv_goto (tgt := 202) hx hb d_Model_takeAtom_196 (by decide) ?_
                      have hcA : -50000 ≤ (z_56).toInt ∧ (z_56).toInt ≤ 50000 := by rw [ez_56, i32_sub (by rw [hn8]; omega) (by rw [hn8]; omega) (by decide) (by decide), i32_1, hn8]; omega
                      obtain ⟨hPc, hDc, hFc, hCs⟩ := xw_sub3 (wc := [(m0, .inr (11, [.int s_thrown, .int s_taped, .ref m1, .int s_size, .int s_outSize, .ref m2, .int s_kind, .int s_value, .int s_begin, .int s_end, .int s_failed, .ref m3, .ref m4, .ref m5, .int s_isProgram, .int s_half, .ref m6, .ref m7, .ref m8, .ref m9, .ref m10, .ref m11, .ref m12, .ref m13, .ref m14, .ref m15, .ref m16, .ref m17, .ref m18, .ref m19, .ref m20, .int s_signs, .ref m21, .int s_stacked, .ref m22, .int s_name, .int s_shift, .int s_statements, .int s_ifs, .int s_whiles, .int s_variants, .int s_open, .ref m23, .int s_isMade, .int s_conditions, .ref m24, .ref m25, .ref m26, .ref m27, .int s_kept, .ref m28, .int s_tops, .ref m29, .int s_used, .ref m30, .ref m31, .int s_looked, .int s_rows, .int s_firstRow, .ref m32, .ref m33, .ref m34, .ref m35, .ref m36, .ref m37, .ref m38, .ref m39, .ref m40, .int (nI br2), .ref m41, .int s_atoms, .ref m42])), (m38, .inl (ax 0, 121, .inl bd2)), (m39, .inl (ax 3, 121, .inl ib2))]) hP hD hS hA [0, 2, 3] (by decide) rfl
                      have hz := xz_of hN hS
                      refine va_callv (va_runV (As := [.int (nI y9), .int (nI x9), .int z_56]) (rest := []) ⟨hx, hb, hml, hown, hts⟩ (c_M_take l D ax m0 m1 m2 m3 m4 m5 m6 m7 m8 m9 m10 m11 m12 m13 m14 m15 m16 m17 m18 m19 m20 m21 m22 m23 m24 m25 m26 m27 m28 m29 m30 m31 m32 m33 m34 m35 m36 m37 m38 m39 m40 m41 m42 s_thrown s_taped s_size s_outSize s_kind s_value s_begin s_end s_failed s_isProgram s_half s_signs s_stacked s_name s_shift s_statements s_ifs s_whiles s_variants s_open s_isMade s_conditions s_kept s_tops s_used s_looked s_rows s_firstRow s_atoms br2 y9 x9 z_56 bd2 ib2 H.size (by first | assumption | omega) (by first | assumption | omega) (by first | assumption | omega) hTA.1 hcA) (xcV (n := 3) hts wd_1532 wd_15 wd_1529 wd_1531 ps_104 rfl rfl (by decide +kernel) ⟨Nat.le_of_ble_eq_true rfl, Nat.le_of_ble_eq_true rfl⟩) (xpV (ci := 11) (q0 := 0) (As := [.int (nI y9), .int (nI x9), .int z_56]) hPc hK hz hDc rfl rfl) rfl rfl hl1.1 rfl (lv_room (Nat.le_of_ble_eq_true rfl)) d_Model_takeAtom_202 ⟨Nat.le_of_ble_eq_true rfl, Nat.le_of_ble_eq_true rfl⟩) hS (fun q _ h => hFc q h) hFc (fun u_57 t H_58 locs ht hvm hw hB hz1 hk1 hS1 => ?_)
                      try dsimp only at hw
                      have hs_60 := hw
                      obtain ⟨x_61, x_62, hx_63, hP1, hD1⟩ := hB
                      rw [ht] at hP1
                      have hjn := xw_join3 (wl := [(m28, .inl (ax 0, 180000, .inl kp)), (m0, .inr (11, [.int s_thrown, .int s_taped, .ref m1, .int s_size, .int s_outSize, .ref m2, .int s_kind, .int s_value, .int s_begin, .int s_end, .int s_failed, .ref m3, .ref m4, .ref m5, .int s_isProgram, .int s_half, .ref m6, .ref m7, .ref m8, .ref m9, .ref m10, .ref m11, .ref m12, .ref m13, .ref m14, .ref m15, .ref m16, .ref m17, .ref m18, .ref m19, .ref m20, .int s_signs, .ref m21, .int s_stacked, .ref m22, .int s_name, .int s_shift, .int s_statements, .int s_ifs, .int s_whiles, .int s_variants, .int s_open, .ref m23, .int s_isMade, .int s_conditions, .ref m24, .ref m25, .ref m26, .ref m27, .int s_kept, .ref m28, .int s_tops, .ref m29, .int s_used, .ref m30, .ref m31, .int s_looked, .int s_rows, .int s_firstRow, .ref m32, .ref m33, .ref m34, .ref m35, .ref m36, .ref m37, .ref m38, .ref m39, .ref m40, .int (nI (u_57 0)), .ref m41, .int s_atoms, .ref m42])), (m38, .inl (ax 0, 121, .inl x_61)), (m39, .inl (ax 3, 121, .inl x_62))]) hP hD [0, 2, 3] [1] hCs (by decide) (by decide) hk1 hFc hP1 hD1 rfl
                      clear hP1 hD1
                      clear hPc hDc hFc hCs hz hz1 hk1 ht hvm
                      clear hP hD hS
                      have hS := hS1
                      obtain ⟨hP, hD⟩ := hjn
                      clear hS1
                      rw [← hQe]
                      obtain ⟨hP9, hD9⟩ := xw_sub2 (wc := (fun (u : Nat → Nat) (xbd : Nat → Int32) (xib : Nat → Int32) => [(m0, .inr (11, [.int s_thrown, .int s_taped, .ref m1, .int s_size, .int s_outSize, .ref m2, .int s_kind, .int s_value, .int s_begin, .int s_end, .int s_failed, .ref m3, .ref m4, .ref m5, .int s_isProgram, .int s_half, .ref m6, .ref m7, .ref m8, .ref m9, .ref m10, .ref m11, .ref m12, .ref m13, .ref m14, .ref m15, .ref m16, .ref m17, .ref m18, .ref m19, .ref m20, .int s_signs, .ref m21, .int s_stacked, .ref m22, .int s_name, .int s_shift, .int s_statements, .int s_ifs, .int s_whiles, .int s_variants, .int s_open, .ref m23, .int s_isMade, .int s_conditions, .ref m24, .ref m25, .ref m26, .ref m27, .int s_kept, .ref m28, .int s_tops, .ref m29, .int s_used, .ref m30, .ref m31, .int s_looked, .int s_rows, .int s_firstRow, .ref m32, .ref m33, .ref m34, .ref m35, .ref m36, .ref m37, .ref m38, .ref m39, .ref m40, .int (nI (u 0)), .ref m41, .int s_atoms, .ref m42])), (m28, .inl (ax 0, 180000, .inl kp)), (m38, .inl (ax 0, 121, .inl xbd)), (m39, .inl (ax 3, 121, .inl xib))]) (ixn [(u_57 0)]) x_61 x_62) hP hD [1, 0, 2, 3] (by decide) rfl
                      have hex0 : tA8 br bd ib (fun v => atq8 (adc8 kp p1) tt9 r9 v) ((u_57 0)) x_61 x_62 := ((hTA.tr (hx_63.as (fun v => hB8_l (by assumption) (by rw [ez_56, i32_sub (by rw [hn8]; omega) (by rw [hn8]; omega) (by decide) (by decide), i32_1, hn8, hm8.1])))).as (fun v => at8_w hy5 hx98 hy98))
                      have hsp0 : (u_57 0) ≤ 1 := (by first | assumption | omega)
                      exact W.vret hx hb hr (fun t ht hW => ⟨⟨ixn [(u_57 0)], rfl, hsp0, ⟨x_61, x_62, hex0, by rw [ht]; exact hP9, hD9⟩⟩, hS.F ht⟩) hS.2.2 d_Model_takeAtom_205
            refine lv_iload hx hb d_Model_takeAtom_123 (lv_at hl1 2 rfl) ?_
            have hm8 := hb8.m hz78
            refine lv_if_eq (tgt := 140) hx hb d_Model_takeAtom_125 (by decide) (fun c_64 => ?_) (fun c_64 => ?_)
            · refine lv_aload_n hx hb d_Model_takeAtom_140 rfl (lv_at hl1 0 rfl) ?_
              refine lv_iload hx hb d_Model_takeAtom_141 (lv_at hl1 3 rfl) ?_
              refine lv_iload hx hb d_Model_takeAtom_143 (lv_at hl1 4 rfl) ?_
              refine lv_iload hx hb d_Model_takeAtom_145 (lv_at hl1 2 rfl) ?_
              refine lv_if_ne (tgt := 157) hx hb d_Model_takeAtom_147 (by decide) (fun c_65 => ?_) (fun c_65 => ?_)
              · refine lv_iload hx hb d_Model_takeAtom_157 (lv_at hl1 5 rfl) ?_
                have hcA : -50000 ≤ (z7).toInt ∧ (z7).toInt ≤ 50000 := by omega
                obtain ⟨hPc, hDc, hFc, hCs⟩ := xw_sub3 (wc := [(m0, .inr (11, [.int s_thrown, .int s_taped, .ref m1, .int s_size, .int s_outSize, .ref m2, .int s_kind, .int s_value, .int s_begin, .int s_end, .int s_failed, .ref m3, .ref m4, .ref m5, .int s_isProgram, .int s_half, .ref m6, .ref m7, .ref m8, .ref m9, .ref m10, .ref m11, .ref m12, .ref m13, .ref m14, .ref m15, .ref m16, .ref m17, .ref m18, .ref m19, .ref m20, .int s_signs, .ref m21, .int s_stacked, .ref m22, .int s_name, .int s_shift, .int s_statements, .int s_ifs, .int s_whiles, .int s_variants, .int s_open, .ref m23, .int s_isMade, .int s_conditions, .ref m24, .ref m25, .ref m26, .ref m27, .int s_kept, .ref m28, .int s_tops, .ref m29, .int s_used, .ref m30, .ref m31, .int s_looked, .int s_rows, .int s_firstRow, .ref m32, .ref m33, .ref m34, .ref m35, .ref m36, .ref m37, .ref m38, .ref m39, .ref m40, .int (nI br), .ref m41, .int s_atoms, .ref m42])), (m38, .inl (ax 0, 121, .inl bd)), (m39, .inl (ax 3, 121, .inl ib))]) hP hD hS hA [0, 2, 3] (by decide) rfl
                have hz := xz_of hN hS
                refine va_callv (va_runV (As := [.int (nI x9), .int (nI y9), .int z7]) (rest := []) ⟨hx, hb, hml, hown, hts⟩ (c_M_take l D ax m0 m1 m2 m3 m4 m5 m6 m7 m8 m9 m10 m11 m12 m13 m14 m15 m16 m17 m18 m19 m20 m21 m22 m23 m24 m25 m26 m27 m28 m29 m30 m31 m32 m33 m34 m35 m36 m37 m38 m39 m40 m41 m42 s_thrown s_taped s_size s_outSize s_kind s_value s_begin s_end s_failed s_isProgram s_half s_signs s_stacked s_name s_shift s_statements s_ifs s_whiles s_variants s_open s_isMade s_conditions s_kept s_tops s_used s_looked s_rows s_firstRow s_atoms br x9 y9 z7 bd ib H.size (by first | assumption | omega) (by first | assumption | omega) (by first | assumption | omega) hW8 hcA) (xcV (n := 3) hts wd_1532 wd_15 wd_1529 wd_1531 ps_104 rfl rfl (by decide +kernel) ⟨Nat.le_of_ble_eq_true rfl, Nat.le_of_ble_eq_true rfl⟩) (xpV (ci := 11) (q0 := 0) (As := [.int (nI x9), .int (nI y9), .int z7]) hPc hK hz hDc rfl rfl) rfl rfl hl1.1 rfl (lv_room (Nat.le_of_ble_eq_true rfl)) d_Model_takeAtom_159 ⟨Nat.le_of_ble_eq_true rfl, Nat.le_of_ble_eq_true rfl⟩) hS (fun q _ h => hFc q h) hFc (fun u_66 t H_67 locs ht hvm hw hB hz1 hk1 hS1 => ?_)
                try dsimp only at hw
                have hs_69 := hw
                obtain ⟨x_70, x_71, hx_72, hP1, hD1⟩ := hB
                rw [ht] at hP1
                have hjn := xw_join3 (wl := [(m28, .inl (ax 0, 180000, .inl kp)), (m0, .inr (11, [.int s_thrown, .int s_taped, .ref m1, .int s_size, .int s_outSize, .ref m2, .int s_kind, .int s_value, .int s_begin, .int s_end, .int s_failed, .ref m3, .ref m4, .ref m5, .int s_isProgram, .int s_half, .ref m6, .ref m7, .ref m8, .ref m9, .ref m10, .ref m11, .ref m12, .ref m13, .ref m14, .ref m15, .ref m16, .ref m17, .ref m18, .ref m19, .ref m20, .int s_signs, .ref m21, .int s_stacked, .ref m22, .int s_name, .int s_shift, .int s_statements, .int s_ifs, .int s_whiles, .int s_variants, .int s_open, .ref m23, .int s_isMade, .int s_conditions, .ref m24, .ref m25, .ref m26, .ref m27, .int s_kept, .ref m28, .int s_tops, .ref m29, .int s_used, .ref m30, .ref m31, .int s_looked, .int s_rows, .int s_firstRow, .ref m32, .ref m33, .ref m34, .ref m35, .ref m36, .ref m37, .ref m38, .ref m39, .ref m40, .int (nI (u_66 0)), .ref m41, .int s_atoms, .ref m42])), (m38, .inl (ax 0, 121, .inl x_70)), (m39, .inl (ax 3, 121, .inl x_71))]) hP hD [0, 2, 3] [1] hCs (by decide) (by decide) hk1 hFc hP1 hD1 rfl
                clear hP1 hD1
                clear hPc hDc hFc hCs hz hz1 hk1 ht hvm
                clear hP hD hS
                have hS := hS1
                obtain ⟨hP, hD⟩ := hjn
                clear hS1
                exact jn_6 (u_66 0) x_70 x_71 (by first | assumption | omega) (hx_72.as (fun v => hA8_m (by assumption) (by first | exact Or.inl (by assumption) | exact Or.inr (by assumption) | exact absurd (show y5 = 0 by assumption) (by assumption)) hm8.1)) _ _ _ (hP.sub [1, 0, 2, 3] rfl) (hD.sub [1, 0, 2, 3] (by decide) rfl) hS (lv_sub hl1 [0, 1, 2, 3, 4, 5] rfl)
              · refine lv_iload hx hb d_Model_takeAtom_150 (lv_at hl1 5 rfl) ?_
                refine lv_iconst (v := 1) hx hb d_Model_takeAtom_152 (by decide) ?_
                refine lv_isub hx hb d_Model_takeAtom_153 ?_
                refine lv_topi (fun z_73 ez_73 => ?_)
                refine lv_goto (tgt := 159) hx hb d_Model_takeAtom_154 (by decide) ?_
                have hcA : -50000 ≤ (z_73).toInt ∧ (z_73).toInt ≤ 50000 := by rw [ez_73, i32_sub (by first | assumption | omega) (by first | assumption | omega) (by decide) (by decide), i32_1]; omega
                obtain ⟨hPc, hDc, hFc, hCs⟩ := xw_sub3 (wc := [(m0, .inr (11, [.int s_thrown, .int s_taped, .ref m1, .int s_size, .int s_outSize, .ref m2, .int s_kind, .int s_value, .int s_begin, .int s_end, .int s_failed, .ref m3, .ref m4, .ref m5, .int s_isProgram, .int s_half, .ref m6, .ref m7, .ref m8, .ref m9, .ref m10, .ref m11, .ref m12, .ref m13, .ref m14, .ref m15, .ref m16, .ref m17, .ref m18, .ref m19, .ref m20, .int s_signs, .ref m21, .int s_stacked, .ref m22, .int s_name, .int s_shift, .int s_statements, .int s_ifs, .int s_whiles, .int s_variants, .int s_open, .ref m23, .int s_isMade, .int s_conditions, .ref m24, .ref m25, .ref m26, .ref m27, .int s_kept, .ref m28, .int s_tops, .ref m29, .int s_used, .ref m30, .ref m31, .int s_looked, .int s_rows, .int s_firstRow, .ref m32, .ref m33, .ref m34, .ref m35, .ref m36, .ref m37, .ref m38, .ref m39, .ref m40, .int (nI br), .ref m41, .int s_atoms, .ref m42])), (m38, .inl (ax 0, 121, .inl bd)), (m39, .inl (ax 3, 121, .inl ib))]) hP hD hS hA [0, 2, 3] (by decide) rfl
                have hz := xz_of hN hS
                refine va_callv (va_runV (As := [.int (nI x9), .int (nI y9), .int z_73]) (rest := []) ⟨hx, hb, hml, hown, hts⟩ (c_M_take l D ax m0 m1 m2 m3 m4 m5 m6 m7 m8 m9 m10 m11 m12 m13 m14 m15 m16 m17 m18 m19 m20 m21 m22 m23 m24 m25 m26 m27 m28 m29 m30 m31 m32 m33 m34 m35 m36 m37 m38 m39 m40 m41 m42 s_thrown s_taped s_size s_outSize s_kind s_value s_begin s_end s_failed s_isProgram s_half s_signs s_stacked s_name s_shift s_statements s_ifs s_whiles s_variants s_open s_isMade s_conditions s_kept s_tops s_used s_looked s_rows s_firstRow s_atoms br x9 y9 z_73 bd ib H.size (by first | assumption | omega) (by first | assumption | omega) (by first | assumption | omega) hW8 hcA) (xcV (n := 3) hts wd_1532 wd_15 wd_1529 wd_1531 ps_104 rfl rfl (by decide +kernel) ⟨Nat.le_of_ble_eq_true rfl, Nat.le_of_ble_eq_true rfl⟩) (xpV (ci := 11) (q0 := 0) (As := [.int (nI x9), .int (nI y9), .int z_73]) hPc hK hz hDc rfl rfl) rfl rfl hl1.1 rfl (lv_room (Nat.le_of_ble_eq_true rfl)) d_Model_takeAtom_159 ⟨Nat.le_of_ble_eq_true rfl, Nat.le_of_ble_eq_true rfl⟩) hS (fun q _ h => hFc q h) hFc (fun u_74 t H_75 locs ht hvm hw hB hz1 hk1 hS1 => ?_)
                try dsimp only at hw
                have hs_77 := hw
                obtain ⟨x_78, x_79, hx_80, hP1, hD1⟩ := hB
                rw [ht] at hP1
                have hjn := xw_join3 (wl := [(m28, .inl (ax 0, 180000, .inl kp)), (m0, .inr (11, [.int s_thrown, .int s_taped, .ref m1, .int s_size, .int s_outSize, .ref m2, .int s_kind, .int s_value, .int s_begin, .int s_end, .int s_failed, .ref m3, .ref m4, .ref m5, .int s_isProgram, .int s_half, .ref m6, .ref m7, .ref m8, .ref m9, .ref m10, .ref m11, .ref m12, .ref m13, .ref m14, .ref m15, .ref m16, .ref m17, .ref m18, .ref m19, .ref m20, .int s_signs, .ref m21, .int s_stacked, .ref m22, .int s_name, .int s_shift, .int s_statements, .int s_ifs, .int s_whiles, .int s_variants, .int s_open, .ref m23, .int s_isMade, .int s_conditions, .ref m24, .ref m25, .ref m26, .ref m27, .int s_kept, .ref m28, .int s_tops, .ref m29, .int s_used, .ref m30, .ref m31, .int s_looked, .int s_rows, .int s_firstRow, .ref m32, .ref m33, .ref m34, .ref m35, .ref m36, .ref m37, .ref m38, .ref m39, .ref m40, .int (nI (u_74 0)), .ref m41, .int s_atoms, .ref m42])), (m38, .inl (ax 0, 121, .inl x_78)), (m39, .inl (ax 3, 121, .inl x_79))]) hP hD [0, 2, 3] [1] hCs (by decide) (by decide) hk1 hFc hP1 hD1 rfl
                clear hP1 hD1
                clear hPc hDc hFc hCs hz hz1 hk1 ht hvm
                clear hP hD hS
                have hS := hS1
                obtain ⟨hP, hD⟩ := hjn
                clear hS1
                exact jn_6 (u_74 0) x_78 x_79 (by first | assumption | omega) (hx_80.as (fun v => hA8_l (by assumption) (by rw [ez_73, i32_sub (by first | assumption | omega) (by first | assumption | omega) (by decide) (by decide), i32_1, hm8.1]))) _ _ _ (hP.sub [1, 0, 2, 3] rfl) (hD.sub [1, 0, 2, 3] (by decide) rfl) hS (lv_sub hl1 [0, 1, 2, 3, 4, 5] rfl)
            · refine lv_iload hx hb d_Model_takeAtom_128 (lv_at hl1 2 rfl) ?_
              refine lv_iconst (v := 1) hx hb d_Model_takeAtom_130 (by decide) ?_
              refine lv_icmp_eq (tgt := 140) hx hb d_Model_takeAtom_131 (by decide) (fun c_81 => ?_) (fun c_81 => ?_)
              · refine lv_aload_n hx hb d_Model_takeAtom_140 rfl (lv_at hl1 0 rfl) ?_
                refine lv_iload hx hb d_Model_takeAtom_141 (lv_at hl1 3 rfl) ?_
                refine lv_iload hx hb d_Model_takeAtom_143 (lv_at hl1 4 rfl) ?_
                refine lv_iload hx hb d_Model_takeAtom_145 (lv_at hl1 2 rfl) ?_
                refine lv_if_ne (tgt := 157) hx hb d_Model_takeAtom_147 (by decide) (fun c_82 => ?_) (fun c_82 => ?_)
                · refine lv_iload hx hb d_Model_takeAtom_157 (lv_at hl1 5 rfl) ?_
                  have hcA : -50000 ≤ (z7).toInt ∧ (z7).toInt ≤ 50000 := by omega
                  obtain ⟨hPc, hDc, hFc, hCs⟩ := xw_sub3 (wc := [(m0, .inr (11, [.int s_thrown, .int s_taped, .ref m1, .int s_size, .int s_outSize, .ref m2, .int s_kind, .int s_value, .int s_begin, .int s_end, .int s_failed, .ref m3, .ref m4, .ref m5, .int s_isProgram, .int s_half, .ref m6, .ref m7, .ref m8, .ref m9, .ref m10, .ref m11, .ref m12, .ref m13, .ref m14, .ref m15, .ref m16, .ref m17, .ref m18, .ref m19, .ref m20, .int s_signs, .ref m21, .int s_stacked, .ref m22, .int s_name, .int s_shift, .int s_statements, .int s_ifs, .int s_whiles, .int s_variants, .int s_open, .ref m23, .int s_isMade, .int s_conditions, .ref m24, .ref m25, .ref m26, .ref m27, .int s_kept, .ref m28, .int s_tops, .ref m29, .int s_used, .ref m30, .ref m31, .int s_looked, .int s_rows, .int s_firstRow, .ref m32, .ref m33, .ref m34, .ref m35, .ref m36, .ref m37, .ref m38, .ref m39, .ref m40, .int (nI br), .ref m41, .int s_atoms, .ref m42])), (m38, .inl (ax 0, 121, .inl bd)), (m39, .inl (ax 3, 121, .inl ib))]) hP hD hS hA [0, 2, 3] (by decide) rfl
                  have hz := xz_of hN hS
                  refine va_callv (va_runV (As := [.int (nI x9), .int (nI y9), .int z7]) (rest := []) ⟨hx, hb, hml, hown, hts⟩ (c_M_take l D ax m0 m1 m2 m3 m4 m5 m6 m7 m8 m9 m10 m11 m12 m13 m14 m15 m16 m17 m18 m19 m20 m21 m22 m23 m24 m25 m26 m27 m28 m29 m30 m31 m32 m33 m34 m35 m36 m37 m38 m39 m40 m41 m42 s_thrown s_taped s_size s_outSize s_kind s_value s_begin s_end s_failed s_isProgram s_half s_signs s_stacked s_name s_shift s_statements s_ifs s_whiles s_variants s_open s_isMade s_conditions s_kept s_tops s_used s_looked s_rows s_firstRow s_atoms br x9 y9 z7 bd ib H.size (by first | assumption | omega) (by first | assumption | omega) (by first | assumption | omega) hW8 hcA) (xcV (n := 3) hts wd_1532 wd_15 wd_1529 wd_1531 ps_104 rfl rfl (by decide +kernel) ⟨Nat.le_of_ble_eq_true rfl, Nat.le_of_ble_eq_true rfl⟩) (xpV (ci := 11) (q0 := 0) (As := [.int (nI x9), .int (nI y9), .int z7]) hPc hK hz hDc rfl rfl) rfl rfl hl1.1 rfl (lv_room (Nat.le_of_ble_eq_true rfl)) d_Model_takeAtom_159 ⟨Nat.le_of_ble_eq_true rfl, Nat.le_of_ble_eq_true rfl⟩) hS (fun q _ h => hFc q h) hFc (fun u_83 t H_84 locs ht hvm hw hB hz1 hk1 hS1 => ?_)
                  try dsimp only at hw
                  have hs_86 := hw
                  obtain ⟨x_87, x_88, hx_89, hP1, hD1⟩ := hB
                  rw [ht] at hP1
                  have hjn := xw_join3 (wl := [(m28, .inl (ax 0, 180000, .inl kp)), (m0, .inr (11, [.int s_thrown, .int s_taped, .ref m1, .int s_size, .int s_outSize, .ref m2, .int s_kind, .int s_value, .int s_begin, .int s_end, .int s_failed, .ref m3, .ref m4, .ref m5, .int s_isProgram, .int s_half, .ref m6, .ref m7, .ref m8, .ref m9, .ref m10, .ref m11, .ref m12, .ref m13, .ref m14, .ref m15, .ref m16, .ref m17, .ref m18, .ref m19, .ref m20, .int s_signs, .ref m21, .int s_stacked, .ref m22, .int s_name, .int s_shift, .int s_statements, .int s_ifs, .int s_whiles, .int s_variants, .int s_open, .ref m23, .int s_isMade, .int s_conditions, .ref m24, .ref m25, .ref m26, .ref m27, .int s_kept, .ref m28, .int s_tops, .ref m29, .int s_used, .ref m30, .ref m31, .int s_looked, .int s_rows, .int s_firstRow, .ref m32, .ref m33, .ref m34, .ref m35, .ref m36, .ref m37, .ref m38, .ref m39, .ref m40, .int (nI (u_83 0)), .ref m41, .int s_atoms, .ref m42])), (m38, .inl (ax 0, 121, .inl x_87)), (m39, .inl (ax 3, 121, .inl x_88))]) hP hD [0, 2, 3] [1] hCs (by decide) (by decide) hk1 hFc hP1 hD1 rfl
                  clear hP1 hD1
                  clear hPc hDc hFc hCs hz hz1 hk1 ht hvm
                  clear hP hD hS
                  have hS := hS1
                  obtain ⟨hP, hD⟩ := hjn
                  clear hS1
                  exact jn_6 (u_83 0) x_87 x_88 (by first | assumption | omega) (hx_89.as (fun v => hA8_m (by assumption) (by first | exact Or.inl (by assumption) | exact Or.inr (by assumption) | exact absurd (show y5 = 0 by assumption) (by assumption)) hm8.1)) _ _ _ (hP.sub [1, 0, 2, 3] rfl) (hD.sub [1, 0, 2, 3] (by decide) rfl) hS (lv_sub hl1 [0, 1, 2, 3, 4, 5] rfl)
                · refine lv_iload hx hb d_Model_takeAtom_150 (lv_at hl1 5 rfl) ?_
                  refine lv_iconst (v := 1) hx hb d_Model_takeAtom_152 (by decide) ?_
                  refine lv_isub hx hb d_Model_takeAtom_153 ?_
                  refine lv_topi (fun z_90 ez_90 => ?_)
                  refine lv_goto (tgt := 159) hx hb d_Model_takeAtom_154 (by decide) ?_
                  have hcA : -50000 ≤ (z_90).toInt ∧ (z_90).toInt ≤ 50000 := by rw [ez_90, i32_sub (by first | assumption | omega) (by first | assumption | omega) (by decide) (by decide), i32_1]; omega
                  obtain ⟨hPc, hDc, hFc, hCs⟩ := xw_sub3 (wc := [(m0, .inr (11, [.int s_thrown, .int s_taped, .ref m1, .int s_size, .int s_outSize, .ref m2, .int s_kind, .int s_value, .int s_begin, .int s_end, .int s_failed, .ref m3, .ref m4, .ref m5, .int s_isProgram, .int s_half, .ref m6, .ref m7, .ref m8, .ref m9, .ref m10, .ref m11, .ref m12, .ref m13, .ref m14, .ref m15, .ref m16, .ref m17, .ref m18, .ref m19, .ref m20, .int s_signs, .ref m21, .int s_stacked, .ref m22, .int s_name, .int s_shift, .int s_statements, .int s_ifs, .int s_whiles, .int s_variants, .int s_open, .ref m23, .int s_isMade, .int s_conditions, .ref m24, .ref m25, .ref m26, .ref m27, .int s_kept, .ref m28, .int s_tops, .ref m29, .int s_used, .ref m30, .ref m31, .int s_looked, .int s_rows, .int s_firstRow, .ref m32, .ref m33, .ref m34, .ref m35, .ref m36, .ref m37, .ref m38, .ref m39, .ref m40, .int (nI br), .ref m41, .int s_atoms, .ref m42])), (m38, .inl (ax 0, 121, .inl bd)), (m39, .inl (ax 3, 121, .inl ib))]) hP hD hS hA [0, 2, 3] (by decide) rfl
                  have hz := xz_of hN hS
                  refine va_callv (va_runV (As := [.int (nI x9), .int (nI y9), .int z_90]) (rest := []) ⟨hx, hb, hml, hown, hts⟩ (c_M_take l D ax m0 m1 m2 m3 m4 m5 m6 m7 m8 m9 m10 m11 m12 m13 m14 m15 m16 m17 m18 m19 m20 m21 m22 m23 m24 m25 m26 m27 m28 m29 m30 m31 m32 m33 m34 m35 m36 m37 m38 m39 m40 m41 m42 s_thrown s_taped s_size s_outSize s_kind s_value s_begin s_end s_failed s_isProgram s_half s_signs s_stacked s_name s_shift s_statements s_ifs s_whiles s_variants s_open s_isMade s_conditions s_kept s_tops s_used s_looked s_rows s_firstRow s_atoms br x9 y9 z_90 bd ib H.size (by first | assumption | omega) (by first | assumption | omega) (by first | assumption | omega) hW8 hcA) (xcV (n := 3) hts wd_1532 wd_15 wd_1529 wd_1531 ps_104 rfl rfl (by decide +kernel) ⟨Nat.le_of_ble_eq_true rfl, Nat.le_of_ble_eq_true rfl⟩) (xpV (ci := 11) (q0 := 0) (As := [.int (nI x9), .int (nI y9), .int z_90]) hPc hK hz hDc rfl rfl) rfl rfl hl1.1 rfl (lv_room (Nat.le_of_ble_eq_true rfl)) d_Model_takeAtom_159 ⟨Nat.le_of_ble_eq_true rfl, Nat.le_of_ble_eq_true rfl⟩) hS (fun q _ h => hFc q h) hFc (fun u_91 t H_92 locs ht hvm hw hB hz1 hk1 hS1 => ?_)
                  try dsimp only at hw
                  have hs_94 := hw
                  obtain ⟨x_95, x_96, hx_97, hP1, hD1⟩ := hB
                  rw [ht] at hP1
                  have hjn := xw_join3 (wl := [(m28, .inl (ax 0, 180000, .inl kp)), (m0, .inr (11, [.int s_thrown, .int s_taped, .ref m1, .int s_size, .int s_outSize, .ref m2, .int s_kind, .int s_value, .int s_begin, .int s_end, .int s_failed, .ref m3, .ref m4, .ref m5, .int s_isProgram, .int s_half, .ref m6, .ref m7, .ref m8, .ref m9, .ref m10, .ref m11, .ref m12, .ref m13, .ref m14, .ref m15, .ref m16, .ref m17, .ref m18, .ref m19, .ref m20, .int s_signs, .ref m21, .int s_stacked, .ref m22, .int s_name, .int s_shift, .int s_statements, .int s_ifs, .int s_whiles, .int s_variants, .int s_open, .ref m23, .int s_isMade, .int s_conditions, .ref m24, .ref m25, .ref m26, .ref m27, .int s_kept, .ref m28, .int s_tops, .ref m29, .int s_used, .ref m30, .ref m31, .int s_looked, .int s_rows, .int s_firstRow, .ref m32, .ref m33, .ref m34, .ref m35, .ref m36, .ref m37, .ref m38, .ref m39, .ref m40, .int (nI (u_91 0)), .ref m41, .int s_atoms, .ref m42])), (m38, .inl (ax 0, 121, .inl x_95)), (m39, .inl (ax 3, 121, .inl x_96))]) hP hD [0, 2, 3] [1] hCs (by decide) (by decide) hk1 hFc hP1 hD1 rfl
                  clear hP1 hD1
                  clear hPc hDc hFc hCs hz hz1 hk1 ht hvm
                  clear hP hD hS
                  have hS := hS1
                  obtain ⟨hP, hD⟩ := hjn
                  clear hS1
                  exact jn_6 (u_91 0) x_95 x_96 (by first | assumption | omega) (hx_97.as (fun v => hA8_l (by assumption) (by rw [ez_90, i32_sub (by first | assumption | omega) (by first | assumption | omega) (by decide) (by decide), i32_1, hm8.1]))) _ _ _ (hP.sub [1, 0, 2, 3] rfl) (hD.sub [1, 0, 2, 3] (by decide) rfl) hS (lv_sub hl1 [0, 1, 2, 3, 4, 5] rfl)
              · refine lv_iload hx hb d_Model_takeAtom_134 (lv_at hl1 2 rfl) ?_
                refine lv_iconst (v := 2) hx hb d_Model_takeAtom_136 (by decide) ?_
                refine lv_icmp_ne (tgt := 162) hx hb d_Model_takeAtom_137 (by decide) (fun c_98 => ?_) (fun c_98 => ?_)
                · exact jn_6 br bd ib (by first | assumption | omega) (tA8_0 hW8 (hA8_n (by assumption) (by assumption) (by assumption))) _ _ _ (hP.sub [0, 1, 2, 3] rfl) (hD.sub [0, 1, 2, 3] (by decide) rfl) hS (lv_sub hl1 [0, 1, 2, 3, 4, 5] rfl)
                · refine lv_aload_n hx hb d_Model_takeAtom_140 rfl (lv_at hl1 0 rfl) ?_
                  refine lv_iload hx hb d_Model_takeAtom_141 (lv_at hl1 3 rfl) ?_
                  refine lv_iload hx hb d_Model_takeAtom_143 (lv_at hl1 4 rfl) ?_
                  refine lv_iload hx hb d_Model_takeAtom_145 (lv_at hl1 2 rfl) ?_
                  refine lv_if_ne (tgt := 157) hx hb d_Model_takeAtom_147 (by decide) (fun c_99 => ?_) (fun c_99 => ?_)
                  · refine lv_iload hx hb d_Model_takeAtom_157 (lv_at hl1 5 rfl) ?_
                    have hcA : -50000 ≤ (z7).toInt ∧ (z7).toInt ≤ 50000 := by omega
                    obtain ⟨hPc, hDc, hFc, hCs⟩ := xw_sub3 (wc := [(m0, .inr (11, [.int s_thrown, .int s_taped, .ref m1, .int s_size, .int s_outSize, .ref m2, .int s_kind, .int s_value, .int s_begin, .int s_end, .int s_failed, .ref m3, .ref m4, .ref m5, .int s_isProgram, .int s_half, .ref m6, .ref m7, .ref m8, .ref m9, .ref m10, .ref m11, .ref m12, .ref m13, .ref m14, .ref m15, .ref m16, .ref m17, .ref m18, .ref m19, .ref m20, .int s_signs, .ref m21, .int s_stacked, .ref m22, .int s_name, .int s_shift, .int s_statements, .int s_ifs, .int s_whiles, .int s_variants, .int s_open, .ref m23, .int s_isMade, .int s_conditions, .ref m24, .ref m25, .ref m26, .ref m27, .int s_kept, .ref m28, .int s_tops, .ref m29, .int s_used, .ref m30, .ref m31, .int s_looked, .int s_rows, .int s_firstRow, .ref m32, .ref m33, .ref m34, .ref m35, .ref m36, .ref m37, .ref m38, .ref m39, .ref m40, .int (nI br), .ref m41, .int s_atoms, .ref m42])), (m38, .inl (ax 0, 121, .inl bd)), (m39, .inl (ax 3, 121, .inl ib))]) hP hD hS hA [0, 2, 3] (by decide) rfl
                    have hz := xz_of hN hS
                    refine va_callv (va_runV (As := [.int (nI x9), .int (nI y9), .int z7]) (rest := []) ⟨hx, hb, hml, hown, hts⟩ (c_M_take l D ax m0 m1 m2 m3 m4 m5 m6 m7 m8 m9 m10 m11 m12 m13 m14 m15 m16 m17 m18 m19 m20 m21 m22 m23 m24 m25 m26 m27 m28 m29 m30 m31 m32 m33 m34 m35 m36 m37 m38 m39 m40 m41 m42 s_thrown s_taped s_size s_outSize s_kind s_value s_begin s_end s_failed s_isProgram s_half s_signs s_stacked s_name s_shift s_statements s_ifs s_whiles s_variants s_open s_isMade s_conditions s_kept s_tops s_used s_looked s_rows s_firstRow s_atoms br x9 y9 z7 bd ib H.size (by first | assumption | omega) (by first | assumption | omega) (by first | assumption | omega) hW8 hcA) (xcV (n := 3) hts wd_1532 wd_15 wd_1529 wd_1531 ps_104 rfl rfl (by decide +kernel) ⟨Nat.le_of_ble_eq_true rfl, Nat.le_of_ble_eq_true rfl⟩) (xpV (ci := 11) (q0 := 0) (As := [.int (nI x9), .int (nI y9), .int z7]) hPc hK hz hDc rfl rfl) rfl rfl hl1.1 rfl (lv_room (Nat.le_of_ble_eq_true rfl)) d_Model_takeAtom_159 ⟨Nat.le_of_ble_eq_true rfl, Nat.le_of_ble_eq_true rfl⟩) hS (fun q _ h => hFc q h) hFc (fun u_100 t H_101 locs ht hvm hw hB hz1 hk1 hS1 => ?_)
                    try dsimp only at hw
                    have hs_103 := hw
                    obtain ⟨x_104, x_105, hx_106, hP1, hD1⟩ := hB
                    rw [ht] at hP1
                    have hjn := xw_join3 (wl := [(m28, .inl (ax 0, 180000, .inl kp)), (m0, .inr (11, [.int s_thrown, .int s_taped, .ref m1, .int s_size, .int s_outSize, .ref m2, .int s_kind, .int s_value, .int s_begin, .int s_end, .int s_failed, .ref m3, .ref m4, .ref m5, .int s_isProgram, .int s_half, .ref m6, .ref m7, .ref m8, .ref m9, .ref m10, .ref m11, .ref m12, .ref m13, .ref m14, .ref m15, .ref m16, .ref m17, .ref m18, .ref m19, .ref m20, .int s_signs, .ref m21, .int s_stacked, .ref m22, .int s_name, .int s_shift, .int s_statements, .int s_ifs, .int s_whiles, .int s_variants, .int s_open, .ref m23, .int s_isMade, .int s_conditions, .ref m24, .ref m25, .ref m26, .ref m27, .int s_kept, .ref m28, .int s_tops, .ref m29, .int s_used, .ref m30, .ref m31, .int s_looked, .int s_rows, .int s_firstRow, .ref m32, .ref m33, .ref m34, .ref m35, .ref m36, .ref m37, .ref m38, .ref m39, .ref m40, .int (nI (u_100 0)), .ref m41, .int s_atoms, .ref m42])), (m38, .inl (ax 0, 121, .inl x_104)), (m39, .inl (ax 3, 121, .inl x_105))]) hP hD [0, 2, 3] [1] hCs (by decide) (by decide) hk1 hFc hP1 hD1 rfl
                    clear hP1 hD1
                    clear hPc hDc hFc hCs hz hz1 hk1 ht hvm
                    clear hP hD hS
                    have hS := hS1
                    obtain ⟨hP, hD⟩ := hjn
                    clear hS1
                    exact jn_6 (u_100 0) x_104 x_105 (by first | assumption | omega) (hx_106.as (fun v => hA8_m (by assumption) (by first | exact Or.inl (by assumption) | exact Or.inr (by assumption) | exact absurd (show y5 = 0 by assumption) (by assumption)) hm8.1)) _ _ _ (hP.sub [1, 0, 2, 3] rfl) (hD.sub [1, 0, 2, 3] (by decide) rfl) hS (lv_sub hl1 [0, 1, 2, 3, 4, 5] rfl)
                  · refine lv_iload hx hb d_Model_takeAtom_150 (lv_at hl1 5 rfl) ?_
                    refine lv_iconst (v := 1) hx hb d_Model_takeAtom_152 (by decide) ?_
                    refine lv_isub hx hb d_Model_takeAtom_153 ?_
                    refine lv_topi (fun z_107 ez_107 => ?_)
                    refine lv_goto (tgt := 159) hx hb d_Model_takeAtom_154 (by decide) ?_
                    have hcA : -50000 ≤ (z_107).toInt ∧ (z_107).toInt ≤ 50000 := by rw [ez_107, i32_sub (by first | assumption | omega) (by first | assumption | omega) (by decide) (by decide), i32_1]; omega
                    obtain ⟨hPc, hDc, hFc, hCs⟩ := xw_sub3 (wc := [(m0, .inr (11, [.int s_thrown, .int s_taped, .ref m1, .int s_size, .int s_outSize, .ref m2, .int s_kind, .int s_value, .int s_begin, .int s_end, .int s_failed, .ref m3, .ref m4, .ref m5, .int s_isProgram, .int s_half, .ref m6, .ref m7, .ref m8, .ref m9, .ref m10, .ref m11, .ref m12, .ref m13, .ref m14, .ref m15, .ref m16, .ref m17, .ref m18, .ref m19, .ref m20, .int s_signs, .ref m21, .int s_stacked, .ref m22, .int s_name, .int s_shift, .int s_statements, .int s_ifs, .int s_whiles, .int s_variants, .int s_open, .ref m23, .int s_isMade, .int s_conditions, .ref m24, .ref m25, .ref m26, .ref m27, .int s_kept, .ref m28, .int s_tops, .ref m29, .int s_used, .ref m30, .ref m31, .int s_looked, .int s_rows, .int s_firstRow, .ref m32, .ref m33, .ref m34, .ref m35, .ref m36, .ref m37, .ref m38, .ref m39, .ref m40, .int (nI br), .ref m41, .int s_atoms, .ref m42])), (m38, .inl (ax 0, 121, .inl bd)), (m39, .inl (ax 3, 121, .inl ib))]) hP hD hS hA [0, 2, 3] (by decide) rfl
                    have hz := xz_of hN hS
                    refine va_callv (va_runV (As := [.int (nI x9), .int (nI y9), .int z_107]) (rest := []) ⟨hx, hb, hml, hown, hts⟩ (c_M_take l D ax m0 m1 m2 m3 m4 m5 m6 m7 m8 m9 m10 m11 m12 m13 m14 m15 m16 m17 m18 m19 m20 m21 m22 m23 m24 m25 m26 m27 m28 m29 m30 m31 m32 m33 m34 m35 m36 m37 m38 m39 m40 m41 m42 s_thrown s_taped s_size s_outSize s_kind s_value s_begin s_end s_failed s_isProgram s_half s_signs s_stacked s_name s_shift s_statements s_ifs s_whiles s_variants s_open s_isMade s_conditions s_kept s_tops s_used s_looked s_rows s_firstRow s_atoms br x9 y9 z_107 bd ib H.size (by first | assumption | omega) (by first | assumption | omega) (by first | assumption | omega) hW8 hcA) (xcV (n := 3) hts wd_1532 wd_15 wd_1529 wd_1531 ps_104 rfl rfl (by decide +kernel) ⟨Nat.le_of_ble_eq_true rfl, Nat.le_of_ble_eq_true rfl⟩) (xpV (ci := 11) (q0 := 0) (As := [.int (nI x9), .int (nI y9), .int z_107]) hPc hK hz hDc rfl rfl) rfl rfl hl1.1 rfl (lv_room (Nat.le_of_ble_eq_true rfl)) d_Model_takeAtom_159 ⟨Nat.le_of_ble_eq_true rfl, Nat.le_of_ble_eq_true rfl⟩) hS (fun q _ h => hFc q h) hFc (fun u_108 t H_109 locs ht hvm hw hB hz1 hk1 hS1 => ?_)
                    try dsimp only at hw
                    have hs_111 := hw
                    obtain ⟨x_112, x_113, hx_114, hP1, hD1⟩ := hB
                    rw [ht] at hP1
                    have hjn := xw_join3 (wl := [(m28, .inl (ax 0, 180000, .inl kp)), (m0, .inr (11, [.int s_thrown, .int s_taped, .ref m1, .int s_size, .int s_outSize, .ref m2, .int s_kind, .int s_value, .int s_begin, .int s_end, .int s_failed, .ref m3, .ref m4, .ref m5, .int s_isProgram, .int s_half, .ref m6, .ref m7, .ref m8, .ref m9, .ref m10, .ref m11, .ref m12, .ref m13, .ref m14, .ref m15, .ref m16, .ref m17, .ref m18, .ref m19, .ref m20, .int s_signs, .ref m21, .int s_stacked, .ref m22, .int s_name, .int s_shift, .int s_statements, .int s_ifs, .int s_whiles, .int s_variants, .int s_open, .ref m23, .int s_isMade, .int s_conditions, .ref m24, .ref m25, .ref m26, .ref m27, .int s_kept, .ref m28, .int s_tops, .ref m29, .int s_used, .ref m30, .ref m31, .int s_looked, .int s_rows, .int s_firstRow, .ref m32, .ref m33, .ref m34, .ref m35, .ref m36, .ref m37, .ref m38, .ref m39, .ref m40, .int (nI (u_108 0)), .ref m41, .int s_atoms, .ref m42])), (m38, .inl (ax 0, 121, .inl x_112)), (m39, .inl (ax 3, 121, .inl x_113))]) hP hD [0, 2, 3] [1] hCs (by decide) (by decide) hk1 hFc hP1 hD1 rfl
                    clear hP1 hD1
                    clear hPc hDc hFc hCs hz hz1 hk1 ht hvm
                    clear hP hD hS
                    have hS := hS1
                    obtain ⟨hP, hD⟩ := hjn
                    clear hS1
                    exact jn_6 (u_108 0) x_112 x_113 (by first | assumption | omega) (hx_114.as (fun v => hA8_l (by assumption) (by rw [ez_107, i32_sub (by first | assumption | omega) (by first | assumption | omega) (by decide) (by decide), i32_1, hm8.1]))) _ _ _ (hP.sub [1, 0, 2, 3] rfl) (hD.sub [1, 0, 2, 3] (by decide) rfl) hS (lv_sub hl1 [0, 1, 2, 3, 4, 5] rfl)
          refine lv_aload_n hx hb d_Model_takeAtom_104 rfl (lv_at hl1 0 rfl) ?_
          refine va_get (D := D) (ci := 11) (v := .ref m28) (C := R_Model) (T := F_Model) (N := 72) hx hb hts i_Model hown hK.1 hP 0 rfl rfl 50 (by decide) (hts _ wd_1086) (fun _ h9 => h9) rfl d_Model_takeAtom_105 ?_
          refine lv_iload_n hx hb d_Model_takeAtom_108 rfl (lv_at hl1 1 rfl) ?_
          refine lv_iconst (v := 5) hx hb d_Model_takeAtom_109 (by decide) ?_
          refine lv_iadd hx hb d_Model_takeAtom_110 ?_
          refine lv_topi (fun z_115 ez_115 => ?_)
          have ez_115 : z_115 = nI (p1 + 5) := ez_115.trans (nI_add p1 5)
          subst ez_115
          refine va_iald hx hb hK.1 hP 1 0 rfl rfl (vp_in_nI (by first | assumption | omega) (by decide)) d_Model_takeAtom_111 ?_
          refine W.eq (g2 := F0 m 112 ls [.int (kp (p1 + 5))]) (by rw [nI_clamp (by first | exact Nat.lt_of_lt_of_le (by assumption) (by decide) | exact Nat.lt_of_le_of_lt (by assumption) (by decide) | omega)]) ?_
          refine lv_aload_n hx hb d_Model_takeAtom_112 rfl (lv_at hl1 0 rfl) ?_
          refine va_get (D := D) (ci := 11) (v := .ref m28) (C := R_Model) (T := F_Model) (N := 72) hx hb hts i_Model hown hK.1 hP 0 rfl rfl 50 (by decide) (hts _ wd_1086) (fun _ h9 => h9) rfl d_Model_takeAtom_113 ?_
          refine lv_iload_n hx hb d_Model_takeAtom_116 rfl (lv_at hl1 1 rfl) ?_
          refine lv_iconst (v := 2) hx hb d_Model_takeAtom_117 (by decide) ?_
          refine lv_iadd hx hb d_Model_takeAtom_118 ?_
          refine lv_topi (fun z_116 ez_116 => ?_)
          have ez_116 : z_116 = nI (p1 + 2) := ez_116.trans (nI_add p1 2)
          subst ez_116
          refine va_iald hx hb hK.1 hP 1 0 rfl rfl (vp_in_nI (by first | assumption | omega) (by decide)) d_Model_takeAtom_119 ?_
          refine W.eq (g2 := F0 m 120 ls [.int (kp (p1 + 2)), .int (kp (p1 + 5))]) (by rw [nI_clamp (by first | exact Nat.lt_of_lt_of_le (by assumption) (by decide) | exact Nat.lt_of_le_of_lt (by assumption) (by decide) | omega)]) ?_
          refine lv_isub hx hb d_Model_takeAtom_120 ?_
          refine lv_topi (fun z_117 ez_117 => ?_)
          refine lv_istore (lv' := [(7, .int z_117), (0, .ref m0), (1, .int (nI p1)), (4, .int y5), (5, .int (nI x9)), (6, .int (nI y9))]) hx hb d_Model_takeAtom_121 hl1 (by decide) rfl (fun ls hl2 => ?_)
          clear hl1; have hl1 := hl2; clear hl2
          exact jn_5 z_117 (by assumption) _ _ _ (hP.sub [0, 1, 2, 3] rfl) (hD.sub [0, 1, 2, 3] (by decide) rfl) hS (lv_sub hl1 [1, 2, 3, 4, 5, 0] rfl)
        refine lv_aload_n hx hb d_Model_takeAtom_77 rfl (lv_at hl1 0 rfl) ?_
        refine va_get (D := D) (ci := 11) (v := .ref m28) (C := R_Model) (T := F_Model) (N := 72) hx hb hts i_Model hown hK.1 hP 0 rfl rfl 50 (by decide) (hts _ wd_1086) (fun _ h9 => h9) rfl d_Model_takeAtom_78 ?_
        refine lv_iload_n hx hb d_Model_takeAtom_81 rfl (lv_at hl1 1 rfl) ?_
        refine lv_iconst (v := 4) hx hb d_Model_takeAtom_82 (by decide) ?_
        refine lv_iadd hx hb d_Model_takeAtom_83 ?_
        refine lv_topi (fun z_118 ez_118 => ?_)
        have ez_118 : z_118 = nI (p1 + 4) := ez_118.trans (nI_add p1 4)
        subst ez_118
        refine va_iald hx hb hK.1 hP 1 0 rfl rfl (vp_in_nI (by first | assumption | omega) (by decide)) d_Model_takeAtom_84 ?_
        refine W.eq (g2 := F0 m 85 ls [.int (kp (p1 + 4))]) (by rw [nI_clamp (by first | exact Nat.lt_of_lt_of_le (by assumption) (by decide) | exact Nat.lt_of_le_of_lt (by assumption) (by decide) | omega)]) ?_
        refine lv_iconst (v := (-1)) hx hb d_Model_takeAtom_85 (by decide) ?_
        rcases hn4 with ey2 | ⟨y2, hy2, ey2⟩
        · refine W.eq (g2 := F0 m 86 ls [.int (-1), .int (-1)]) (by rw [ey2]) ?_
          refine lv_icmp_ne (tgt := 94) hx hb d_Model_takeAtom_86 (by decide) (fun c_119 => ?_) (fun c_119 => ?_)
          · first | exact absurd c_119 (by decide) | exact absurd (by decide) c_119
          refine lv_bipush (v := 10) hx hb d_Model_takeAtom_89 (by decide) ?_
          refine lv_goto (tgt := 102) hx hb d_Model_takeAtom_91 (by decide) ?_
          refine lv_istore (lv' := [(6, .int 10), (0, .ref m0), (1, .int (nI p1)), (4, .int y5), (5, .int (nI x9))]) hx hb d_Model_takeAtom_102 hl1 (by decide) rfl (fun ls hl2 => ?_)
          clear hl1; have hl1 := hl2; clear hl2
          exact jn_4 10 (by first | assumption | omega) (by first | rw [ey2, nmI_m] | rw [ey2, nmI_n hy2]) _ _ _ (hP.sub [0, 1, 2, 3] rfl) (hD.sub [0, 1, 2, 3] (by decide) rfl) hS (lv_sub hl1 [1, 2, 3, 4, 0] rfl)
        · refine W.eq (g2 := F0 m 86 ls [.int (-1), .int (nI y2)]) (by rw [ey2]) ?_
          refine lv_icmp_ne (tgt := 94) hx hb d_Model_takeAtom_86 (by decide) (fun c_120 => ?_) (fun c_120 => ?_)
          rotate_right
          · exact absurd c_120 (nIm1 (by first | assumption | omega))
          refine lv_aload_n hx hb d_Model_takeAtom_94 rfl (lv_at hl1 0 rfl) ?_
          refine va_get (D := D) (ci := 11) (v := .ref m28) (C := R_Model) (T := F_Model) (N := 72) hx hb hts i_Model hown hK.1 hP 0 rfl rfl 50 (by decide) (hts _ wd_1086) (fun _ h9 => h9) rfl d_Model_takeAtom_95 ?_
          refine lv_iload_n hx hb d_Model_takeAtom_98 rfl (lv_at hl1 1 rfl) ?_
          refine lv_iconst (v := 4) hx hb d_Model_takeAtom_99 (by decide) ?_
          refine lv_iadd hx hb d_Model_takeAtom_100 ?_
          refine lv_topi (fun z_121 ez_121 => ?_)
          have ez_121 : z_121 = nI (p1 + 4) := ez_121.trans (nI_add p1 4)
          subst ez_121
          refine va_iald hx hb hK.1 hP 1 0 rfl rfl (vp_in_nI (by first | assumption | omega) (by decide)) d_Model_takeAtom_101 ?_
          refine W.eq (g2 := F0 m 102 ls [.int (kp (p1 + 4))]) (by rw [nI_clamp (by first | exact Nat.lt_of_lt_of_le (by assumption) (by decide) | exact Nat.lt_of_le_of_lt (by assumption) (by decide) | omega)]) ?_
          refine W.eq (g2 := F0 m 102 ls [.int (nI y2)]) (by rw [ey2]) ?_
          refine lv_istore (lv' := [(6, .int (nI y2)), (0, .ref m0), (1, .int (nI p1)), (4, .int y5), (5, .int (nI x9))]) hx hb d_Model_takeAtom_102 hl1 (by decide) rfl (fun ls hl2 => ?_)
          clear hl1; have hl1 := hl2; clear hl2
          exact jn_4 y2 (by first | assumption | omega) (by first | rw [ey2, nmI_m] | rw [ey2, nmI_n hy2]) _ _ _ (hP.sub [0, 1, 2, 3] rfl) (hD.sub [0, 1, 2, 3] (by decide) rfl) hS (lv_sub hl1 [1, 2, 3, 4, 0] rfl)
      refine lv_aload_n hx hb d_Model_takeAtom_50 rfl (lv_at hl1 0 rfl) ?_
      refine va_get (D := D) (ci := 11) (v := .ref m28) (C := R_Model) (T := F_Model) (N := 72) hx hb hts i_Model hown hK.1 hP 0 rfl rfl 50 (by decide) (hts _ wd_1086) (fun _ h9 => h9) rfl d_Model_takeAtom_51 ?_
      refine lv_iload_n hx hb d_Model_takeAtom_54 rfl (lv_at hl1 1 rfl) ?_
      refine lv_iconst (v := 1) hx hb d_Model_takeAtom_55 (by decide) ?_
      refine lv_iadd hx hb d_Model_takeAtom_56 ?_
      refine lv_topi (fun z_122 ez_122 => ?_)
      have ez_122 : z_122 = nI (p1 + 1) := ez_122.trans (nI_add p1 1)
      subst ez_122
      refine va_iald hx hb hK.1 hP 1 0 rfl rfl (vp_in_nI (by first | assumption | omega) (by decide)) d_Model_takeAtom_57 ?_
      refine W.eq (g2 := F0 m 58 ls [.int (kp (p1 + 1))]) (by rw [nI_clamp (by first | exact Nat.lt_of_lt_of_le (by assumption) (by decide) | exact Nat.lt_of_le_of_lt (by assumption) (by decide) | omega)]) ?_
      refine lv_iconst (v := (-1)) hx hb d_Model_takeAtom_58 (by decide) ?_
      rcases hn1 with ey1 | ⟨y1, hy1, ey1⟩
      · refine W.eq (g2 := F0 m 59 ls [.int (-1), .int (-1)]) (by rw [ey1]) ?_
        refine lv_icmp_ne (tgt := 67) hx hb d_Model_takeAtom_59 (by decide) (fun c_123 => ?_) (fun c_123 => ?_)
        · first | exact absurd c_123 (by decide) | exact absurd (by decide) c_123
        refine lv_bipush (v := 10) hx hb d_Model_takeAtom_62 (by decide) ?_
        refine lv_goto (tgt := 75) hx hb d_Model_takeAtom_64 (by decide) ?_
        refine lv_istore (lv' := [(5, .int 10), (0, .ref m0), (1, .int (nI p1)), (4, .int y5)]) hx hb d_Model_takeAtom_75 hl1 (by decide) rfl (fun ls hl2 => ?_)
        clear hl1; have hl1 := hl2; clear hl2
        exact jn_3 10 (by first | assumption | omega) (by first | rw [ey1, nmI_m] | rw [ey1, nmI_n hy1]) _ _ _ (hP.sub [0, 1, 2, 3] rfl) (hD.sub [0, 1, 2, 3] (by decide) rfl) hS (lv_sub hl1 [1, 2, 3, 0] rfl)
      · refine W.eq (g2 := F0 m 59 ls [.int (-1), .int (nI y1)]) (by rw [ey1]) ?_
        refine lv_icmp_ne (tgt := 67) hx hb d_Model_takeAtom_59 (by decide) (fun c_124 => ?_) (fun c_124 => ?_)
        rotate_right
        · exact absurd c_124 (nIm1 (by first | assumption | omega))
        refine lv_aload_n hx hb d_Model_takeAtom_67 rfl (lv_at hl1 0 rfl) ?_
        refine va_get (D := D) (ci := 11) (v := .ref m28) (C := R_Model) (T := F_Model) (N := 72) hx hb hts i_Model hown hK.1 hP 0 rfl rfl 50 (by decide) (hts _ wd_1086) (fun _ h9 => h9) rfl d_Model_takeAtom_68 ?_
        refine lv_iload_n hx hb d_Model_takeAtom_71 rfl (lv_at hl1 1 rfl) ?_
        refine lv_iconst (v := 1) hx hb d_Model_takeAtom_72 (by decide) ?_
        refine lv_iadd hx hb d_Model_takeAtom_73 ?_
        refine lv_topi (fun z_125 ez_125 => ?_)
        have ez_125 : z_125 = nI (p1 + 1) := ez_125.trans (nI_add p1 1)
        subst ez_125
        refine va_iald hx hb hK.1 hP 1 0 rfl rfl (vp_in_nI (by first | assumption | omega) (by decide)) d_Model_takeAtom_74 ?_
        refine W.eq (g2 := F0 m 75 ls [.int (kp (p1 + 1))]) (by rw [nI_clamp (by first | exact Nat.lt_of_lt_of_le (by assumption) (by decide) | exact Nat.lt_of_le_of_lt (by assumption) (by decide) | omega)]) ?_
        refine W.eq (g2 := F0 m 75 ls [.int (nI y1)]) (by rw [ey1]) ?_
        refine lv_istore (lv' := [(5, .int (nI y1)), (0, .ref m0), (1, .int (nI p1)), (4, .int y5)]) hx hb d_Model_takeAtom_75 hl1 (by decide) rfl (fun ls hl2 => ?_)
        clear hl1; have hl1 := hl2; clear hl2
        exact jn_3 y1 (by first | assumption | omega) (by first | rw [ey1, nmI_m] | rw [ey1, nmI_n hy1]) _ _ _ (hP.sub [0, 1, 2, 3] rfl) (hD.sub [0, 1, 2, 3] (by decide) rfl) hS (lv_sub hl1 [1, 2, 3, 0] rfl)
    refine lv_iload hx hb d_Model_takeAtom_28 (lv_at hl1 3 rfl) ?_
    refine lv_iconst (v := 3) hx hb d_Model_takeAtom_30 (by decide) ?_
    refine lv_icmp_ne (tgt := 46) hx hb d_Model_takeAtom_31 (by decide) (fun c_126 => ?_) (fun c_126 => ?_)
    · refine lv_iload hx hb d_Model_takeAtom_46 (lv_at hl1 3 rfl) ?_
      refine lv_istore (lv' := [(4, .int y4), (0, .ref m0), (1, .int (nI p1)), (3, .int (nI r9))]) hx hb d_Model_takeAtom_48 hl1 (by decide) rfl (fun ls hl2 => ?_)
      clear hl1; have hl1 := hl2; clear hl2
      exact jn_2 y4 (cw8_cd hy4 (by first | exact Or.inl ⟨by assumption, by omega, rfl⟩ | exact Or.inr (Or.inl ⟨by assumption, by omega, rfl⟩) | exact Or.inr (Or.inr ⟨by assumption, rfl⟩))) _ _ _ (hP.sub [0, 1, 2, 3] rfl) (hD.sub [0, 1, 2, 3] (by decide) rfl) hS (lv_sub hl1 [1, 2, 0] rfl)
    · refine lv_iload_n hx hb d_Model_takeAtom_34 rfl (lv_at hl1 2 rfl) ?_
      refine lv_if_ne (tgt := 42) hx hb d_Model_takeAtom_35 (by decide) (fun c_127 => ?_) (fun c_127 => ?_)
      · replace c_127 : ¬ r9 = 0 := fun hq9 => c_127 ((nI_eq (a := r9) (b := 0) (by first | exact Nat.lt_of_lt_of_le (by assumption) (by decide) | exact Nat.lt_of_le_of_lt (by assumption) (by decide) | omega) (by decide)).mpr hq9)
        refine lv_iconst (v := 5) hx hb d_Model_takeAtom_42 (by decide) ?_
        refine lv_goto (tgt := 48) hx hb d_Model_takeAtom_43 (by decide) ?_
        refine lv_istore (lv' := [(4, .int 5), (0, .ref m0), (1, .int (nI p1)), (3, .int (nI r9))]) hx hb d_Model_takeAtom_48 hl1 (by decide) rfl (fun ls hl2 => ?_)
        clear hl1; have hl1 := hl2; clear hl2
        exact jn_2 5 (cw8_cd hy4 (by first | exact Or.inl ⟨by assumption, by omega, rfl⟩ | exact Or.inr (Or.inl ⟨by assumption, by omega, rfl⟩) | exact Or.inr (Or.inr ⟨by assumption, rfl⟩))) _ _ _ (hP.sub [0, 1, 2, 3] rfl) (hD.sub [0, 1, 2, 3] (by decide) rfl) hS (lv_sub hl1 [1, 2, 0] rfl)
      · replace c_127 : r9 = 0 := (nI_eq (a := r9) (b := 0) (by first | exact Nat.lt_of_lt_of_le (by assumption) (by decide) | exact Nat.lt_of_le_of_lt (by assumption) (by decide) | omega) (by decide)).mp c_127
        refine lv_iconst (v := 0) hx hb d_Model_takeAtom_38 (by decide) ?_
        refine lv_goto (tgt := 48) hx hb d_Model_takeAtom_39 (by decide) ?_
        refine lv_istore (lv' := [(4, .int 0), (0, .ref m0), (1, .int (nI p1)), (3, .int (nI r9))]) hx hb d_Model_takeAtom_48 hl1 (by decide) rfl (fun ls hl2 => ?_)
        clear hl1; have hl1 := hl2; clear hl2
        exact jn_2 0 (cw8_cd hy4 (by first | exact Or.inl ⟨by assumption, by omega, rfl⟩ | exact Or.inr (Or.inl ⟨by assumption, by omega, rfl⟩) | exact Or.inr (Or.inr ⟨by assumption, rfl⟩))) _ _ _ (hP.sub [0, 1, 2, 3] rfl) (hD.sub [0, 1, 2, 3] (by decide) rfl) hS (lv_sub hl1 [1, 2, 0] rfl)
  refine lv_iload_n hx hb d_Model_takeAtom_0 rfl (lv_at hl1 2 rfl) ?_
  refine lv_if_eq (tgt := 15) hx hb d_Model_takeAtom_1 (by decide) (fun c_128 => ?_) (fun c_128 => ?_)
  · replace c_128 : tt9 = 0 := (nI_eq (a := tt9) (b := 0) (by first | exact Nat.lt_of_lt_of_le (by assumption) (by decide) | exact Nat.lt_of_le_of_lt (by assumption) (by decide) | omega) (by decide)).mp c_128
    refine lv_aload_n hx hb d_Model_takeAtom_15 rfl (lv_at hl1 0 rfl) ?_
    refine va_get (D := D) (ci := 11) (v := .ref m28) (C := R_Model) (T := F_Model) (N := 72) hx hb hts i_Model hown hK.1 hP 0 rfl rfl 50 (by decide) (hts _ wd_1086) (fun _ h9 => h9) rfl d_Model_takeAtom_16 ?_
    refine lv_iload_n hx hb d_Model_takeAtom_19 rfl (lv_at hl1 1 rfl) ?_
    refine lv_iconst (v := 3) hx hb d_Model_takeAtom_20 (by decide) ?_
    refine lv_iadd hx hb d_Model_takeAtom_21 ?_
    refine lv_topi (fun z_129 ez_129 => ?_)
    have ez_129 : z_129 = nI (p1 + 3) := ez_129.trans (nI_add p1 3)
    subst ez_129
    refine va_iald hx hb hK.1 hP 1 0 rfl rfl (vp_in_nI (by first | assumption | omega) (by decide)) d_Model_takeAtom_22 ?_
    refine W.eq (g2 := F0 m 23 ls [.int (kp (p1 + 3))]) (by rw [nI_clamp (by first | exact Nat.lt_of_lt_of_le (by assumption) (by decide) | exact Nat.lt_of_le_of_lt (by assumption) (by decide) | omega)]) ?_
    obtain ⟨hPc, hDc, hFc, hCs⟩ := xw_sub3 (wc := []) hP hD hS hA [] (by decide) rfl
    have hz := xz_of hN hS
    refine va_calli (va_runS (As := [.int (kp (p1 + 3))]) (rest := []) ⟨hx, hb, hml, hown, hts⟩ (c_M_negated l D ax (kp (p1 + 3)) s.heap.size) (xcS (n := 1) hts wd_1528 wd_15 wd_1526 wd_1527 rfl rfl (by decide +kernel) ⟨Nat.le_of_ble_eq_true rfl, Nat.le_of_ble_eq_true rfl⟩) (xpS (As := [.int (kp (p1 + 3))]) hPc hK hz hDc) rfl rfl hl1.1 rfl (lv_room (Nat.le_of_ble_eq_true rfl)) d_Model_takeAtom_23 ⟨Nat.le_of_ble_eq_true rfl, Nat.le_of_ble_eq_true rfl⟩) hS (fun q _ h => hFc q h) hFc (fun r_132 u_130 t H_131 locs ht hvm hw hB hz1 hk1 hS1 => ?_)
    try dsimp only at hw
    obtain ⟨hw, hs_133, hs_134⟩ := hw
    subst hw
    obtain ⟨hP1, hD1⟩ := hB
    rw [ht] at hP1
    have hjn := xw_join3 (wl := [(m0, .inr (11, [.int s_thrown, .int s_taped, .ref m1, .int s_size, .int s_outSize, .ref m2, .int s_kind, .int s_value, .int s_begin, .int s_end, .int s_failed, .ref m3, .ref m4, .ref m5, .int s_isProgram, .int s_half, .ref m6, .ref m7, .ref m8, .ref m9, .ref m10, .ref m11, .ref m12, .ref m13, .ref m14, .ref m15, .ref m16, .ref m17, .ref m18, .ref m19, .ref m20, .int s_signs, .ref m21, .int s_stacked, .ref m22, .int s_name, .int s_shift, .int s_statements, .int s_ifs, .int s_whiles, .int s_variants, .int s_open, .ref m23, .int s_isMade, .int s_conditions, .ref m24, .ref m25, .ref m26, .ref m27, .int s_kept, .ref m28, .int s_tops, .ref m29, .int s_used, .ref m30, .ref m31, .int s_looked, .int s_rows, .int s_firstRow, .ref m32, .ref m33, .ref m34, .ref m35, .ref m36, .ref m37, .ref m38, .ref m39, .ref m40, .int (nI br), .ref m41, .int s_atoms, .ref m42])), (m28, .inl (ax 0, 180000, .inl kp)), (m38, .inl (ax 0, 121, .inl bd)), (m39, .inl (ax 3, 121, .inl ib))]) hP hD [] [0, 1, 2, 3] hCs (by decide) (by decide) hk1 hFc hP1 hD1 rfl
    clear hP1 hD1
    clear hPc hDc hFc hCs hz hz1 hk1 ht hvm
    clear hP hD hS
    have hS := hS1
    obtain ⟨hP, hD⟩ := hjn
    clear hS1
    refine lv_istore (lv' := [(4, .int (nI (u_130 0))), (0, .ref m0), (1, .int (nI p1)), (2, .int (nI tt9)), (3, .int (nI r9))]) hx hb d_Model_takeAtom_26 hl1 (by decide) rfl (fun ls hl2 => ?_)
    clear hl1; have hl1 := hl2; clear hl2
    exact jn_1 (nI (u_130 0)) (by have h9 := ng_w hb8.1 hs_134; exact ⟨h9.1, by rw [if_neg (by first | assumption | omega)]; exact h9.2⟩) _ _ _ (hP.sub [0, 1, 2, 3] rfl) (hD.sub [0, 1, 2, 3] (by decide) rfl) hS (lv_sub hl1 [1, 2, 4, 0] rfl)
  · replace c_128 : ¬ tt9 = 0 := fun hq9 => c_128 ((nI_eq (a := tt9) (b := 0) (by first | exact Nat.lt_of_lt_of_le (by assumption) (by decide) | exact Nat.lt_of_le_of_lt (by assumption) (by decide) | omega) (by decide)).mpr hq9)
    refine lv_aload_n hx hb d_Model_takeAtom_4 rfl (lv_at hl1 0 rfl) ?_
    refine va_get (D := D) (ci := 11) (v := .ref m28) (C := R_Model) (T := F_Model) (N := 72) hx hb hts i_Model hown hK.1 hP 0 rfl rfl 50 (by decide) (hts _ wd_1086) (fun _ h9 => h9) rfl d_Model_takeAtom_5 ?_
    refine lv_iload_n hx hb d_Model_takeAtom_8 rfl (lv_at hl1 1 rfl) ?_
    refine lv_iconst (v := 3) hx hb d_Model_takeAtom_9 (by decide) ?_
    refine lv_iadd hx hb d_Model_takeAtom_10 ?_
    refine lv_topi (fun z_135 ez_135 => ?_)
    have ez_135 : z_135 = nI (p1 + 3) := ez_135.trans (nI_add p1 3)
    subst ez_135
    refine va_iald hx hb hK.1 hP 1 0 rfl rfl (vp_in_nI (by first | assumption | omega) (by decide)) d_Model_takeAtom_11 ?_
    refine W.eq (g2 := F0 m 12 ls [.int (kp (p1 + 3))]) (by rw [nI_clamp (by first | exact Nat.lt_of_lt_of_le (by assumption) (by decide) | exact Nat.lt_of_le_of_lt (by assumption) (by decide) | omega)]) ?_
    refine lv_goto (tgt := 26) hx hb d_Model_takeAtom_12 (by decide) ?_
    refine lv_istore (lv' := [(4, .int (kp (p1 + 3))), (0, .ref m0), (1, .int (nI p1)), (2, .int (nI tt9)), (3, .int (nI r9))]) hx hb d_Model_takeAtom_26 hl1 (by decide) rfl (fun ls hl2 => ?_)
    clear hl1; have hl1 := hl2; clear hl2
    exact jn_1 (kp (p1 + 3)) ⟨hb8.1, (if_pos (by first | assumption | omega)).symm⟩ _ _ _ (hP.sub [0, 1, 2, 3] rfl) (hD.sub [0, 1, 2, 3] (by decide) rfl) hS (lv_sub hl1 [1, 2, 4, 0] rfl)
abbrev b_Model_takeRow : ByteArray := prog_13_method_66_code
def y_Model_takeRow : MethodName := ⟨R_Model, "takeRow", "(III)V"⟩
theorem d_Model_takeRow_0 : decode b_Model_takeRow 0 = .ok (.iconst 1, 1) := by decide +kernel
theorem d_Model_takeRow_1 : decode b_Model_takeRow 1 = .ok (.istore 4, 2) := by decide +kernel
theorem d_Model_takeRow_3 : decode b_Model_takeRow 3 = .ok (.aload_n 0, 1) := by decide +kernel
theorem d_Model_takeRow_4 : decode b_Model_takeRow 4 = .ok (.getfield 119, 3) := by decide +kernel
theorem d_Model_takeRow_7 : decode b_Model_takeRow 7 = .ok (.iconst 0, 1) := by decide +kernel
theorem d_Model_takeRow_8 : decode b_Model_takeRow 8 = .ok (.iload_n 2, 1) := by decide +kernel
theorem d_Model_takeRow_9 : decode b_Model_takeRow 9 = .ok (.iconst 1, 1) := by decide +kernel
theorem d_Model_takeRow_10 : decode b_Model_takeRow 10 = .ok (.isub, 1) := by decide +kernel
theorem d_Model_takeRow_11 : decode b_Model_takeRow 11 = .ok (.iastore, 1) := by decide +kernel
theorem d_Model_takeRow_12 : decode b_Model_takeRow 12 = .ok (.aload_n 0, 1) := by decide +kernel
theorem d_Model_takeRow_13 : decode b_Model_takeRow 13 = .ok (.getfield 122, 3) := by decide +kernel
theorem d_Model_takeRow_16 : decode b_Model_takeRow 16 = .ok (.iconst 0, 1) := by decide +kernel
theorem d_Model_takeRow_17 : decode b_Model_takeRow 17 = .ok (.iload_n 3, 1) := by decide +kernel
theorem d_Model_takeRow_18 : decode b_Model_takeRow 18 = .ok (.iastore, 1) := by decide +kernel
theorem d_Model_takeRow_19 : decode b_Model_takeRow 19 = .ok (.aload_n 0, 1) := by decide +kernel
theorem d_Model_takeRow_20 : decode b_Model_takeRow 20 = .ok (.getfield 125, 3) := by decide +kernel
theorem d_Model_takeRow_23 : decode b_Model_takeRow 23 = .ok (.iconst 0, 1) := by decide +kernel
theorem d_Model_takeRow_24 : decode b_Model_takeRow 24 = .ok (.iconst 0, 1) := by decide +kernel
theorem d_Model_takeRow_25 : decode b_Model_takeRow 25 = .ok (.bastore, 1) := by decide +kernel
theorem d_Model_takeRow_26 : decode b_Model_takeRow 26 = .ok (.iload 4, 2) := by decide +kernel
theorem d_Model_takeRow_28 : decode b_Model_takeRow 28 = .ok (.ifCond .le 309, 3) := by decide +kernel
theorem d_Model_takeRow_31 : decode b_Model_takeRow 31 = .ok (.iinc 4 (-1), 3) := by decide +kernel
theorem d_Model_takeRow_34 : decode b_Model_takeRow 34 = .ok (.aload_n 0, 1) := by decide +kernel
theorem d_Model_takeRow_35 : decode b_Model_takeRow 35 = .ok (.getfield 119, 3) := by decide +kernel
theorem d_Model_takeRow_38 : decode b_Model_takeRow 38 = .ok (.iload 4, 2) := by decide +kernel
theorem d_Model_takeRow_40 : decode b_Model_takeRow 40 = .ok (.iaload, 1) := by decide +kernel
theorem d_Model_takeRow_41 : decode b_Model_takeRow 41 = .ok (.istore 5, 2) := by decide +kernel
theorem d_Model_takeRow_43 : decode b_Model_takeRow 43 = .ok (.aload_n 0, 1) := by decide +kernel
theorem d_Model_takeRow_44 : decode b_Model_takeRow 44 = .ok (.getfield 122, 3) := by decide +kernel
theorem d_Model_takeRow_47 : decode b_Model_takeRow 47 = .ok (.iload 4, 2) := by decide +kernel
theorem d_Model_takeRow_49 : decode b_Model_takeRow 49 = .ok (.iaload, 1) := by decide +kernel
theorem d_Model_takeRow_50 : decode b_Model_takeRow 50 = .ok (.istore 6, 2) := by decide +kernel
theorem d_Model_takeRow_52 : decode b_Model_takeRow 52 = .ok (.aload_n 0, 1) := by decide +kernel
theorem d_Model_takeRow_53 : decode b_Model_takeRow 53 = .ok (.getfield 125, 3) := by decide +kernel
theorem d_Model_takeRow_56 : decode b_Model_takeRow 56 = .ok (.iload 4, 2) := by decide +kernel
theorem d_Model_takeRow_58 : decode b_Model_takeRow 58 = .ok (.baload, 1) := by decide +kernel
theorem d_Model_takeRow_59 : decode b_Model_takeRow 59 = .ok (.istore 7, 2) := by decide +kernel
theorem d_Model_takeRow_61 : decode b_Model_takeRow 61 = .ok (.aload_n 0, 1) := by decide +kernel
theorem d_Model_takeRow_62 : decode b_Model_takeRow 62 = .ok (.getfield 94, 3) := by decide +kernel
theorem d_Model_takeRow_65 : decode b_Model_takeRow 65 = .ok (.bipush 6, 2) := by decide +kernel
theorem d_Model_takeRow_67 : decode b_Model_takeRow 67 = .ok (.iload_n 1, 1) := by decide +kernel
theorem d_Model_takeRow_68 : decode b_Model_takeRow 68 = .ok (.iload 5, 2) := by decide +kernel
theorem d_Model_takeRow_70 : decode b_Model_takeRow 70 = .ok (.iadd, 1) := by decide +kernel
theorem d_Model_takeRow_71 : decode b_Model_takeRow 71 = .ok (.imul, 1) := by decide +kernel
theorem d_Model_takeRow_72 : decode b_Model_takeRow 72 = .ok (.iaload, 1) := by decide +kernel
theorem d_Model_takeRow_73 : decode b_Model_takeRow 73 = .ok (.istore 8, 2) := by decide +kernel
theorem d_Model_takeRow_75 : decode b_Model_takeRow 75 = .ok (.iload 8, 2) := by decide +kernel
theorem d_Model_takeRow_77 : decode b_Model_takeRow 77 = .ok (.ifCond .ne 21, 3) := by decide +kernel
theorem d_Model_takeRow_80 : decode b_Model_takeRow 80 = .ok (.aload_n 0, 1) := by decide +kernel
theorem d_Model_takeRow_81 : decode b_Model_takeRow 81 = .ok (.bipush 6, 2) := by decide +kernel
theorem d_Model_takeRow_83 : decode b_Model_takeRow 83 = .ok (.iload_n 1, 1) := by decide +kernel
theorem d_Model_takeRow_84 : decode b_Model_takeRow 84 = .ok (.iload 5, 2) := by decide +kernel
theorem d_Model_takeRow_86 : decode b_Model_takeRow 86 = .ok (.iadd, 1) := by decide +kernel
theorem d_Model_takeRow_87 : decode b_Model_takeRow 87 = .ok (.imul, 1) := by decide +kernel
theorem d_Model_takeRow_88 : decode b_Model_takeRow 88 = .ok (.iload 7, 2) := by decide +kernel
theorem d_Model_takeRow_90 : decode b_Model_takeRow 90 = .ok (.iload 6, 2) := by decide +kernel
theorem d_Model_takeRow_92 : decode b_Model_takeRow 92 = .ok (.invokevirtual 411, 3) := by decide +kernel
theorem d_Model_takeRow_95 : decode b_Model_takeRow 95 = .ok (.goto 239, 3) := by decide +kernel
theorem d_Model_takeRow_98 : decode b_Model_takeRow 98 = .ok (.iload 8, 2) := by decide +kernel
theorem d_Model_takeRow_100 : decode b_Model_takeRow 100 = .ok (.iconst 1, 1) := by decide +kernel
theorem d_Model_takeRow_101 : decode b_Model_takeRow 101 = .ok (.if_icmp .ne 37, 3) := by decide +kernel
theorem d_Model_takeRow_104 : decode b_Model_takeRow 104 = .ok (.aload_n 0, 1) := by decide +kernel
theorem d_Model_takeRow_105 : decode b_Model_takeRow 105 = .ok (.getfield 119, 3) := by decide +kernel
theorem d_Model_takeRow_108 : decode b_Model_takeRow 108 = .ok (.iload 4, 2) := by decide +kernel
theorem d_Model_takeRow_110 : decode b_Model_takeRow 110 = .ok (.iload 5, 2) := by decide +kernel
theorem d_Model_takeRow_112 : decode b_Model_takeRow 112 = .ok (.iconst 1, 1) := by decide +kernel
theorem d_Model_takeRow_113 : decode b_Model_takeRow 113 = .ok (.isub, 1) := by decide +kernel
theorem d_Model_takeRow_114 : decode b_Model_takeRow 114 = .ok (.iastore, 1) := by decide +kernel
theorem d_Model_takeRow_115 : decode b_Model_takeRow 115 = .ok (.aload_n 0, 1) := by decide +kernel
theorem d_Model_takeRow_116 : decode b_Model_takeRow 116 = .ok (.getfield 125, 3) := by decide +kernel
theorem d_Model_takeRow_119 : decode b_Model_takeRow 119 = .ok (.iload 4, 2) := by decide +kernel
theorem d_Model_takeRow_121 : decode b_Model_takeRow 121 = .ok (.iload 7, 2) := by decide +kernel
theorem d_Model_takeRow_123 : decode b_Model_takeRow 123 = .ok (.ifCond .ne 7, 3) := by decide +kernel
theorem d_Model_takeRow_126 : decode b_Model_takeRow 126 = .ok (.iconst 1, 1) := by decide +kernel
theorem d_Model_takeRow_127 : decode b_Model_takeRow 127 = .ok (.goto 4, 3) := by decide +kernel
theorem d_Model_takeRow_130 : decode b_Model_takeRow 130 = .ok (.iconst 0, 1) := by decide +kernel
theorem d_Model_takeRow_131 : decode b_Model_takeRow 131 = .ok (.bastore, 1) := by decide +kernel
theorem d_Model_takeRow_132 : decode b_Model_takeRow 132 = .ok (.iinc 4 1, 3) := by decide +kernel
theorem d_Model_takeRow_135 : decode b_Model_takeRow 135 = .ok (.goto 199, 3) := by decide +kernel
theorem d_Model_takeRow_138 : decode b_Model_takeRow 138 = .ok (.iload 5, 2) := by decide +kernel
theorem d_Model_takeRow_140 : decode b_Model_takeRow 140 = .ok (.iconst 1, 1) := by decide +kernel
theorem d_Model_takeRow_141 : decode b_Model_takeRow 141 = .ok (.isub, 1) := by decide +kernel
theorem d_Model_takeRow_142 : decode b_Model_takeRow 142 = .ok (.istore 9, 2) := by decide +kernel
theorem d_Model_takeRow_144 : decode b_Model_takeRow 144 = .ok (.iload 9, 2) := by decide +kernel
theorem d_Model_takeRow_146 : decode b_Model_takeRow 146 = .ok (.aload_n 0, 1) := by decide +kernel
theorem d_Model_takeRow_147 : decode b_Model_takeRow 147 = .ok (.getfield 110, 3) := by decide +kernel
theorem d_Model_takeRow_150 : decode b_Model_takeRow 150 = .ok (.iload 9, 2) := by decide +kernel
theorem d_Model_takeRow_152 : decode b_Model_takeRow 152 = .ok (.iaload, 1) := by decide +kernel
theorem d_Model_takeRow_153 : decode b_Model_takeRow 153 = .ok (.isub, 1) := by decide +kernel
theorem d_Model_takeRow_154 : decode b_Model_takeRow 154 = .ok (.istore 10, 2) := by decide +kernel
theorem d_Model_takeRow_156 : decode b_Model_takeRow 156 = .ok (.iload 7, 2) := by decide +kernel
theorem d_Model_takeRow_158 : decode b_Model_takeRow 158 = .ok (.ifCond .eq 13, 3) := by decide +kernel
theorem d_Model_takeRow_161 : decode b_Model_takeRow 161 = .ok (.aload_n 0, 1) := by decide +kernel
theorem d_Model_takeRow_162 : decode b_Model_takeRow 162 = .ok (.getfield 113, 3) := by decide +kernel
theorem d_Model_takeRow_165 : decode b_Model_takeRow 165 = .ok (.iload 10, 2) := by decide +kernel
theorem d_Model_takeRow_167 : decode b_Model_takeRow 167 = .ok (.iaload, 1) := by decide +kernel
theorem d_Model_takeRow_168 : decode b_Model_takeRow 168 = .ok (.goto 10, 3) := by decide +kernel
theorem d_Model_takeRow_171 : decode b_Model_takeRow 171 = .ok (.aload_n 0, 1) := by decide +kernel
theorem d_Model_takeRow_172 : decode b_Model_takeRow 172 = .ok (.getfield 116, 3) := by decide +kernel
theorem d_Model_takeRow_175 : decode b_Model_takeRow 175 = .ok (.iload 10, 2) := by decide +kernel
theorem d_Model_takeRow_177 : decode b_Model_takeRow 177 = .ok (.iaload, 1) := by decide +kernel
theorem d_Model_takeRow_178 : decode b_Model_takeRow 178 = .ok (.istore 11, 2) := by decide +kernel
theorem d_Model_takeRow_180 : decode b_Model_takeRow 180 = .ok (.iload 7, 2) := by decide +kernel
theorem d_Model_takeRow_182 : decode b_Model_takeRow 182 = .ok (.ifCond .eq 13, 3) := by decide +kernel
theorem d_Model_takeRow_185 : decode b_Model_takeRow 185 = .ok (.aload_n 0, 1) := by decide +kernel
theorem d_Model_takeRow_186 : decode b_Model_takeRow 186 = .ok (.getfield 113, 3) := by decide +kernel
theorem d_Model_takeRow_189 : decode b_Model_takeRow 189 = .ok (.iload 9, 2) := by decide +kernel
theorem d_Model_takeRow_191 : decode b_Model_takeRow 191 = .ok (.iaload, 1) := by decide +kernel
theorem d_Model_takeRow_192 : decode b_Model_takeRow 192 = .ok (.goto 10, 3) := by decide +kernel
theorem d_Model_takeRow_195 : decode b_Model_takeRow 195 = .ok (.aload_n 0, 1) := by decide +kernel
theorem d_Model_takeRow_196 : decode b_Model_takeRow 196 = .ok (.getfield 116, 3) := by decide +kernel
theorem d_Model_takeRow_199 : decode b_Model_takeRow 199 = .ok (.iload 9, 2) := by decide +kernel
theorem d_Model_takeRow_201 : decode b_Model_takeRow 201 = .ok (.iaload, 1) := by decide +kernel
theorem d_Model_takeRow_202 : decode b_Model_takeRow 202 = .ok (.istore 12, 2) := by decide +kernel
theorem d_Model_takeRow_204 : decode b_Model_takeRow 204 = .ok (.iload 8, 2) := by decide +kernel
theorem d_Model_takeRow_206 : decode b_Model_takeRow 206 = .ok (.iconst 2, 1) := by decide +kernel
theorem d_Model_takeRow_207 : decode b_Model_takeRow 207 = .ok (.if_icmp .ne 7, 3) := by decide +kernel
theorem d_Model_takeRow_210 : decode b_Model_takeRow 210 = .ok (.iconst 1, 1) := by decide +kernel
theorem d_Model_takeRow_211 : decode b_Model_takeRow 211 = .ok (.goto 4, 3) := by decide +kernel
theorem d_Model_takeRow_214 : decode b_Model_takeRow 214 = .ok (.iconst 0, 1) := by decide +kernel
theorem d_Model_takeRow_215 : decode b_Model_takeRow 215 = .ok (.iload 7, 2) := by decide +kernel
theorem d_Model_takeRow_217 : decode b_Model_takeRow 217 = .ok (.if_icmp .ne 69, 3) := by decide +kernel
theorem d_Model_takeRow_220 : decode b_Model_takeRow 220 = .ok (.aload_n 0, 1) := by decide +kernel
theorem d_Model_takeRow_221 : decode b_Model_takeRow 221 = .ok (.getfield 119, 3) := by decide +kernel
theorem d_Model_takeRow_224 : decode b_Model_takeRow 224 = .ok (.iload 4, 2) := by decide +kernel
theorem d_Model_takeRow_226 : decode b_Model_takeRow 226 = .ok (.iload 10, 2) := by decide +kernel
theorem d_Model_takeRow_228 : decode b_Model_takeRow 228 = .ok (.iastore, 1) := by decide +kernel
theorem d_Model_takeRow_229 : decode b_Model_takeRow 229 = .ok (.aload_n 0, 1) := by decide +kernel
theorem d_Model_takeRow_230 : decode b_Model_takeRow 230 = .ok (.getfield 122, 3) := by decide +kernel
theorem d_Model_takeRow_233 : decode b_Model_takeRow 233 = .ok (.iload 4, 2) := by decide +kernel
theorem d_Model_takeRow_235 : decode b_Model_takeRow 235 = .ok (.iload 6, 2) := by decide +kernel
theorem d_Model_takeRow_237 : decode b_Model_takeRow 237 = .ok (.iload 12, 2) := by decide +kernel
theorem d_Model_takeRow_239 : decode b_Model_takeRow 239 = .ok (.idiv, 1) := by decide +kernel
theorem d_Model_takeRow_240 : decode b_Model_takeRow 240 = .ok (.iastore, 1) := by decide +kernel
theorem d_Model_takeRow_241 : decode b_Model_takeRow 241 = .ok (.aload_n 0, 1) := by decide +kernel
theorem d_Model_takeRow_242 : decode b_Model_takeRow 242 = .ok (.getfield 119, 3) := by decide +kernel
theorem d_Model_takeRow_245 : decode b_Model_takeRow 245 = .ok (.iload 4, 2) := by decide +kernel
theorem d_Model_takeRow_247 : decode b_Model_takeRow 247 = .ok (.iconst 1, 1) := by decide +kernel
theorem d_Model_takeRow_248 : decode b_Model_takeRow 248 = .ok (.iadd, 1) := by decide +kernel
theorem d_Model_takeRow_249 : decode b_Model_takeRow 249 = .ok (.iload 9, 2) := by decide +kernel
theorem d_Model_takeRow_251 : decode b_Model_takeRow 251 = .ok (.iastore, 1) := by decide +kernel
theorem d_Model_takeRow_252 : decode b_Model_takeRow 252 = .ok (.aload_n 0, 1) := by decide +kernel
theorem d_Model_takeRow_253 : decode b_Model_takeRow 253 = .ok (.getfield 122, 3) := by decide +kernel
theorem d_Model_takeRow_256 : decode b_Model_takeRow 256 = .ok (.iload 4, 2) := by decide +kernel
theorem d_Model_takeRow_258 : decode b_Model_takeRow 258 = .ok (.iconst 1, 1) := by decide +kernel
theorem d_Model_takeRow_259 : decode b_Model_takeRow 259 = .ok (.iadd, 1) := by decide +kernel
theorem d_Model_takeRow_260 : decode b_Model_takeRow 260 = .ok (.iload 6, 2) := by decide +kernel
theorem d_Model_takeRow_262 : decode b_Model_takeRow 262 = .ok (.iload 12, 2) := by decide +kernel
theorem d_Model_takeRow_264 : decode b_Model_takeRow 264 = .ok (.irem, 1) := by decide +kernel
theorem d_Model_takeRow_265 : decode b_Model_takeRow 265 = .ok (.iastore, 1) := by decide +kernel
theorem d_Model_takeRow_266 : decode b_Model_takeRow 266 = .ok (.aload_n 0, 1) := by decide +kernel
theorem d_Model_takeRow_267 : decode b_Model_takeRow 267 = .ok (.getfield 125, 3) := by decide +kernel
theorem d_Model_takeRow_270 : decode b_Model_takeRow 270 = .ok (.iload 4, 2) := by decide +kernel
theorem d_Model_takeRow_272 : decode b_Model_takeRow 272 = .ok (.iconst 1, 1) := by decide +kernel
theorem d_Model_takeRow_273 : decode b_Model_takeRow 273 = .ok (.iadd, 1) := by decide +kernel
theorem d_Model_takeRow_274 : decode b_Model_takeRow 274 = .ok (.iload 7, 2) := by decide +kernel
theorem d_Model_takeRow_276 : decode b_Model_takeRow 276 = .ok (.bastore, 1) := by decide +kernel
theorem d_Model_takeRow_277 : decode b_Model_takeRow 277 = .ok (.iload 4, 2) := by decide +kernel
theorem d_Model_takeRow_279 : decode b_Model_takeRow 279 = .ok (.iconst 2, 1) := by decide +kernel
theorem d_Model_takeRow_280 : decode b_Model_takeRow 280 = .ok (.iadd, 1) := by decide +kernel
theorem d_Model_takeRow_281 : decode b_Model_takeRow 281 = .ok (.istore 4, 2) := by decide +kernel
theorem d_Model_takeRow_283 : decode b_Model_takeRow 283 = .ok (.goto 51, 3) := by decide +kernel
theorem d_Model_takeRow_286 : decode b_Model_takeRow 286 = .ok (.aload_n 0, 1) := by decide +kernel
theorem d_Model_takeRow_287 : decode b_Model_takeRow 287 = .ok (.getfield 119, 3) := by decide +kernel
theorem d_Model_takeRow_290 : decode b_Model_takeRow 290 = .ok (.iload 4, 2) := by decide +kernel
theorem d_Model_takeRow_292 : decode b_Model_takeRow 292 = .ok (.iload 6, 2) := by decide +kernel
theorem d_Model_takeRow_294 : decode b_Model_takeRow 294 = .ok (.iload 11, 2) := by decide +kernel
theorem d_Model_takeRow_296 : decode b_Model_takeRow 296 = .ok (.if_icmp .ge 8, 3) := by decide +kernel
theorem d_Model_takeRow_299 : decode b_Model_takeRow 299 = .ok (.iload 10, 2) := by decide +kernel
theorem d_Model_takeRow_301 : decode b_Model_takeRow 301 = .ok (.goto 5, 3) := by decide +kernel
theorem d_Model_takeRow_304 : decode b_Model_takeRow 304 = .ok (.iload 9, 2) := by decide +kernel
theorem d_Model_takeRow_306 : decode b_Model_takeRow 306 = .ok (.iastore, 1) := by decide +kernel
theorem d_Model_takeRow_307 : decode b_Model_takeRow 307 = .ok (.aload_n 0, 1) := by decide +kernel
theorem d_Model_takeRow_308 : decode b_Model_takeRow 308 = .ok (.getfield 122, 3) := by decide +kernel
theorem d_Model_takeRow_311 : decode b_Model_takeRow 311 = .ok (.iload 4, 2) := by decide +kernel
theorem d_Model_takeRow_313 : decode b_Model_takeRow 313 = .ok (.iload 6, 2) := by decide +kernel
theorem d_Model_takeRow_315 : decode b_Model_takeRow 315 = .ok (.iload 11, 2) := by decide +kernel
theorem d_Model_takeRow_317 : decode b_Model_takeRow 317 = .ok (.if_icmp .ge 8, 3) := by decide +kernel
theorem d_Model_takeRow_320 : decode b_Model_takeRow 320 = .ok (.iload 6, 2) := by decide +kernel
theorem d_Model_takeRow_322 : decode b_Model_takeRow 322 = .ok (.goto 8, 3) := by decide +kernel
theorem d_Model_takeRow_325 : decode b_Model_takeRow 325 = .ok (.iload 6, 2) := by decide +kernel
theorem d_Model_takeRow_327 : decode b_Model_takeRow 327 = .ok (.iload 11, 2) := by decide +kernel
theorem d_Model_takeRow_329 : decode b_Model_takeRow 329 = .ok (.isub, 1) := by decide +kernel
theorem d_Model_takeRow_330 : decode b_Model_takeRow 330 = .ok (.iastore, 1) := by decide +kernel
theorem d_Model_takeRow_331 : decode b_Model_takeRow 331 = .ok (.iinc 4 1, 3) := by decide +kernel
theorem d_Model_takeRow_334 : decode b_Model_takeRow 334 = .ok (.goto (-308), 3) := by decide +kernel
theorem d_Model_takeRow_337 : decode b_Model_takeRow 337 = .ok (.return_, 1) := by decide +kernel
set_option maxHeartbeats 40000000 in
set_option maxRecDepth 100000 in
theorem c_M_takeRow (l : Launch) (D : va_G) (ax : Nat → ClassId) (m0 m1 m2 m3 m4 m5 m6 m7 m8 m9 m10 m11 m12 m13 m14 m15 m16 m17 m18 m19 m20 m21 m22 m23 m24 m25 m26 m27 m28 m29 m30 m31 m32 m33 m34 m35 m36 m37 m38 m39 m40 m41 m42 : Nat) (s_thrown s_taped s_size s_outSize s_kind s_value s_begin s_end s_failed s_isProgram s_half s_signs s_stacked s_name s_shift s_statements s_ifs s_whiles s_variants s_open s_isMade s_conditions s_kept s_tops s_used s_looked s_rows s_firstRow s_atoms : Int32) (br : Nat) (fr q r9 : Nat) (sf wt wf pa pr ptr : Nat → Nat) (kp bd ib : Nat → Int32) (sz : Nat) (hf : fml kp fr q) (hq : fr + q ≤ 30000) (hq1 : 1 ≤ q) (hm : mea kp fr q sf wt wf) (hz0 : szs kp fr q sf) (hq8 : q ≤ 8300) (hr8 : rwQ8 (sgl kp (6 * fr) q) q sf wt wf) (hb8 : nbl 21483 (sgl kp (6 * fr) q)) (hr9 : r9 ≤ 5001) (hbr0 : br = 0) (hz8 : ∀ k, k ≤ 120 → ib k = 0) : Met l y_Model_takeRow (xws (.code y_Model_takeRow b_Model_takeRow 13 none)) ({ frames := 30, cells := 0, slots := 0, locals := 1200 }) (va_Pc [.ref m0, .int (nI fr), .int (nI q), .int (nI r9)] (xo D ax [(m0, .inr (11, [.int s_thrown, .int s_taped, .ref m1, .int s_size, .int s_outSize, .ref m2, .int s_kind, .int s_value, .int s_begin, .int s_end, .int s_failed, .ref m3, .ref m4, .ref m5, .int s_isProgram, .int s_half, .ref m6, .ref m7, .ref m8, .ref m9, .ref m10, .ref m11, .ref m12, .ref m13, .ref m14, .ref m15, .ref m16, .ref m17, .ref m18, .ref m19, .ref m20, .int s_signs, .ref m21, .int s_stacked, .ref m22, .int s_name, .int s_shift, .int s_statements, .int s_ifs, .int s_whiles, .int s_variants, .int s_open, .ref m23, .int s_isMade, .int s_conditions, .ref m24, .ref m25, .ref m26, .ref m27, .int s_kept, .ref m28, .int s_tops, .ref m29, .int s_used, .ref m30, .ref m31, .int s_looked, .int s_rows, .int s_firstRow, .ref m32, .ref m33, .ref m34, .ref m35, .ref m36, .ref m37, .ref m38, .ref m39, .ref m40, .int (nI br), .ref m41, .int s_atoms, .ref m42])), (m28, .inl (ax 0, 180000, .inl kp)), (m32, .inl (ax 0, 30000, .inl (fun j => nI (sf j)))), (m33, .inl (ax 0, 30000, .inl (fun j => nI (wt j)))), (m34, .inl (ax 0, 30000, .inl (fun j => nI (wf j)))), (m35, .inl (ax 0, 20000, .inl (fun j => nI (pa j)))), (m36, .inl (ax 0, 20000, .inl (fun j => nI (pr j)))), (m37, .inl (ax 3, 20000, .inl (fun j => nI (ptr j)))), (m38, .inl (ax 0, 121, .inl bd)), (m39, .inl (ax 3, 121, .inl ib))] sz)) ((va_Qv (fun (u : Nat → Nat) => (u 0 ≤ 1)) (fun (u : Nat → Nat) (t9 : State) => ∃ xpa : Nat → Nat, ∃ xpr : Nat → Nat, ∃ xptr : Nat → Nat, ∃ xbd : Nat → Int32, ∃ xib : Nat → Int32, (bdW8 xbd xib) ∧ (∀ v, psv8 (sgl kp (6 * fr) q) r9 v ↔ bS8 (u 0) xbd xib v) ∧ va_P D classes [(m0, .inr (11, [.int s_thrown, .int s_taped, .ref m1, .int s_size, .int s_outSize, .ref m2, .int s_kind, .int s_value, .int s_begin, .int s_end, .int s_failed, .ref m3, .ref m4, .ref m5, .int s_isProgram, .int s_half, .ref m6, .ref m7, .ref m8, .ref m9, .ref m10, .ref m11, .ref m12, .ref m13, .ref m14, .ref m15, .ref m16, .ref m17, .ref m18, .ref m19, .ref m20, .int s_signs, .ref m21, .int s_stacked, .ref m22, .int s_name, .int s_shift, .int s_statements, .int s_ifs, .int s_whiles, .int s_variants, .int s_open, .ref m23, .int s_isMade, .int s_conditions, .ref m24, .ref m25, .ref m26, .ref m27, .int s_kept, .ref m28, .int s_tops, .ref m29, .int s_used, .ref m30, .ref m31, .int s_looked, .int s_rows, .int s_firstRow, .ref m32, .ref m33, .ref m34, .ref m35, .ref m36, .ref m37, .ref m38, .ref m39, .ref m40, .int (nI (u 0)), .ref m41, .int s_atoms, .ref m42])), (m28, .inl (ax 0, 180000, .inl kp)), (m32, .inl (ax 0, 30000, .inl (fun j => nI (sf j)))), (m33, .inl (ax 0, 30000, .inl (fun j => nI (wt j)))), (m34, .inl (ax 0, 30000, .inl (fun j => nI (wf j)))), (m35, .inl (ax 0, 20000, .inl (fun j => nI (xpa j)))), (m36, .inl (ax 0, 20000, .inl (fun j => nI (xpr j)))), (m37, .inl (ax 3, 20000, .inl (fun j => nI (xptr j)))), (m38, .inl (ax 0, 121, .inl xbd)), (m39, .inl (ax 3, 121, .inl xib))] t9.heap ∧ va_D (va_A [(m0, .inr (11, [.int s_thrown, .int s_taped, .ref m1, .int s_size, .int s_outSize, .ref m2, .int s_kind, .int s_value, .int s_begin, .int s_end, .int s_failed, .ref m3, .ref m4, .ref m5, .int s_isProgram, .int s_half, .ref m6, .ref m7, .ref m8, .ref m9, .ref m10, .ref m11, .ref m12, .ref m13, .ref m14, .ref m15, .ref m16, .ref m17, .ref m18, .ref m19, .ref m20, .int s_signs, .ref m21, .int s_stacked, .ref m22, .int s_name, .int s_shift, .int s_statements, .int s_ifs, .int s_whiles, .int s_variants, .int s_open, .ref m23, .int s_isMade, .int s_conditions, .ref m24, .ref m25, .ref m26, .ref m27, .int s_kept, .ref m28, .int s_tops, .ref m29, .int s_used, .ref m30, .ref m31, .int s_looked, .int s_rows, .int s_firstRow, .ref m32, .ref m33, .ref m34, .ref m35, .ref m36, .ref m37, .ref m38, .ref m39, .ref m40, .int (nI br), .ref m41, .int s_atoms, .ref m42])), (m28, .inl (ax 0, 180000, .inl kp)), (m32, .inl (ax 0, 30000, .inl (fun j => nI (sf j)))), (m33, .inl (ax 0, 30000, .inl (fun j => nI (wt j)))), (m34, .inl (ax 0, 30000, .inl (fun j => nI (wf j)))), (m35, .inl (ax 0, 20000, .inl (fun j => nI (pa j)))), (m36, .inl (ax 0, 20000, .inl (fun j => nI (pr j)))), (m37, .inl (ax 3, 20000, .inl (fun j => nI (ptr j)))), (m38, .inl (ax 0, 121, .inl bd)), (m39, .inl (ax 3, 121, .inl ib))] sz) [(m0, .inr (11, [.int s_thrown, .int s_taped, .ref m1, .int s_size, .int s_outSize, .ref m2, .int s_kind, .int s_value, .int s_begin, .int s_end, .int s_failed, .ref m3, .ref m4, .ref m5, .int s_isProgram, .int s_half, .ref m6, .ref m7, .ref m8, .ref m9, .ref m10, .ref m11, .ref m12, .ref m13, .ref m14, .ref m15, .ref m16, .ref m17, .ref m18, .ref m19, .ref m20, .int s_signs, .ref m21, .int s_stacked, .ref m22, .int s_name, .int s_shift, .int s_statements, .int s_ifs, .int s_whiles, .int s_variants, .int s_open, .ref m23, .int s_isMade, .int s_conditions, .ref m24, .ref m25, .ref m26, .ref m27, .int s_kept, .ref m28, .int s_tops, .ref m29, .int s_used, .ref m30, .ref m31, .int s_looked, .int s_rows, .int s_firstRow, .ref m32, .ref m33, .ref m34, .ref m35, .ref m36, .ref m37, .ref m38, .ref m39, .ref m40, .int (nI (u 0)), .ref m41, .int s_atoms, .ref m42])), (m28, .inl (ax 0, 180000, .inl kp)), (m32, .inl (ax 0, 30000, .inl (fun j => nI (sf j)))), (m33, .inl (ax 0, 30000, .inl (fun j => nI (wt j)))), (m34, .inl (ax 0, 30000, .inl (fun j => nI (wf j)))), (m35, .inl (ax 0, 20000, .inl (fun j => nI (xpa j)))), (m36, .inl (ax 0, 20000, .inl (fun j => nI (xpr j)))), (m37, .inl (ax 3, 20000, .inl (fun j => nI (xptr j)))), (m38, .inl (ax 0, 121, .inl xbd)), (m39, .inl (ax 3, 121, .inl xib))]) (va_A [(m0, .inr (11, [.int s_thrown, .int s_taped, .ref m1, .int s_size, .int s_outSize, .ref m2, .int s_kind, .int s_value, .int s_begin, .int s_end, .int s_failed, .ref m3, .ref m4, .ref m5, .int s_isProgram, .int s_half, .ref m6, .ref m7, .ref m8, .ref m9, .ref m10, .ref m11, .ref m12, .ref m13, .ref m14, .ref m15, .ref m16, .ref m17, .ref m18, .ref m19, .ref m20, .int s_signs, .ref m21, .int s_stacked, .ref m22, .int s_name, .int s_shift, .int s_statements, .int s_ifs, .int s_whiles, .int s_variants, .int s_open, .ref m23, .int s_isMade, .int s_conditions, .ref m24, .ref m25, .ref m26, .ref m27, .int s_kept, .ref m28, .int s_tops, .ref m29, .int s_used, .ref m30, .ref m31, .int s_looked, .int s_rows, .int s_firstRow, .ref m32, .ref m33, .ref m34, .ref m35, .ref m36, .ref m37, .ref m38, .ref m39, .ref m40, .int (nI br), .ref m41, .int s_atoms, .ref m42])), (m28, .inl (ax 0, 180000, .inl kp)), (m32, .inl (ax 0, 30000, .inl (fun j => nI (sf j)))), (m33, .inl (ax 0, 30000, .inl (fun j => nI (wt j)))), (m34, .inl (ax 0, 30000, .inl (fun j => nI (wf j)))), (m35, .inl (ax 0, 20000, .inl (fun j => nI (pa j)))), (m36, .inl (ax 0, 20000, .inl (fun j => nI (pr j)))), (m37, .inl (ax 3, 20000, .inl (fun j => nI (ptr j)))), (m38, .inl (ax 0, 121, .inl bd)), (m39, .inl (ax 3, 121, .inl ib))] sz))) 0 0 (va_A [(m0, .inr (11, [.int s_thrown, .int s_taped, .ref m1, .int s_size, .int s_outSize, .ref m2, .int s_kind, .int s_value, .int s_begin, .int s_end, .int s_failed, .ref m3, .ref m4, .ref m5, .int s_isProgram, .int s_half, .ref m6, .ref m7, .ref m8, .ref m9, .ref m10, .ref m11, .ref m12, .ref m13, .ref m14, .ref m15, .ref m16, .ref m17, .ref m18, .ref m19, .ref m20, .int s_signs, .ref m21, .int s_stacked, .ref m22, .int s_name, .int s_shift, .int s_statements, .int s_ifs, .int s_whiles, .int s_variants, .int s_open, .ref m23, .int s_isMade, .int s_conditions, .ref m24, .ref m25, .ref m26, .ref m27, .int s_kept, .ref m28, .int s_tops, .ref m29, .int s_used, .ref m30, .ref m31, .int s_looked, .int s_rows, .int s_firstRow, .ref m32, .ref m33, .ref m34, .ref m35, .ref m36, .ref m37, .ref m38, .ref m39, .ref m40, .int (nI br), .ref m41, .int s_atoms, .ref m42])), (m28, .inl (ax 0, 180000, .inl kp)), (m32, .inl (ax 0, 30000, .inl (fun j => nI (sf j)))), (m33, .inl (ax 0, 30000, .inl (fun j => nI (wt j)))), (m34, .inl (ax 0, 30000, .inl (fun j => nI (wf j)))), (m35, .inl (ax 0, 20000, .inl (fun j => nI (pa j)))), (m36, .inl (ax 0, 20000, .inl (fun j => nI (pr j)))), (m37, .inl (ax 3, 20000, .inl (fun j => nI (ptr j)))), (m38, .inl (ax 0, 121, .inl bd)), (m39, .inl (ax 3, 121, .inl ib))] sz) := by
  refine Met.ofW (cc := b_Model_takeRow) (maxL := 13) (ret := none) (by decide) rfl ?_
  intro p e s m args below meth c s₁ B hml hv
  obtain ⟨rfl, hsz, hP, hK, hD0⟩ := hv
  have hx := B.exec
  have hb := B.bytes
  have hr := B.returns
  have hts := xw_hts B.pre
  have hown : s.vm.findClass R_Model = some m.cls := findClass_of_methodNamed B.named
  have hlocks := B.notSynchronized
  subst hsz
  have hD := hD0.self (sz := s.heap.size)
  have hN := xz_entry hP
  generalize hAe : va_A [(m0, .inr (11, [.int s_thrown, .int s_taped, .ref m1, .int s_size, .int s_outSize, .ref m2, .int s_kind, .int s_value, .int s_begin, .int s_end, .int s_failed, .ref m3, .ref m4, .ref m5, .int s_isProgram, .int s_half, .ref m6, .ref m7, .ref m8, .ref m9, .ref m10, .ref m11, .ref m12, .ref m13, .ref m14, .ref m15, .ref m16, .ref m17, .ref m18, .ref m19, .ref m20, .int s_signs, .ref m21, .int s_stacked, .ref m22, .int s_name, .int s_shift, .int s_statements, .int s_ifs, .int s_whiles, .int s_variants, .int s_open, .ref m23, .int s_isMade, .int s_conditions, .ref m24, .ref m25, .ref m26, .ref m27, .int s_kept, .ref m28, .int s_tops, .ref m29, .int s_used, .ref m30, .ref m31, .int s_looked, .int s_rows, .int s_firstRow, .ref m32, .ref m33, .ref m34, .ref m35, .ref m36, .ref m37, .ref m38, .ref m39, .ref m40, .int (nI br), .ref m41, .int s_atoms, .ref m42])), (m28, .inl (ax 0, 180000, .inl kp)), (m32, .inl (ax 0, 30000, .inl (fun j => nI (sf j)))), (m33, .inl (ax 0, 30000, .inl (fun j => nI (wt j)))), (m34, .inl (ax 0, 30000, .inl (fun j => nI (wf j)))), (m35, .inl (ax 0, 20000, .inl (fun j => nI (pa j)))), (m36, .inl (ax 0, 20000, .inl (fun j => nI (pr j)))), (m37, .inl (ax 3, 20000, .inl (fun j => nI (ptr j)))), (m38, .inl (ax 0, 121, .inl bd)), (m39, .inl (ax 3, 121, .inl ib))] s.heap.size = A at hD hN ⊢
  have hA : ∀ q : Nat, s.heap.size ≤ q → A q := fun q h => by rw [← hAe]; exact Or.inr h
  have hS : va_S A s.heap s.heap [] := va_S.rf
  have hl0 := lv_entry ([.ref m0, .int (nI fr), .int (nI q), .int (nI r9)]) (n := 13) (Nat.le_of_ble_eq_true rfl)
  rw [lg_entry_eq]
  generalize (lg_sl ([.ref m0, .int (nI fr), .int (nI q), .int (nI r9)]) ++ List.replicate (13 - (lg_sl ([.ref m0, .int (nI fr), .int (nI q), .int (nI r9)])).length) Slot.unset).toArray = ls at hl0 ⊢
  have hl1 : lv_has ls 13 [(0, .ref m0), (1, .int (nI fr)), (2, .int (nI q)), (3, .int (nI r9))] := hl0
  refine xw_gen (fun Z9 hQe => ?_)
  refine lv_iconst (v := 1) hx hb d_Model_takeRow_0 (by decide) ?_
  refine lv_istore (lv' := [(4, .int 1), (0, .ref m0), (1, .int (nI fr)), (2, .int (nI q)), (3, .int (nI r9))]) hx hb d_Model_takeRow_1 hl1 (by decide) rfl (fun ls hl2 => ?_)
  clear hl1; have hl1 := hl2; clear hl2
  refine lv_aload_n hx hb d_Model_takeRow_3 rfl (lv_at hl1 1 rfl) ?_
  refine va_get (D := D) (ci := 11) (v := .ref m35) (C := R_Model) (T := F_Model) (N := 72) hx hb hts i_Model hown hK.1 hP 0 rfl rfl 62 (by decide) (hts _ wd_1098) (fun _ h9 => h9) rfl d_Model_takeRow_4 ?_
  refine lv_iconst (v := 0) hx hb d_Model_takeRow_7 (by decide) ?_
  refine lv_iload_n hx hb d_Model_takeRow_8 rfl (lv_at hl1 3 rfl) ?_
  refine lv_iconst (v := 1) hx hb d_Model_takeRow_9 (by decide) ?_
  refine lv_isub hx hb d_Model_takeRow_10 ?_
  refine lv_topi (fun z_1 ez_1 => ?_)
  have ez_1 : z_1 = nI (q - 1) := ez_1.trans (pk_sub (a := q) (b := 1) (by first | assumption | omega))
  subst ez_1
  refine va_iast hx hb hK.1 hP hD hS 5 0 rfl rfl (by unfold vp_in; decide) d_Model_takeRow_11 (fun H_2 locs hP1 hD1 hS1 => ?_)
  replace hP1 : va_P D classes [(m0, .inr (11, [.int s_thrown, .int s_taped, .ref m1, .int s_size, .int s_outSize, .ref m2, .int s_kind, .int s_value, .int s_begin, .int s_end, .int s_failed, .ref m3, .ref m4, .ref m5, .int s_isProgram, .int s_half, .ref m6, .ref m7, .ref m8, .ref m9, .ref m10, .ref m11, .ref m12, .ref m13, .ref m14, .ref m15, .ref m16, .ref m17, .ref m18, .ref m19, .ref m20, .int s_signs, .ref m21, .int s_stacked, .ref m22, .int s_name, .int s_shift, .int s_statements, .int s_ifs, .int s_whiles, .int s_variants, .int s_open, .ref m23, .int s_isMade, .int s_conditions, .ref m24, .ref m25, .ref m26, .ref m27, .int s_kept, .ref m28, .int s_tops, .ref m29, .int s_used, .ref m30, .ref m31, .int s_looked, .int s_rows, .int s_firstRow, .ref m32, .ref m33, .ref m34, .ref m35, .ref m36, .ref m37, .ref m38, .ref m39, .ref m40, .int (nI br), .ref m41, .int s_atoms, .ref m42])), (m28, .inl (ax 0, 180000, .inl kp)), (m32, .inl (ax 0, 30000, .inl (fun j => nI (sf j)))), (m33, .inl (ax 0, 30000, .inl (fun j => nI (wt j)))), (m34, .inl (ax 0, 30000, .inl (fun j => nI (wf j)))), (m35, .inl (ax 0, 20000, .inl (upd (fun j => nI (pa j)) 0 (nI (q - 1))))), (m36, .inl (ax 0, 20000, .inl (fun j => nI (pr j)))), (m37, .inl (ax 3, 20000, .inl (fun j => nI (ptr j)))), (m38, .inl (ax 0, 121, .inl bd)), (m39, .inl (ax 3, 121, .inl ib))] H_2 := hP1
  replace hD1 : va_D A [(m0, .inr (11, [.int s_thrown, .int s_taped, .ref m1, .int s_size, .int s_outSize, .ref m2, .int s_kind, .int s_value, .int s_begin, .int s_end, .int s_failed, .ref m3, .ref m4, .ref m5, .int s_isProgram, .int s_half, .ref m6, .ref m7, .ref m8, .ref m9, .ref m10, .ref m11, .ref m12, .ref m13, .ref m14, .ref m15, .ref m16, .ref m17, .ref m18, .ref m19, .ref m20, .int s_signs, .ref m21, .int s_stacked, .ref m22, .int s_name, .int s_shift, .int s_statements, .int s_ifs, .int s_whiles, .int s_variants, .int s_open, .ref m23, .int s_isMade, .int s_conditions, .ref m24, .ref m25, .ref m26, .ref m27, .int s_kept, .ref m28, .int s_tops, .ref m29, .int s_used, .ref m30, .ref m31, .int s_looked, .int s_rows, .int s_firstRow, .ref m32, .ref m33, .ref m34, .ref m35, .ref m36, .ref m37, .ref m38, .ref m39, .ref m40, .int (nI br), .ref m41, .int s_atoms, .ref m42])), (m28, .inl (ax 0, 180000, .inl kp)), (m32, .inl (ax 0, 30000, .inl (fun j => nI (sf j)))), (m33, .inl (ax 0, 30000, .inl (fun j => nI (wt j)))), (m34, .inl (ax 0, 30000, .inl (fun j => nI (wf j)))), (m35, .inl (ax 0, 20000, .inl (upd (fun j => nI (pa j)) 0 (nI (q - 1))))), (m36, .inl (ax 0, 20000, .inl (fun j => nI (pr j)))), (m37, .inl (ax 3, 20000, .inl (fun j => nI (ptr j)))), (m38, .inl (ax 0, 121, .inl bd)), (m39, .inl (ax 3, 121, .inl ib))] := hD1
  rw [xf_sup pa 0 (q - 1)] at hP1 hD1
  clear hP hD hS
  have hS := hS1
  have hW7 : (fun w9 : va_W => va_P D classes w9 H_2 ∧ va_D A w9) [(m0, .inr (11, [.int s_thrown, .int s_taped, .ref m1, .int s_size, .int s_outSize, .ref m2, .int s_kind, .int s_value, .int s_begin, .int s_end, .int s_failed, .ref m3, .ref m4, .ref m5, .int s_isProgram, .int s_half, .ref m6, .ref m7, .ref m8, .ref m9, .ref m10, .ref m11, .ref m12, .ref m13, .ref m14, .ref m15, .ref m16, .ref m17, .ref m18, .ref m19, .ref m20, .int s_signs, .ref m21, .int s_stacked, .ref m22, .int s_name, .int s_shift, .int s_statements, .int s_ifs, .int s_whiles, .int s_variants, .int s_open, .ref m23, .int s_isMade, .int s_conditions, .ref m24, .ref m25, .ref m26, .ref m27, .int s_kept, .ref m28, .int s_tops, .ref m29, .int s_used, .ref m30, .ref m31, .int s_looked, .int s_rows, .int s_firstRow, .ref m32, .ref m33, .ref m34, .ref m35, .ref m36, .ref m37, .ref m38, .ref m39, .ref m40, .int (nI br), .ref m41, .int s_atoms, .ref m42])), (m28, .inl (ax 0, 180000, .inl kp)), (m32, .inl (ax 0, 30000, .inl (fun j => nI (sf j)))), (m33, .inl (ax 0, 30000, .inl (fun j => nI (wt j)))), (m34, .inl (ax 0, 30000, .inl (fun j => nI (wf j)))), (m35, .inl (ax 0, 20000, .inl (fun j => nI (sup pa 0 (q - 1) j)))), (m36, .inl (ax 0, 20000, .inl (fun j => nI (pr j)))), (m37, .inl (ax 3, 20000, .inl (fun j => nI (ptr j)))), (m38, .inl (ax 0, 121, .inl bd)), (m39, .inl (ax 3, 121, .inl ib))] := ⟨hP1, hD1⟩
  obtain ⟨hP, hD⟩ := hW7
  clear hP1 hD1 hS1
  refine lv_aload_n hx hb d_Model_takeRow_12 rfl (lv_at hl1 1 rfl) ?_
  refine va_get (D := D) (ci := 11) (v := .ref m36) (C := R_Model) (T := F_Model) (N := 72) hx hb hts i_Model hown hK.1 hP 0 rfl rfl 63 (by decide) (hts _ wd_1099) (fun _ h9 => h9) rfl d_Model_takeRow_13 ?_
  refine lv_iconst (v := 0) hx hb d_Model_takeRow_16 (by decide) ?_
  refine lv_iload_n hx hb d_Model_takeRow_17 rfl (lv_at hl1 4 rfl) ?_
  refine va_iast hx hb hK.1 hP hD hS 6 0 rfl rfl (by unfold vp_in; decide) d_Model_takeRow_18 (fun H_3 locs hP1 hD1 hS1 => ?_)
  replace hP1 : va_P D classes [(m0, .inr (11, [.int s_thrown, .int s_taped, .ref m1, .int s_size, .int s_outSize, .ref m2, .int s_kind, .int s_value, .int s_begin, .int s_end, .int s_failed, .ref m3, .ref m4, .ref m5, .int s_isProgram, .int s_half, .ref m6, .ref m7, .ref m8, .ref m9, .ref m10, .ref m11, .ref m12, .ref m13, .ref m14, .ref m15, .ref m16, .ref m17, .ref m18, .ref m19, .ref m20, .int s_signs, .ref m21, .int s_stacked, .ref m22, .int s_name, .int s_shift, .int s_statements, .int s_ifs, .int s_whiles, .int s_variants, .int s_open, .ref m23, .int s_isMade, .int s_conditions, .ref m24, .ref m25, .ref m26, .ref m27, .int s_kept, .ref m28, .int s_tops, .ref m29, .int s_used, .ref m30, .ref m31, .int s_looked, .int s_rows, .int s_firstRow, .ref m32, .ref m33, .ref m34, .ref m35, .ref m36, .ref m37, .ref m38, .ref m39, .ref m40, .int (nI br), .ref m41, .int s_atoms, .ref m42])), (m28, .inl (ax 0, 180000, .inl kp)), (m32, .inl (ax 0, 30000, .inl (fun j => nI (sf j)))), (m33, .inl (ax 0, 30000, .inl (fun j => nI (wt j)))), (m34, .inl (ax 0, 30000, .inl (fun j => nI (wf j)))), (m35, .inl (ax 0, 20000, .inl (fun j => nI (sup pa 0 (q - 1) j)))), (m36, .inl (ax 0, 20000, .inl (upd (fun j => nI (pr j)) 0 (nI r9)))), (m37, .inl (ax 3, 20000, .inl (fun j => nI (ptr j)))), (m38, .inl (ax 0, 121, .inl bd)), (m39, .inl (ax 3, 121, .inl ib))] H_3 := hP1
  replace hD1 : va_D A [(m0, .inr (11, [.int s_thrown, .int s_taped, .ref m1, .int s_size, .int s_outSize, .ref m2, .int s_kind, .int s_value, .int s_begin, .int s_end, .int s_failed, .ref m3, .ref m4, .ref m5, .int s_isProgram, .int s_half, .ref m6, .ref m7, .ref m8, .ref m9, .ref m10, .ref m11, .ref m12, .ref m13, .ref m14, .ref m15, .ref m16, .ref m17, .ref m18, .ref m19, .ref m20, .int s_signs, .ref m21, .int s_stacked, .ref m22, .int s_name, .int s_shift, .int s_statements, .int s_ifs, .int s_whiles, .int s_variants, .int s_open, .ref m23, .int s_isMade, .int s_conditions, .ref m24, .ref m25, .ref m26, .ref m27, .int s_kept, .ref m28, .int s_tops, .ref m29, .int s_used, .ref m30, .ref m31, .int s_looked, .int s_rows, .int s_firstRow, .ref m32, .ref m33, .ref m34, .ref m35, .ref m36, .ref m37, .ref m38, .ref m39, .ref m40, .int (nI br), .ref m41, .int s_atoms, .ref m42])), (m28, .inl (ax 0, 180000, .inl kp)), (m32, .inl (ax 0, 30000, .inl (fun j => nI (sf j)))), (m33, .inl (ax 0, 30000, .inl (fun j => nI (wt j)))), (m34, .inl (ax 0, 30000, .inl (fun j => nI (wf j)))), (m35, .inl (ax 0, 20000, .inl (fun j => nI (sup pa 0 (q - 1) j)))), (m36, .inl (ax 0, 20000, .inl (upd (fun j => nI (pr j)) 0 (nI r9)))), (m37, .inl (ax 3, 20000, .inl (fun j => nI (ptr j)))), (m38, .inl (ax 0, 121, .inl bd)), (m39, .inl (ax 3, 121, .inl ib))] := hD1
  rw [xf_sup pr 0 r9] at hP1 hD1
  clear hP hD hS
  have hS := hS1
  have hW7 : (fun w9 : va_W => va_P D classes w9 H_3 ∧ va_D A w9) [(m0, .inr (11, [.int s_thrown, .int s_taped, .ref m1, .int s_size, .int s_outSize, .ref m2, .int s_kind, .int s_value, .int s_begin, .int s_end, .int s_failed, .ref m3, .ref m4, .ref m5, .int s_isProgram, .int s_half, .ref m6, .ref m7, .ref m8, .ref m9, .ref m10, .ref m11, .ref m12, .ref m13, .ref m14, .ref m15, .ref m16, .ref m17, .ref m18, .ref m19, .ref m20, .int s_signs, .ref m21, .int s_stacked, .ref m22, .int s_name, .int s_shift, .int s_statements, .int s_ifs, .int s_whiles, .int s_variants, .int s_open, .ref m23, .int s_isMade, .int s_conditions, .ref m24, .ref m25, .ref m26, .ref m27, .int s_kept, .ref m28, .int s_tops, .ref m29, .int s_used, .ref m30, .ref m31, .int s_looked, .int s_rows, .int s_firstRow, .ref m32, .ref m33, .ref m34, .ref m35, .ref m36, .ref m37, .ref m38, .ref m39, .ref m40, .int (nI br), .ref m41, .int s_atoms, .ref m42])), (m28, .inl (ax 0, 180000, .inl kp)), (m32, .inl (ax 0, 30000, .inl (fun j => nI (sf j)))), (m33, .inl (ax 0, 30000, .inl (fun j => nI (wt j)))), (m34, .inl (ax 0, 30000, .inl (fun j => nI (wf j)))), (m35, .inl (ax 0, 20000, .inl (fun j => nI (sup pa 0 (q - 1) j)))), (m36, .inl (ax 0, 20000, .inl (fun j => nI (sup pr 0 r9 j)))), (m37, .inl (ax 3, 20000, .inl (fun j => nI (ptr j)))), (m38, .inl (ax 0, 121, .inl bd)), (m39, .inl (ax 3, 121, .inl ib))] := ⟨hP1, hD1⟩
  obtain ⟨hP, hD⟩ := hW7
  clear hP1 hD1 hS1
  refine lv_aload_n hx hb d_Model_takeRow_19 rfl (lv_at hl1 1 rfl) ?_
  refine va_get (D := D) (ci := 11) (v := .ref m37) (C := R_Model) (T := F_Model) (N := 72) hx hb hts i_Model hown hK.1 hP 0 rfl rfl 64 (by decide) (hts _ wd_1100) (fun _ h9 => h9) rfl d_Model_takeRow_20 ?_
  refine lv_iconst (v := 0) hx hb d_Model_takeRow_23 (by decide) ?_
  refine lv_iconst (v := 0) hx hb d_Model_takeRow_24 (by decide) ?_
  refine va_zast hx hb hK.1 hP hD hS 7 3 rfl rfl (by unfold vp_in; decide) d_Model_takeRow_25 (fun H_4 locs hP1 hD1 hS1 => ?_)
  replace hP1 : va_P D classes [(m0, .inr (11, [.int s_thrown, .int s_taped, .ref m1, .int s_size, .int s_outSize, .ref m2, .int s_kind, .int s_value, .int s_begin, .int s_end, .int s_failed, .ref m3, .ref m4, .ref m5, .int s_isProgram, .int s_half, .ref m6, .ref m7, .ref m8, .ref m9, .ref m10, .ref m11, .ref m12, .ref m13, .ref m14, .ref m15, .ref m16, .ref m17, .ref m18, .ref m19, .ref m20, .int s_signs, .ref m21, .int s_stacked, .ref m22, .int s_name, .int s_shift, .int s_statements, .int s_ifs, .int s_whiles, .int s_variants, .int s_open, .ref m23, .int s_isMade, .int s_conditions, .ref m24, .ref m25, .ref m26, .ref m27, .int s_kept, .ref m28, .int s_tops, .ref m29, .int s_used, .ref m30, .ref m31, .int s_looked, .int s_rows, .int s_firstRow, .ref m32, .ref m33, .ref m34, .ref m35, .ref m36, .ref m37, .ref m38, .ref m39, .ref m40, .int (nI br), .ref m41, .int s_atoms, .ref m42])), (m28, .inl (ax 0, 180000, .inl kp)), (m32, .inl (ax 0, 30000, .inl (fun j => nI (sf j)))), (m33, .inl (ax 0, 30000, .inl (fun j => nI (wt j)))), (m34, .inl (ax 0, 30000, .inl (fun j => nI (wf j)))), (m35, .inl (ax 0, 20000, .inl (fun j => nI (sup pa 0 (q - 1) j)))), (m36, .inl (ax 0, 20000, .inl (fun j => nI (sup pr 0 r9 j)))), (m37, .inl (ax 3, 20000, .inl (upd (fun j => nI (ptr j)) 0 (vp_nar .boolean 0)))), (m38, .inl (ax 0, 121, .inl bd)), (m39, .inl (ax 3, 121, .inl ib))] H_4 := hP1
  replace hD1 : va_D A [(m0, .inr (11, [.int s_thrown, .int s_taped, .ref m1, .int s_size, .int s_outSize, .ref m2, .int s_kind, .int s_value, .int s_begin, .int s_end, .int s_failed, .ref m3, .ref m4, .ref m5, .int s_isProgram, .int s_half, .ref m6, .ref m7, .ref m8, .ref m9, .ref m10, .ref m11, .ref m12, .ref m13, .ref m14, .ref m15, .ref m16, .ref m17, .ref m18, .ref m19, .ref m20, .int s_signs, .ref m21, .int s_stacked, .ref m22, .int s_name, .int s_shift, .int s_statements, .int s_ifs, .int s_whiles, .int s_variants, .int s_open, .ref m23, .int s_isMade, .int s_conditions, .ref m24, .ref m25, .ref m26, .ref m27, .int s_kept, .ref m28, .int s_tops, .ref m29, .int s_used, .ref m30, .ref m31, .int s_looked, .int s_rows, .int s_firstRow, .ref m32, .ref m33, .ref m34, .ref m35, .ref m36, .ref m37, .ref m38, .ref m39, .ref m40, .int (nI br), .ref m41, .int s_atoms, .ref m42])), (m28, .inl (ax 0, 180000, .inl kp)), (m32, .inl (ax 0, 30000, .inl (fun j => nI (sf j)))), (m33, .inl (ax 0, 30000, .inl (fun j => nI (wt j)))), (m34, .inl (ax 0, 30000, .inl (fun j => nI (wf j)))), (m35, .inl (ax 0, 20000, .inl (fun j => nI (sup pa 0 (q - 1) j)))), (m36, .inl (ax 0, 20000, .inl (fun j => nI (sup pr 0 r9 j)))), (m37, .inl (ax 3, 20000, .inl (upd (fun j => nI (ptr j)) 0 (vp_nar .boolean 0)))), (m38, .inl (ax 0, 121, .inl bd)), (m39, .inl (ax 3, 121, .inl ib))] := hD1
  rw [xf_supz ptr 0 0 0 rfl] at hP1 hD1
  clear hP hD hS
  have hS := hS1
  have hW7 : (fun w9 : va_W => va_P D classes w9 H_4 ∧ va_D A w9) [(m0, .inr (11, [.int s_thrown, .int s_taped, .ref m1, .int s_size, .int s_outSize, .ref m2, .int s_kind, .int s_value, .int s_begin, .int s_end, .int s_failed, .ref m3, .ref m4, .ref m5, .int s_isProgram, .int s_half, .ref m6, .ref m7, .ref m8, .ref m9, .ref m10, .ref m11, .ref m12, .ref m13, .ref m14, .ref m15, .ref m16, .ref m17, .ref m18, .ref m19, .ref m20, .int s_signs, .ref m21, .int s_stacked, .ref m22, .int s_name, .int s_shift, .int s_statements, .int s_ifs, .int s_whiles, .int s_variants, .int s_open, .ref m23, .int s_isMade, .int s_conditions, .ref m24, .ref m25, .ref m26, .ref m27, .int s_kept, .ref m28, .int s_tops, .ref m29, .int s_used, .ref m30, .ref m31, .int s_looked, .int s_rows, .int s_firstRow, .ref m32, .ref m33, .ref m34, .ref m35, .ref m36, .ref m37, .ref m38, .ref m39, .ref m40, .int (nI br), .ref m41, .int s_atoms, .ref m42])), (m28, .inl (ax 0, 180000, .inl kp)), (m32, .inl (ax 0, 30000, .inl (fun j => nI (sf j)))), (m33, .inl (ax 0, 30000, .inl (fun j => nI (wt j)))), (m34, .inl (ax 0, 30000, .inl (fun j => nI (wf j)))), (m35, .inl (ax 0, 20000, .inl (fun j => nI (sup pa 0 (q - 1) j)))), (m36, .inl (ax 0, 20000, .inl (fun j => nI (sup pr 0 r9 j)))), (m37, .inl (ax 3, 20000, .inl (fun j => nI (sup ptr 0 0 j)))), (m38, .inl (ax 0, 121, .inl bd)), (m39, .inl (ax 3, 121, .inl ib))] := ⟨hP1, hD1⟩
  obtain ⟨hP, hD⟩ := hW7
  clear hP1 hD1 hS1
  suffices key_5 : ∀ (k : Nat) (n1 br1 : Nat) (pa1 pr1 ptr1 : Nat → Nat) (bd1 ib1 : Nat → Int32), psm sf pa1 n1 < k → pth pa1 q n1 → psm sf pa1 n1 ≤ q → br1 ≤ 1 → n1 ≤ 20000 → trQ8 (sgl kp (6 * fr) q) r9 br1 bd1 ib1 pa1 pr1 ptr1 n1 → ∀ (H : Heap) (locs : List Loc) (ls : Array Slot), va_P D classes [(m0, .inr (11, [.int s_thrown, .int s_taped, .ref m1, .int s_size, .int s_outSize, .ref m2, .int s_kind, .int s_value, .int s_begin, .int s_end, .int s_failed, .ref m3, .ref m4, .ref m5, .int s_isProgram, .int s_half, .ref m6, .ref m7, .ref m8, .ref m9, .ref m10, .ref m11, .ref m12, .ref m13, .ref m14, .ref m15, .ref m16, .ref m17, .ref m18, .ref m19, .ref m20, .int s_signs, .ref m21, .int s_stacked, .ref m22, .int s_name, .int s_shift, .int s_statements, .int s_ifs, .int s_whiles, .int s_variants, .int s_open, .ref m23, .int s_isMade, .int s_conditions, .ref m24, .ref m25, .ref m26, .ref m27, .int s_kept, .ref m28, .int s_tops, .ref m29, .int s_used, .ref m30, .ref m31, .int s_looked, .int s_rows, .int s_firstRow, .ref m32, .ref m33, .ref m34, .ref m35, .ref m36, .ref m37, .ref m38, .ref m39, .ref m40, .int (nI br1), .ref m41, .int s_atoms, .ref m42])), (m28, .inl (ax 0, 180000, .inl kp)), (m32, .inl (ax 0, 30000, .inl (fun j => nI (sf j)))), (m33, .inl (ax 0, 30000, .inl (fun j => nI (wt j)))), (m34, .inl (ax 0, 30000, .inl (fun j => nI (wf j)))), (m35, .inl (ax 0, 20000, .inl (fun j => nI (pa1 j)))), (m36, .inl (ax 0, 20000, .inl (fun j => nI (pr1 j)))), (m37, .inl (ax 3, 20000, .inl (fun j => nI (ptr1 j)))), (m38, .inl (ax 0, 121, .inl bd1)), (m39, .inl (ax 3, 121, .inl ib1))] H → va_D A [(m0, .inr (11, [.int s_thrown, .int s_taped, .ref m1, .int s_size, .int s_outSize, .ref m2, .int s_kind, .int s_value, .int s_begin, .int s_end, .int s_failed, .ref m3, .ref m4, .ref m5, .int s_isProgram, .int s_half, .ref m6, .ref m7, .ref m8, .ref m9, .ref m10, .ref m11, .ref m12, .ref m13, .ref m14, .ref m15, .ref m16, .ref m17, .ref m18, .ref m19, .ref m20, .int s_signs, .ref m21, .int s_stacked, .ref m22, .int s_name, .int s_shift, .int s_statements, .int s_ifs, .int s_whiles, .int s_variants, .int s_open, .ref m23, .int s_isMade, .int s_conditions, .ref m24, .ref m25, .ref m26, .ref m27, .int s_kept, .ref m28, .int s_tops, .ref m29, .int s_used, .ref m30, .ref m31, .int s_looked, .int s_rows, .int s_firstRow, .ref m32, .ref m33, .ref m34, .ref m35, .ref m36, .ref m37, .ref m38, .ref m39, .ref m40, .int (nI br1), .ref m41, .int s_atoms, .ref m42])), (m28, .inl (ax 0, 180000, .inl kp)), (m32, .inl (ax 0, 30000, .inl (fun j => nI (sf j)))), (m33, .inl (ax 0, 30000, .inl (fun j => nI (wt j)))), (m34, .inl (ax 0, 30000, .inl (fun j => nI (wf j)))), (m35, .inl (ax 0, 20000, .inl (fun j => nI (pa1 j)))), (m36, .inl (ax 0, 20000, .inl (fun j => nI (pr1 j)))), (m37, .inl (ax 3, 20000, .inl (fun j => nI (ptr1 j)))), (m38, .inl (ax 0, 121, .inl bd1)), (m39, .inl (ax 3, 121, .inl ib1))] → va_S A s.heap H locs → lv_has ls 13 [(0, .ref m0), (1, .int (nI fr)), (4, .int (nI n1))] → W p l e (headSpec (xws (.code y_Model_takeRow b_Model_takeRow 13 none)) ({ frames := 30, cells := 0, slots := 0, locals := 1200 })).room s m ([.ref m0, .int (nI fr), .int (nI q), .int (nI r9)] : List Value).toArray below meth c H locs 0 0 Z9 (F0 m 26 ls []) from key_5 (psm sf (sup pa 0 (q - 1)) 1 + 1) 1 br (sup pa 0 (q - 1)) (sup pr 0 r9) (sup ptr 0 0) bd ib (Nat.lt_succ_self _) (pth_1 (by first | assumption | omega)) (by rw [psm_1 (n := 0)]; have h9 := (hm (q - 1) (by first | assumption | omega)).2.1; show 0 + sf (q - 1) ≤ q; omega) (by first | assumption | omega) (by first | assumption | omega) (trQ8_0 hbr0 (by first | assumption | omega) hz8 (by rw [sgl_len])) _ _ _ (hP) (hD) hS (lv_sub hl1 [1, 2, 0] rfl)
  intro k_6
  induction k_6 with
  | zero =>
    intro n1 br1 pa1 pr1 ptr1 bd1 ib1 hk_8
    exact absurd hk_8 (Nat.not_lt_zero _)
  | succ k_6 ih_7 =>
    clear hP hD hS hl1
    intro n1 br1 pa1 pr1 ptr1 bd1 ib1 hk_8 hp1 hs1 hbr1 hn1 hT8 H locs ls hP hD hS hl1
    refine lv_iload hx hb d_Model_takeRow_26 (lv_at hl1 2 rfl) ?_
    refine lv_if_le (tgt := 337) hx hb d_Model_takeRow_28 (by decide) (fun c_9 => ?_) (fun c_9 => ?_)
    · replace c_9 : n1 ≤ 0 := (nI_leI (a := n1) (b := 0) (by first | exact Nat.lt_of_lt_of_le (by assumption) (by decide) | exact Nat.lt_of_le_of_lt (by assumption) (by decide) | omega) (by decide)).mp c_9
      rw [← hQe]
      obtain ⟨hP9, hD9⟩ := xw_sub2 (wc := (fun (u : Nat → Nat) (xpa : Nat → Nat) (xpr : Nat → Nat) (xptr : Nat → Nat) (xbd : Nat → Int32) (xib : Nat → Int32) => [(m0, .inr (11, [.int s_thrown, .int s_taped, .ref m1, .int s_size, .int s_outSize, .ref m2, .int s_kind, .int s_value, .int s_begin, .int s_end, .int s_failed, .ref m3, .ref m4, .ref m5, .int s_isProgram, .int s_half, .ref m6, .ref m7, .ref m8, .ref m9, .ref m10, .ref m11, .ref m12, .ref m13, .ref m14, .ref m15, .ref m16, .ref m17, .ref m18, .ref m19, .ref m20, .int s_signs, .ref m21, .int s_stacked, .ref m22, .int s_name, .int s_shift, .int s_statements, .int s_ifs, .int s_whiles, .int s_variants, .int s_open, .ref m23, .int s_isMade, .int s_conditions, .ref m24, .ref m25, .ref m26, .ref m27, .int s_kept, .ref m28, .int s_tops, .ref m29, .int s_used, .ref m30, .ref m31, .int s_looked, .int s_rows, .int s_firstRow, .ref m32, .ref m33, .ref m34, .ref m35, .ref m36, .ref m37, .ref m38, .ref m39, .ref m40, .int (nI (u 0)), .ref m41, .int s_atoms, .ref m42])), (m28, .inl (ax 0, 180000, .inl kp)), (m32, .inl (ax 0, 30000, .inl (fun j => nI (sf j)))), (m33, .inl (ax 0, 30000, .inl (fun j => nI (wt j)))), (m34, .inl (ax 0, 30000, .inl (fun j => nI (wf j)))), (m35, .inl (ax 0, 20000, .inl (fun j => nI (xpa j)))), (m36, .inl (ax 0, 20000, .inl (fun j => nI (xpr j)))), (m37, .inl (ax 3, 20000, .inl (fun j => nI (xptr j)))), (m38, .inl (ax 0, 121, .inl xbd)), (m39, .inl (ax 3, 121, .inl xib))]) (ixn [br1]) pa1 pr1 ptr1 bd1 ib1) hP hD [0, 1, 2, 3, 4, 5, 6, 7, 8, 9] (by decide) rfl
      have hex0 : bdW8 bd1 ib1 := hT8.1
      have hex1 : ∀ v, psv8 (sgl kp (6 * fr) q) r9 v ↔ bS8 (br1) bd1 ib1 v := (hT8.fin (by first | assumption | omega))
      have hsp0 : br1 ≤ 1 := (by first | assumption | omega)
      exact W.vret hx hb hr (fun t ht hW => ⟨⟨ixn [br1], rfl, hsp0, ⟨pa1, pr1, ptr1, bd1, ib1, hex0, hex1, by rw [ht]; exact hP9, hD9⟩⟩, hS.F ht⟩) hS.2.2 d_Model_takeRow_337
    · replace c_9 : ¬ n1 ≤ 0 := fun hq9 => c_9 ((nI_leI (a := n1) (b := 0) (by first | exact Nat.lt_of_lt_of_le (by assumption) (by decide) | exact Nat.lt_of_le_of_lt (by assumption) (by decide) | omega) (by decide)).mpr hq9)
      obtain ⟨n2, rfl⟩ : ∃ n2, n1 = n2 + 1 := ⟨n1 - 1, by omega⟩
      have hkq := hp1 n2 (by first | assumption | omega)
      have hps0 := psm_0 (sf := sf) (pa := pa1) (n := n2)
      have hge := hm.pos hp1
      obtain ⟨b1, b2, b3, b4, b5, b6, b7⟩ := hm (pa1 n2) hkq
      have hk := hf.1 (pa1 n2) hkq
      have hle := hgt_le (f := kp) (b := 6 * fr) (pa1 n2)
      obtain ⟨ht8, hr81⟩ := hT8.2.1 n2 (by first | assumption | omega)
      have eo8 := olf_sgl (kp := kp) (fr := fr) hkq
      refine lv_iinc (v := nI n2) (lv' := [(4, .int (nI n2)), (0, .ref m0), (1, .int (nI fr))]) hx hb d_Model_takeRow_31 hl1 (k := 2) rfl (pk_m1 n2) (by decide) rfl (fun ls hl2 => ?_)
      clear hl1; have hl1 := hl2; clear hl2
      refine lv_aload_n hx hb d_Model_takeRow_34 rfl (lv_at hl1 1 rfl) ?_
      refine va_get (D := D) (ci := 11) (v := .ref m35) (C := R_Model) (T := F_Model) (N := 72) hx hb hts i_Model hown hK.1 hP 0 rfl rfl 62 (by decide) (hts _ wd_1098) (fun _ h9 => h9) rfl d_Model_takeRow_35 ?_
      refine lv_iload hx hb d_Model_takeRow_38 (lv_at hl1 0 rfl) ?_
      refine va_iald hx hb hK.1 hP 5 0 rfl rfl (vp_in_nI (by first | assumption | omega) (by decide)) d_Model_takeRow_40 ?_
      refine W.eq (g2 := F0 m 41 ls [.int (nI (pa1 n2))]) (by rw [nI_clamp (by first | exact Nat.lt_of_lt_of_le (by assumption) (by decide) | exact Nat.lt_of_le_of_lt (by assumption) (by decide) | omega)]) ?_
      refine lv_istore (lv' := [(5, .int (nI (pa1 n2))), (4, .int (nI n2)), (0, .ref m0), (1, .int (nI fr))]) hx hb d_Model_takeRow_41 hl1 (by decide) rfl (fun ls hl2 => ?_)
      clear hl1; have hl1 := hl2; clear hl2
      refine lv_aload_n hx hb d_Model_takeRow_43 rfl (lv_at hl1 2 rfl) ?_
      refine va_get (D := D) (ci := 11) (v := .ref m36) (C := R_Model) (T := F_Model) (N := 72) hx hb hts i_Model hown hK.1 hP 0 rfl rfl 63 (by decide) (hts _ wd_1099) (fun _ h9 => h9) rfl d_Model_takeRow_44 ?_
      refine lv_iload hx hb d_Model_takeRow_47 (lv_at hl1 1 rfl) ?_
      refine va_iald hx hb hK.1 hP 6 0 rfl rfl (vp_in_nI (by first | assumption | omega) (by decide)) d_Model_takeRow_49 ?_
      refine W.eq (g2 := F0 m 50 ls [.int (nI (pr1 n2))]) (by rw [nI_clamp (by first | exact Nat.lt_of_lt_of_le (by assumption) (by decide) | exact Nat.lt_of_le_of_lt (by assumption) (by decide) | omega)]) ?_
      refine lv_istore (lv' := [(6, .int (nI (pr1 n2))), (5, .int (nI (pa1 n2))), (4, .int (nI n2)), (0, .ref m0), (1, .int (nI fr))]) hx hb d_Model_takeRow_50 hl1 (by decide) rfl (fun ls hl2 => ?_)
      clear hl1; have hl1 := hl2; clear hl2
      refine lv_aload_n hx hb d_Model_takeRow_52 rfl (lv_at hl1 3 rfl) ?_
      refine va_get (D := D) (ci := 11) (v := .ref m37) (C := R_Model) (T := F_Model) (N := 72) hx hb hts i_Model hown hK.1 hP 0 rfl rfl 64 (by decide) (hts _ wd_1100) (fun _ h9 => h9) rfl d_Model_takeRow_53 ?_
      refine lv_iload hx hb d_Model_takeRow_56 (lv_at hl1 2 rfl) ?_
      refine va_zald hx hb hK.1 hP 7 3 rfl rfl (vp_in_nI (by first | assumption | omega) (by decide)) d_Model_takeRow_58 ?_
      refine W.eq (g2 := F0 m 59 ls [.int (nI (ptr1 n2))]) (by rw [nI_clamp (by first | exact Nat.lt_of_lt_of_le (by assumption) (by decide) | exact Nat.lt_of_le_of_lt (by assumption) (by decide) | omega)]) ?_
      refine lv_istore (lv' := [(7, .int (nI (ptr1 n2))), (6, .int (nI (pr1 n2))), (5, .int (nI (pa1 n2))), (4, .int (nI n2)), (0, .ref m0), (1, .int (nI fr))]) hx hb d_Model_takeRow_59 hl1 (by decide) rfl (fun ls hl2 => ?_)
      clear hl1; have hl1 := hl2; clear hl2
      refine lv_aload_n hx hb d_Model_takeRow_61 rfl (lv_at hl1 4 rfl) ?_
      refine va_get (D := D) (ci := 11) (v := .ref m28) (C := R_Model) (T := F_Model) (N := 72) hx hb hts i_Model hown hK.1 hP 0 rfl rfl 50 (by decide) (hts _ wd_1086) (fun _ h9 => h9) rfl d_Model_takeRow_62 ?_
      refine lv_bipush (v := 6) hx hb d_Model_takeRow_65 (by decide) ?_
      refine lv_iload_n hx hb d_Model_takeRow_67 rfl (lv_at hl1 5 rfl) ?_
      refine lv_iload hx hb d_Model_takeRow_68 (lv_at hl1 2 rfl) ?_
      refine lv_iadd hx hb d_Model_takeRow_70 ?_
      refine lv_topi (fun z_10 ez_10 => ?_)
      have ez_10 : z_10 = nI (fr + pa1 n2) := ez_10.trans (nI_add fr (pa1 n2))
      subst ez_10
      refine lv_imul hx hb d_Model_takeRow_71 ?_
      refine lv_topi (fun z_11 ez_11 => ?_)
      have ez_11 : z_11 = nI (6 * (fr + pa1 n2)) := ez_11.trans (pk_mul 6 (fr + pa1 n2))
      subst ez_11
      refine va_iald hx hb hK.1 hP 1 0 rfl rfl (vp_in_nI (by first | assumption | omega) (by decide)) d_Model_takeRow_72 ?_
      refine W.eq (g2 := F0 m 73 ls [.int (kp (6 * (fr + pa1 n2)))]) (by rw [nI_clamp (by first | exact Nat.lt_of_lt_of_le (by assumption) (by decide) | exact Nat.lt_of_le_of_lt (by assumption) (by decide) | omega)]) ?_
      refine lv_istore (lv' := [(8, .int (kp (6 * (fr + pa1 n2)))), (7, .int (nI (ptr1 n2))), (6, .int (nI (pr1 n2))), (5, .int (nI (pa1 n2))), (4, .int (nI n2)), (0, .ref m0), (1, .int (nI fr))]) hx hb d_Model_takeRow_73 hl1 (by decide) rfl (fun ls hl2 => ?_)
      clear hl1; have hl1 := hl2; clear hl2
      refine lv_iload hx hb d_Model_takeRow_75 (lv_at hl1 0 rfl) ?_
      refine lv_if_ne (tgt := 98) hx hb d_Model_takeRow_77 (by decide) (fun c_12 => ?_) (fun c_12 => ?_)
      · refine lv_iload hx hb d_Model_takeRow_98 (lv_at hl1 0 rfl) ?_
        refine lv_iconst (v := 1) hx hb d_Model_takeRow_100 (by decide) ?_
        refine lv_icmp_ne (tgt := 138) hx hb d_Model_takeRow_101 (by decide) (fun c_13 => ?_) (fun c_13 => ?_)
        · have h0 : ¬ kp (6 * fr + 6 * pa1 n2) = 0 := by rw [show 6 * fr + 6 * pa1 n2 = 6 * (fr + pa1 n2) by omega]; assumption
          have h1 : ¬ kp (6 * fr + 6 * pa1 n2) = 1 := by rw [show 6 * fr + 6 * pa1 n2 = 6 * (fr + pa1 n2) by omega]; assumption
          obtain ⟨hg2, hgx, hop⟩ := wf_bin hk h0 h1
          clear hop
          obtain ⟨c1, c2, c3, c4, c5, c6, c7⟩ := hm (pa1 n2 - 1) (by first | assumption | omega)
          rw [show pa1 n2 - 1 + 1 = pa1 n2 by omega] at c2 c3
          have hle2 := hgt_le (f := kp) (b := 6 * fr) (pa1 n2 - sf (pa1 n2 - 1))
          have hzq := (hz0 (pa1 n2) hkq).2 h0 h1
          obtain ⟨d1, d2, d3, d4, d5, d6, d7⟩ := hm (pa1 n2 - 1 - (sf (pa1 n2 - 1))) (by first | assumption | omega)
          have hps1 := psm_1 (sf := sf) (pa := pa1) (n := n2) (v := pa1 n2 - 1 - (sf (pa1 n2 - 1)))
          have hps3 := psm_1 (sf := sf) (pa := pa1) (n := n2) (v := pa1 n2 - 1)
          have hps2 := psm_2 (sf := sf) (pa := pa1) (n := n2) (v := pa1 n2 - 1 - (sf (pa1 n2 - 1))) (w := pa1 n2 - 1)
          have h78 : 7 ≤ olf (sgl kp (6 * fr) q) (pa1 n2) := by rw [eo8]; exact dec_cb h0 h1
          have es8 := (hr8 (pa1 n2 - 1) (by first | assumption | omega)).1
          have jn_14 : ∀ (o9 : Nat), 1 ≤ o9 → o9 ≤ 5001 → o9 = rwo (olf (sgl kp (6 * fr) q)) (2 * (pa1 n2 - 1 - (sf (pa1 n2 - 1))) + ptr1 n2) → ∀ (H : Heap) (locs : List Loc) (ls : Array Slot), va_P D classes [(m0, .inr (11, [.int s_thrown, .int s_taped, .ref m1, .int s_size, .int s_outSize, .ref m2, .int s_kind, .int s_value, .int s_begin, .int s_end, .int s_failed, .ref m3, .ref m4, .ref m5, .int s_isProgram, .int s_half, .ref m6, .ref m7, .ref m8, .ref m9, .ref m10, .ref m11, .ref m12, .ref m13, .ref m14, .ref m15, .ref m16, .ref m17, .ref m18, .ref m19, .ref m20, .int s_signs, .ref m21, .int s_stacked, .ref m22, .int s_name, .int s_shift, .int s_statements, .int s_ifs, .int s_whiles, .int s_variants, .int s_open, .ref m23, .int s_isMade, .int s_conditions, .ref m24, .ref m25, .ref m26, .ref m27, .int s_kept, .ref m28, .int s_tops, .ref m29, .int s_used, .ref m30, .ref m31, .int s_looked, .int s_rows, .int s_firstRow, .ref m32, .ref m33, .ref m34, .ref m35, .ref m36, .ref m37, .ref m38, .ref m39, .ref m40, .int (nI br1), .ref m41, .int s_atoms, .ref m42])), (m28, .inl (ax 0, 180000, .inl kp)), (m32, .inl (ax 0, 30000, .inl (fun j => nI (sf j)))), (m33, .inl (ax 0, 30000, .inl (fun j => nI (wt j)))), (m34, .inl (ax 0, 30000, .inl (fun j => nI (wf j)))), (m35, .inl (ax 0, 20000, .inl (fun j => nI (pa1 j)))), (m36, .inl (ax 0, 20000, .inl (fun j => nI (pr1 j)))), (m37, .inl (ax 3, 20000, .inl (fun j => nI (ptr1 j)))), (m38, .inl (ax 0, 121, .inl bd1)), (m39, .inl (ax 3, 121, .inl ib1))] H → va_D A [(m0, .inr (11, [.int s_thrown, .int s_taped, .ref m1, .int s_size, .int s_outSize, .ref m2, .int s_kind, .int s_value, .int s_begin, .int s_end, .int s_failed, .ref m3, .ref m4, .ref m5, .int s_isProgram, .int s_half, .ref m6, .ref m7, .ref m8, .ref m9, .ref m10, .ref m11, .ref m12, .ref m13, .ref m14, .ref m15, .ref m16, .ref m17, .ref m18, .ref m19, .ref m20, .int s_signs, .ref m21, .int s_stacked, .ref m22, .int s_name, .int s_shift, .int s_statements, .int s_ifs, .int s_whiles, .int s_variants, .int s_open, .ref m23, .int s_isMade, .int s_conditions, .ref m24, .ref m25, .ref m26, .ref m27, .int s_kept, .ref m28, .int s_tops, .ref m29, .int s_used, .ref m30, .ref m31, .int s_looked, .int s_rows, .int s_firstRow, .ref m32, .ref m33, .ref m34, .ref m35, .ref m36, .ref m37, .ref m38, .ref m39, .ref m40, .int (nI br1), .ref m41, .int s_atoms, .ref m42])), (m28, .inl (ax 0, 180000, .inl kp)), (m32, .inl (ax 0, 30000, .inl (fun j => nI (sf j)))), (m33, .inl (ax 0, 30000, .inl (fun j => nI (wt j)))), (m34, .inl (ax 0, 30000, .inl (fun j => nI (wf j)))), (m35, .inl (ax 0, 20000, .inl (fun j => nI (pa1 j)))), (m36, .inl (ax 0, 20000, .inl (fun j => nI (pr1 j)))), (m37, .inl (ax 3, 20000, .inl (fun j => nI (ptr1 j)))), (m38, .inl (ax 0, 121, .inl bd1)), (m39, .inl (ax 3, 121, .inl ib1))] → va_S A s.heap H locs → lv_has ls 13 [(8, .int (kp (6 * (fr + pa1 n2)))), (7, .int (nI (ptr1 n2))), (6, .int (nI (pr1 n2))), (5, .int (nI (pa1 n2))), (4, .int (nI n2)), (0, .ref m0), (1, .int (nI fr)), (9, .int (nI (pa1 n2 - 1))), (10, .int (nI (pa1 n2 - 1 - (sf (pa1 n2 - 1))))), (11, .int (nI o9))] → W p l e (headSpec (xws (.code y_Model_takeRow b_Model_takeRow 13 none)) ({ frames := 30, cells := 0, slots := 0, locals := 1200 })).room s m ([.ref m0, .int (nI fr), .int (nI q), .int (nI r9)] : List Value).toArray below meth c H locs 0 0 Z9 (F0 m 180 ls []) := by
            clear hP hD hS hl1
            intro o9 ho1 ho2 ho5 H locs ls hP hD hS hl1
            have jn_15 : ∀ (o8 : Nat), 1 ≤ o8 → o8 ≤ 5001 → o8 = rwo (olf (sgl kp (6 * fr) q)) (2 * (pa1 n2 - 1) + ptr1 n2) → ∀ (H : Heap) (locs : List Loc) (ls : Array Slot), va_P D classes [(m0, .inr (11, [.int s_thrown, .int s_taped, .ref m1, .int s_size, .int s_outSize, .ref m2, .int s_kind, .int s_value, .int s_begin, .int s_end, .int s_failed, .ref m3, .ref m4, .ref m5, .int s_isProgram, .int s_half, .ref m6, .ref m7, .ref m8, .ref m9, .ref m10, .ref m11, .ref m12, .ref m13, .ref m14, .ref m15, .ref m16, .ref m17, .ref m18, .ref m19, .ref m20, .int s_signs, .ref m21, .int s_stacked, .ref m22, .int s_name, .int s_shift, .int s_statements, .int s_ifs, .int s_whiles, .int s_variants, .int s_open, .ref m23, .int s_isMade, .int s_conditions, .ref m24, .ref m25, .ref m26, .ref m27, .int s_kept, .ref m28, .int s_tops, .ref m29, .int s_used, .ref m30, .ref m31, .int s_looked, .int s_rows, .int s_firstRow, .ref m32, .ref m33, .ref m34, .ref m35, .ref m36, .ref m37, .ref m38, .ref m39, .ref m40, .int (nI br1), .ref m41, .int s_atoms, .ref m42])), (m28, .inl (ax 0, 180000, .inl kp)), (m32, .inl (ax 0, 30000, .inl (fun j => nI (sf j)))), (m33, .inl (ax 0, 30000, .inl (fun j => nI (wt j)))), (m34, .inl (ax 0, 30000, .inl (fun j => nI (wf j)))), (m35, .inl (ax 0, 20000, .inl (fun j => nI (pa1 j)))), (m36, .inl (ax 0, 20000, .inl (fun j => nI (pr1 j)))), (m37, .inl (ax 3, 20000, .inl (fun j => nI (ptr1 j)))), (m38, .inl (ax 0, 121, .inl bd1)), (m39, .inl (ax 3, 121, .inl ib1))] H → va_D A [(m0, .inr (11, [.int s_thrown, .int s_taped, .ref m1, .int s_size, .int s_outSize, .ref m2, .int s_kind, .int s_value, .int s_begin, .int s_end, .int s_failed, .ref m3, .ref m4, .ref m5, .int s_isProgram, .int s_half, .ref m6, .ref m7, .ref m8, .ref m9, .ref m10, .ref m11, .ref m12, .ref m13, .ref m14, .ref m15, .ref m16, .ref m17, .ref m18, .ref m19, .ref m20, .int s_signs, .ref m21, .int s_stacked, .ref m22, .int s_name, .int s_shift, .int s_statements, .int s_ifs, .int s_whiles, .int s_variants, .int s_open, .ref m23, .int s_isMade, .int s_conditions, .ref m24, .ref m25, .ref m26, .ref m27, .int s_kept, .ref m28, .int s_tops, .ref m29, .int s_used, .ref m30, .ref m31, .int s_looked, .int s_rows, .int s_firstRow, .ref m32, .ref m33, .ref m34, .ref m35, .ref m36, .ref m37, .ref m38, .ref m39, .ref m40, .int (nI br1), .ref m41, .int s_atoms, .ref m42])), (m28, .inl (ax 0, 180000, .inl kp)), (m32, .inl (ax 0, 30000, .inl (fun j => nI (sf j)))), (m33, .inl (ax 0, 30000, .inl (fun j => nI (wt j)))), (m34, .inl (ax 0, 30000, .inl (fun j => nI (wf j)))), (m35, .inl (ax 0, 20000, .inl (fun j => nI (pa1 j)))), (m36, .inl (ax 0, 20000, .inl (fun j => nI (pr1 j)))), (m37, .inl (ax 3, 20000, .inl (fun j => nI (ptr1 j)))), (m38, .inl (ax 0, 121, .inl bd1)), (m39, .inl (ax 3, 121, .inl ib1))] → va_S A s.heap H locs → lv_has ls 13 [(8, .int (kp (6 * (fr + pa1 n2)))), (7, .int (nI (ptr1 n2))), (6, .int (nI (pr1 n2))), (5, .int (nI (pa1 n2))), (4, .int (nI n2)), (0, .ref m0), (1, .int (nI fr)), (9, .int (nI (pa1 n2 - 1))), (10, .int (nI (pa1 n2 - 1 - (sf (pa1 n2 - 1))))), (11, .int (nI o9)), (12, .int (nI o8))] → W p l e (headSpec (xws (.code y_Model_takeRow b_Model_takeRow 13 none)) ({ frames := 30, cells := 0, slots := 0, locals := 1200 })).room s m ([.ref m0, .int (nI fr), .int (nI q), .int (nI r9)] : List Value).toArray below meth c H locs 0 0 Z9 (F0 m 204 ls []) := by
              clear hP hD hS hl1
              intro o8 ho3 ho4 ho6 H locs ls hP hD hS hl1
              refine lv_iload hx hb d_Model_takeRow_204 (lv_at hl1 0 rfl) ?_
              refine lv_iconst (v := 2) hx hb d_Model_takeRow_206 (by decide) ?_
              refine lv_icmp_ne (tgt := 214) hx hb d_Model_takeRow_207 (by decide) (fun c_16 => ?_) (fun c_16 => ?_)
              · refine lv_iconst (v := 0) hx hb d_Model_takeRow_214 (by decide) ?_
                refine lv_iload hx hb d_Model_takeRow_215 (lv_at hl1 1 rfl) ?_
                refine lv_icmp_ne (tgt := 286) hx hb d_Model_takeRow_217 (by decide) (fun c_17 => ?_) (fun c_17 => ?_)
                · replace c_17 : ¬ 0 = ptr1 n2 := fun hq9 => c_17 ((nI_eq (a := 0) (b := ptr1 n2) (by decide) (by first | exact Nat.lt_of_lt_of_le (by assumption) (by decide) | exact Nat.lt_of_le_of_lt (by assumption) (by decide) | omega)).mpr hq9)
                  refine lv_aload_n hx hb d_Model_takeRow_286 rfl (lv_at hl1 5 rfl) ?_
                  refine va_get (D := D) (ci := 11) (v := .ref m35) (C := R_Model) (T := F_Model) (N := 72) hx hb hts i_Model hown hK.1 hP 0 rfl rfl 62 (by decide) (hts _ wd_1098) (fun _ h9 => h9) rfl d_Model_takeRow_287 ?_
                  refine lv_iload hx hb d_Model_takeRow_290 (lv_at hl1 4 rfl) ?_
                  refine lv_iload hx hb d_Model_takeRow_292 (lv_at hl1 2 rfl) ?_
                  refine lv_iload hx hb d_Model_takeRow_294 (lv_at hl1 9 rfl) ?_
                  refine lv_icmp_ge (tgt := 304) hx hb d_Model_takeRow_296 (by decide) (fun c_18 => ?_) (fun c_18 => ?_)
                  · replace c_18 : o9 ≤ pr1 n2 := (nI_leI (a := o9) (b := pr1 n2) (by first | exact Nat.lt_of_lt_of_le (by assumption) (by decide) | exact Nat.lt_of_le_of_lt (by assumption) (by decide) | omega) (by first | exact Nat.lt_of_lt_of_le (by assumption) (by decide) | exact Nat.lt_of_le_of_lt (by assumption) (by decide) | omega)).mp c_18
                    refine lv_iload hx hb d_Model_takeRow_304 (lv_at hl1 7 rfl) ?_
                    refine va_iast hx hb hK.1 hP hD hS 5 0 rfl rfl (vp_in_nI (by first | assumption | omega) (by decide)) d_Model_takeRow_306 (fun H_19 locs hP1 hD1 hS1 => ?_)
                    rw [nI_clamp (by first | exact Nat.lt_of_lt_of_le (by assumption) (by decide) | exact Nat.lt_of_le_of_lt (by assumption) (by decide) | omega)] at hP1 hD1
                    rw [xf_sup pa1 n2 (pa1 n2 - 1)] at hP1 hD1
                    clear hP hD hS
                    have hS := hS1
                    have hW7 : (fun w9 : va_W => va_P D classes w9 H_19 ∧ va_D A w9) [(m0, .inr (11, [.int s_thrown, .int s_taped, .ref m1, .int s_size, .int s_outSize, .ref m2, .int s_kind, .int s_value, .int s_begin, .int s_end, .int s_failed, .ref m3, .ref m4, .ref m5, .int s_isProgram, .int s_half, .ref m6, .ref m7, .ref m8, .ref m9, .ref m10, .ref m11, .ref m12, .ref m13, .ref m14, .ref m15, .ref m16, .ref m17, .ref m18, .ref m19, .ref m20, .int s_signs, .ref m21, .int s_stacked, .ref m22, .int s_name, .int s_shift, .int s_statements, .int s_ifs, .int s_whiles, .int s_variants, .int s_open, .ref m23, .int s_isMade, .int s_conditions, .ref m24, .ref m25, .ref m26, .ref m27, .int s_kept, .ref m28, .int s_tops, .ref m29, .int s_used, .ref m30, .ref m31, .int s_looked, .int s_rows, .int s_firstRow, .ref m32, .ref m33, .ref m34, .ref m35, .ref m36, .ref m37, .ref m38, .ref m39, .ref m40, .int (nI br1), .ref m41, .int s_atoms, .ref m42])), (m28, .inl (ax 0, 180000, .inl kp)), (m32, .inl (ax 0, 30000, .inl (fun j => nI (sf j)))), (m33, .inl (ax 0, 30000, .inl (fun j => nI (wt j)))), (m34, .inl (ax 0, 30000, .inl (fun j => nI (wf j)))), (m35, .inl (ax 0, 20000, .inl (fun j => nI (sup pa1 n2 (pa1 n2 - 1) j)))), (m36, .inl (ax 0, 20000, .inl (fun j => nI (pr1 j)))), (m37, .inl (ax 3, 20000, .inl (fun j => nI (ptr1 j)))), (m38, .inl (ax 0, 121, .inl bd1)), (m39, .inl (ax 3, 121, .inl ib1))] := ⟨hP1, hD1⟩
                    obtain ⟨hP, hD⟩ := hW7
                    clear hP1 hD1 hS1
                    refine lv_aload_n hx hb d_Model_takeRow_307 rfl (lv_at hl1 5 rfl) ?_
                    refine va_get (D := D) (ci := 11) (v := .ref m36) (C := R_Model) (T := F_Model) (N := 72) hx hb hts i_Model hown hK.1 hP 0 rfl rfl 63 (by decide) (hts _ wd_1099) (fun _ h9 => h9) rfl d_Model_takeRow_308 ?_
                    refine lv_iload hx hb d_Model_takeRow_311 (lv_at hl1 4 rfl) ?_
                    refine lv_iload hx hb d_Model_takeRow_313 (lv_at hl1 2 rfl) ?_
                    refine lv_iload hx hb d_Model_takeRow_315 (lv_at hl1 9 rfl) ?_
                    refine lv_icmp_ge (tgt := 325) hx hb d_Model_takeRow_317 (by decide) (fun c_20 => ?_) (fun c_20 => ?_)
                    · replace c_20 : o9 ≤ pr1 n2 := (nI_leI (a := o9) (b := pr1 n2) (by first | exact Nat.lt_of_lt_of_le (by assumption) (by decide) | exact Nat.lt_of_le_of_lt (by assumption) (by decide) | omega) (by first | exact Nat.lt_of_lt_of_le (by assumption) (by decide) | exact Nat.lt_of_le_of_lt (by assumption) (by decide) | omega)).mp c_20
                      refine lv_iload hx hb d_Model_takeRow_325 (lv_at hl1 2 rfl) ?_
                      refine lv_iload hx hb d_Model_takeRow_327 (lv_at hl1 9 rfl) ?_
                      refine lv_isub hx hb d_Model_takeRow_329 ?_
                      refine lv_topi (fun z_21 ez_21 => ?_)
                      have ez_21 : z_21 = nI (pr1 n2 - o9) := ez_21.trans (pk_sub (a := pr1 n2) (b := o9) (by first | assumption | omega))
                      subst ez_21
                      refine va_iast hx hb hK.1 hP hD hS 6 0 rfl rfl (vp_in_nI (by first | assumption | omega) (by decide)) d_Model_takeRow_330 (fun H_22 locs hP1 hD1 hS1 => ?_)
                      rw [nI_clamp (by first | exact Nat.lt_of_lt_of_le (by assumption) (by decide) | exact Nat.lt_of_le_of_lt (by assumption) (by decide) | omega)] at hP1 hD1
                      rw [xf_sup pr1 n2 (pr1 n2 - o9)] at hP1 hD1
                      clear hP hD hS
                      have hS := hS1
                      have hW7 : (fun w9 : va_W => va_P D classes w9 H_22 ∧ va_D A w9) [(m0, .inr (11, [.int s_thrown, .int s_taped, .ref m1, .int s_size, .int s_outSize, .ref m2, .int s_kind, .int s_value, .int s_begin, .int s_end, .int s_failed, .ref m3, .ref m4, .ref m5, .int s_isProgram, .int s_half, .ref m6, .ref m7, .ref m8, .ref m9, .ref m10, .ref m11, .ref m12, .ref m13, .ref m14, .ref m15, .ref m16, .ref m17, .ref m18, .ref m19, .ref m20, .int s_signs, .ref m21, .int s_stacked, .ref m22, .int s_name, .int s_shift, .int s_statements, .int s_ifs, .int s_whiles, .int s_variants, .int s_open, .ref m23, .int s_isMade, .int s_conditions, .ref m24, .ref m25, .ref m26, .ref m27, .int s_kept, .ref m28, .int s_tops, .ref m29, .int s_used, .ref m30, .ref m31, .int s_looked, .int s_rows, .int s_firstRow, .ref m32, .ref m33, .ref m34, .ref m35, .ref m36, .ref m37, .ref m38, .ref m39, .ref m40, .int (nI br1), .ref m41, .int s_atoms, .ref m42])), (m28, .inl (ax 0, 180000, .inl kp)), (m32, .inl (ax 0, 30000, .inl (fun j => nI (sf j)))), (m33, .inl (ax 0, 30000, .inl (fun j => nI (wt j)))), (m34, .inl (ax 0, 30000, .inl (fun j => nI (wf j)))), (m35, .inl (ax 0, 20000, .inl (fun j => nI (sup pa1 n2 (pa1 n2 - 1) j)))), (m36, .inl (ax 0, 20000, .inl (fun j => nI (sup pr1 n2 (pr1 n2 - o9) j)))), (m37, .inl (ax 3, 20000, .inl (fun j => nI (ptr1 j)))), (m38, .inl (ax 0, 121, .inl bd1)), (m39, .inl (ax 3, 121, .inl ib1))] := ⟨hP1, hD1⟩
                      obtain ⟨hP, hD⟩ := hW7
                      clear hP1 hD1 hS1
                      refine lv_iinc (v := nI (n2 + 1)) (lv' := [(4, .int (nI (n2 + 1))), (8, .int (kp (6 * (fr + pa1 n2)))), (7, .int (nI (ptr1 n2))), (6, .int (nI (pr1 n2))), (5, .int (nI (pa1 n2))), (0, .ref m0), (1, .int (nI fr)), (9, .int (nI (pa1 n2 - 1))), (10, .int (nI (pa1 n2 - 1 - (sf (pa1 n2 - 1))))), (11, .int (nI o9)), (12, .int (nI o8))]) hx hb d_Model_takeRow_331 hl1 (k := 4) rfl (nI_add n2 1) (by decide) rfl (fun ls hl2 => ?_)
                      clear hl1; have hl1 := hl2; clear hl2
                      refine lv_goto (tgt := 26) hx hb d_Model_takeRow_334 (by decide) ?_
                      exact ih_7 (n2 + 1) br1 (sup pa1 n2 (pa1 n2 - 1)) (sup pr1 n2 (pr1 n2 - o9)) ptr1 bd1 ib1 (by first | assumption | omega) (hp1.s1 (by first | assumption | omega)) (by first | assumption | omega) (by first | assumption | omega) (by first | assumption | omega) (by first | (exfalso; omega) | exact trQ8_l hT8 h78 (by first | assumption | omega) (by first | (rw [eo8, dec_c2 (by rw [show 6 * fr + 6 * pa1 n2 = 6 * (fr + pa1 n2) by omega]; assumption)]; omega) | (rw [eo8, dec_c3 h0 h1 (by rw [show 6 * fr + 6 * pa1 n2 = 6 * (fr + pa1 n2) by omega]; assumption)]; omega)) (by rw [← es8]) (by rw [← ho5]; omega) | exact trQ8_r hT8 h78 (by first | assumption | omega) (by first | (rw [eo8, dec_c2 (by rw [show 6 * fr + 6 * pa1 n2 = 6 * (fr + pa1 n2) by omega]; assumption)]; omega) | (rw [eo8, dec_c3 h0 h1 (by rw [show 6 * fr + 6 * pa1 n2 = 6 * (fr + pa1 n2) by omega]; assumption)]; omega)) (a := pa1 n2 - 1 - (sf (pa1 n2 - 1))) (by rw [← es8]) (by rw [← ho5]; omega) (by rw [← ho5])) _ _ _ (hP.sub [0, 1, 2, 3, 4, 5, 6, 7, 8, 9] rfl) (hD.sub [0, 1, 2, 3, 4, 5, 6, 7, 8, 9] (by decide) rfl) hS (lv_sub hl1 [5, 6, 0] rfl)
                    · replace c_20 : ¬ o9 ≤ pr1 n2 := fun hq9 => c_20 ((nI_leI (a := o9) (b := pr1 n2) (by first | exact Nat.lt_of_lt_of_le (by assumption) (by decide) | exact Nat.lt_of_le_of_lt (by assumption) (by decide) | omega) (by first | exact Nat.lt_of_lt_of_le (by assumption) (by decide) | exact Nat.lt_of_le_of_lt (by assumption) (by decide) | omega)).mpr hq9)
                      refine lv_iload hx hb d_Model_takeRow_320 (lv_at hl1 2 rfl) ?_
                      refine lv_goto (tgt := 330) hx hb d_Model_takeRow_322 (by decide) ?_
                      refine va_iast hx hb hK.1 hP hD hS 6 0 rfl rfl (vp_in_nI (by first | assumption | omega) (by decide)) d_Model_takeRow_330 (fun H_23 locs hP1 hD1 hS1 => ?_)
                      rw [nI_clamp (by first | exact Nat.lt_of_lt_of_le (by assumption) (by decide) | exact Nat.lt_of_le_of_lt (by assumption) (by decide) | omega)] at hP1 hD1
                      rw [xf_sup pr1 n2 (pr1 n2)] at hP1 hD1
                      clear hP hD hS
                      have hS := hS1
                      have hW7 : (fun w9 : va_W => va_P D classes w9 H_23 ∧ va_D A w9) [(m0, .inr (11, [.int s_thrown, .int s_taped, .ref m1, .int s_size, .int s_outSize, .ref m2, .int s_kind, .int s_value, .int s_begin, .int s_end, .int s_failed, .ref m3, .ref m4, .ref m5, .int s_isProgram, .int s_half, .ref m6, .ref m7, .ref m8, .ref m9, .ref m10, .ref m11, .ref m12, .ref m13, .ref m14, .ref m15, .ref m16, .ref m17, .ref m18, .ref m19, .ref m20, .int s_signs, .ref m21, .int s_stacked, .ref m22, .int s_name, .int s_shift, .int s_statements, .int s_ifs, .int s_whiles, .int s_variants, .int s_open, .ref m23, .int s_isMade, .int s_conditions, .ref m24, .ref m25, .ref m26, .ref m27, .int s_kept, .ref m28, .int s_tops, .ref m29, .int s_used, .ref m30, .ref m31, .int s_looked, .int s_rows, .int s_firstRow, .ref m32, .ref m33, .ref m34, .ref m35, .ref m36, .ref m37, .ref m38, .ref m39, .ref m40, .int (nI br1), .ref m41, .int s_atoms, .ref m42])), (m28, .inl (ax 0, 180000, .inl kp)), (m32, .inl (ax 0, 30000, .inl (fun j => nI (sf j)))), (m33, .inl (ax 0, 30000, .inl (fun j => nI (wt j)))), (m34, .inl (ax 0, 30000, .inl (fun j => nI (wf j)))), (m35, .inl (ax 0, 20000, .inl (fun j => nI (sup pa1 n2 (pa1 n2 - 1) j)))), (m36, .inl (ax 0, 20000, .inl (fun j => nI (sup pr1 n2 (pr1 n2) j)))), (m37, .inl (ax 3, 20000, .inl (fun j => nI (ptr1 j)))), (m38, .inl (ax 0, 121, .inl bd1)), (m39, .inl (ax 3, 121, .inl ib1))] := ⟨hP1, hD1⟩
                      obtain ⟨hP, hD⟩ := hW7
                      clear hP1 hD1 hS1
                      refine lv_iinc (v := nI (n2 + 1)) (lv' := [(4, .int (nI (n2 + 1))), (8, .int (kp (6 * (fr + pa1 n2)))), (7, .int (nI (ptr1 n2))), (6, .int (nI (pr1 n2))), (5, .int (nI (pa1 n2))), (0, .ref m0), (1, .int (nI fr)), (9, .int (nI (pa1 n2 - 1))), (10, .int (nI (pa1 n2 - 1 - (sf (pa1 n2 - 1))))), (11, .int (nI o9)), (12, .int (nI o8))]) hx hb d_Model_takeRow_331 hl1 (k := 4) rfl (nI_add n2 1) (by decide) rfl (fun ls hl2 => ?_)
                      clear hl1; have hl1 := hl2; clear hl2
                      refine lv_goto (tgt := 26) hx hb d_Model_takeRow_334 (by decide) ?_
                      exact ih_7 (n2 + 1) br1 (sup pa1 n2 (pa1 n2 - 1)) (sup pr1 n2 (pr1 n2)) ptr1 bd1 ib1 (by first | assumption | omega) (hp1.s1 (by first | assumption | omega)) (by first | assumption | omega) (by first | assumption | omega) (by first | assumption | omega) (by first | (exfalso; omega) | exact trQ8_l hT8 h78 (by first | assumption | omega) (by first | (rw [eo8, dec_c2 (by rw [show 6 * fr + 6 * pa1 n2 = 6 * (fr + pa1 n2) by omega]; assumption)]; omega) | (rw [eo8, dec_c3 h0 h1 (by rw [show 6 * fr + 6 * pa1 n2 = 6 * (fr + pa1 n2) by omega]; assumption)]; omega)) (by rw [← es8]) (by rw [← ho5]; omega) | exact trQ8_r hT8 h78 (by first | assumption | omega) (by first | (rw [eo8, dec_c2 (by rw [show 6 * fr + 6 * pa1 n2 = 6 * (fr + pa1 n2) by omega]; assumption)]; omega) | (rw [eo8, dec_c3 h0 h1 (by rw [show 6 * fr + 6 * pa1 n2 = 6 * (fr + pa1 n2) by omega]; assumption)]; omega)) (a := pa1 n2 - 1 - (sf (pa1 n2 - 1))) (by rw [← es8]) (by rw [← ho5]; omega) (by rw [← ho5])) _ _ _ (hP.sub [0, 1, 2, 3, 4, 5, 6, 7, 8, 9] rfl) (hD.sub [0, 1, 2, 3, 4, 5, 6, 7, 8, 9] (by decide) rfl) hS (lv_sub hl1 [5, 6, 0] rfl)
                  · replace c_18 : ¬ o9 ≤ pr1 n2 := fun hq9 => c_18 ((nI_leI (a := o9) (b := pr1 n2) (by first | exact Nat.lt_of_lt_of_le (by assumption) (by decide) | exact Nat.lt_of_le_of_lt (by assumption) (by decide) | omega) (by first | exact Nat.lt_of_lt_of_le (by assumption) (by decide) | exact Nat.lt_of_le_of_lt (by assumption) (by decide) | omega)).mpr hq9)
                    refine lv_iload hx hb d_Model_takeRow_299 (lv_at hl1 8 rfl) ?_
                    refine lv_goto (tgt := 306) hx hb d_Model_takeRow_301 (by decide) ?_
                    refine va_iast hx hb hK.1 hP hD hS 5 0 rfl rfl (vp_in_nI (by first | assumption | omega) (by decide)) d_Model_takeRow_306 (fun H_24 locs hP1 hD1 hS1 => ?_)
                    rw [nI_clamp (by first | exact Nat.lt_of_lt_of_le (by assumption) (by decide) | exact Nat.lt_of_le_of_lt (by assumption) (by decide) | omega)] at hP1 hD1
                    rw [xf_sup pa1 n2 (pa1 n2 - 1 - (sf (pa1 n2 - 1)))] at hP1 hD1
                    clear hP hD hS
                    have hS := hS1
                    have hW7 : (fun w9 : va_W => va_P D classes w9 H_24 ∧ va_D A w9) [(m0, .inr (11, [.int s_thrown, .int s_taped, .ref m1, .int s_size, .int s_outSize, .ref m2, .int s_kind, .int s_value, .int s_begin, .int s_end, .int s_failed, .ref m3, .ref m4, .ref m5, .int s_isProgram, .int s_half, .ref m6, .ref m7, .ref m8, .ref m9, .ref m10, .ref m11, .ref m12, .ref m13, .ref m14, .ref m15, .ref m16, .ref m17, .ref m18, .ref m19, .ref m20, .int s_signs, .ref m21, .int s_stacked, .ref m22, .int s_name, .int s_shift, .int s_statements, .int s_ifs, .int s_whiles, .int s_variants, .int s_open, .ref m23, .int s_isMade, .int s_conditions, .ref m24, .ref m25, .ref m26, .ref m27, .int s_kept, .ref m28, .int s_tops, .ref m29, .int s_used, .ref m30, .ref m31, .int s_looked, .int s_rows, .int s_firstRow, .ref m32, .ref m33, .ref m34, .ref m35, .ref m36, .ref m37, .ref m38, .ref m39, .ref m40, .int (nI br1), .ref m41, .int s_atoms, .ref m42])), (m28, .inl (ax 0, 180000, .inl kp)), (m32, .inl (ax 0, 30000, .inl (fun j => nI (sf j)))), (m33, .inl (ax 0, 30000, .inl (fun j => nI (wt j)))), (m34, .inl (ax 0, 30000, .inl (fun j => nI (wf j)))), (m35, .inl (ax 0, 20000, .inl (fun j => nI (sup pa1 n2 (pa1 n2 - 1 - (sf (pa1 n2 - 1))) j)))), (m36, .inl (ax 0, 20000, .inl (fun j => nI (pr1 j)))), (m37, .inl (ax 3, 20000, .inl (fun j => nI (ptr1 j)))), (m38, .inl (ax 0, 121, .inl bd1)), (m39, .inl (ax 3, 121, .inl ib1))] := ⟨hP1, hD1⟩
                    obtain ⟨hP, hD⟩ := hW7
                    clear hP1 hD1 hS1
                    refine lv_aload_n hx hb d_Model_takeRow_307 rfl (lv_at hl1 5 rfl) ?_
                    refine va_get (D := D) (ci := 11) (v := .ref m36) (C := R_Model) (T := F_Model) (N := 72) hx hb hts i_Model hown hK.1 hP 0 rfl rfl 63 (by decide) (hts _ wd_1099) (fun _ h9 => h9) rfl d_Model_takeRow_308 ?_
                    refine lv_iload hx hb d_Model_takeRow_311 (lv_at hl1 4 rfl) ?_
                    refine lv_iload hx hb d_Model_takeRow_313 (lv_at hl1 2 rfl) ?_
                    refine lv_iload hx hb d_Model_takeRow_315 (lv_at hl1 9 rfl) ?_
                    refine lv_icmp_ge (tgt := 325) hx hb d_Model_takeRow_317 (by decide) (fun c_25 => ?_) (fun c_25 => ?_)
                    · replace c_25 : o9 ≤ pr1 n2 := (nI_leI (a := o9) (b := pr1 n2) (by first | exact Nat.lt_of_lt_of_le (by assumption) (by decide) | exact Nat.lt_of_le_of_lt (by assumption) (by decide) | omega) (by first | exact Nat.lt_of_lt_of_le (by assumption) (by decide) | exact Nat.lt_of_le_of_lt (by assumption) (by decide) | omega)).mp c_25
                      refine lv_iload hx hb d_Model_takeRow_325 (lv_at hl1 2 rfl) ?_
                      refine lv_iload hx hb d_Model_takeRow_327 (lv_at hl1 9 rfl) ?_
                      refine lv_isub hx hb d_Model_takeRow_329 ?_
                      refine lv_topi (fun z_26 ez_26 => ?_)
                      have ez_26 : z_26 = nI (pr1 n2 - o9) := ez_26.trans (pk_sub (a := pr1 n2) (b := o9) (by first | assumption | omega))
                      subst ez_26
                      refine va_iast hx hb hK.1 hP hD hS 6 0 rfl rfl (vp_in_nI (by first | assumption | omega) (by decide)) d_Model_takeRow_330 (fun H_27 locs hP1 hD1 hS1 => ?_)
                      rw [nI_clamp (by first | exact Nat.lt_of_lt_of_le (by assumption) (by decide) | exact Nat.lt_of_le_of_lt (by assumption) (by decide) | omega)] at hP1 hD1
                      rw [xf_sup pr1 n2 (pr1 n2 - o9)] at hP1 hD1
                      clear hP hD hS
                      have hS := hS1
                      have hW7 : (fun w9 : va_W => va_P D classes w9 H_27 ∧ va_D A w9) [(m0, .inr (11, [.int s_thrown, .int s_taped, .ref m1, .int s_size, .int s_outSize, .ref m2, .int s_kind, .int s_value, .int s_begin, .int s_end, .int s_failed, .ref m3, .ref m4, .ref m5, .int s_isProgram, .int s_half, .ref m6, .ref m7, .ref m8, .ref m9, .ref m10, .ref m11, .ref m12, .ref m13, .ref m14, .ref m15, .ref m16, .ref m17, .ref m18, .ref m19, .ref m20, .int s_signs, .ref m21, .int s_stacked, .ref m22, .int s_name, .int s_shift, .int s_statements, .int s_ifs, .int s_whiles, .int s_variants, .int s_open, .ref m23, .int s_isMade, .int s_conditions, .ref m24, .ref m25, .ref m26, .ref m27, .int s_kept, .ref m28, .int s_tops, .ref m29, .int s_used, .ref m30, .ref m31, .int s_looked, .int s_rows, .int s_firstRow, .ref m32, .ref m33, .ref m34, .ref m35, .ref m36, .ref m37, .ref m38, .ref m39, .ref m40, .int (nI br1), .ref m41, .int s_atoms, .ref m42])), (m28, .inl (ax 0, 180000, .inl kp)), (m32, .inl (ax 0, 30000, .inl (fun j => nI (sf j)))), (m33, .inl (ax 0, 30000, .inl (fun j => nI (wt j)))), (m34, .inl (ax 0, 30000, .inl (fun j => nI (wf j)))), (m35, .inl (ax 0, 20000, .inl (fun j => nI (sup pa1 n2 (pa1 n2 - 1 - (sf (pa1 n2 - 1))) j)))), (m36, .inl (ax 0, 20000, .inl (fun j => nI (sup pr1 n2 (pr1 n2 - o9) j)))), (m37, .inl (ax 3, 20000, .inl (fun j => nI (ptr1 j)))), (m38, .inl (ax 0, 121, .inl bd1)), (m39, .inl (ax 3, 121, .inl ib1))] := ⟨hP1, hD1⟩
                      obtain ⟨hP, hD⟩ := hW7
                      clear hP1 hD1 hS1
                      refine lv_iinc (v := nI (n2 + 1)) (lv' := [(4, .int (nI (n2 + 1))), (8, .int (kp (6 * (fr + pa1 n2)))), (7, .int (nI (ptr1 n2))), (6, .int (nI (pr1 n2))), (5, .int (nI (pa1 n2))), (0, .ref m0), (1, .int (nI fr)), (9, .int (nI (pa1 n2 - 1))), (10, .int (nI (pa1 n2 - 1 - (sf (pa1 n2 - 1))))), (11, .int (nI o9)), (12, .int (nI o8))]) hx hb d_Model_takeRow_331 hl1 (k := 4) rfl (nI_add n2 1) (by decide) rfl (fun ls hl2 => ?_)
                      clear hl1; have hl1 := hl2; clear hl2
                      refine lv_goto (tgt := 26) hx hb d_Model_takeRow_334 (by decide) ?_
                      exact ih_7 (n2 + 1) br1 (sup pa1 n2 (pa1 n2 - 1 - (sf (pa1 n2 - 1)))) (sup pr1 n2 (pr1 n2 - o9)) ptr1 bd1 ib1 (by first | assumption | omega) (hp1.s1 (by first | assumption | omega)) (by first | assumption | omega) (by first | assumption | omega) (by first | assumption | omega) (by first | (exfalso; omega) | exact trQ8_l hT8 h78 (by first | assumption | omega) (by first | (rw [eo8, dec_c2 (by rw [show 6 * fr + 6 * pa1 n2 = 6 * (fr + pa1 n2) by omega]; assumption)]; omega) | (rw [eo8, dec_c3 h0 h1 (by rw [show 6 * fr + 6 * pa1 n2 = 6 * (fr + pa1 n2) by omega]; assumption)]; omega)) (by rw [← es8]) (by rw [← ho5]; omega) | exact trQ8_r hT8 h78 (by first | assumption | omega) (by first | (rw [eo8, dec_c2 (by rw [show 6 * fr + 6 * pa1 n2 = 6 * (fr + pa1 n2) by omega]; assumption)]; omega) | (rw [eo8, dec_c3 h0 h1 (by rw [show 6 * fr + 6 * pa1 n2 = 6 * (fr + pa1 n2) by omega]; assumption)]; omega)) (a := pa1 n2 - 1 - (sf (pa1 n2 - 1))) (by rw [← es8]) (by rw [← ho5]; omega) (by rw [← ho5])) _ _ _ (hP.sub [0, 1, 2, 3, 4, 5, 6, 7, 8, 9] rfl) (hD.sub [0, 1, 2, 3, 4, 5, 6, 7, 8, 9] (by decide) rfl) hS (lv_sub hl1 [5, 6, 0] rfl)
                    · replace c_25 : ¬ o9 ≤ pr1 n2 := fun hq9 => c_25 ((nI_leI (a := o9) (b := pr1 n2) (by first | exact Nat.lt_of_lt_of_le (by assumption) (by decide) | exact Nat.lt_of_le_of_lt (by assumption) (by decide) | omega) (by first | exact Nat.lt_of_lt_of_le (by assumption) (by decide) | exact Nat.lt_of_le_of_lt (by assumption) (by decide) | omega)).mpr hq9)
                      refine lv_iload hx hb d_Model_takeRow_320 (lv_at hl1 2 rfl) ?_
                      refine lv_goto (tgt := 330) hx hb d_Model_takeRow_322 (by decide) ?_
                      refine va_iast hx hb hK.1 hP hD hS 6 0 rfl rfl (vp_in_nI (by first | assumption | omega) (by decide)) d_Model_takeRow_330 (fun H_28 locs hP1 hD1 hS1 => ?_)
                      rw [nI_clamp (by first | exact Nat.lt_of_lt_of_le (by assumption) (by decide) | exact Nat.lt_of_le_of_lt (by assumption) (by decide) | omega)] at hP1 hD1
                      rw [xf_sup pr1 n2 (pr1 n2)] at hP1 hD1
                      clear hP hD hS
                      have hS := hS1
                      have hW7 : (fun w9 : va_W => va_P D classes w9 H_28 ∧ va_D A w9) [(m0, .inr (11, [.int s_thrown, .int s_taped, .ref m1, .int s_size, .int s_outSize, .ref m2, .int s_kind, .int s_value, .int s_begin, .int s_end, .int s_failed, .ref m3, .ref m4, .ref m5, .int s_isProgram, .int s_half, .ref m6, .ref m7, .ref m8, .ref m9, .ref m10, .ref m11, .ref m12, .ref m13, .ref m14, .ref m15, .ref m16, .ref m17, .ref m18, .ref m19, .ref m20, .int s_signs, .ref m21, .int s_stacked, .ref m22, .int s_name, .int s_shift, .int s_statements, .int s_ifs, .int s_whiles, .int s_variants, .int s_open, .ref m23, .int s_isMade, .int s_conditions, .ref m24, .ref m25, .ref m26, .ref m27, .int s_kept, .ref m28, .int s_tops, .ref m29, .int s_used, .ref m30, .ref m31, .int s_looked, .int s_rows, .int s_firstRow, .ref m32, .ref m33, .ref m34, .ref m35, .ref m36, .ref m37, .ref m38, .ref m39, .ref m40, .int (nI br1), .ref m41, .int s_atoms, .ref m42])), (m28, .inl (ax 0, 180000, .inl kp)), (m32, .inl (ax 0, 30000, .inl (fun j => nI (sf j)))), (m33, .inl (ax 0, 30000, .inl (fun j => nI (wt j)))), (m34, .inl (ax 0, 30000, .inl (fun j => nI (wf j)))), (m35, .inl (ax 0, 20000, .inl (fun j => nI (sup pa1 n2 (pa1 n2 - 1 - (sf (pa1 n2 - 1))) j)))), (m36, .inl (ax 0, 20000, .inl (fun j => nI (sup pr1 n2 (pr1 n2) j)))), (m37, .inl (ax 3, 20000, .inl (fun j => nI (ptr1 j)))), (m38, .inl (ax 0, 121, .inl bd1)), (m39, .inl (ax 3, 121, .inl ib1))] := ⟨hP1, hD1⟩
                      obtain ⟨hP, hD⟩ := hW7
                      clear hP1 hD1 hS1
                      refine lv_iinc (v := nI (n2 + 1)) (lv' := [(4, .int (nI (n2 + 1))), (8, .int (kp (6 * (fr + pa1 n2)))), (7, .int (nI (ptr1 n2))), (6, .int (nI (pr1 n2))), (5, .int (nI (pa1 n2))), (0, .ref m0), (1, .int (nI fr)), (9, .int (nI (pa1 n2 - 1))), (10, .int (nI (pa1 n2 - 1 - (sf (pa1 n2 - 1))))), (11, .int (nI o9)), (12, .int (nI o8))]) hx hb d_Model_takeRow_331 hl1 (k := 4) rfl (nI_add n2 1) (by decide) rfl (fun ls hl2 => ?_)
                      clear hl1; have hl1 := hl2; clear hl2
                      refine lv_goto (tgt := 26) hx hb d_Model_takeRow_334 (by decide) ?_
                      exact ih_7 (n2 + 1) br1 (sup pa1 n2 (pa1 n2 - 1 - (sf (pa1 n2 - 1)))) (sup pr1 n2 (pr1 n2)) ptr1 bd1 ib1 (by first | assumption | omega) (hp1.s1 (by first | assumption | omega)) (by first | assumption | omega) (by first | assumption | omega) (by first | assumption | omega) (by first | (exfalso; omega) | exact trQ8_l hT8 h78 (by first | assumption | omega) (by first | (rw [eo8, dec_c2 (by rw [show 6 * fr + 6 * pa1 n2 = 6 * (fr + pa1 n2) by omega]; assumption)]; omega) | (rw [eo8, dec_c3 h0 h1 (by rw [show 6 * fr + 6 * pa1 n2 = 6 * (fr + pa1 n2) by omega]; assumption)]; omega)) (by rw [← es8]) (by rw [← ho5]; omega) | exact trQ8_r hT8 h78 (by first | assumption | omega) (by first | (rw [eo8, dec_c2 (by rw [show 6 * fr + 6 * pa1 n2 = 6 * (fr + pa1 n2) by omega]; assumption)]; omega) | (rw [eo8, dec_c3 h0 h1 (by rw [show 6 * fr + 6 * pa1 n2 = 6 * (fr + pa1 n2) by omega]; assumption)]; omega)) (a := pa1 n2 - 1 - (sf (pa1 n2 - 1))) (by rw [← es8]) (by rw [← ho5]; omega) (by rw [← ho5])) _ _ _ (hP.sub [0, 1, 2, 3, 4, 5, 6, 7, 8, 9] rfl) (hD.sub [0, 1, 2, 3, 4, 5, 6, 7, 8, 9] (by decide) rfl) hS (lv_sub hl1 [5, 6, 0] rfl)
                · replace c_17 : 0 = ptr1 n2 := (nI_eq (a := 0) (b := ptr1 n2) (by decide) (by first | exact Nat.lt_of_lt_of_le (by assumption) (by decide) | exact Nat.lt_of_le_of_lt (by assumption) (by decide) | omega)).mp c_17
                  refine lv_aload_n hx hb d_Model_takeRow_220 rfl (lv_at hl1 5 rfl) ?_
                  refine va_get (D := D) (ci := 11) (v := .ref m35) (C := R_Model) (T := F_Model) (N := 72) hx hb hts i_Model hown hK.1 hP 0 rfl rfl 62 (by decide) (hts _ wd_1098) (fun _ h9 => h9) rfl d_Model_takeRow_221 ?_
                  refine lv_iload hx hb d_Model_takeRow_224 (lv_at hl1 4 rfl) ?_
                  refine lv_iload hx hb d_Model_takeRow_226 (lv_at hl1 8 rfl) ?_
                  refine va_iast hx hb hK.1 hP hD hS 5 0 rfl rfl (vp_in_nI (by first | assumption | omega) (by decide)) d_Model_takeRow_228 (fun H_29 locs hP1 hD1 hS1 => ?_)
                  rw [nI_clamp (by first | exact Nat.lt_of_lt_of_le (by assumption) (by decide) | exact Nat.lt_of_le_of_lt (by assumption) (by decide) | omega)] at hP1 hD1
                  rw [xf_sup pa1 n2 (pa1 n2 - 1 - (sf (pa1 n2 - 1)))] at hP1 hD1
                  clear hP hD hS
                  have hS := hS1
                  have hW7 : (fun w9 : va_W => va_P D classes w9 H_29 ∧ va_D A w9) [(m0, .inr (11, [.int s_thrown, .int s_taped, .ref m1, .int s_size, .int s_outSize, .ref m2, .int s_kind, .int s_value, .int s_begin, .int s_end, .int s_failed, .ref m3, .ref m4, .ref m5, .int s_isProgram, .int s_half, .ref m6, .ref m7, .ref m8, .ref m9, .ref m10, .ref m11, .ref m12, .ref m13, .ref m14, .ref m15, .ref m16, .ref m17, .ref m18, .ref m19, .ref m20, .int s_signs, .ref m21, .int s_stacked, .ref m22, .int s_name, .int s_shift, .int s_statements, .int s_ifs, .int s_whiles, .int s_variants, .int s_open, .ref m23, .int s_isMade, .int s_conditions, .ref m24, .ref m25, .ref m26, .ref m27, .int s_kept, .ref m28, .int s_tops, .ref m29, .int s_used, .ref m30, .ref m31, .int s_looked, .int s_rows, .int s_firstRow, .ref m32, .ref m33, .ref m34, .ref m35, .ref m36, .ref m37, .ref m38, .ref m39, .ref m40, .int (nI br1), .ref m41, .int s_atoms, .ref m42])), (m28, .inl (ax 0, 180000, .inl kp)), (m32, .inl (ax 0, 30000, .inl (fun j => nI (sf j)))), (m33, .inl (ax 0, 30000, .inl (fun j => nI (wt j)))), (m34, .inl (ax 0, 30000, .inl (fun j => nI (wf j)))), (m35, .inl (ax 0, 20000, .inl (fun j => nI (sup pa1 n2 (pa1 n2 - 1 - (sf (pa1 n2 - 1))) j)))), (m36, .inl (ax 0, 20000, .inl (fun j => nI (pr1 j)))), (m37, .inl (ax 3, 20000, .inl (fun j => nI (ptr1 j)))), (m38, .inl (ax 0, 121, .inl bd1)), (m39, .inl (ax 3, 121, .inl ib1))] := ⟨hP1, hD1⟩
                  obtain ⟨hP, hD⟩ := hW7
                  clear hP1 hD1 hS1
                  refine lv_aload_n hx hb d_Model_takeRow_229 rfl (lv_at hl1 5 rfl) ?_
                  refine va_get (D := D) (ci := 11) (v := .ref m36) (C := R_Model) (T := F_Model) (N := 72) hx hb hts i_Model hown hK.1 hP 0 rfl rfl 63 (by decide) (hts _ wd_1099) (fun _ h9 => h9) rfl d_Model_takeRow_230 ?_
                  refine lv_iload hx hb d_Model_takeRow_233 (lv_at hl1 4 rfl) ?_
                  refine lv_iload hx hb d_Model_takeRow_235 (lv_at hl1 2 rfl) ?_
                  refine lv_iload hx hb d_Model_takeRow_237 (lv_at hl1 10 rfl) ?_
                  refine lv_idiv hx hb d_Model_takeRow_239 (nI_ne0 (by first | assumption | omega) (by first | assumption | omega)) ?_
                  refine lv_topi (fun z_30 ez_30 => ?_)
                  have ez_30 : z_30 = nI ((pr1 n2) / o8) := ez_30.trans (pk_div (a := pr1 n2) (d := o8) (by first | assumption | omega) (by first | assumption | omega) (by first | assumption | omega))
                  subst ez_30
                  refine va_iast hx hb hK.1 hP hD hS 6 0 rfl rfl (vp_in_nI (by first | assumption | omega) (by decide)) d_Model_takeRow_240 (fun H_31 locs hP1 hD1 hS1 => ?_)
                  rw [nI_clamp (by first | exact Nat.lt_of_lt_of_le (by assumption) (by decide) | exact Nat.lt_of_le_of_lt (by assumption) (by decide) | omega)] at hP1 hD1
                  rw [xf_sup pr1 n2 ((pr1 n2) / o8)] at hP1 hD1
                  clear hP hD hS
                  have hS := hS1
                  have hW7 : (fun w9 : va_W => va_P D classes w9 H_31 ∧ va_D A w9) [(m0, .inr (11, [.int s_thrown, .int s_taped, .ref m1, .int s_size, .int s_outSize, .ref m2, .int s_kind, .int s_value, .int s_begin, .int s_end, .int s_failed, .ref m3, .ref m4, .ref m5, .int s_isProgram, .int s_half, .ref m6, .ref m7, .ref m8, .ref m9, .ref m10, .ref m11, .ref m12, .ref m13, .ref m14, .ref m15, .ref m16, .ref m17, .ref m18, .ref m19, .ref m20, .int s_signs, .ref m21, .int s_stacked, .ref m22, .int s_name, .int s_shift, .int s_statements, .int s_ifs, .int s_whiles, .int s_variants, .int s_open, .ref m23, .int s_isMade, .int s_conditions, .ref m24, .ref m25, .ref m26, .ref m27, .int s_kept, .ref m28, .int s_tops, .ref m29, .int s_used, .ref m30, .ref m31, .int s_looked, .int s_rows, .int s_firstRow, .ref m32, .ref m33, .ref m34, .ref m35, .ref m36, .ref m37, .ref m38, .ref m39, .ref m40, .int (nI br1), .ref m41, .int s_atoms, .ref m42])), (m28, .inl (ax 0, 180000, .inl kp)), (m32, .inl (ax 0, 30000, .inl (fun j => nI (sf j)))), (m33, .inl (ax 0, 30000, .inl (fun j => nI (wt j)))), (m34, .inl (ax 0, 30000, .inl (fun j => nI (wf j)))), (m35, .inl (ax 0, 20000, .inl (fun j => nI (sup pa1 n2 (pa1 n2 - 1 - (sf (pa1 n2 - 1))) j)))), (m36, .inl (ax 0, 20000, .inl (fun j => nI (sup pr1 n2 ((pr1 n2) / o8) j)))), (m37, .inl (ax 3, 20000, .inl (fun j => nI (ptr1 j)))), (m38, .inl (ax 0, 121, .inl bd1)), (m39, .inl (ax 3, 121, .inl ib1))] := ⟨hP1, hD1⟩
                  obtain ⟨hP, hD⟩ := hW7
                  clear hP1 hD1 hS1
                  refine lv_aload_n hx hb d_Model_takeRow_241 rfl (lv_at hl1 5 rfl) ?_
                  refine va_get (D := D) (ci := 11) (v := .ref m35) (C := R_Model) (T := F_Model) (N := 72) hx hb hts i_Model hown hK.1 hP 0 rfl rfl 62 (by decide) (hts _ wd_1098) (fun _ h9 => h9) rfl d_Model_takeRow_242 ?_
                  refine lv_iload hx hb d_Model_takeRow_245 (lv_at hl1 4 rfl) ?_
                  refine lv_iconst (v := 1) hx hb d_Model_takeRow_247 (by decide) ?_
                  refine lv_iadd hx hb d_Model_takeRow_248 ?_
                  refine lv_topi (fun z_32 ez_32 => ?_)
                  have ez_32 : z_32 = nI (n2 + 1) := ez_32.trans (nI_add n2 1)
                  subst ez_32
                  refine lv_iload hx hb d_Model_takeRow_249 (lv_at hl1 7 rfl) ?_
                  refine va_iast hx hb hK.1 hP hD hS 5 0 rfl rfl (vp_in_nI (by first | assumption | omega) (by decide)) d_Model_takeRow_251 (fun H_33 locs hP1 hD1 hS1 => ?_)
                  rw [nI_clamp (by first | exact Nat.lt_of_lt_of_le (by assumption) (by decide) | exact Nat.lt_of_le_of_lt (by assumption) (by decide) | omega)] at hP1 hD1
                  rw [xf_sup (sup pa1 n2 (pa1 n2 - 1 - (sf (pa1 n2 - 1)))) (n2 + 1) (pa1 n2 - 1)] at hP1 hD1
                  clear hP hD hS
                  have hS := hS1
                  have hW7 : (fun w9 : va_W => va_P D classes w9 H_33 ∧ va_D A w9) [(m0, .inr (11, [.int s_thrown, .int s_taped, .ref m1, .int s_size, .int s_outSize, .ref m2, .int s_kind, .int s_value, .int s_begin, .int s_end, .int s_failed, .ref m3, .ref m4, .ref m5, .int s_isProgram, .int s_half, .ref m6, .ref m7, .ref m8, .ref m9, .ref m10, .ref m11, .ref m12, .ref m13, .ref m14, .ref m15, .ref m16, .ref m17, .ref m18, .ref m19, .ref m20, .int s_signs, .ref m21, .int s_stacked, .ref m22, .int s_name, .int s_shift, .int s_statements, .int s_ifs, .int s_whiles, .int s_variants, .int s_open, .ref m23, .int s_isMade, .int s_conditions, .ref m24, .ref m25, .ref m26, .ref m27, .int s_kept, .ref m28, .int s_tops, .ref m29, .int s_used, .ref m30, .ref m31, .int s_looked, .int s_rows, .int s_firstRow, .ref m32, .ref m33, .ref m34, .ref m35, .ref m36, .ref m37, .ref m38, .ref m39, .ref m40, .int (nI br1), .ref m41, .int s_atoms, .ref m42])), (m28, .inl (ax 0, 180000, .inl kp)), (m32, .inl (ax 0, 30000, .inl (fun j => nI (sf j)))), (m33, .inl (ax 0, 30000, .inl (fun j => nI (wt j)))), (m34, .inl (ax 0, 30000, .inl (fun j => nI (wf j)))), (m35, .inl (ax 0, 20000, .inl (fun j => nI (sup (sup pa1 n2 (pa1 n2 - 1 - (sf (pa1 n2 - 1)))) (n2 + 1) (pa1 n2 - 1) j)))), (m36, .inl (ax 0, 20000, .inl (fun j => nI (sup pr1 n2 ((pr1 n2) / o8) j)))), (m37, .inl (ax 3, 20000, .inl (fun j => nI (ptr1 j)))), (m38, .inl (ax 0, 121, .inl bd1)), (m39, .inl (ax 3, 121, .inl ib1))] := ⟨hP1, hD1⟩
                  obtain ⟨hP, hD⟩ := hW7
                  clear hP1 hD1 hS1
                  refine lv_aload_n hx hb d_Model_takeRow_252 rfl (lv_at hl1 5 rfl) ?_
                  refine va_get (D := D) (ci := 11) (v := .ref m36) (C := R_Model) (T := F_Model) (N := 72) hx hb hts i_Model hown hK.1 hP 0 rfl rfl 63 (by decide) (hts _ wd_1099) (fun _ h9 => h9) rfl d_Model_takeRow_253 ?_
                  refine lv_iload hx hb d_Model_takeRow_256 (lv_at hl1 4 rfl) ?_
                  refine lv_iconst (v := 1) hx hb d_Model_takeRow_258 (by decide) ?_
                  refine lv_iadd hx hb d_Model_takeRow_259 ?_
                  refine lv_topi (fun z_34 ez_34 => ?_)
                  have ez_34 : z_34 = nI (n2 + 1) := ez_34.trans (nI_add n2 1)
                  subst ez_34
                  refine lv_iload hx hb d_Model_takeRow_260 (lv_at hl1 2 rfl) ?_
                  refine lv_iload hx hb d_Model_takeRow_262 (lv_at hl1 10 rfl) ?_
                  refine lv_irem hx hb d_Model_takeRow_264 (nI_ne0 (by first | assumption | omega) (by first | assumption | omega)) ?_
                  refine lv_topi (fun z_35 ez_35 => ?_)
                  have ez_35 : z_35 = nI ((pr1 n2) % o8) := ez_35.trans (pk_rem (a := pr1 n2) (d := o8) (by first | assumption | omega) (by first | assumption | omega) (by first | assumption | omega))
                  subst ez_35
                  refine va_iast hx hb hK.1 hP hD hS 6 0 rfl rfl (vp_in_nI (by first | assumption | omega) (by decide)) d_Model_takeRow_265 (fun H_36 locs hP1 hD1 hS1 => ?_)
                  rw [nI_clamp (by first | exact Nat.lt_of_lt_of_le (by assumption) (by decide) | exact Nat.lt_of_le_of_lt (by assumption) (by decide) | omega)] at hP1 hD1
                  rw [xf_sup (sup pr1 n2 ((pr1 n2) / o8)) (n2 + 1) ((pr1 n2) % o8)] at hP1 hD1
                  clear hP hD hS
                  have hS := hS1
                  have hW7 : (fun w9 : va_W => va_P D classes w9 H_36 ∧ va_D A w9) [(m0, .inr (11, [.int s_thrown, .int s_taped, .ref m1, .int s_size, .int s_outSize, .ref m2, .int s_kind, .int s_value, .int s_begin, .int s_end, .int s_failed, .ref m3, .ref m4, .ref m5, .int s_isProgram, .int s_half, .ref m6, .ref m7, .ref m8, .ref m9, .ref m10, .ref m11, .ref m12, .ref m13, .ref m14, .ref m15, .ref m16, .ref m17, .ref m18, .ref m19, .ref m20, .int s_signs, .ref m21, .int s_stacked, .ref m22, .int s_name, .int s_shift, .int s_statements, .int s_ifs, .int s_whiles, .int s_variants, .int s_open, .ref m23, .int s_isMade, .int s_conditions, .ref m24, .ref m25, .ref m26, .ref m27, .int s_kept, .ref m28, .int s_tops, .ref m29, .int s_used, .ref m30, .ref m31, .int s_looked, .int s_rows, .int s_firstRow, .ref m32, .ref m33, .ref m34, .ref m35, .ref m36, .ref m37, .ref m38, .ref m39, .ref m40, .int (nI br1), .ref m41, .int s_atoms, .ref m42])), (m28, .inl (ax 0, 180000, .inl kp)), (m32, .inl (ax 0, 30000, .inl (fun j => nI (sf j)))), (m33, .inl (ax 0, 30000, .inl (fun j => nI (wt j)))), (m34, .inl (ax 0, 30000, .inl (fun j => nI (wf j)))), (m35, .inl (ax 0, 20000, .inl (fun j => nI (sup (sup pa1 n2 (pa1 n2 - 1 - (sf (pa1 n2 - 1)))) (n2 + 1) (pa1 n2 - 1) j)))), (m36, .inl (ax 0, 20000, .inl (fun j => nI (sup (sup pr1 n2 ((pr1 n2) / o8)) (n2 + 1) ((pr1 n2) % o8) j)))), (m37, .inl (ax 3, 20000, .inl (fun j => nI (ptr1 j)))), (m38, .inl (ax 0, 121, .inl bd1)), (m39, .inl (ax 3, 121, .inl ib1))] := ⟨hP1, hD1⟩
                  obtain ⟨hP, hD⟩ := hW7
                  clear hP1 hD1 hS1
                  refine lv_aload_n hx hb d_Model_takeRow_266 rfl (lv_at hl1 5 rfl) ?_
                  refine va_get (D := D) (ci := 11) (v := .ref m37) (C := R_Model) (T := F_Model) (N := 72) hx hb hts i_Model hown hK.1 hP 0 rfl rfl 64 (by decide) (hts _ wd_1100) (fun _ h9 => h9) rfl d_Model_takeRow_267 ?_
                  refine lv_iload hx hb d_Model_takeRow_270 (lv_at hl1 4 rfl) ?_
                  refine lv_iconst (v := 1) hx hb d_Model_takeRow_272 (by decide) ?_
                  refine lv_iadd hx hb d_Model_takeRow_273 ?_
                  refine lv_topi (fun z_37 ez_37 => ?_)
                  have ez_37 : z_37 = nI (n2 + 1) := ez_37.trans (nI_add n2 1)
                  subst ez_37
                  refine lv_iload hx hb d_Model_takeRow_274 (lv_at hl1 1 rfl) ?_
                  refine va_zast hx hb hK.1 hP hD hS 7 3 rfl rfl (vp_in_nI (by first | assumption | omega) (by decide)) d_Model_takeRow_276 (fun H_38 locs hP1 hD1 hS1 => ?_)
                  rw [nI_clamp (by first | exact Nat.lt_of_lt_of_le (by assumption) (by decide) | exact Nat.lt_of_le_of_lt (by assumption) (by decide) | omega)] at hP1 hD1
                  rw [xf_supz ptr1 (n2 + 1) (ptr1 n2) (nI (ptr1 n2)) (vpn (by first | assumption | omega))] at hP1 hD1
                  clear hP hD hS
                  have hS := hS1
                  have hW7 : (fun w9 : va_W => va_P D classes w9 H_38 ∧ va_D A w9) [(m0, .inr (11, [.int s_thrown, .int s_taped, .ref m1, .int s_size, .int s_outSize, .ref m2, .int s_kind, .int s_value, .int s_begin, .int s_end, .int s_failed, .ref m3, .ref m4, .ref m5, .int s_isProgram, .int s_half, .ref m6, .ref m7, .ref m8, .ref m9, .ref m10, .ref m11, .ref m12, .ref m13, .ref m14, .ref m15, .ref m16, .ref m17, .ref m18, .ref m19, .ref m20, .int s_signs, .ref m21, .int s_stacked, .ref m22, .int s_name, .int s_shift, .int s_statements, .int s_ifs, .int s_whiles, .int s_variants, .int s_open, .ref m23, .int s_isMade, .int s_conditions, .ref m24, .ref m25, .ref m26, .ref m27, .int s_kept, .ref m28, .int s_tops, .ref m29, .int s_used, .ref m30, .ref m31, .int s_looked, .int s_rows, .int s_firstRow, .ref m32, .ref m33, .ref m34, .ref m35, .ref m36, .ref m37, .ref m38, .ref m39, .ref m40, .int (nI br1), .ref m41, .int s_atoms, .ref m42])), (m28, .inl (ax 0, 180000, .inl kp)), (m32, .inl (ax 0, 30000, .inl (fun j => nI (sf j)))), (m33, .inl (ax 0, 30000, .inl (fun j => nI (wt j)))), (m34, .inl (ax 0, 30000, .inl (fun j => nI (wf j)))), (m35, .inl (ax 0, 20000, .inl (fun j => nI (sup (sup pa1 n2 (pa1 n2 - 1 - (sf (pa1 n2 - 1)))) (n2 + 1) (pa1 n2 - 1) j)))), (m36, .inl (ax 0, 20000, .inl (fun j => nI (sup (sup pr1 n2 ((pr1 n2) / o8)) (n2 + 1) ((pr1 n2) % o8) j)))), (m37, .inl (ax 3, 20000, .inl (fun j => nI (sup ptr1 (n2 + 1) (ptr1 n2) j)))), (m38, .inl (ax 0, 121, .inl bd1)), (m39, .inl (ax 3, 121, .inl ib1))] := ⟨hP1, hD1⟩
                  obtain ⟨hP, hD⟩ := hW7
                  clear hP1 hD1 hS1
                  refine lv_iload hx hb d_Model_takeRow_277 (lv_at hl1 4 rfl) ?_
                  refine lv_iconst (v := 2) hx hb d_Model_takeRow_279 (by decide) ?_
                  refine lv_iadd hx hb d_Model_takeRow_280 ?_
                  refine lv_topi (fun z_39 ez_39 => ?_)
                  have ez_39 : z_39 = nI (n2 + 2) := ez_39.trans (nI_add n2 2)
                  subst ez_39
                  refine lv_istore (lv' := [(4, .int (nI (n2 + 2))), (8, .int (kp (6 * (fr + pa1 n2)))), (7, .int (nI (ptr1 n2))), (6, .int (nI (pr1 n2))), (5, .int (nI (pa1 n2))), (0, .ref m0), (1, .int (nI fr)), (9, .int (nI (pa1 n2 - 1))), (10, .int (nI (pa1 n2 - 1 - (sf (pa1 n2 - 1))))), (11, .int (nI o9)), (12, .int (nI o8))]) hx hb d_Model_takeRow_281 hl1 (by decide) rfl (fun ls hl2 => ?_)
                  clear hl1; have hl1 := hl2; clear hl2
                  refine lv_goto (tgt := 334) hx hb d_Model_takeRow_283 (by decide) ?_
                  refine lv_goto (tgt := 26) hx hb d_Model_takeRow_334 (by decide) ?_
                  exact ih_7 (n2 + 2) br1 (sup (sup pa1 n2 (pa1 n2 - 1 - (sf (pa1 n2 - 1)))) (n2 + 1) (pa1 n2 - 1)) (sup (sup pr1 n2 ((pr1 n2) / o8)) (n2 + 1) ((pr1 n2) % o8)) (sup ptr1 (n2 + 1) (ptr1 n2)) bd1 ib1 (by first | assumption | omega) (hp1.s2 (by first | assumption | omega) (by first | assumption | omega)) (by first | assumption | omega) (by first | assumption | omega) (by first | assumption | omega) (trQ8_y hT8 h78 (by first | assumption | omega) (by first | (rw [eo8, dec_c2 (by rw [show 6 * fr + 6 * pa1 n2 = 6 * (fr + pa1 n2) by omega]; assumption)]; omega) | (rw [eo8, dec_c3 h0 h1 (by rw [show 6 * fr + 6 * pa1 n2 = 6 * (fr + pa1 n2) by omega]; assumption)]; omega)) (by rw [← es8]) (by rw [← ho6]) (by rw [← ho6])) _ _ _ (hP.sub [0, 1, 2, 3, 4, 5, 6, 7, 8, 9] rfl) (hD.sub [0, 1, 2, 3, 4, 5, 6, 7, 8, 9] (by decide) rfl) hS (lv_sub hl1 [5, 6, 0] rfl)
              · refine lv_iconst (v := 1) hx hb d_Model_takeRow_210 (by decide) ?_
                refine lv_goto (tgt := 215) hx hb d_Model_takeRow_211 (by decide) ?_
                refine lv_iload hx hb d_Model_takeRow_215 (lv_at hl1 1 rfl) ?_
                refine lv_icmp_ne (tgt := 286) hx hb d_Model_takeRow_217 (by decide) (fun c_40 => ?_) (fun c_40 => ?_)
                · replace c_40 : ¬ 1 = ptr1 n2 := fun hq9 => c_40 ((nI_eq (a := 1) (b := ptr1 n2) (by decide) (by first | exact Nat.lt_of_lt_of_le (by assumption) (by decide) | exact Nat.lt_of_le_of_lt (by assumption) (by decide) | omega)).mpr hq9)
                  refine lv_aload_n hx hb d_Model_takeRow_286 rfl (lv_at hl1 5 rfl) ?_
                  refine va_get (D := D) (ci := 11) (v := .ref m35) (C := R_Model) (T := F_Model) (N := 72) hx hb hts i_Model hown hK.1 hP 0 rfl rfl 62 (by decide) (hts _ wd_1098) (fun _ h9 => h9) rfl d_Model_takeRow_287 ?_
                  refine lv_iload hx hb d_Model_takeRow_290 (lv_at hl1 4 rfl) ?_
                  refine lv_iload hx hb d_Model_takeRow_292 (lv_at hl1 2 rfl) ?_
                  refine lv_iload hx hb d_Model_takeRow_294 (lv_at hl1 9 rfl) ?_
                  refine lv_icmp_ge (tgt := 304) hx hb d_Model_takeRow_296 (by decide) (fun c_41 => ?_) (fun c_41 => ?_)
                  · replace c_41 : o9 ≤ pr1 n2 := (nI_leI (a := o9) (b := pr1 n2) (by first | exact Nat.lt_of_lt_of_le (by assumption) (by decide) | exact Nat.lt_of_le_of_lt (by assumption) (by decide) | omega) (by first | exact Nat.lt_of_lt_of_le (by assumption) (by decide) | exact Nat.lt_of_le_of_lt (by assumption) (by decide) | omega)).mp c_41
                    refine lv_iload hx hb d_Model_takeRow_304 (lv_at hl1 7 rfl) ?_
                    refine va_iast hx hb hK.1 hP hD hS 5 0 rfl rfl (vp_in_nI (by first | assumption | omega) (by decide)) d_Model_takeRow_306 (fun H_42 locs hP1 hD1 hS1 => ?_)
                    rw [nI_clamp (by first | exact Nat.lt_of_lt_of_le (by assumption) (by decide) | exact Nat.lt_of_le_of_lt (by assumption) (by decide) | omega)] at hP1 hD1
                    rw [xf_sup pa1 n2 (pa1 n2 - 1)] at hP1 hD1
                    clear hP hD hS
                    have hS := hS1
                    have hW7 : (fun w9 : va_W => va_P D classes w9 H_42 ∧ va_D A w9) [(m0, .inr (11, [.int s_thrown, .int s_taped, .ref m1, .int s_size, .int s_outSize, .ref m2, .int s_kind, .int s_value, .int s_begin, .int s_end, .int s_failed, .ref m3, .ref m4, .ref m5, .int s_isProgram, .int s_half, .ref m6, .ref m7, .ref m8, .ref m9, .ref m10, .ref m11, .ref m12, .ref m13, .ref m14, .ref m15, .ref m16, .ref m17, .ref m18, .ref m19, .ref m20, .int s_signs, .ref m21, .int s_stacked, .ref m22, .int s_name, .int s_shift, .int s_statements, .int s_ifs, .int s_whiles, .int s_variants, .int s_open, .ref m23, .int s_isMade, .int s_conditions, .ref m24, .ref m25, .ref m26, .ref m27, .int s_kept, .ref m28, .int s_tops, .ref m29, .int s_used, .ref m30, .ref m31, .int s_looked, .int s_rows, .int s_firstRow, .ref m32, .ref m33, .ref m34, .ref m35, .ref m36, .ref m37, .ref m38, .ref m39, .ref m40, .int (nI br1), .ref m41, .int s_atoms, .ref m42])), (m28, .inl (ax 0, 180000, .inl kp)), (m32, .inl (ax 0, 30000, .inl (fun j => nI (sf j)))), (m33, .inl (ax 0, 30000, .inl (fun j => nI (wt j)))), (m34, .inl (ax 0, 30000, .inl (fun j => nI (wf j)))), (m35, .inl (ax 0, 20000, .inl (fun j => nI (sup pa1 n2 (pa1 n2 - 1) j)))), (m36, .inl (ax 0, 20000, .inl (fun j => nI (pr1 j)))), (m37, .inl (ax 3, 20000, .inl (fun j => nI (ptr1 j)))), (m38, .inl (ax 0, 121, .inl bd1)), (m39, .inl (ax 3, 121, .inl ib1))] := ⟨hP1, hD1⟩
                    obtain ⟨hP, hD⟩ := hW7
                    clear hP1 hD1 hS1
                    refine lv_aload_n hx hb d_Model_takeRow_307 rfl (lv_at hl1 5 rfl) ?_
                    refine va_get (D := D) (ci := 11) (v := .ref m36) (C := R_Model) (T := F_Model) (N := 72) hx hb hts i_Model hown hK.1 hP 0 rfl rfl 63 (by decide) (hts _ wd_1099) (fun _ h9 => h9) rfl d_Model_takeRow_308 ?_
                    refine lv_iload hx hb d_Model_takeRow_311 (lv_at hl1 4 rfl) ?_
                    refine lv_iload hx hb d_Model_takeRow_313 (lv_at hl1 2 rfl) ?_
                    refine lv_iload hx hb d_Model_takeRow_315 (lv_at hl1 9 rfl) ?_
                    refine lv_icmp_ge (tgt := 325) hx hb d_Model_takeRow_317 (by decide) (fun c_43 => ?_) (fun c_43 => ?_)
                    · replace c_43 : o9 ≤ pr1 n2 := (nI_leI (a := o9) (b := pr1 n2) (by first | exact Nat.lt_of_lt_of_le (by assumption) (by decide) | exact Nat.lt_of_le_of_lt (by assumption) (by decide) | omega) (by first | exact Nat.lt_of_lt_of_le (by assumption) (by decide) | exact Nat.lt_of_le_of_lt (by assumption) (by decide) | omega)).mp c_43
                      refine lv_iload hx hb d_Model_takeRow_325 (lv_at hl1 2 rfl) ?_
                      refine lv_iload hx hb d_Model_takeRow_327 (lv_at hl1 9 rfl) ?_
                      refine lv_isub hx hb d_Model_takeRow_329 ?_
                      refine lv_topi (fun z_44 ez_44 => ?_)
                      have ez_44 : z_44 = nI (pr1 n2 - o9) := ez_44.trans (pk_sub (a := pr1 n2) (b := o9) (by first | assumption | omega))
                      subst ez_44
                      refine va_iast hx hb hK.1 hP hD hS 6 0 rfl rfl (vp_in_nI (by first | assumption | omega) (by decide)) d_Model_takeRow_330 (fun H_45 locs hP1 hD1 hS1 => ?_)
                      rw [nI_clamp (by first | exact Nat.lt_of_lt_of_le (by assumption) (by decide) | exact Nat.lt_of_le_of_lt (by assumption) (by decide) | omega)] at hP1 hD1
                      rw [xf_sup pr1 n2 (pr1 n2 - o9)] at hP1 hD1
                      clear hP hD hS
                      have hS := hS1
                      have hW7 : (fun w9 : va_W => va_P D classes w9 H_45 ∧ va_D A w9) [(m0, .inr (11, [.int s_thrown, .int s_taped, .ref m1, .int s_size, .int s_outSize, .ref m2, .int s_kind, .int s_value, .int s_begin, .int s_end, .int s_failed, .ref m3, .ref m4, .ref m5, .int s_isProgram, .int s_half, .ref m6, .ref m7, .ref m8, .ref m9, .ref m10, .ref m11, .ref m12, .ref m13, .ref m14, .ref m15, .ref m16, .ref m17, .ref m18, .ref m19, .ref m20, .int s_signs, .ref m21, .int s_stacked, .ref m22, .int s_name, .int s_shift, .int s_statements, .int s_ifs, .int s_whiles, .int s_variants, .int s_open, .ref m23, .int s_isMade, .int s_conditions, .ref m24, .ref m25, .ref m26, .ref m27, .int s_kept, .ref m28, .int s_tops, .ref m29, .int s_used, .ref m30, .ref m31, .int s_looked, .int s_rows, .int s_firstRow, .ref m32, .ref m33, .ref m34, .ref m35, .ref m36, .ref m37, .ref m38, .ref m39, .ref m40, .int (nI br1), .ref m41, .int s_atoms, .ref m42])), (m28, .inl (ax 0, 180000, .inl kp)), (m32, .inl (ax 0, 30000, .inl (fun j => nI (sf j)))), (m33, .inl (ax 0, 30000, .inl (fun j => nI (wt j)))), (m34, .inl (ax 0, 30000, .inl (fun j => nI (wf j)))), (m35, .inl (ax 0, 20000, .inl (fun j => nI (sup pa1 n2 (pa1 n2 - 1) j)))), (m36, .inl (ax 0, 20000, .inl (fun j => nI (sup pr1 n2 (pr1 n2 - o9) j)))), (m37, .inl (ax 3, 20000, .inl (fun j => nI (ptr1 j)))), (m38, .inl (ax 0, 121, .inl bd1)), (m39, .inl (ax 3, 121, .inl ib1))] := ⟨hP1, hD1⟩
                      obtain ⟨hP, hD⟩ := hW7
                      clear hP1 hD1 hS1
                      refine lv_iinc (v := nI (n2 + 1)) (lv' := [(4, .int (nI (n2 + 1))), (8, .int (kp (6 * (fr + pa1 n2)))), (7, .int (nI (ptr1 n2))), (6, .int (nI (pr1 n2))), (5, .int (nI (pa1 n2))), (0, .ref m0), (1, .int (nI fr)), (9, .int (nI (pa1 n2 - 1))), (10, .int (nI (pa1 n2 - 1 - (sf (pa1 n2 - 1))))), (11, .int (nI o9)), (12, .int (nI o8))]) hx hb d_Model_takeRow_331 hl1 (k := 4) rfl (nI_add n2 1) (by decide) rfl (fun ls hl2 => ?_)
                      clear hl1; have hl1 := hl2; clear hl2
                      refine lv_goto (tgt := 26) hx hb d_Model_takeRow_334 (by decide) ?_
                      exact ih_7 (n2 + 1) br1 (sup pa1 n2 (pa1 n2 - 1)) (sup pr1 n2 (pr1 n2 - o9)) ptr1 bd1 ib1 (by first | assumption | omega) (hp1.s1 (by first | assumption | omega)) (by first | assumption | omega) (by first | assumption | omega) (by first | assumption | omega) (by first | (exfalso; omega) | exact trQ8_l hT8 h78 (by first | assumption | omega) (by first | (rw [eo8, dec_c2 (by rw [show 6 * fr + 6 * pa1 n2 = 6 * (fr + pa1 n2) by omega]; assumption)]; omega) | (rw [eo8, dec_c3 h0 h1 (by rw [show 6 * fr + 6 * pa1 n2 = 6 * (fr + pa1 n2) by omega]; assumption)]; omega)) (by rw [← es8]) (by rw [← ho5]; omega) | exact trQ8_r hT8 h78 (by first | assumption | omega) (by first | (rw [eo8, dec_c2 (by rw [show 6 * fr + 6 * pa1 n2 = 6 * (fr + pa1 n2) by omega]; assumption)]; omega) | (rw [eo8, dec_c3 h0 h1 (by rw [show 6 * fr + 6 * pa1 n2 = 6 * (fr + pa1 n2) by omega]; assumption)]; omega)) (a := pa1 n2 - 1 - (sf (pa1 n2 - 1))) (by rw [← es8]) (by rw [← ho5]; omega) (by rw [← ho5])) _ _ _ (hP.sub [0, 1, 2, 3, 4, 5, 6, 7, 8, 9] rfl) (hD.sub [0, 1, 2, 3, 4, 5, 6, 7, 8, 9] (by decide) rfl) hS (lv_sub hl1 [5, 6, 0] rfl)
                    · replace c_43 : ¬ o9 ≤ pr1 n2 := fun hq9 => c_43 ((nI_leI (a := o9) (b := pr1 n2) (by first | exact Nat.lt_of_lt_of_le (by assumption) (by decide) | exact Nat.lt_of_le_of_lt (by assumption) (by decide) | omega) (by first | exact Nat.lt_of_lt_of_le (by assumption) (by decide) | exact Nat.lt_of_le_of_lt (by assumption) (by decide) | omega)).mpr hq9)
                      refine lv_iload hx hb d_Model_takeRow_320 (lv_at hl1 2 rfl) ?_
                      refine lv_goto (tgt := 330) hx hb d_Model_takeRow_322 (by decide) ?_
                      refine va_iast hx hb hK.1 hP hD hS 6 0 rfl rfl (vp_in_nI (by first | assumption | omega) (by decide)) d_Model_takeRow_330 (fun H_46 locs hP1 hD1 hS1 => ?_)
                      rw [nI_clamp (by first | exact Nat.lt_of_lt_of_le (by assumption) (by decide) | exact Nat.lt_of_le_of_lt (by assumption) (by decide) | omega)] at hP1 hD1
                      rw [xf_sup pr1 n2 (pr1 n2)] at hP1 hD1
                      clear hP hD hS
                      have hS := hS1
                      have hW7 : (fun w9 : va_W => va_P D classes w9 H_46 ∧ va_D A w9) [(m0, .inr (11, [.int s_thrown, .int s_taped, .ref m1, .int s_size, .int s_outSize, .ref m2, .int s_kind, .int s_value, .int s_begin, .int s_end, .int s_failed, .ref m3, .ref m4, .ref m5, .int s_isProgram, .int s_half, .ref m6, .ref m7, .ref m8, .ref m9, .ref m10, .ref m11, .ref m12, .ref m13, .ref m14, .ref m15, .ref m16, .ref m17, .ref m18, .ref m19, .ref m20, .int s_signs, .ref m21, .int s_stacked, .ref m22, .int s_name, .int s_shift, .int s_statements, .int s_ifs, .int s_whiles, .int s_variants, .int s_open, .ref m23, .int s_isMade, .int s_conditions, .ref m24, .ref m25, .ref m26, .ref m27, .int s_kept, .ref m28, .int s_tops, .ref m29, .int s_used, .ref m30, .ref m31, .int s_looked, .int s_rows, .int s_firstRow, .ref m32, .ref m33, .ref m34, .ref m35, .ref m36, .ref m37, .ref m38, .ref m39, .ref m40, .int (nI br1), .ref m41, .int s_atoms, .ref m42])), (m28, .inl (ax 0, 180000, .inl kp)), (m32, .inl (ax 0, 30000, .inl (fun j => nI (sf j)))), (m33, .inl (ax 0, 30000, .inl (fun j => nI (wt j)))), (m34, .inl (ax 0, 30000, .inl (fun j => nI (wf j)))), (m35, .inl (ax 0, 20000, .inl (fun j => nI (sup pa1 n2 (pa1 n2 - 1) j)))), (m36, .inl (ax 0, 20000, .inl (fun j => nI (sup pr1 n2 (pr1 n2) j)))), (m37, .inl (ax 3, 20000, .inl (fun j => nI (ptr1 j)))), (m38, .inl (ax 0, 121, .inl bd1)), (m39, .inl (ax 3, 121, .inl ib1))] := ⟨hP1, hD1⟩
                      obtain ⟨hP, hD⟩ := hW7
                      clear hP1 hD1 hS1
                      refine lv_iinc (v := nI (n2 + 1)) (lv' := [(4, .int (nI (n2 + 1))), (8, .int (kp (6 * (fr + pa1 n2)))), (7, .int (nI (ptr1 n2))), (6, .int (nI (pr1 n2))), (5, .int (nI (pa1 n2))), (0, .ref m0), (1, .int (nI fr)), (9, .int (nI (pa1 n2 - 1))), (10, .int (nI (pa1 n2 - 1 - (sf (pa1 n2 - 1))))), (11, .int (nI o9)), (12, .int (nI o8))]) hx hb d_Model_takeRow_331 hl1 (k := 4) rfl (nI_add n2 1) (by decide) rfl (fun ls hl2 => ?_)
                      clear hl1; have hl1 := hl2; clear hl2
                      refine lv_goto (tgt := 26) hx hb d_Model_takeRow_334 (by decide) ?_
                      exact ih_7 (n2 + 1) br1 (sup pa1 n2 (pa1 n2 - 1)) (sup pr1 n2 (pr1 n2)) ptr1 bd1 ib1 (by first | assumption | omega) (hp1.s1 (by first | assumption | omega)) (by first | assumption | omega) (by first | assumption | omega) (by first | assumption | omega) (by first | (exfalso; omega) | exact trQ8_l hT8 h78 (by first | assumption | omega) (by first | (rw [eo8, dec_c2 (by rw [show 6 * fr + 6 * pa1 n2 = 6 * (fr + pa1 n2) by omega]; assumption)]; omega) | (rw [eo8, dec_c3 h0 h1 (by rw [show 6 * fr + 6 * pa1 n2 = 6 * (fr + pa1 n2) by omega]; assumption)]; omega)) (by rw [← es8]) (by rw [← ho5]; omega) | exact trQ8_r hT8 h78 (by first | assumption | omega) (by first | (rw [eo8, dec_c2 (by rw [show 6 * fr + 6 * pa1 n2 = 6 * (fr + pa1 n2) by omega]; assumption)]; omega) | (rw [eo8, dec_c3 h0 h1 (by rw [show 6 * fr + 6 * pa1 n2 = 6 * (fr + pa1 n2) by omega]; assumption)]; omega)) (a := pa1 n2 - 1 - (sf (pa1 n2 - 1))) (by rw [← es8]) (by rw [← ho5]; omega) (by rw [← ho5])) _ _ _ (hP.sub [0, 1, 2, 3, 4, 5, 6, 7, 8, 9] rfl) (hD.sub [0, 1, 2, 3, 4, 5, 6, 7, 8, 9] (by decide) rfl) hS (lv_sub hl1 [5, 6, 0] rfl)
                  · replace c_41 : ¬ o9 ≤ pr1 n2 := fun hq9 => c_41 ((nI_leI (a := o9) (b := pr1 n2) (by first | exact Nat.lt_of_lt_of_le (by assumption) (by decide) | exact Nat.lt_of_le_of_lt (by assumption) (by decide) | omega) (by first | exact Nat.lt_of_lt_of_le (by assumption) (by decide) | exact Nat.lt_of_le_of_lt (by assumption) (by decide) | omega)).mpr hq9)
                    refine lv_iload hx hb d_Model_takeRow_299 (lv_at hl1 8 rfl) ?_
                    refine lv_goto (tgt := 306) hx hb d_Model_takeRow_301 (by decide) ?_
                    refine va_iast hx hb hK.1 hP hD hS 5 0 rfl rfl (vp_in_nI (by first | assumption | omega) (by decide)) d_Model_takeRow_306 (fun H_47 locs hP1 hD1 hS1 => ?_)
                    rw [nI_clamp (by first | exact Nat.lt_of_lt_of_le (by assumption) (by decide) | exact Nat.lt_of_le_of_lt (by assumption) (by decide) | omega)] at hP1 hD1
                    rw [xf_sup pa1 n2 (pa1 n2 - 1 - (sf (pa1 n2 - 1)))] at hP1 hD1
                    clear hP hD hS
                    have hS := hS1
                    have hW7 : (fun w9 : va_W => va_P D classes w9 H_47 ∧ va_D A w9) [(m0, .inr (11, [.int s_thrown, .int s_taped, .ref m1, .int s_size, .int s_outSize, .ref m2, .int s_kind, .int s_value, .int s_begin, .int s_end, .int s_failed, .ref m3, .ref m4, .ref m5, .int s_isProgram, .int s_half, .ref m6, .ref m7, .ref m8, .ref m9, .ref m10, .ref m11, .ref m12, .ref m13, .ref m14, .ref m15, .ref m16, .ref m17, .ref m18, .ref m19, .ref m20, .int s_signs, .ref m21, .int s_stacked, .ref m22, .int s_name, .int s_shift, .int s_statements, .int s_ifs, .int s_whiles, .int s_variants, .int s_open, .ref m23, .int s_isMade, .int s_conditions, .ref m24, .ref m25, .ref m26, .ref m27, .int s_kept, .ref m28, .int s_tops, .ref m29, .int s_used, .ref m30, .ref m31, .int s_looked, .int s_rows, .int s_firstRow, .ref m32, .ref m33, .ref m34, .ref m35, .ref m36, .ref m37, .ref m38, .ref m39, .ref m40, .int (nI br1), .ref m41, .int s_atoms, .ref m42])), (m28, .inl (ax 0, 180000, .inl kp)), (m32, .inl (ax 0, 30000, .inl (fun j => nI (sf j)))), (m33, .inl (ax 0, 30000, .inl (fun j => nI (wt j)))), (m34, .inl (ax 0, 30000, .inl (fun j => nI (wf j)))), (m35, .inl (ax 0, 20000, .inl (fun j => nI (sup pa1 n2 (pa1 n2 - 1 - (sf (pa1 n2 - 1))) j)))), (m36, .inl (ax 0, 20000, .inl (fun j => nI (pr1 j)))), (m37, .inl (ax 3, 20000, .inl (fun j => nI (ptr1 j)))), (m38, .inl (ax 0, 121, .inl bd1)), (m39, .inl (ax 3, 121, .inl ib1))] := ⟨hP1, hD1⟩
                    obtain ⟨hP, hD⟩ := hW7
                    clear hP1 hD1 hS1
                    refine lv_aload_n hx hb d_Model_takeRow_307 rfl (lv_at hl1 5 rfl) ?_
                    refine va_get (D := D) (ci := 11) (v := .ref m36) (C := R_Model) (T := F_Model) (N := 72) hx hb hts i_Model hown hK.1 hP 0 rfl rfl 63 (by decide) (hts _ wd_1099) (fun _ h9 => h9) rfl d_Model_takeRow_308 ?_
                    refine lv_iload hx hb d_Model_takeRow_311 (lv_at hl1 4 rfl) ?_
                    refine lv_iload hx hb d_Model_takeRow_313 (lv_at hl1 2 rfl) ?_
                    refine lv_iload hx hb d_Model_takeRow_315 (lv_at hl1 9 rfl) ?_
                    refine lv_icmp_ge (tgt := 325) hx hb d_Model_takeRow_317 (by decide) (fun c_48 => ?_) (fun c_48 => ?_)
                    · replace c_48 : o9 ≤ pr1 n2 := (nI_leI (a := o9) (b := pr1 n2) (by first | exact Nat.lt_of_lt_of_le (by assumption) (by decide) | exact Nat.lt_of_le_of_lt (by assumption) (by decide) | omega) (by first | exact Nat.lt_of_lt_of_le (by assumption) (by decide) | exact Nat.lt_of_le_of_lt (by assumption) (by decide) | omega)).mp c_48
                      refine lv_iload hx hb d_Model_takeRow_325 (lv_at hl1 2 rfl) ?_
                      refine lv_iload hx hb d_Model_takeRow_327 (lv_at hl1 9 rfl) ?_
                      refine lv_isub hx hb d_Model_takeRow_329 ?_
                      refine lv_topi (fun z_49 ez_49 => ?_)
                      have ez_49 : z_49 = nI (pr1 n2 - o9) := ez_49.trans (pk_sub (a := pr1 n2) (b := o9) (by first | assumption | omega))
                      subst ez_49
                      refine va_iast hx hb hK.1 hP hD hS 6 0 rfl rfl (vp_in_nI (by first | assumption | omega) (by decide)) d_Model_takeRow_330 (fun H_50 locs hP1 hD1 hS1 => ?_)
                      rw [nI_clamp (by first | exact Nat.lt_of_lt_of_le (by assumption) (by decide) | exact Nat.lt_of_le_of_lt (by assumption) (by decide) | omega)] at hP1 hD1
                      rw [xf_sup pr1 n2 (pr1 n2 - o9)] at hP1 hD1
                      clear hP hD hS
                      have hS := hS1
                      have hW7 : (fun w9 : va_W => va_P D classes w9 H_50 ∧ va_D A w9) [(m0, .inr (11, [.int s_thrown, .int s_taped, .ref m1, .int s_size, .int s_outSize, .ref m2, .int s_kind, .int s_value, .int s_begin, .int s_end, .int s_failed, .ref m3, .ref m4, .ref m5, .int s_isProgram, .int s_half, .ref m6, .ref m7, .ref m8, .ref m9, .ref m10, .ref m11, .ref m12, .ref m13, .ref m14, .ref m15, .ref m16, .ref m17, .ref m18, .ref m19, .ref m20, .int s_signs, .ref m21, .int s_stacked, .ref m22, .int s_name, .int s_shift, .int s_statements, .int s_ifs, .int s_whiles, .int s_variants, .int s_open, .ref m23, .int s_isMade, .int s_conditions, .ref m24, .ref m25, .ref m26, .ref m27, .int s_kept, .ref m28, .int s_tops, .ref m29, .int s_used, .ref m30, .ref m31, .int s_looked, .int s_rows, .int s_firstRow, .ref m32, .ref m33, .ref m34, .ref m35, .ref m36, .ref m37, .ref m38, .ref m39, .ref m40, .int (nI br1), .ref m41, .int s_atoms, .ref m42])), (m28, .inl (ax 0, 180000, .inl kp)), (m32, .inl (ax 0, 30000, .inl (fun j => nI (sf j)))), (m33, .inl (ax 0, 30000, .inl (fun j => nI (wt j)))), (m34, .inl (ax 0, 30000, .inl (fun j => nI (wf j)))), (m35, .inl (ax 0, 20000, .inl (fun j => nI (sup pa1 n2 (pa1 n2 - 1 - (sf (pa1 n2 - 1))) j)))), (m36, .inl (ax 0, 20000, .inl (fun j => nI (sup pr1 n2 (pr1 n2 - o9) j)))), (m37, .inl (ax 3, 20000, .inl (fun j => nI (ptr1 j)))), (m38, .inl (ax 0, 121, .inl bd1)), (m39, .inl (ax 3, 121, .inl ib1))] := ⟨hP1, hD1⟩
                      obtain ⟨hP, hD⟩ := hW7
                      clear hP1 hD1 hS1
                      refine lv_iinc (v := nI (n2 + 1)) (lv' := [(4, .int (nI (n2 + 1))), (8, .int (kp (6 * (fr + pa1 n2)))), (7, .int (nI (ptr1 n2))), (6, .int (nI (pr1 n2))), (5, .int (nI (pa1 n2))), (0, .ref m0), (1, .int (nI fr)), (9, .int (nI (pa1 n2 - 1))), (10, .int (nI (pa1 n2 - 1 - (sf (pa1 n2 - 1))))), (11, .int (nI o9)), (12, .int (nI o8))]) hx hb d_Model_takeRow_331 hl1 (k := 4) rfl (nI_add n2 1) (by decide) rfl (fun ls hl2 => ?_)
                      clear hl1; have hl1 := hl2; clear hl2
                      refine lv_goto (tgt := 26) hx hb d_Model_takeRow_334 (by decide) ?_
                      exact ih_7 (n2 + 1) br1 (sup pa1 n2 (pa1 n2 - 1 - (sf (pa1 n2 - 1)))) (sup pr1 n2 (pr1 n2 - o9)) ptr1 bd1 ib1 (by first | assumption | omega) (hp1.s1 (by first | assumption | omega)) (by first | assumption | omega) (by first | assumption | omega) (by first | assumption | omega) (by first | (exfalso; omega) | exact trQ8_l hT8 h78 (by first | assumption | omega) (by first | (rw [eo8, dec_c2 (by rw [show 6 * fr + 6 * pa1 n2 = 6 * (fr + pa1 n2) by omega]; assumption)]; omega) | (rw [eo8, dec_c3 h0 h1 (by rw [show 6 * fr + 6 * pa1 n2 = 6 * (fr + pa1 n2) by omega]; assumption)]; omega)) (by rw [← es8]) (by rw [← ho5]; omega) | exact trQ8_r hT8 h78 (by first | assumption | omega) (by first | (rw [eo8, dec_c2 (by rw [show 6 * fr + 6 * pa1 n2 = 6 * (fr + pa1 n2) by omega]; assumption)]; omega) | (rw [eo8, dec_c3 h0 h1 (by rw [show 6 * fr + 6 * pa1 n2 = 6 * (fr + pa1 n2) by omega]; assumption)]; omega)) (a := pa1 n2 - 1 - (sf (pa1 n2 - 1))) (by rw [← es8]) (by rw [← ho5]; omega) (by rw [← ho5])) _ _ _ (hP.sub [0, 1, 2, 3, 4, 5, 6, 7, 8, 9] rfl) (hD.sub [0, 1, 2, 3, 4, 5, 6, 7, 8, 9] (by decide) rfl) hS (lv_sub hl1 [5, 6, 0] rfl)
                    · replace c_48 : ¬ o9 ≤ pr1 n2 := fun hq9 => c_48 ((nI_leI (a := o9) (b := pr1 n2) (by first | exact Nat.lt_of_lt_of_le (by assumption) (by decide) | exact Nat.lt_of_le_of_lt (by assumption) (by decide) | omega) (by first | exact Nat.lt_of_lt_of_le (by assumption) (by decide) | exact Nat.lt_of_le_of_lt (by assumption) (by decide) | omega)).mpr hq9)
                      refine lv_iload hx hb d_Model_takeRow_320 (lv_at hl1 2 rfl) ?_
                      refine lv_goto (tgt := 330) hx hb d_Model_takeRow_322 (by decide) ?_
                      refine va_iast hx hb hK.1 hP hD hS 6 0 rfl rfl (vp_in_nI (by first | assumption | omega) (by decide)) d_Model_takeRow_330 (fun H_51 locs hP1 hD1 hS1 => ?_)
                      rw [nI_clamp (by first | exact Nat.lt_of_lt_of_le (by assumption) (by decide) | exact Nat.lt_of_le_of_lt (by assumption) (by decide) | omega)] at hP1 hD1
                      rw [xf_sup pr1 n2 (pr1 n2)] at hP1 hD1
                      clear hP hD hS
                      have hS := hS1
                      have hW7 : (fun w9 : va_W => va_P D classes w9 H_51 ∧ va_D A w9) [(m0, .inr (11, [.int s_thrown, .int s_taped, .ref m1, .int s_size, .int s_outSize, .ref m2, .int s_kind, .int s_value, .int s_begin, .int s_end, .int s_failed, .ref m3, .ref m4, .ref m5, .int s_isProgram, .int s_half, .ref m6, .ref m7, .ref m8, .ref m9, .ref m10, .ref m11, .ref m12, .ref m13, .ref m14, .ref m15, .ref m16, .ref m17, .ref m18, .ref m19, .ref m20, .int s_signs, .ref m21, .int s_stacked, .ref m22, .int s_name, .int s_shift, .int s_statements, .int s_ifs, .int s_whiles, .int s_variants, .int s_open, .ref m23, .int s_isMade, .int s_conditions, .ref m24, .ref m25, .ref m26, .ref m27, .int s_kept, .ref m28, .int s_tops, .ref m29, .int s_used, .ref m30, .ref m31, .int s_looked, .int s_rows, .int s_firstRow, .ref m32, .ref m33, .ref m34, .ref m35, .ref m36, .ref m37, .ref m38, .ref m39, .ref m40, .int (nI br1), .ref m41, .int s_atoms, .ref m42])), (m28, .inl (ax 0, 180000, .inl kp)), (m32, .inl (ax 0, 30000, .inl (fun j => nI (sf j)))), (m33, .inl (ax 0, 30000, .inl (fun j => nI (wt j)))), (m34, .inl (ax 0, 30000, .inl (fun j => nI (wf j)))), (m35, .inl (ax 0, 20000, .inl (fun j => nI (sup pa1 n2 (pa1 n2 - 1 - (sf (pa1 n2 - 1))) j)))), (m36, .inl (ax 0, 20000, .inl (fun j => nI (sup pr1 n2 (pr1 n2) j)))), (m37, .inl (ax 3, 20000, .inl (fun j => nI (ptr1 j)))), (m38, .inl (ax 0, 121, .inl bd1)), (m39, .inl (ax 3, 121, .inl ib1))] := ⟨hP1, hD1⟩
                      obtain ⟨hP, hD⟩ := hW7
                      clear hP1 hD1 hS1
                      refine lv_iinc (v := nI (n2 + 1)) (lv' := [(4, .int (nI (n2 + 1))), (8, .int (kp (6 * (fr + pa1 n2)))), (7, .int (nI (ptr1 n2))), (6, .int (nI (pr1 n2))), (5, .int (nI (pa1 n2))), (0, .ref m0), (1, .int (nI fr)), (9, .int (nI (pa1 n2 - 1))), (10, .int (nI (pa1 n2 - 1 - (sf (pa1 n2 - 1))))), (11, .int (nI o9)), (12, .int (nI o8))]) hx hb d_Model_takeRow_331 hl1 (k := 4) rfl (nI_add n2 1) (by decide) rfl (fun ls hl2 => ?_)
                      clear hl1; have hl1 := hl2; clear hl2
                      refine lv_goto (tgt := 26) hx hb d_Model_takeRow_334 (by decide) ?_
                      exact ih_7 (n2 + 1) br1 (sup pa1 n2 (pa1 n2 - 1 - (sf (pa1 n2 - 1)))) (sup pr1 n2 (pr1 n2)) ptr1 bd1 ib1 (by first | assumption | omega) (hp1.s1 (by first | assumption | omega)) (by first | assumption | omega) (by first | assumption | omega) (by first | assumption | omega) (by first | (exfalso; omega) | exact trQ8_l hT8 h78 (by first | assumption | omega) (by first | (rw [eo8, dec_c2 (by rw [show 6 * fr + 6 * pa1 n2 = 6 * (fr + pa1 n2) by omega]; assumption)]; omega) | (rw [eo8, dec_c3 h0 h1 (by rw [show 6 * fr + 6 * pa1 n2 = 6 * (fr + pa1 n2) by omega]; assumption)]; omega)) (by rw [← es8]) (by rw [← ho5]; omega) | exact trQ8_r hT8 h78 (by first | assumption | omega) (by first | (rw [eo8, dec_c2 (by rw [show 6 * fr + 6 * pa1 n2 = 6 * (fr + pa1 n2) by omega]; assumption)]; omega) | (rw [eo8, dec_c3 h0 h1 (by rw [show 6 * fr + 6 * pa1 n2 = 6 * (fr + pa1 n2) by omega]; assumption)]; omega)) (a := pa1 n2 - 1 - (sf (pa1 n2 - 1))) (by rw [← es8]) (by rw [← ho5]; omega) (by rw [← ho5])) _ _ _ (hP.sub [0, 1, 2, 3, 4, 5, 6, 7, 8, 9] rfl) (hD.sub [0, 1, 2, 3, 4, 5, 6, 7, 8, 9] (by decide) rfl) hS (lv_sub hl1 [5, 6, 0] rfl)
                · replace c_40 : 1 = ptr1 n2 := (nI_eq (a := 1) (b := ptr1 n2) (by decide) (by first | exact Nat.lt_of_lt_of_le (by assumption) (by decide) | exact Nat.lt_of_le_of_lt (by assumption) (by decide) | omega)).mp c_40
                  refine lv_aload_n hx hb d_Model_takeRow_220 rfl (lv_at hl1 5 rfl) ?_
                  refine va_get (D := D) (ci := 11) (v := .ref m35) (C := R_Model) (T := F_Model) (N := 72) hx hb hts i_Model hown hK.1 hP 0 rfl rfl 62 (by decide) (hts _ wd_1098) (fun _ h9 => h9) rfl d_Model_takeRow_221 ?_
                  refine lv_iload hx hb d_Model_takeRow_224 (lv_at hl1 4 rfl) ?_
                  refine lv_iload hx hb d_Model_takeRow_226 (lv_at hl1 8 rfl) ?_
                  refine va_iast hx hb hK.1 hP hD hS 5 0 rfl rfl (vp_in_nI (by first | assumption | omega) (by decide)) d_Model_takeRow_228 (fun H_52 locs hP1 hD1 hS1 => ?_)
                  rw [nI_clamp (by first | exact Nat.lt_of_lt_of_le (by assumption) (by decide) | exact Nat.lt_of_le_of_lt (by assumption) (by decide) | omega)] at hP1 hD1
                  rw [xf_sup pa1 n2 (pa1 n2 - 1 - (sf (pa1 n2 - 1)))] at hP1 hD1
                  clear hP hD hS
                  have hS := hS1
                  have hW7 : (fun w9 : va_W => va_P D classes w9 H_52 ∧ va_D A w9) [(m0, .inr (11, [.int s_thrown, .int s_taped, .ref m1, .int s_size, .int s_outSize, .ref m2, .int s_kind, .int s_value, .int s_begin, .int s_end, .int s_failed, .ref m3, .ref m4, .ref m5, .int s_isProgram, .int s_half, .ref m6, .ref m7, .ref m8, .ref m9, .ref m10, .ref m11, .ref m12, .ref m13, .ref m14, .ref m15, .ref m16, .ref m17, .ref m18, .ref m19, .ref m20, .int s_signs, .ref m21, .int s_stacked, .ref m22, .int s_name, .int s_shift, .int s_statements, .int s_ifs, .int s_whiles, .int s_variants, .int s_open, .ref m23, .int s_isMade, .int s_conditions, .ref m24, .ref m25, .ref m26, .ref m27, .int s_kept, .ref m28, .int s_tops, .ref m29, .int s_used, .ref m30, .ref m31, .int s_looked, .int s_rows, .int s_firstRow, .ref m32, .ref m33, .ref m34, .ref m35, .ref m36, .ref m37, .ref m38, .ref m39, .ref m40, .int (nI br1), .ref m41, .int s_atoms, .ref m42])), (m28, .inl (ax 0, 180000, .inl kp)), (m32, .inl (ax 0, 30000, .inl (fun j => nI (sf j)))), (m33, .inl (ax 0, 30000, .inl (fun j => nI (wt j)))), (m34, .inl (ax 0, 30000, .inl (fun j => nI (wf j)))), (m35, .inl (ax 0, 20000, .inl (fun j => nI (sup pa1 n2 (pa1 n2 - 1 - (sf (pa1 n2 - 1))) j)))), (m36, .inl (ax 0, 20000, .inl (fun j => nI (pr1 j)))), (m37, .inl (ax 3, 20000, .inl (fun j => nI (ptr1 j)))), (m38, .inl (ax 0, 121, .inl bd1)), (m39, .inl (ax 3, 121, .inl ib1))] := ⟨hP1, hD1⟩
                  obtain ⟨hP, hD⟩ := hW7
                  clear hP1 hD1 hS1
                  refine lv_aload_n hx hb d_Model_takeRow_229 rfl (lv_at hl1 5 rfl) ?_
                  refine va_get (D := D) (ci := 11) (v := .ref m36) (C := R_Model) (T := F_Model) (N := 72) hx hb hts i_Model hown hK.1 hP 0 rfl rfl 63 (by decide) (hts _ wd_1099) (fun _ h9 => h9) rfl d_Model_takeRow_230 ?_
                  refine lv_iload hx hb d_Model_takeRow_233 (lv_at hl1 4 rfl) ?_
                  refine lv_iload hx hb d_Model_takeRow_235 (lv_at hl1 2 rfl) ?_
                  refine lv_iload hx hb d_Model_takeRow_237 (lv_at hl1 10 rfl) ?_
                  refine lv_idiv hx hb d_Model_takeRow_239 (nI_ne0 (by first | assumption | omega) (by first | assumption | omega)) ?_
                  refine lv_topi (fun z_53 ez_53 => ?_)
                  have ez_53 : z_53 = nI ((pr1 n2) / o8) := ez_53.trans (pk_div (a := pr1 n2) (d := o8) (by first | assumption | omega) (by first | assumption | omega) (by first | assumption | omega))
                  subst ez_53
                  refine va_iast hx hb hK.1 hP hD hS 6 0 rfl rfl (vp_in_nI (by first | assumption | omega) (by decide)) d_Model_takeRow_240 (fun H_54 locs hP1 hD1 hS1 => ?_)
                  rw [nI_clamp (by first | exact Nat.lt_of_lt_of_le (by assumption) (by decide) | exact Nat.lt_of_le_of_lt (by assumption) (by decide) | omega)] at hP1 hD1
                  rw [xf_sup pr1 n2 ((pr1 n2) / o8)] at hP1 hD1
                  clear hP hD hS
                  have hS := hS1
                  have hW7 : (fun w9 : va_W => va_P D classes w9 H_54 ∧ va_D A w9) [(m0, .inr (11, [.int s_thrown, .int s_taped, .ref m1, .int s_size, .int s_outSize, .ref m2, .int s_kind, .int s_value, .int s_begin, .int s_end, .int s_failed, .ref m3, .ref m4, .ref m5, .int s_isProgram, .int s_half, .ref m6, .ref m7, .ref m8, .ref m9, .ref m10, .ref m11, .ref m12, .ref m13, .ref m14, .ref m15, .ref m16, .ref m17, .ref m18, .ref m19, .ref m20, .int s_signs, .ref m21, .int s_stacked, .ref m22, .int s_name, .int s_shift, .int s_statements, .int s_ifs, .int s_whiles, .int s_variants, .int s_open, .ref m23, .int s_isMade, .int s_conditions, .ref m24, .ref m25, .ref m26, .ref m27, .int s_kept, .ref m28, .int s_tops, .ref m29, .int s_used, .ref m30, .ref m31, .int s_looked, .int s_rows, .int s_firstRow, .ref m32, .ref m33, .ref m34, .ref m35, .ref m36, .ref m37, .ref m38, .ref m39, .ref m40, .int (nI br1), .ref m41, .int s_atoms, .ref m42])), (m28, .inl (ax 0, 180000, .inl kp)), (m32, .inl (ax 0, 30000, .inl (fun j => nI (sf j)))), (m33, .inl (ax 0, 30000, .inl (fun j => nI (wt j)))), (m34, .inl (ax 0, 30000, .inl (fun j => nI (wf j)))), (m35, .inl (ax 0, 20000, .inl (fun j => nI (sup pa1 n2 (pa1 n2 - 1 - (sf (pa1 n2 - 1))) j)))), (m36, .inl (ax 0, 20000, .inl (fun j => nI (sup pr1 n2 ((pr1 n2) / o8) j)))), (m37, .inl (ax 3, 20000, .inl (fun j => nI (ptr1 j)))), (m38, .inl (ax 0, 121, .inl bd1)), (m39, .inl (ax 3, 121, .inl ib1))] := ⟨hP1, hD1⟩
                  obtain ⟨hP, hD⟩ := hW7
                  clear hP1 hD1 hS1
                  refine lv_aload_n hx hb d_Model_takeRow_241 rfl (lv_at hl1 5 rfl) ?_
                  refine va_get (D := D) (ci := 11) (v := .ref m35) (C := R_Model) (T := F_Model) (N := 72) hx hb hts i_Model hown hK.1 hP 0 rfl rfl 62 (by decide) (hts _ wd_1098) (fun _ h9 => h9) rfl d_Model_takeRow_242 ?_
                  refine lv_iload hx hb d_Model_takeRow_245 (lv_at hl1 4 rfl) ?_
                  refine lv_iconst (v := 1) hx hb d_Model_takeRow_247 (by decide) ?_
                  refine lv_iadd hx hb d_Model_takeRow_248 ?_
                  refine lv_topi (fun z_55 ez_55 => ?_)
                  have ez_55 : z_55 = nI (n2 + 1) := ez_55.trans (nI_add n2 1)
                  subst ez_55
                  refine lv_iload hx hb d_Model_takeRow_249 (lv_at hl1 7 rfl) ?_
                  refine va_iast hx hb hK.1 hP hD hS 5 0 rfl rfl (vp_in_nI (by first | assumption | omega) (by decide)) d_Model_takeRow_251 (fun H_56 locs hP1 hD1 hS1 => ?_)
                  rw [nI_clamp (by first | exact Nat.lt_of_lt_of_le (by assumption) (by decide) | exact Nat.lt_of_le_of_lt (by assumption) (by decide) | omega)] at hP1 hD1
                  rw [xf_sup (sup pa1 n2 (pa1 n2 - 1 - (sf (pa1 n2 - 1)))) (n2 + 1) (pa1 n2 - 1)] at hP1 hD1
                  clear hP hD hS
                  have hS := hS1
                  have hW7 : (fun w9 : va_W => va_P D classes w9 H_56 ∧ va_D A w9) [(m0, .inr (11, [.int s_thrown, .int s_taped, .ref m1, .int s_size, .int s_outSize, .ref m2, .int s_kind, .int s_value, .int s_begin, .int s_end, .int s_failed, .ref m3, .ref m4, .ref m5, .int s_isProgram, .int s_half, .ref m6, .ref m7, .ref m8, .ref m9, .ref m10, .ref m11, .ref m12, .ref m13, .ref m14, .ref m15, .ref m16, .ref m17, .ref m18, .ref m19, .ref m20, .int s_signs, .ref m21, .int s_stacked, .ref m22, .int s_name, .int s_shift, .int s_statements, .int s_ifs, .int s_whiles, .int s_variants, .int s_open, .ref m23, .int s_isMade, .int s_conditions, .ref m24, .ref m25, .ref m26, .ref m27, .int s_kept, .ref m28, .int s_tops, .ref m29, .int s_used, .ref m30, .ref m31, .int s_looked, .int s_rows, .int s_firstRow, .ref m32, .ref m33, .ref m34, .ref m35, .ref m36, .ref m37, .ref m38, .ref m39, .ref m40, .int (nI br1), .ref m41, .int s_atoms, .ref m42])), (m28, .inl (ax 0, 180000, .inl kp)), (m32, .inl (ax 0, 30000, .inl (fun j => nI (sf j)))), (m33, .inl (ax 0, 30000, .inl (fun j => nI (wt j)))), (m34, .inl (ax 0, 30000, .inl (fun j => nI (wf j)))), (m35, .inl (ax 0, 20000, .inl (fun j => nI (sup (sup pa1 n2 (pa1 n2 - 1 - (sf (pa1 n2 - 1)))) (n2 + 1) (pa1 n2 - 1) j)))), (m36, .inl (ax 0, 20000, .inl (fun j => nI (sup pr1 n2 ((pr1 n2) / o8) j)))), (m37, .inl (ax 3, 20000, .inl (fun j => nI (ptr1 j)))), (m38, .inl (ax 0, 121, .inl bd1)), (m39, .inl (ax 3, 121, .inl ib1))] := ⟨hP1, hD1⟩
                  obtain ⟨hP, hD⟩ := hW7
                  clear hP1 hD1 hS1
                  refine lv_aload_n hx hb d_Model_takeRow_252 rfl (lv_at hl1 5 rfl) ?_
                  refine va_get (D := D) (ci := 11) (v := .ref m36) (C := R_Model) (T := F_Model) (N := 72) hx hb hts i_Model hown hK.1 hP 0 rfl rfl 63 (by decide) (hts _ wd_1099) (fun _ h9 => h9) rfl d_Model_takeRow_253 ?_
                  refine lv_iload hx hb d_Model_takeRow_256 (lv_at hl1 4 rfl) ?_
                  refine lv_iconst (v := 1) hx hb d_Model_takeRow_258 (by decide) ?_
                  refine lv_iadd hx hb d_Model_takeRow_259 ?_
                  refine lv_topi (fun z_57 ez_57 => ?_)
                  have ez_57 : z_57 = nI (n2 + 1) := ez_57.trans (nI_add n2 1)
                  subst ez_57
                  refine lv_iload hx hb d_Model_takeRow_260 (lv_at hl1 2 rfl) ?_
                  refine lv_iload hx hb d_Model_takeRow_262 (lv_at hl1 10 rfl) ?_
                  refine lv_irem hx hb d_Model_takeRow_264 (nI_ne0 (by first | assumption | omega) (by first | assumption | omega)) ?_
                  refine lv_topi (fun z_58 ez_58 => ?_)
                  have ez_58 : z_58 = nI ((pr1 n2) % o8) := ez_58.trans (pk_rem (a := pr1 n2) (d := o8) (by first | assumption | omega) (by first | assumption | omega) (by first | assumption | omega))
                  subst ez_58
                  refine va_iast hx hb hK.1 hP hD hS 6 0 rfl rfl (vp_in_nI (by first | assumption | omega) (by decide)) d_Model_takeRow_265 (fun H_59 locs hP1 hD1 hS1 => ?_)
                  rw [nI_clamp (by first | exact Nat.lt_of_lt_of_le (by assumption) (by decide) | exact Nat.lt_of_le_of_lt (by assumption) (by decide) | omega)] at hP1 hD1
                  rw [xf_sup (sup pr1 n2 ((pr1 n2) / o8)) (n2 + 1) ((pr1 n2) % o8)] at hP1 hD1
                  clear hP hD hS
                  have hS := hS1
                  have hW7 : (fun w9 : va_W => va_P D classes w9 H_59 ∧ va_D A w9) [(m0, .inr (11, [.int s_thrown, .int s_taped, .ref m1, .int s_size, .int s_outSize, .ref m2, .int s_kind, .int s_value, .int s_begin, .int s_end, .int s_failed, .ref m3, .ref m4, .ref m5, .int s_isProgram, .int s_half, .ref m6, .ref m7, .ref m8, .ref m9, .ref m10, .ref m11, .ref m12, .ref m13, .ref m14, .ref m15, .ref m16, .ref m17, .ref m18, .ref m19, .ref m20, .int s_signs, .ref m21, .int s_stacked, .ref m22, .int s_name, .int s_shift, .int s_statements, .int s_ifs, .int s_whiles, .int s_variants, .int s_open, .ref m23, .int s_isMade, .int s_conditions, .ref m24, .ref m25, .ref m26, .ref m27, .int s_kept, .ref m28, .int s_tops, .ref m29, .int s_used, .ref m30, .ref m31, .int s_looked, .int s_rows, .int s_firstRow, .ref m32, .ref m33, .ref m34, .ref m35, .ref m36, .ref m37, .ref m38, .ref m39, .ref m40, .int (nI br1), .ref m41, .int s_atoms, .ref m42])), (m28, .inl (ax 0, 180000, .inl kp)), (m32, .inl (ax 0, 30000, .inl (fun j => nI (sf j)))), (m33, .inl (ax 0, 30000, .inl (fun j => nI (wt j)))), (m34, .inl (ax 0, 30000, .inl (fun j => nI (wf j)))), (m35, .inl (ax 0, 20000, .inl (fun j => nI (sup (sup pa1 n2 (pa1 n2 - 1 - (sf (pa1 n2 - 1)))) (n2 + 1) (pa1 n2 - 1) j)))), (m36, .inl (ax 0, 20000, .inl (fun j => nI (sup (sup pr1 n2 ((pr1 n2) / o8)) (n2 + 1) ((pr1 n2) % o8) j)))), (m37, .inl (ax 3, 20000, .inl (fun j => nI (ptr1 j)))), (m38, .inl (ax 0, 121, .inl bd1)), (m39, .inl (ax 3, 121, .inl ib1))] := ⟨hP1, hD1⟩
                  obtain ⟨hP, hD⟩ := hW7
                  clear hP1 hD1 hS1
                  refine lv_aload_n hx hb d_Model_takeRow_266 rfl (lv_at hl1 5 rfl) ?_
                  refine va_get (D := D) (ci := 11) (v := .ref m37) (C := R_Model) (T := F_Model) (N := 72) hx hb hts i_Model hown hK.1 hP 0 rfl rfl 64 (by decide) (hts _ wd_1100) (fun _ h9 => h9) rfl d_Model_takeRow_267 ?_
                  refine lv_iload hx hb d_Model_takeRow_270 (lv_at hl1 4 rfl) ?_
                  refine lv_iconst (v := 1) hx hb d_Model_takeRow_272 (by decide) ?_
                  refine lv_iadd hx hb d_Model_takeRow_273 ?_
                  refine lv_topi (fun z_60 ez_60 => ?_)
                  have ez_60 : z_60 = nI (n2 + 1) := ez_60.trans (nI_add n2 1)
                  subst ez_60
                  refine lv_iload hx hb d_Model_takeRow_274 (lv_at hl1 1 rfl) ?_
                  refine va_zast hx hb hK.1 hP hD hS 7 3 rfl rfl (vp_in_nI (by first | assumption | omega) (by decide)) d_Model_takeRow_276 (fun H_61 locs hP1 hD1 hS1 => ?_)
                  rw [nI_clamp (by first | exact Nat.lt_of_lt_of_le (by assumption) (by decide) | exact Nat.lt_of_le_of_lt (by assumption) (by decide) | omega)] at hP1 hD1
                  rw [xf_supz ptr1 (n2 + 1) (ptr1 n2) (nI (ptr1 n2)) (vpn (by first | assumption | omega))] at hP1 hD1
                  clear hP hD hS
                  have hS := hS1
                  have hW7 : (fun w9 : va_W => va_P D classes w9 H_61 ∧ va_D A w9) [(m0, .inr (11, [.int s_thrown, .int s_taped, .ref m1, .int s_size, .int s_outSize, .ref m2, .int s_kind, .int s_value, .int s_begin, .int s_end, .int s_failed, .ref m3, .ref m4, .ref m5, .int s_isProgram, .int s_half, .ref m6, .ref m7, .ref m8, .ref m9, .ref m10, .ref m11, .ref m12, .ref m13, .ref m14, .ref m15, .ref m16, .ref m17, .ref m18, .ref m19, .ref m20, .int s_signs, .ref m21, .int s_stacked, .ref m22, .int s_name, .int s_shift, .int s_statements, .int s_ifs, .int s_whiles, .int s_variants, .int s_open, .ref m23, .int s_isMade, .int s_conditions, .ref m24, .ref m25, .ref m26, .ref m27, .int s_kept, .ref m28, .int s_tops, .ref m29, .int s_used, .ref m30, .ref m31, .int s_looked, .int s_rows, .int s_firstRow, .ref m32, .ref m33, .ref m34, .ref m35, .ref m36, .ref m37, .ref m38, .ref m39, .ref m40, .int (nI br1), .ref m41, .int s_atoms, .ref m42])), (m28, .inl (ax 0, 180000, .inl kp)), (m32, .inl (ax 0, 30000, .inl (fun j => nI (sf j)))), (m33, .inl (ax 0, 30000, .inl (fun j => nI (wt j)))), (m34, .inl (ax 0, 30000, .inl (fun j => nI (wf j)))), (m35, .inl (ax 0, 20000, .inl (fun j => nI (sup (sup pa1 n2 (pa1 n2 - 1 - (sf (pa1 n2 - 1)))) (n2 + 1) (pa1 n2 - 1) j)))), (m36, .inl (ax 0, 20000, .inl (fun j => nI (sup (sup pr1 n2 ((pr1 n2) / o8)) (n2 + 1) ((pr1 n2) % o8) j)))), (m37, .inl (ax 3, 20000, .inl (fun j => nI (sup ptr1 (n2 + 1) (ptr1 n2) j)))), (m38, .inl (ax 0, 121, .inl bd1)), (m39, .inl (ax 3, 121, .inl ib1))] := ⟨hP1, hD1⟩
                  obtain ⟨hP, hD⟩ := hW7
                  clear hP1 hD1 hS1
                  refine lv_iload hx hb d_Model_takeRow_277 (lv_at hl1 4 rfl) ?_
                  refine lv_iconst (v := 2) hx hb d_Model_takeRow_279 (by decide) ?_
                  refine lv_iadd hx hb d_Model_takeRow_280 ?_
                  refine lv_topi (fun z_62 ez_62 => ?_)
                  have ez_62 : z_62 = nI (n2 + 2) := ez_62.trans (nI_add n2 2)
                  subst ez_62
                  refine lv_istore (lv' := [(4, .int (nI (n2 + 2))), (8, .int (kp (6 * (fr + pa1 n2)))), (7, .int (nI (ptr1 n2))), (6, .int (nI (pr1 n2))), (5, .int (nI (pa1 n2))), (0, .ref m0), (1, .int (nI fr)), (9, .int (nI (pa1 n2 - 1))), (10, .int (nI (pa1 n2 - 1 - (sf (pa1 n2 - 1))))), (11, .int (nI o9)), (12, .int (nI o8))]) hx hb d_Model_takeRow_281 hl1 (by decide) rfl (fun ls hl2 => ?_)
                  clear hl1; have hl1 := hl2; clear hl2
                  refine lv_goto (tgt := 334) hx hb d_Model_takeRow_283 (by decide) ?_
                  refine lv_goto (tgt := 26) hx hb d_Model_takeRow_334 (by decide) ?_
                  exact ih_7 (n2 + 2) br1 (sup (sup pa1 n2 (pa1 n2 - 1 - (sf (pa1 n2 - 1)))) (n2 + 1) (pa1 n2 - 1)) (sup (sup pr1 n2 ((pr1 n2) / o8)) (n2 + 1) ((pr1 n2) % o8)) (sup ptr1 (n2 + 1) (ptr1 n2)) bd1 ib1 (by first | assumption | omega) (hp1.s2 (by first | assumption | omega) (by first | assumption | omega)) (by first | assumption | omega) (by first | assumption | omega) (by first | assumption | omega) (trQ8_y hT8 h78 (by first | assumption | omega) (by first | (rw [eo8, dec_c2 (by rw [show 6 * fr + 6 * pa1 n2 = 6 * (fr + pa1 n2) by omega]; assumption)]; omega) | (rw [eo8, dec_c3 h0 h1 (by rw [show 6 * fr + 6 * pa1 n2 = 6 * (fr + pa1 n2) by omega]; assumption)]; omega)) (by rw [← es8]) (by rw [← ho6]) (by rw [← ho6])) _ _ _ (hP.sub [0, 1, 2, 3, 4, 5, 6, 7, 8, 9] rfl) (hD.sub [0, 1, 2, 3, 4, 5, 6, 7, 8, 9] (by decide) rfl) hS (lv_sub hl1 [5, 6, 0] rfl)
            refine lv_iload hx hb d_Model_takeRow_180 (lv_at hl1 1 rfl) ?_
            refine lv_if_eq (tgt := 195) hx hb d_Model_takeRow_182 (by decide) (fun c_63 => ?_) (fun c_63 => ?_)
            · replace c_63 : ptr1 n2 = 0 := (nI_eq (a := ptr1 n2) (b := 0) (by first | exact Nat.lt_of_lt_of_le (by assumption) (by decide) | exact Nat.lt_of_le_of_lt (by assumption) (by decide) | omega) (by decide)).mp c_63
              refine lv_aload_n hx hb d_Model_takeRow_195 rfl (lv_at hl1 5 rfl) ?_
              refine va_get (D := D) (ci := 11) (v := .ref m34) (C := R_Model) (T := F_Model) (N := 72) hx hb hts i_Model hown hK.1 hP 0 rfl rfl 61 (by decide) (hts _ wd_1097) (fun _ h9 => h9) rfl d_Model_takeRow_196 ?_
              refine lv_iload hx hb d_Model_takeRow_199 (lv_at hl1 7 rfl) ?_
              refine va_iald hx hb hK.1 hP 4 0 rfl rfl (vp_in_nI (by first | assumption | omega) (by decide)) d_Model_takeRow_201 ?_
              refine W.eq (g2 := F0 m 202 ls [.int (nI (wf (pa1 n2 - 1)))]) (by rw [nI_clamp (by first | exact Nat.lt_of_lt_of_le (by assumption) (by decide) | exact Nat.lt_of_le_of_lt (by assumption) (by decide) | omega)]) ?_
              refine lv_istore (lv' := [(12, .int (nI (wf (pa1 n2 - 1)))), (8, .int (kp (6 * (fr + pa1 n2)))), (7, .int (nI (ptr1 n2))), (6, .int (nI (pr1 n2))), (5, .int (nI (pa1 n2))), (4, .int (nI n2)), (0, .ref m0), (1, .int (nI fr)), (9, .int (nI (pa1 n2 - 1))), (10, .int (nI (pa1 n2 - 1 - (sf (pa1 n2 - 1))))), (11, .int (nI o9))]) hx hb d_Model_takeRow_202 hl1 (by decide) rfl (fun ls hl2 => ?_)
              clear hl1; have hl1 := hl2; clear hl2
              exact jn_15 (wf (pa1 n2 - 1)) (by first | assumption | omega) (by first | assumption | omega) (by first | (rw [show ptr1 n2 = 1 by omega]; exact (hr8 _ (by first | assumption | omega)).2.2) | (rw [show ptr1 n2 = 0 by omega]; exact (hr8 _ (by first | assumption | omega)).2.1)) _ _ _ (hP.sub [0, 1, 2, 3, 4, 5, 6, 7, 8, 9] rfl) (hD.sub [0, 1, 2, 3, 4, 5, 6, 7, 8, 9] (by decide) rfl) hS (lv_sub hl1 [1, 2, 3, 4, 5, 6, 7, 8, 9, 10, 0] rfl)
            · replace c_63 : ¬ ptr1 n2 = 0 := fun hq9 => c_63 ((nI_eq (a := ptr1 n2) (b := 0) (by first | exact Nat.lt_of_lt_of_le (by assumption) (by decide) | exact Nat.lt_of_le_of_lt (by assumption) (by decide) | omega) (by decide)).mpr hq9)
              refine lv_aload_n hx hb d_Model_takeRow_185 rfl (lv_at hl1 5 rfl) ?_
              refine va_get (D := D) (ci := 11) (v := .ref m33) (C := R_Model) (T := F_Model) (N := 72) hx hb hts i_Model hown hK.1 hP 0 rfl rfl 60 (by decide) (hts _ wd_1096) (fun _ h9 => h9) rfl d_Model_takeRow_186 ?_
              refine lv_iload hx hb d_Model_takeRow_189 (lv_at hl1 7 rfl) ?_
              refine va_iald hx hb hK.1 hP 3 0 rfl rfl (vp_in_nI (by first | assumption | omega) (by decide)) d_Model_takeRow_191 ?_
              refine W.eq (g2 := F0 m 192 ls [.int (nI (wt (pa1 n2 - 1)))]) (by rw [nI_clamp (by first | exact Nat.lt_of_lt_of_le (by assumption) (by decide) | exact Nat.lt_of_le_of_lt (by assumption) (by decide) | omega)]) ?_
              refine lv_goto (tgt := 202) hx hb d_Model_takeRow_192 (by decide) ?_
              refine lv_istore (lv' := [(12, .int (nI (wt (pa1 n2 - 1)))), (8, .int (kp (6 * (fr + pa1 n2)))), (7, .int (nI (ptr1 n2))), (6, .int (nI (pr1 n2))), (5, .int (nI (pa1 n2))), (4, .int (nI n2)), (0, .ref m0), (1, .int (nI fr)), (9, .int (nI (pa1 n2 - 1))), (10, .int (nI (pa1 n2 - 1 - (sf (pa1 n2 - 1))))), (11, .int (nI o9))]) hx hb d_Model_takeRow_202 hl1 (by decide) rfl (fun ls hl2 => ?_)
              clear hl1; have hl1 := hl2; clear hl2
              exact jn_15 (wt (pa1 n2 - 1)) (by first | assumption | omega) (by first | assumption | omega) (by first | (rw [show ptr1 n2 = 1 by omega]; exact (hr8 _ (by first | assumption | omega)).2.2) | (rw [show ptr1 n2 = 0 by omega]; exact (hr8 _ (by first | assumption | omega)).2.1)) _ _ _ (hP.sub [0, 1, 2, 3, 4, 5, 6, 7, 8, 9] rfl) (hD.sub [0, 1, 2, 3, 4, 5, 6, 7, 8, 9] (by decide) rfl) hS (lv_sub hl1 [1, 2, 3, 4, 5, 6, 7, 8, 9, 10, 0] rfl)
          refine lv_iload hx hb d_Model_takeRow_138 (lv_at hl1 3 rfl) ?_
          refine lv_iconst (v := 1) hx hb d_Model_takeRow_140 (by decide) ?_
          refine lv_isub hx hb d_Model_takeRow_141 ?_
          refine lv_topi (fun z_64 ez_64 => ?_)
          have ez_64 : z_64 = nI (pa1 n2 - 1) := ez_64.trans (pk_sub (a := pa1 n2) (b := 1) (by first | assumption | omega))
          subst ez_64
          refine lv_istore (lv' := [(9, .int (nI (pa1 n2 - 1))), (8, .int (kp (6 * (fr + pa1 n2)))), (7, .int (nI (ptr1 n2))), (6, .int (nI (pr1 n2))), (5, .int (nI (pa1 n2))), (4, .int (nI n2)), (0, .ref m0), (1, .int (nI fr))]) hx hb d_Model_takeRow_142 hl1 (by decide) rfl (fun ls hl2 => ?_)
          clear hl1; have hl1 := hl2; clear hl2
          refine lv_iload hx hb d_Model_takeRow_144 (lv_at hl1 0 rfl) ?_
          refine lv_aload_n hx hb d_Model_takeRow_146 rfl (lv_at hl1 6 rfl) ?_
          refine va_get (D := D) (ci := 11) (v := .ref m32) (C := R_Model) (T := F_Model) (N := 72) hx hb hts i_Model hown hK.1 hP 0 rfl rfl 59 (by decide) (hts _ wd_1095) (fun _ h9 => h9) rfl d_Model_takeRow_147 ?_
          refine lv_iload hx hb d_Model_takeRow_150 (lv_at hl1 0 rfl) ?_
          refine va_iald hx hb hK.1 hP 2 0 rfl rfl (vp_in_nI (by first | assumption | omega) (by decide)) d_Model_takeRow_152 ?_
          refine W.eq (g2 := F0 m 153 ls [.int (nI (sf (pa1 n2 - 1))), .int (nI (pa1 n2 - 1))]) (by rw [nI_clamp (by first | exact Nat.lt_of_lt_of_le (by assumption) (by decide) | exact Nat.lt_of_le_of_lt (by assumption) (by decide) | omega)]) ?_
          refine lv_isub hx hb d_Model_takeRow_153 ?_
          refine lv_topi (fun z_65 ez_65 => ?_)
          have ez_65 : z_65 = nI (pa1 n2 - 1 - (sf (pa1 n2 - 1))) := ez_65.trans (pk_sub (a := pa1 n2 - 1) (b := sf (pa1 n2 - 1)) (by first | assumption | omega))
          subst ez_65
          refine lv_istore (lv' := [(10, .int (nI (pa1 n2 - 1 - (sf (pa1 n2 - 1))))), (9, .int (nI (pa1 n2 - 1))), (8, .int (kp (6 * (fr + pa1 n2)))), (7, .int (nI (ptr1 n2))), (6, .int (nI (pr1 n2))), (5, .int (nI (pa1 n2))), (4, .int (nI n2)), (0, .ref m0), (1, .int (nI fr))]) hx hb d_Model_takeRow_154 hl1 (by decide) rfl (fun ls hl2 => ?_)
          clear hl1; have hl1 := hl2; clear hl2
          refine lv_iload hx hb d_Model_takeRow_156 (lv_at hl1 3 rfl) ?_
          refine lv_if_eq (tgt := 171) hx hb d_Model_takeRow_158 (by decide) (fun c_66 => ?_) (fun c_66 => ?_)
          · replace c_66 : ptr1 n2 = 0 := (nI_eq (a := ptr1 n2) (b := 0) (by first | exact Nat.lt_of_lt_of_le (by assumption) (by decide) | exact Nat.lt_of_le_of_lt (by assumption) (by decide) | omega) (by decide)).mp c_66
            refine lv_aload_n hx hb d_Model_takeRow_171 rfl (lv_at hl1 7 rfl) ?_
            refine va_get (D := D) (ci := 11) (v := .ref m34) (C := R_Model) (T := F_Model) (N := 72) hx hb hts i_Model hown hK.1 hP 0 rfl rfl 61 (by decide) (hts _ wd_1097) (fun _ h9 => h9) rfl d_Model_takeRow_172 ?_
            refine lv_iload hx hb d_Model_takeRow_175 (lv_at hl1 0 rfl) ?_
            refine va_iald hx hb hK.1 hP 4 0 rfl rfl (vp_in_nI (by first | assumption | omega) (by decide)) d_Model_takeRow_177 ?_
            refine W.eq (g2 := F0 m 178 ls [.int (nI (wf (pa1 n2 - 1 - (sf (pa1 n2 - 1)))))]) (by rw [nI_clamp (by first | exact Nat.lt_of_lt_of_le (by assumption) (by decide) | exact Nat.lt_of_le_of_lt (by assumption) (by decide) | omega)]) ?_
            refine lv_istore (lv' := [(11, .int (nI (wf (pa1 n2 - 1 - (sf (pa1 n2 - 1)))))), (10, .int (nI (pa1 n2 - 1 - (sf (pa1 n2 - 1))))), (9, .int (nI (pa1 n2 - 1))), (8, .int (kp (6 * (fr + pa1 n2)))), (7, .int (nI (ptr1 n2))), (6, .int (nI (pr1 n2))), (5, .int (nI (pa1 n2))), (4, .int (nI n2)), (0, .ref m0), (1, .int (nI fr))]) hx hb d_Model_takeRow_178 hl1 (by decide) rfl (fun ls hl2 => ?_)
            clear hl1; have hl1 := hl2; clear hl2
            exact jn_14 (wf (pa1 n2 - 1 - (sf (pa1 n2 - 1)))) (by first | assumption | omega) (by first | assumption | omega) (by first | (rw [show ptr1 n2 = 1 by omega]; exact (hr8 _ (by first | assumption | omega)).2.2) | (rw [show ptr1 n2 = 0 by omega]; exact (hr8 _ (by first | assumption | omega)).2.1)) _ _ _ (hP.sub [0, 1, 2, 3, 4, 5, 6, 7, 8, 9] rfl) (hD.sub [0, 1, 2, 3, 4, 5, 6, 7, 8, 9] (by decide) rfl) hS (lv_sub hl1 [3, 4, 5, 6, 7, 8, 9, 2, 1, 0] rfl)
          · replace c_66 : ¬ ptr1 n2 = 0 := fun hq9 => c_66 ((nI_eq (a := ptr1 n2) (b := 0) (by first | exact Nat.lt_of_lt_of_le (by assumption) (by decide) | exact Nat.lt_of_le_of_lt (by assumption) (by decide) | omega) (by decide)).mpr hq9)
            refine lv_aload_n hx hb d_Model_takeRow_161 rfl (lv_at hl1 7 rfl) ?_
            refine va_get (D := D) (ci := 11) (v := .ref m33) (C := R_Model) (T := F_Model) (N := 72) hx hb hts i_Model hown hK.1 hP 0 rfl rfl 60 (by decide) (hts _ wd_1096) (fun _ h9 => h9) rfl d_Model_takeRow_162 ?_
            refine lv_iload hx hb d_Model_takeRow_165 (lv_at hl1 0 rfl) ?_
            refine va_iald hx hb hK.1 hP 3 0 rfl rfl (vp_in_nI (by first | assumption | omega) (by decide)) d_Model_takeRow_167 ?_
            refine W.eq (g2 := F0 m 168 ls [.int (nI (wt (pa1 n2 - 1 - (sf (pa1 n2 - 1)))))]) (by rw [nI_clamp (by first | exact Nat.lt_of_lt_of_le (by assumption) (by decide) | exact Nat.lt_of_le_of_lt (by assumption) (by decide) | omega)]) ?_
            refine lv_goto (tgt := 178) hx hb d_Model_takeRow_168 (by decide) ?_
            refine lv_istore (lv' := [(11, .int (nI (wt (pa1 n2 - 1 - (sf (pa1 n2 - 1)))))), (10, .int (nI (pa1 n2 - 1 - (sf (pa1 n2 - 1))))), (9, .int (nI (pa1 n2 - 1))), (8, .int (kp (6 * (fr + pa1 n2)))), (7, .int (nI (ptr1 n2))), (6, .int (nI (pr1 n2))), (5, .int (nI (pa1 n2))), (4, .int (nI n2)), (0, .ref m0), (1, .int (nI fr))]) hx hb d_Model_takeRow_178 hl1 (by decide) rfl (fun ls hl2 => ?_)
            clear hl1; have hl1 := hl2; clear hl2
            exact jn_14 (wt (pa1 n2 - 1 - (sf (pa1 n2 - 1)))) (by first | assumption | omega) (by first | assumption | omega) (by first | (rw [show ptr1 n2 = 1 by omega]; exact (hr8 _ (by first | assumption | omega)).2.2) | (rw [show ptr1 n2 = 0 by omega]; exact (hr8 _ (by first | assumption | omega)).2.1)) _ _ _ (hP.sub [0, 1, 2, 3, 4, 5, 6, 7, 8, 9] rfl) (hD.sub [0, 1, 2, 3, 4, 5, 6, 7, 8, 9] (by decide) rfl) hS (lv_sub hl1 [3, 4, 5, 6, 7, 8, 9, 2, 1, 0] rfl)
        · have h1 : kp (6 * fr + 6 * pa1 n2) = 1 := by rw [show 6 * fr + 6 * pa1 n2 = 6 * (fr + pa1 n2) by omega]; assumption
          obtain ⟨hg1, hgx⟩ := wf_not hk h1
          have hzq := (hz0 (pa1 n2) hkq).1 h1
          have hps1 := psm_1 (sf := sf) (pa := pa1) (n := n2) (v := pa1 n2 - 1)
          refine lv_aload_n hx hb d_Model_takeRow_104 rfl (lv_at hl1 5 rfl) ?_
          refine va_get (D := D) (ci := 11) (v := .ref m35) (C := R_Model) (T := F_Model) (N := 72) hx hb hts i_Model hown hK.1 hP 0 rfl rfl 62 (by decide) (hts _ wd_1098) (fun _ h9 => h9) rfl d_Model_takeRow_105 ?_
          refine lv_iload hx hb d_Model_takeRow_108 (lv_at hl1 4 rfl) ?_
          refine lv_iload hx hb d_Model_takeRow_110 (lv_at hl1 3 rfl) ?_
          refine lv_iconst (v := 1) hx hb d_Model_takeRow_112 (by decide) ?_
          refine lv_isub hx hb d_Model_takeRow_113 ?_
          refine lv_topi (fun z_67 ez_67 => ?_)
          have ez_67 : z_67 = nI (pa1 n2 - 1) := ez_67.trans (pk_sub (a := pa1 n2) (b := 1) (by first | assumption | omega))
          subst ez_67
          refine va_iast hx hb hK.1 hP hD hS 5 0 rfl rfl (vp_in_nI (by first | assumption | omega) (by decide)) d_Model_takeRow_114 (fun H_68 locs hP1 hD1 hS1 => ?_)
          rw [nI_clamp (by first | exact Nat.lt_of_lt_of_le (by assumption) (by decide) | exact Nat.lt_of_le_of_lt (by assumption) (by decide) | omega)] at hP1 hD1
          rw [xf_sup pa1 n2 (pa1 n2 - 1)] at hP1 hD1
          clear hP hD hS
          have hS := hS1
          have hW7 : (fun w9 : va_W => va_P D classes w9 H_68 ∧ va_D A w9) [(m0, .inr (11, [.int s_thrown, .int s_taped, .ref m1, .int s_size, .int s_outSize, .ref m2, .int s_kind, .int s_value, .int s_begin, .int s_end, .int s_failed, .ref m3, .ref m4, .ref m5, .int s_isProgram, .int s_half, .ref m6, .ref m7, .ref m8, .ref m9, .ref m10, .ref m11, .ref m12, .ref m13, .ref m14, .ref m15, .ref m16, .ref m17, .ref m18, .ref m19, .ref m20, .int s_signs, .ref m21, .int s_stacked, .ref m22, .int s_name, .int s_shift, .int s_statements, .int s_ifs, .int s_whiles, .int s_variants, .int s_open, .ref m23, .int s_isMade, .int s_conditions, .ref m24, .ref m25, .ref m26, .ref m27, .int s_kept, .ref m28, .int s_tops, .ref m29, .int s_used, .ref m30, .ref m31, .int s_looked, .int s_rows, .int s_firstRow, .ref m32, .ref m33, .ref m34, .ref m35, .ref m36, .ref m37, .ref m38, .ref m39, .ref m40, .int (nI br1), .ref m41, .int s_atoms, .ref m42])), (m28, .inl (ax 0, 180000, .inl kp)), (m32, .inl (ax 0, 30000, .inl (fun j => nI (sf j)))), (m33, .inl (ax 0, 30000, .inl (fun j => nI (wt j)))), (m34, .inl (ax 0, 30000, .inl (fun j => nI (wf j)))), (m35, .inl (ax 0, 20000, .inl (fun j => nI (sup pa1 n2 (pa1 n2 - 1) j)))), (m36, .inl (ax 0, 20000, .inl (fun j => nI (pr1 j)))), (m37, .inl (ax 3, 20000, .inl (fun j => nI (ptr1 j)))), (m38, .inl (ax 0, 121, .inl bd1)), (m39, .inl (ax 3, 121, .inl ib1))] := ⟨hP1, hD1⟩
          obtain ⟨hP, hD⟩ := hW7
          clear hP1 hD1 hS1
          refine lv_aload_n hx hb d_Model_takeRow_115 rfl (lv_at hl1 5 rfl) ?_
          refine va_get (D := D) (ci := 11) (v := .ref m37) (C := R_Model) (T := F_Model) (N := 72) hx hb hts i_Model hown hK.1 hP 0 rfl rfl 64 (by decide) (hts _ wd_1100) (fun _ h9 => h9) rfl d_Model_takeRow_116 ?_
          refine lv_iload hx hb d_Model_takeRow_119 (lv_at hl1 4 rfl) ?_
          refine lv_iload hx hb d_Model_takeRow_121 (lv_at hl1 1 rfl) ?_
          refine lv_if_ne (tgt := 130) hx hb d_Model_takeRow_123 (by decide) (fun c_69 => ?_) (fun c_69 => ?_)
          · replace c_69 : ¬ ptr1 n2 = 0 := fun hq9 => c_69 ((nI_eq (a := ptr1 n2) (b := 0) (by first | exact Nat.lt_of_lt_of_le (by assumption) (by decide) | exact Nat.lt_of_le_of_lt (by assumption) (by decide) | omega) (by decide)).mpr hq9)
            refine lv_iconst (v := 0) hx hb d_Model_takeRow_130 (by decide) ?_
            refine va_zast hx hb hK.1 hP hD hS 7 3 rfl rfl (vp_in_nI (by first | assumption | omega) (by decide)) d_Model_takeRow_131 (fun H_70 locs hP1 hD1 hS1 => ?_)
            rw [nI_clamp (by first | exact Nat.lt_of_lt_of_le (by assumption) (by decide) | exact Nat.lt_of_le_of_lt (by assumption) (by decide) | omega)] at hP1 hD1
            rw [xf_supz ptr1 n2 0 0 rfl] at hP1 hD1
            clear hP hD hS
            have hS := hS1
            have hW7 : (fun w9 : va_W => va_P D classes w9 H_70 ∧ va_D A w9) [(m0, .inr (11, [.int s_thrown, .int s_taped, .ref m1, .int s_size, .int s_outSize, .ref m2, .int s_kind, .int s_value, .int s_begin, .int s_end, .int s_failed, .ref m3, .ref m4, .ref m5, .int s_isProgram, .int s_half, .ref m6, .ref m7, .ref m8, .ref m9, .ref m10, .ref m11, .ref m12, .ref m13, .ref m14, .ref m15, .ref m16, .ref m17, .ref m18, .ref m19, .ref m20, .int s_signs, .ref m21, .int s_stacked, .ref m22, .int s_name, .int s_shift, .int s_statements, .int s_ifs, .int s_whiles, .int s_variants, .int s_open, .ref m23, .int s_isMade, .int s_conditions, .ref m24, .ref m25, .ref m26, .ref m27, .int s_kept, .ref m28, .int s_tops, .ref m29, .int s_used, .ref m30, .ref m31, .int s_looked, .int s_rows, .int s_firstRow, .ref m32, .ref m33, .ref m34, .ref m35, .ref m36, .ref m37, .ref m38, .ref m39, .ref m40, .int (nI br1), .ref m41, .int s_atoms, .ref m42])), (m28, .inl (ax 0, 180000, .inl kp)), (m32, .inl (ax 0, 30000, .inl (fun j => nI (sf j)))), (m33, .inl (ax 0, 30000, .inl (fun j => nI (wt j)))), (m34, .inl (ax 0, 30000, .inl (fun j => nI (wf j)))), (m35, .inl (ax 0, 20000, .inl (fun j => nI (sup pa1 n2 (pa1 n2 - 1) j)))), (m36, .inl (ax 0, 20000, .inl (fun j => nI (pr1 j)))), (m37, .inl (ax 3, 20000, .inl (fun j => nI (sup ptr1 n2 0 j)))), (m38, .inl (ax 0, 121, .inl bd1)), (m39, .inl (ax 3, 121, .inl ib1))] := ⟨hP1, hD1⟩
            obtain ⟨hP, hD⟩ := hW7
            clear hP1 hD1 hS1
            refine lv_iinc (v := nI (n2 + 1)) (lv' := [(4, .int (nI (n2 + 1))), (8, .int (kp (6 * (fr + pa1 n2)))), (7, .int (nI (ptr1 n2))), (6, .int (nI (pr1 n2))), (5, .int (nI (pa1 n2))), (0, .ref m0), (1, .int (nI fr))]) hx hb d_Model_takeRow_132 hl1 (k := 4) rfl (nI_add n2 1) (by decide) rfl (fun ls hl2 => ?_)
            clear hl1; have hl1 := hl2; clear hl2
            refine lv_goto (tgt := 334) hx hb d_Model_takeRow_135 (by decide) ?_
            refine lv_goto (tgt := 26) hx hb d_Model_takeRow_334 (by decide) ?_
            exact ih_7 (n2 + 1) br1 (sup pa1 n2 (pa1 n2 - 1)) pr1 (sup ptr1 n2 0) bd1 ib1 (by first | assumption | omega) (hp1.s1 (by first | assumption | omega)) (by first | assumption | omega) (by first | assumption | omega) (by first | assumption | omega) (trQ8_n hT8 (by rw [eo8]; exact dec_c1 h1) (by first | assumption | omega) (by first | assumption | omega)) _ _ _ (hP.sub [0, 1, 2, 3, 4, 5, 6, 7, 8, 9] rfl) (hD.sub [0, 1, 2, 3, 4, 5, 6, 7, 8, 9] (by decide) rfl) hS (lv_sub hl1 [5, 6, 0] rfl)
          · replace c_69 : ptr1 n2 = 0 := (nI_eq (a := ptr1 n2) (b := 0) (by first | exact Nat.lt_of_lt_of_le (by assumption) (by decide) | exact Nat.lt_of_le_of_lt (by assumption) (by decide) | omega) (by decide)).mp c_69
            refine lv_iconst (v := 1) hx hb d_Model_takeRow_126 (by decide) ?_
            refine lv_goto (tgt := 131) hx hb d_Model_takeRow_127 (by decide) ?_
            refine va_zast hx hb hK.1 hP hD hS 7 3 rfl rfl (vp_in_nI (by first | assumption | omega) (by decide)) d_Model_takeRow_131 (fun H_71 locs hP1 hD1 hS1 => ?_)
            rw [nI_clamp (by first | exact Nat.lt_of_lt_of_le (by assumption) (by decide) | exact Nat.lt_of_le_of_lt (by assumption) (by decide) | omega)] at hP1 hD1
            rw [xf_supz ptr1 n2 1 1 rfl] at hP1 hD1
            clear hP hD hS
            have hS := hS1
            have hW7 : (fun w9 : va_W => va_P D classes w9 H_71 ∧ va_D A w9) [(m0, .inr (11, [.int s_thrown, .int s_taped, .ref m1, .int s_size, .int s_outSize, .ref m2, .int s_kind, .int s_value, .int s_begin, .int s_end, .int s_failed, .ref m3, .ref m4, .ref m5, .int s_isProgram, .int s_half, .ref m6, .ref m7, .ref m8, .ref m9, .ref m10, .ref m11, .ref m12, .ref m13, .ref m14, .ref m15, .ref m16, .ref m17, .ref m18, .ref m19, .ref m20, .int s_signs, .ref m21, .int s_stacked, .ref m22, .int s_name, .int s_shift, .int s_statements, .int s_ifs, .int s_whiles, .int s_variants, .int s_open, .ref m23, .int s_isMade, .int s_conditions, .ref m24, .ref m25, .ref m26, .ref m27, .int s_kept, .ref m28, .int s_tops, .ref m29, .int s_used, .ref m30, .ref m31, .int s_looked, .int s_rows, .int s_firstRow, .ref m32, .ref m33, .ref m34, .ref m35, .ref m36, .ref m37, .ref m38, .ref m39, .ref m40, .int (nI br1), .ref m41, .int s_atoms, .ref m42])), (m28, .inl (ax 0, 180000, .inl kp)), (m32, .inl (ax 0, 30000, .inl (fun j => nI (sf j)))), (m33, .inl (ax 0, 30000, .inl (fun j => nI (wt j)))), (m34, .inl (ax 0, 30000, .inl (fun j => nI (wf j)))), (m35, .inl (ax 0, 20000, .inl (fun j => nI (sup pa1 n2 (pa1 n2 - 1) j)))), (m36, .inl (ax 0, 20000, .inl (fun j => nI (pr1 j)))), (m37, .inl (ax 3, 20000, .inl (fun j => nI (sup ptr1 n2 1 j)))), (m38, .inl (ax 0, 121, .inl bd1)), (m39, .inl (ax 3, 121, .inl ib1))] := ⟨hP1, hD1⟩
            obtain ⟨hP, hD⟩ := hW7
            clear hP1 hD1 hS1
            refine lv_iinc (v := nI (n2 + 1)) (lv' := [(4, .int (nI (n2 + 1))), (8, .int (kp (6 * (fr + pa1 n2)))), (7, .int (nI (ptr1 n2))), (6, .int (nI (pr1 n2))), (5, .int (nI (pa1 n2))), (0, .ref m0), (1, .int (nI fr))]) hx hb d_Model_takeRow_132 hl1 (k := 4) rfl (nI_add n2 1) (by decide) rfl (fun ls hl2 => ?_)
            clear hl1; have hl1 := hl2; clear hl2
            refine lv_goto (tgt := 334) hx hb d_Model_takeRow_135 (by decide) ?_
            refine lv_goto (tgt := 26) hx hb d_Model_takeRow_334 (by decide) ?_
            exact ih_7 (n2 + 1) br1 (sup pa1 n2 (pa1 n2 - 1)) pr1 (sup ptr1 n2 1) bd1 ib1 (by first | assumption | omega) (hp1.s1 (by first | assumption | omega)) (by first | assumption | omega) (by first | assumption | omega) (by first | assumption | omega) (trQ8_n hT8 (by rw [eo8]; exact dec_c1 h1) (by first | assumption | omega) (by first | assumption | omega)) _ _ _ (hP.sub [0, 1, 2, 3, 4, 5, 6, 7, 8, 9] rfl) (hD.sub [0, 1, 2, 3, 4, 5, 6, 7, 8, 9] (by decide) rfl) hS (lv_sub hl1 [5, 6, 0] rfl)
      · have h0 : kp (6 * fr + 6 * pa1 n2) = 0 := by rw [show 6 * fr + 6 * pa1 n2 = 6 * (fr + pa1 n2) by omega]; assumption
        obtain ⟨⟨hq1, hq4⟩, hgx⟩ := wf_atom hk h0
        obtain ⟨ha8, ea8⟩ := atb8_of hb8 hkq h0
        have ep8 : 6 * fr + 6 * pa1 n2 = 6 * (fr + pa1 n2) := by omega
        rw [ep8] at ha8 ea8
        refine lv_aload_n hx hb d_Model_takeRow_80 rfl (lv_at hl1 5 rfl) ?_
        refine lv_bipush (v := 6) hx hb d_Model_takeRow_81 (by decide) ?_
        refine lv_iload_n hx hb d_Model_takeRow_83 rfl (lv_at hl1 6 rfl) ?_
        refine lv_iload hx hb d_Model_takeRow_84 (lv_at hl1 3 rfl) ?_
        refine lv_iadd hx hb d_Model_takeRow_86 ?_
        refine lv_topi (fun z_72 ez_72 => ?_)
        have ez_72 : z_72 = nI (fr + pa1 n2) := ez_72.trans (nI_add fr (pa1 n2))
        subst ez_72
        refine lv_imul hx hb d_Model_takeRow_87 ?_
        refine lv_topi (fun z_73 ez_73 => ?_)
        have ez_73 : z_73 = nI (6 * (fr + pa1 n2)) := ez_73.trans (pk_mul 6 (fr + pa1 n2))
        subst ez_73
        refine lv_iload hx hb d_Model_takeRow_88 (lv_at hl1 1 rfl) ?_
        refine lv_iload hx hb d_Model_takeRow_90 (lv_at hl1 2 rfl) ?_
        obtain ⟨hPc, hDc, hFc, hCs⟩ := xw_sub3 (wc := [(m0, .inr (11, [.int s_thrown, .int s_taped, .ref m1, .int s_size, .int s_outSize, .ref m2, .int s_kind, .int s_value, .int s_begin, .int s_end, .int s_failed, .ref m3, .ref m4, .ref m5, .int s_isProgram, .int s_half, .ref m6, .ref m7, .ref m8, .ref m9, .ref m10, .ref m11, .ref m12, .ref m13, .ref m14, .ref m15, .ref m16, .ref m17, .ref m18, .ref m19, .ref m20, .int s_signs, .ref m21, .int s_stacked, .ref m22, .int s_name, .int s_shift, .int s_statements, .int s_ifs, .int s_whiles, .int s_variants, .int s_open, .ref m23, .int s_isMade, .int s_conditions, .ref m24, .ref m25, .ref m26, .ref m27, .int s_kept, .ref m28, .int s_tops, .ref m29, .int s_used, .ref m30, .ref m31, .int s_looked, .int s_rows, .int s_firstRow, .ref m32, .ref m33, .ref m34, .ref m35, .ref m36, .ref m37, .ref m38, .ref m39, .ref m40, .int (nI br1), .ref m41, .int s_atoms, .ref m42])), (m28, .inl (ax 0, 180000, .inl kp)), (m38, .inl (ax 0, 121, .inl bd1)), (m39, .inl (ax 3, 121, .inl ib1))]) hP hD hS hA [0, 1, 8, 9] (by decide) rfl
        have hz := xz_of hN hS
        refine va_callv (va_runV (As := [.int (nI (6 * (fr + pa1 n2))), .int (nI (ptr1 n2)), .int (nI (pr1 n2))]) (rest := []) ⟨hx, hb, hml, hown, hts⟩ (c_M_takeAtom l D ax m0 m1 m2 m3 m4 m5 m6 m7 m8 m9 m10 m11 m12 m13 m14 m15 m16 m17 m18 m19 m20 m21 m22 m23 m24 m25 m26 m27 m28 m29 m30 m31 m32 m33 m34 m35 m36 m37 m38 m39 m40 m41 m42 s_thrown s_taped s_size s_outSize s_kind s_value s_begin s_end s_failed s_isProgram s_half s_signs s_stacked s_name s_shift s_statements s_ifs s_whiles s_variants s_open s_isMade s_conditions s_kept s_tops s_used s_looked s_rows s_firstRow s_atoms br1 (6 * (fr + pa1 n2)) (ptr1 n2) (pr1 n2) kp bd1 ib1 H.size (by first | assumption | omega) (by first | assumption | omega) (by rw [show 6 * (fr + pa1 n2) + 1 = 6 * fr + 6 * pa1 n2 + 1 by omega]; exact hq1) (by rw [show 6 * (fr + pa1 n2) + 4 = 6 * fr + 6 * pa1 n2 + 4 by omega]; exact hq4) ht8 hr81 ha8 hT8.1) (xcV (n := 3) hts wd_1525 wd_15 wd_1522 wd_1524 ps_103 rfl rfl (by decide +kernel) ⟨Nat.le_of_ble_eq_true rfl, Nat.le_of_ble_eq_true rfl⟩) (xpV (ci := 11) (q0 := 0) (As := [.int (nI (6 * (fr + pa1 n2))), .int (nI (ptr1 n2)), .int (nI (pr1 n2))]) hPc hK hz hDc rfl rfl) rfl rfl hl1.1 rfl (lv_room (Nat.le_of_ble_eq_true rfl)) d_Model_takeRow_92 ⟨Nat.le_of_ble_eq_true rfl, Nat.le_of_ble_eq_true rfl⟩) hS (fun q _ h => hFc q h) hFc (fun u_74 t H_75 locs ht hvm hw hB hz1 hk1 hS1 => ?_)
        try dsimp only at hw
        have hs_77 := hw
        obtain ⟨x_78, x_79, hx_80, hP1, hD1⟩ := hB
        rw [ht] at hP1
        have hjn := xw_join3 (wl := [(m32, .inl (ax 0, 30000, .inl (fun j => nI (sf j)))), (m33, .inl (ax 0, 30000, .inl (fun j => nI (wt j)))), (m34, .inl (ax 0, 30000, .inl (fun j => nI (wf j)))), (m35, .inl (ax 0, 20000, .inl (fun j => nI (pa1 j)))), (m36, .inl (ax 0, 20000, .inl (fun j => nI (pr1 j)))), (m37, .inl (ax 3, 20000, .inl (fun j => nI (ptr1 j)))), (m0, .inr (11, [.int s_thrown, .int s_taped, .ref m1, .int s_size, .int s_outSize, .ref m2, .int s_kind, .int s_value, .int s_begin, .int s_end, .int s_failed, .ref m3, .ref m4, .ref m5, .int s_isProgram, .int s_half, .ref m6, .ref m7, .ref m8, .ref m9, .ref m10, .ref m11, .ref m12, .ref m13, .ref m14, .ref m15, .ref m16, .ref m17, .ref m18, .ref m19, .ref m20, .int s_signs, .ref m21, .int s_stacked, .ref m22, .int s_name, .int s_shift, .int s_statements, .int s_ifs, .int s_whiles, .int s_variants, .int s_open, .ref m23, .int s_isMade, .int s_conditions, .ref m24, .ref m25, .ref m26, .ref m27, .int s_kept, .ref m28, .int s_tops, .ref m29, .int s_used, .ref m30, .ref m31, .int s_looked, .int s_rows, .int s_firstRow, .ref m32, .ref m33, .ref m34, .ref m35, .ref m36, .ref m37, .ref m38, .ref m39, .ref m40, .int (nI (u_74 0)), .ref m41, .int s_atoms, .ref m42])), (m28, .inl (ax 0, 180000, .inl kp)), (m38, .inl (ax 0, 121, .inl x_78)), (m39, .inl (ax 3, 121, .inl x_79))]) hP hD [0, 1, 8, 9] [2, 3, 4, 5, 6, 7] hCs (by decide) (by decide) hk1 hFc hP1 hD1 rfl
        clear hP1 hD1
        clear hPc hDc hFc hCs hz hz1 hk1 ht hvm
        clear hP hD hS
        have hS := hS1
        obtain ⟨hP, hD⟩ := hjn
        clear hS1
        refine lv_goto (tgt := 334) hx hb d_Model_takeRow_95 (by decide) ?_
        refine lv_goto (tgt := 26) hx hb d_Model_takeRow_334 (by decide) ?_
        exact ih_7 n2 (u_74 0) pa1 pr1 ptr1 x_78 x_79 (by first | assumption | omega) hp1.dn (by first | assumption | omega) (by first | assumption | omega) (by first | assumption | omega) (trQ8_a hT8 (by rw [eo8]; exact dec_c0 h0) (by rw [ea8]; exact hx_80)) _ _ _ (hP.sub [6, 7, 0, 1, 2, 3, 4, 5, 8, 9] rfl) (hD.sub [6, 7, 0, 1, 2, 3, 4, 5, 8, 9] (by decide) rfl) hS (lv_sub hl1 [5, 6, 4] rfl)
abbrev b_Model_isPossible : ByteArray := prog_13_method_68_code
def y_Model_isPossible : MethodName := ⟨R_Model, "isPossible", "(III)Z"⟩
theorem d_Model_isPossible_0 : decode b_Model_isPossible 0 = .ok (.iconst 0, 1) := by decide +kernel
theorem d_Model_isPossible_1 : decode b_Model_isPossible 1 = .ok (.istore 4, 2) := by decide +kernel
theorem d_Model_isPossible_3 : decode b_Model_isPossible 3 = .ok (.iload 4, 2) := by decide +kernel
theorem d_Model_isPossible_5 : decode b_Model_isPossible 5 = .ok (.bipush 121, 2) := by decide +kernel
theorem d_Model_isPossible_7 : decode b_Model_isPossible 7 = .ok (.if_icmp .ge 17, 3) := by decide +kernel
theorem d_Model_isPossible_10 : decode b_Model_isPossible 10 = .ok (.aload_n 0, 1) := by decide +kernel
theorem d_Model_isPossible_11 : decode b_Model_isPossible 11 = .ok (.getfield 131, 3) := by decide +kernel
theorem d_Model_isPossible_14 : decode b_Model_isPossible 14 = .ok (.iload 4, 2) := by decide +kernel
theorem d_Model_isPossible_16 : decode b_Model_isPossible 16 = .ok (.iconst 0, 1) := by decide +kernel
theorem d_Model_isPossible_17 : decode b_Model_isPossible 17 = .ok (.bastore, 1) := by decide +kernel
theorem d_Model_isPossible_18 : decode b_Model_isPossible 18 = .ok (.iinc 4 1, 3) := by decide +kernel
theorem d_Model_isPossible_21 : decode b_Model_isPossible 21 = .ok (.goto (-18), 3) := by decide +kernel
theorem d_Model_isPossible_24 : decode b_Model_isPossible 24 = .ok (.aload_n 0, 1) := by decide +kernel
theorem d_Model_isPossible_25 : decode b_Model_isPossible 25 = .ok (.iconst 0, 1) := by decide +kernel
theorem d_Model_isPossible_26 : decode b_Model_isPossible 26 = .ok (.putfield 402, 3) := by decide +kernel
theorem d_Model_isPossible_29 : decode b_Model_isPossible 29 = .ok (.aload_n 0, 1) := by decide +kernel
theorem d_Model_isPossible_30 : decode b_Model_isPossible 30 = .ok (.iload_n 1, 1) := by decide +kernel
theorem d_Model_isPossible_31 : decode b_Model_isPossible 31 = .ok (.iload_n 2, 1) := by decide +kernel
theorem d_Model_isPossible_32 : decode b_Model_isPossible 32 = .ok (.iload_n 3, 1) := by decide +kernel
theorem d_Model_isPossible_33 : decode b_Model_isPossible 33 = .ok (.invokevirtual 415, 3) := by decide +kernel
theorem d_Model_isPossible_36 : decode b_Model_isPossible 36 = .ok (.aload_n 0, 1) := by decide +kernel
theorem d_Model_isPossible_37 : decode b_Model_isPossible 37 = .ok (.getfield 402, 3) := by decide +kernel
theorem d_Model_isPossible_40 : decode b_Model_isPossible 40 = .ok (.ifCond .ne 14, 3) := by decide +kernel
theorem d_Model_isPossible_43 : decode b_Model_isPossible 43 = .ok (.aload_n 0, 1) := by decide +kernel
theorem d_Model_isPossible_44 : decode b_Model_isPossible 44 = .ok (.invokevirtual 418, 3) := by decide +kernel
theorem d_Model_isPossible_47 : decode b_Model_isPossible 47 = .ok (.ifCond .eq 7, 3) := by decide +kernel
theorem d_Model_isPossible_50 : decode b_Model_isPossible 50 = .ok (.iconst 1, 1) := by decide +kernel
theorem d_Model_isPossible_51 : decode b_Model_isPossible 51 = .ok (.goto 4, 3) := by decide +kernel
theorem d_Model_isPossible_54 : decode b_Model_isPossible 54 = .ok (.iconst 0, 1) := by decide +kernel
theorem d_Model_isPossible_55 : decode b_Model_isPossible 55 = .ok (.ireturn, 1) := by decide +kernel
set_option maxHeartbeats 40000000 in
set_option maxRecDepth 100000 in
theorem c_M_isPossible (l : Launch) (D : va_G) (ax : Nat → ClassId) (m0 m1 m2 m3 m4 m5 m6 m7 m8 m9 m10 m11 m12 m13 m14 m15 m16 m17 m18 m19 m20 m21 m22 m23 m24 m25 m26 m27 m28 m29 m30 m31 m32 m33 m34 m35 m36 m37 m38 m39 m40 m41 m42 : Nat) (s_thrown s_taped s_size s_outSize s_kind s_value s_begin s_end s_failed s_isProgram s_half s_signs s_stacked s_name s_shift s_statements s_ifs s_whiles s_variants s_open s_isMade s_conditions s_kept s_tops s_used s_looked s_rows s_firstRow s_isBroken s_atoms : Int32) (fr q r9 : Nat) (sf wt wf pa pr ptr : Nat → Nat) (kp bd ib : Nat → Int32) (x3 : Int32) (av : Nat → Int32) (sz : Nat) (hf : fml kp fr q) (hq : fr + q ≤ 30000) (hq1 : 1 ≤ q) (hm : mea kp fr q sf wt wf) (hz0 : szs kp fr q sf) (hq8 : q ≤ 8300) (hr8 : rwQ8 (sgl kp (6 * fr) q) q sf wt wf) (hb8 : nbl 21483 (sgl kp (6 * fr) q)) (hr9 : r9 ≤ 5001) (hx3 : x3 = nI r9) : Met l y_Model_isPossible (xws (.code y_Model_isPossible b_Model_isPossible 5 (some .boolean))) ({ frames := 40, cells := 0, slots := 0, locals := 1600 }) (va_Pc [.ref m0, .int (nI fr), .int (nI q), .int x3] (xo D ax [(m0, .inr (11, [.int s_thrown, .int s_taped, .ref m1, .int s_size, .int s_outSize, .ref m2, .int s_kind, .int s_value, .int s_begin, .int s_end, .int s_failed, .ref m3, .ref m4, .ref m5, .int s_isProgram, .int s_half, .ref m6, .ref m7, .ref m8, .ref m9, .ref m10, .ref m11, .ref m12, .ref m13, .ref m14, .ref m15, .ref m16, .ref m17, .ref m18, .ref m19, .ref m20, .int s_signs, .ref m21, .int s_stacked, .ref m22, .int s_name, .int s_shift, .int s_statements, .int s_ifs, .int s_whiles, .int s_variants, .int s_open, .ref m23, .int s_isMade, .int s_conditions, .ref m24, .ref m25, .ref m26, .ref m27, .int s_kept, .ref m28, .int s_tops, .ref m29, .int s_used, .ref m30, .ref m31, .int s_looked, .int s_rows, .int s_firstRow, .ref m32, .ref m33, .ref m34, .ref m35, .ref m36, .ref m37, .ref m38, .ref m39, .ref m40, .int s_isBroken, .ref m41, .int s_atoms, .ref m42])), (m28, .inl (ax 0, 180000, .inl kp)), (m32, .inl (ax 0, 30000, .inl (fun j => nI (sf j)))), (m33, .inl (ax 0, 30000, .inl (fun j => nI (wt j)))), (m34, .inl (ax 0, 30000, .inl (fun j => nI (wf j)))), (m40, .inl (ax 0, 11, .inl av)), (m35, .inl (ax 0, 20000, .inl (fun j => nI (pa j)))), (m36, .inl (ax 0, 20000, .inl (fun j => nI (pr j)))), (m37, .inl (ax 3, 20000, .inl (fun j => nI (ptr j)))), (m38, .inl (ax 0, 121, .inl bd)), (m39, .inl (ax 3, 121, .inl ib))] sz)) ((va_Qi (fun (r : Int32) (u : Nat → Nat) => r = nI (u 0) ∧ (u 0 ≤ 1 ∧ u 1 ≤ 1)) (fun (u : Nat → Nat) (t9 : State) => ∃ xpa : Nat → Nat, ∃ xpr : Nat → Nat, ∃ xptr : Nat → Nat, ∃ xbd : Nat → Int32, ∃ xib : Nat → Int32, ∃ xav : Nat → Int32, (pqQ8 (sgl kp (6 * fr) q) r9 xav (u 0)) ∧ va_P D classes [(m0, .inr (11, [.int s_thrown, .int s_taped, .ref m1, .int s_size, .int s_outSize, .ref m2, .int s_kind, .int s_value, .int s_begin, .int s_end, .int s_failed, .ref m3, .ref m4, .ref m5, .int s_isProgram, .int s_half, .ref m6, .ref m7, .ref m8, .ref m9, .ref m10, .ref m11, .ref m12, .ref m13, .ref m14, .ref m15, .ref m16, .ref m17, .ref m18, .ref m19, .ref m20, .int s_signs, .ref m21, .int s_stacked, .ref m22, .int s_name, .int s_shift, .int s_statements, .int s_ifs, .int s_whiles, .int s_variants, .int s_open, .ref m23, .int s_isMade, .int s_conditions, .ref m24, .ref m25, .ref m26, .ref m27, .int s_kept, .ref m28, .int s_tops, .ref m29, .int s_used, .ref m30, .ref m31, .int s_looked, .int s_rows, .int s_firstRow, .ref m32, .ref m33, .ref m34, .ref m35, .ref m36, .ref m37, .ref m38, .ref m39, .ref m40, .int (nI (u 1)), .ref m41, .int s_atoms, .ref m42])), (m28, .inl (ax 0, 180000, .inl kp)), (m32, .inl (ax 0, 30000, .inl (fun j => nI (sf j)))), (m33, .inl (ax 0, 30000, .inl (fun j => nI (wt j)))), (m34, .inl (ax 0, 30000, .inl (fun j => nI (wf j)))), (m40, .inl (ax 0, 11, .inl xav)), (m35, .inl (ax 0, 20000, .inl (fun j => nI (xpa j)))), (m36, .inl (ax 0, 20000, .inl (fun j => nI (xpr j)))), (m37, .inl (ax 3, 20000, .inl (fun j => nI (xptr j)))), (m38, .inl (ax 0, 121, .inl xbd)), (m39, .inl (ax 3, 121, .inl xib))] t9.heap ∧ va_D (va_A [(m0, .inr (11, [.int s_thrown, .int s_taped, .ref m1, .int s_size, .int s_outSize, .ref m2, .int s_kind, .int s_value, .int s_begin, .int s_end, .int s_failed, .ref m3, .ref m4, .ref m5, .int s_isProgram, .int s_half, .ref m6, .ref m7, .ref m8, .ref m9, .ref m10, .ref m11, .ref m12, .ref m13, .ref m14, .ref m15, .ref m16, .ref m17, .ref m18, .ref m19, .ref m20, .int s_signs, .ref m21, .int s_stacked, .ref m22, .int s_name, .int s_shift, .int s_statements, .int s_ifs, .int s_whiles, .int s_variants, .int s_open, .ref m23, .int s_isMade, .int s_conditions, .ref m24, .ref m25, .ref m26, .ref m27, .int s_kept, .ref m28, .int s_tops, .ref m29, .int s_used, .ref m30, .ref m31, .int s_looked, .int s_rows, .int s_firstRow, .ref m32, .ref m33, .ref m34, .ref m35, .ref m36, .ref m37, .ref m38, .ref m39, .ref m40, .int s_isBroken, .ref m41, .int s_atoms, .ref m42])), (m28, .inl (ax 0, 180000, .inl kp)), (m32, .inl (ax 0, 30000, .inl (fun j => nI (sf j)))), (m33, .inl (ax 0, 30000, .inl (fun j => nI (wt j)))), (m34, .inl (ax 0, 30000, .inl (fun j => nI (wf j)))), (m40, .inl (ax 0, 11, .inl av)), (m35, .inl (ax 0, 20000, .inl (fun j => nI (pa j)))), (m36, .inl (ax 0, 20000, .inl (fun j => nI (pr j)))), (m37, .inl (ax 3, 20000, .inl (fun j => nI (ptr j)))), (m38, .inl (ax 0, 121, .inl bd)), (m39, .inl (ax 3, 121, .inl ib))] sz) [(m0, .inr (11, [.int s_thrown, .int s_taped, .ref m1, .int s_size, .int s_outSize, .ref m2, .int s_kind, .int s_value, .int s_begin, .int s_end, .int s_failed, .ref m3, .ref m4, .ref m5, .int s_isProgram, .int s_half, .ref m6, .ref m7, .ref m8, .ref m9, .ref m10, .ref m11, .ref m12, .ref m13, .ref m14, .ref m15, .ref m16, .ref m17, .ref m18, .ref m19, .ref m20, .int s_signs, .ref m21, .int s_stacked, .ref m22, .int s_name, .int s_shift, .int s_statements, .int s_ifs, .int s_whiles, .int s_variants, .int s_open, .ref m23, .int s_isMade, .int s_conditions, .ref m24, .ref m25, .ref m26, .ref m27, .int s_kept, .ref m28, .int s_tops, .ref m29, .int s_used, .ref m30, .ref m31, .int s_looked, .int s_rows, .int s_firstRow, .ref m32, .ref m33, .ref m34, .ref m35, .ref m36, .ref m37, .ref m38, .ref m39, .ref m40, .int (nI (u 1)), .ref m41, .int s_atoms, .ref m42])), (m28, .inl (ax 0, 180000, .inl kp)), (m32, .inl (ax 0, 30000, .inl (fun j => nI (sf j)))), (m33, .inl (ax 0, 30000, .inl (fun j => nI (wt j)))), (m34, .inl (ax 0, 30000, .inl (fun j => nI (wf j)))), (m40, .inl (ax 0, 11, .inl xav)), (m35, .inl (ax 0, 20000, .inl (fun j => nI (xpa j)))), (m36, .inl (ax 0, 20000, .inl (fun j => nI (xpr j)))), (m37, .inl (ax 3, 20000, .inl (fun j => nI (xptr j)))), (m38, .inl (ax 0, 121, .inl xbd)), (m39, .inl (ax 3, 121, .inl xib))]) (va_A [(m0, .inr (11, [.int s_thrown, .int s_taped, .ref m1, .int s_size, .int s_outSize, .ref m2, .int s_kind, .int s_value, .int s_begin, .int s_end, .int s_failed, .ref m3, .ref m4, .ref m5, .int s_isProgram, .int s_half, .ref m6, .ref m7, .ref m8, .ref m9, .ref m10, .ref m11, .ref m12, .ref m13, .ref m14, .ref m15, .ref m16, .ref m17, .ref m18, .ref m19, .ref m20, .int s_signs, .ref m21, .int s_stacked, .ref m22, .int s_name, .int s_shift, .int s_statements, .int s_ifs, .int s_whiles, .int s_variants, .int s_open, .ref m23, .int s_isMade, .int s_conditions, .ref m24, .ref m25, .ref m26, .ref m27, .int s_kept, .ref m28, .int s_tops, .ref m29, .int s_used, .ref m30, .ref m31, .int s_looked, .int s_rows, .int s_firstRow, .ref m32, .ref m33, .ref m34, .ref m35, .ref m36, .ref m37, .ref m38, .ref m39, .ref m40, .int s_isBroken, .ref m41, .int s_atoms, .ref m42])), (m28, .inl (ax 0, 180000, .inl kp)), (m32, .inl (ax 0, 30000, .inl (fun j => nI (sf j)))), (m33, .inl (ax 0, 30000, .inl (fun j => nI (wt j)))), (m34, .inl (ax 0, 30000, .inl (fun j => nI (wf j)))), (m40, .inl (ax 0, 11, .inl av)), (m35, .inl (ax 0, 20000, .inl (fun j => nI (pa j)))), (m36, .inl (ax 0, 20000, .inl (fun j => nI (pr j)))), (m37, .inl (ax 3, 20000, .inl (fun j => nI (ptr j)))), (m38, .inl (ax 0, 121, .inl bd)), (m39, .inl (ax 3, 121, .inl ib))] sz))) 0 0 (va_A [(m0, .inr (11, [.int s_thrown, .int s_taped, .ref m1, .int s_size, .int s_outSize, .ref m2, .int s_kind, .int s_value, .int s_begin, .int s_end, .int s_failed, .ref m3, .ref m4, .ref m5, .int s_isProgram, .int s_half, .ref m6, .ref m7, .ref m8, .ref m9, .ref m10, .ref m11, .ref m12, .ref m13, .ref m14, .ref m15, .ref m16, .ref m17, .ref m18, .ref m19, .ref m20, .int s_signs, .ref m21, .int s_stacked, .ref m22, .int s_name, .int s_shift, .int s_statements, .int s_ifs, .int s_whiles, .int s_variants, .int s_open, .ref m23, .int s_isMade, .int s_conditions, .ref m24, .ref m25, .ref m26, .ref m27, .int s_kept, .ref m28, .int s_tops, .ref m29, .int s_used, .ref m30, .ref m31, .int s_looked, .int s_rows, .int s_firstRow, .ref m32, .ref m33, .ref m34, .ref m35, .ref m36, .ref m37, .ref m38, .ref m39, .ref m40, .int s_isBroken, .ref m41, .int s_atoms, .ref m42])), (m28, .inl (ax 0, 180000, .inl kp)), (m32, .inl (ax 0, 30000, .inl (fun j => nI (sf j)))), (m33, .inl (ax 0, 30000, .inl (fun j => nI (wt j)))), (m34, .inl (ax 0, 30000, .inl (fun j => nI (wf j)))), (m40, .inl (ax 0, 11, .inl av)), (m35, .inl (ax 0, 20000, .inl (fun j => nI (pa j)))), (m36, .inl (ax 0, 20000, .inl (fun j => nI (pr j)))), (m37, .inl (ax 3, 20000, .inl (fun j => nI (ptr j)))), (m38, .inl (ax 0, 121, .inl bd)), (m39, .inl (ax 3, 121, .inl ib))] sz) := by
  refine Met.ofW (cc := b_Model_isPossible) (maxL := 5) (ret := (some .boolean)) (by decide) rfl ?_
  intro p e s m args below meth c s₁ B hml hv
  obtain ⟨rfl, hsz, hP, hK, hD0⟩ := hv
  have hx := B.exec
  have hb := B.bytes
  have hr := B.returns
  have hts := xw_hts B.pre
  have hown : s.vm.findClass R_Model = some m.cls := findClass_of_methodNamed B.named
  have hlocks := B.notSynchronized
  subst hsz
  have hD := hD0.self (sz := s.heap.size)
  have hN := xz_entry hP
  generalize hAe : va_A [(m0, .inr (11, [.int s_thrown, .int s_taped, .ref m1, .int s_size, .int s_outSize, .ref m2, .int s_kind, .int s_value, .int s_begin, .int s_end, .int s_failed, .ref m3, .ref m4, .ref m5, .int s_isProgram, .int s_half, .ref m6, .ref m7, .ref m8, .ref m9, .ref m10, .ref m11, .ref m12, .ref m13, .ref m14, .ref m15, .ref m16, .ref m17, .ref m18, .ref m19, .ref m20, .int s_signs, .ref m21, .int s_stacked, .ref m22, .int s_name, .int s_shift, .int s_statements, .int s_ifs, .int s_whiles, .int s_variants, .int s_open, .ref m23, .int s_isMade, .int s_conditions, .ref m24, .ref m25, .ref m26, .ref m27, .int s_kept, .ref m28, .int s_tops, .ref m29, .int s_used, .ref m30, .ref m31, .int s_looked, .int s_rows, .int s_firstRow, .ref m32, .ref m33, .ref m34, .ref m35, .ref m36, .ref m37, .ref m38, .ref m39, .ref m40, .int s_isBroken, .ref m41, .int s_atoms, .ref m42])), (m28, .inl (ax 0, 180000, .inl kp)), (m32, .inl (ax 0, 30000, .inl (fun j => nI (sf j)))), (m33, .inl (ax 0, 30000, .inl (fun j => nI (wt j)))), (m34, .inl (ax 0, 30000, .inl (fun j => nI (wf j)))), (m40, .inl (ax 0, 11, .inl av)), (m35, .inl (ax 0, 20000, .inl (fun j => nI (pa j)))), (m36, .inl (ax 0, 20000, .inl (fun j => nI (pr j)))), (m37, .inl (ax 3, 20000, .inl (fun j => nI (ptr j)))), (m38, .inl (ax 0, 121, .inl bd)), (m39, .inl (ax 3, 121, .inl ib))] s.heap.size = A at hD hN ⊢
  have hA : ∀ q : Nat, s.heap.size ≤ q → A q := fun q h => by rw [← hAe]; exact Or.inr h
  have hS : va_S A s.heap s.heap [] := va_S.rf
  have hl0 := lv_entry ([.ref m0, .int (nI fr), .int (nI q), .int x3]) (n := 5) (Nat.le_of_ble_eq_true rfl)
  rw [lg_entry_eq]
  generalize (lg_sl ([.ref m0, .int (nI fr), .int (nI q), .int x3]) ++ List.replicate (5 - (lg_sl ([.ref m0, .int (nI fr), .int (nI q), .int x3])).length) Slot.unset).toArray = ls at hl0 ⊢
  have hl1 : lv_has ls 5 [(0, .ref m0), (1, .int (nI fr)), (2, .int (nI q)), (3, .int x3)] := hl0
  refine xw_gen (fun Z9 hQe => ?_)
  rw [hx3] at hl1
  have hl1 : lv_has ls 5 [(0, .ref m0), (1, .int (nI fr)), (2, .int (nI q)), (3, .int (nI r9))] := hl1
  refine lv_iconst (v := 0) hx hb d_Model_isPossible_0 (by decide) ?_
  refine lv_istore (lv' := [(4, .int 0), (0, .ref m0), (1, .int (nI fr)), (2, .int (nI q)), (3, .int (nI r9))]) hx hb d_Model_isPossible_1 hl1 (by decide) rfl (fun ls hl2 => ?_)
  clear hl1; have hl1 := hl2; clear hl2
  suffices key_1 : ∀ (k : Nat) (i1 : Nat) (ib1 : Nat → Int32), 121 - i1 < k → i1 ≤ 121 → zr8 ib1 i1 → ∀ (H : Heap) (locs : List Loc) (ls : Array Slot), va_P D classes [(m0, .inr (11, [.int s_thrown, .int s_taped, .ref m1, .int s_size, .int s_outSize, .ref m2, .int s_kind, .int s_value, .int s_begin, .int s_end, .int s_failed, .ref m3, .ref m4, .ref m5, .int s_isProgram, .int s_half, .ref m6, .ref m7, .ref m8, .ref m9, .ref m10, .ref m11, .ref m12, .ref m13, .ref m14, .ref m15, .ref m16, .ref m17, .ref m18, .ref m19, .ref m20, .int s_signs, .ref m21, .int s_stacked, .ref m22, .int s_name, .int s_shift, .int s_statements, .int s_ifs, .int s_whiles, .int s_variants, .int s_open, .ref m23, .int s_isMade, .int s_conditions, .ref m24, .ref m25, .ref m26, .ref m27, .int s_kept, .ref m28, .int s_tops, .ref m29, .int s_used, .ref m30, .ref m31, .int s_looked, .int s_rows, .int s_firstRow, .ref m32, .ref m33, .ref m34, .ref m35, .ref m36, .ref m37, .ref m38, .ref m39, .ref m40, .int s_isBroken, .ref m41, .int s_atoms, .ref m42])), (m28, .inl (ax 0, 180000, .inl kp)), (m32, .inl (ax 0, 30000, .inl (fun j => nI (sf j)))), (m33, .inl (ax 0, 30000, .inl (fun j => nI (wt j)))), (m34, .inl (ax 0, 30000, .inl (fun j => nI (wf j)))), (m40, .inl (ax 0, 11, .inl av)), (m35, .inl (ax 0, 20000, .inl (fun j => nI (pa j)))), (m36, .inl (ax 0, 20000, .inl (fun j => nI (pr j)))), (m37, .inl (ax 3, 20000, .inl (fun j => nI (ptr j)))), (m38, .inl (ax 0, 121, .inl bd)), (m39, .inl (ax 3, 121, .inl ib1))] H → va_D A [(m0, .inr (11, [.int s_thrown, .int s_taped, .ref m1, .int s_size, .int s_outSize, .ref m2, .int s_kind, .int s_value, .int s_begin, .int s_end, .int s_failed, .ref m3, .ref m4, .ref m5, .int s_isProgram, .int s_half, .ref m6, .ref m7, .ref m8, .ref m9, .ref m10, .ref m11, .ref m12, .ref m13, .ref m14, .ref m15, .ref m16, .ref m17, .ref m18, .ref m19, .ref m20, .int s_signs, .ref m21, .int s_stacked, .ref m22, .int s_name, .int s_shift, .int s_statements, .int s_ifs, .int s_whiles, .int s_variants, .int s_open, .ref m23, .int s_isMade, .int s_conditions, .ref m24, .ref m25, .ref m26, .ref m27, .int s_kept, .ref m28, .int s_tops, .ref m29, .int s_used, .ref m30, .ref m31, .int s_looked, .int s_rows, .int s_firstRow, .ref m32, .ref m33, .ref m34, .ref m35, .ref m36, .ref m37, .ref m38, .ref m39, .ref m40, .int s_isBroken, .ref m41, .int s_atoms, .ref m42])), (m28, .inl (ax 0, 180000, .inl kp)), (m32, .inl (ax 0, 30000, .inl (fun j => nI (sf j)))), (m33, .inl (ax 0, 30000, .inl (fun j => nI (wt j)))), (m34, .inl (ax 0, 30000, .inl (fun j => nI (wf j)))), (m40, .inl (ax 0, 11, .inl av)), (m35, .inl (ax 0, 20000, .inl (fun j => nI (pa j)))), (m36, .inl (ax 0, 20000, .inl (fun j => nI (pr j)))), (m37, .inl (ax 3, 20000, .inl (fun j => nI (ptr j)))), (m38, .inl (ax 0, 121, .inl bd)), (m39, .inl (ax 3, 121, .inl ib1))] → va_S A s.heap H locs → lv_has ls 5 [(0, .ref m0), (1, .int (nI fr)), (2, .int (nI q)), (3, .int (nI r9)), (4, .int (nI i1))] → W p l e (headSpec (xws (.code y_Model_isPossible b_Model_isPossible 5 (some .boolean))) ({ frames := 40, cells := 0, slots := 0, locals := 1600 })).room s m ([.ref m0, .int (nI fr), .int (nI q), .int x3] : List Value).toArray below meth c H locs 0 0 Z9 (F0 m 3 ls []) from key_1 (121 - 0 + 1) 0 ib (Nat.lt_succ_self _) (by first | assumption | omega) zr8_0 _ _ _ (hP) (hD) hS (lv_sub hl1 [1, 2, 3, 4, 0] rfl)
  intro k_2
  induction k_2 with
  | zero =>
    intro i1 ib1 hk_4
    exact absurd hk_4 (Nat.not_lt_zero _)
  | succ k_2 ih_3 =>
    clear hP hD hS hl1
    intro i1 ib1 hk_4 hi1 hz1 H locs ls hP hD hS hl1
    refine lv_iload hx hb d_Model_isPossible_3 (lv_at hl1 4 rfl) ?_
    refine lv_bipush (v := 121) hx hb d_Model_isPossible_5 (by decide) ?_
    refine lv_icmp_ge (tgt := 24) hx hb d_Model_isPossible_7 (by decide) (fun c_5 => ?_) (fun c_5 => ?_)
    · replace c_5 : 121 ≤ i1 := (nI_leI (a := 121) (b := i1) (by decide) (by first | exact Nat.lt_of_lt_of_le (by assumption) (by decide) | exact Nat.lt_of_le_of_lt (by assumption) (by decide) | omega)).mp c_5
      refine lv_aload_n hx hb d_Model_isPossible_24 rfl (lv_at hl1 0 rfl) ?_
      refine lv_iconst (v := 0) hx hb d_Model_isPossible_25 (by decide) ?_
      refine va_put (D := D) (ci := 11) (v := .int 0) (ty := .boolean) (C := R_Model) (T := F_Model) (N := 72) hx hb hts i_Model t_Model t_Model_ok n_Model hown hK.1 hP hD hS 0 rfl rfl 68 (by decide) (hts _ wd_1104) (fun _ h9 => h9) rfl (by decide +kernel) rfl rfl (Nat.le_of_ble_eq_true rfl) d_Model_isPossible_26 (fun H_6 locs hP1 hD1 hS1 => ?_)
      clear hP hD hS
      have hS := hS1
      have hW7 : (fun w9 : va_W => va_P D classes w9 H_6 ∧ va_D A w9) [(m0, .inr (11, [.int s_thrown, .int s_taped, .ref m1, .int s_size, .int s_outSize, .ref m2, .int s_kind, .int s_value, .int s_begin, .int s_end, .int s_failed, .ref m3, .ref m4, .ref m5, .int s_isProgram, .int s_half, .ref m6, .ref m7, .ref m8, .ref m9, .ref m10, .ref m11, .ref m12, .ref m13, .ref m14, .ref m15, .ref m16, .ref m17, .ref m18, .ref m19, .ref m20, .int s_signs, .ref m21, .int s_stacked, .ref m22, .int s_name, .int s_shift, .int s_statements, .int s_ifs, .int s_whiles, .int s_variants, .int s_open, .ref m23, .int s_isMade, .int s_conditions, .ref m24, .ref m25, .ref m26, .ref m27, .int s_kept, .ref m28, .int s_tops, .ref m29, .int s_used, .ref m30, .ref m31, .int s_looked, .int s_rows, .int s_firstRow, .ref m32, .ref m33, .ref m34, .ref m35, .ref m36, .ref m37, .ref m38, .ref m39, .ref m40, .int 0, .ref m41, .int s_atoms, .ref m42])), (m28, .inl (ax 0, 180000, .inl kp)), (m32, .inl (ax 0, 30000, .inl (fun j => nI (sf j)))), (m33, .inl (ax 0, 30000, .inl (fun j => nI (wt j)))), (m34, .inl (ax 0, 30000, .inl (fun j => nI (wf j)))), (m40, .inl (ax 0, 11, .inl av)), (m35, .inl (ax 0, 20000, .inl (fun j => nI (pa j)))), (m36, .inl (ax 0, 20000, .inl (fun j => nI (pr j)))), (m37, .inl (ax 3, 20000, .inl (fun j => nI (ptr j)))), (m38, .inl (ax 0, 121, .inl bd)), (m39, .inl (ax 3, 121, .inl ib1))] := ⟨hP1, hD1⟩
      obtain ⟨hP, hD⟩ := hW7
      clear hP1 hD1 hS1
      refine lv_aload_n hx hb d_Model_isPossible_29 rfl (lv_at hl1 0 rfl) ?_
      refine lv_iload_n hx hb d_Model_isPossible_30 rfl (lv_at hl1 1 rfl) ?_
      refine lv_iload_n hx hb d_Model_isPossible_31 rfl (lv_at hl1 2 rfl) ?_
      refine lv_iload_n hx hb d_Model_isPossible_32 rfl (lv_at hl1 3 rfl) ?_
      obtain ⟨hPc, hDc, hFc, hCs⟩ := xw_sub3 (wc := [(m0, .inr (11, [.int s_thrown, .int s_taped, .ref m1, .int s_size, .int s_outSize, .ref m2, .int s_kind, .int s_value, .int s_begin, .int s_end, .int s_failed, .ref m3, .ref m4, .ref m5, .int s_isProgram, .int s_half, .ref m6, .ref m7, .ref m8, .ref m9, .ref m10, .ref m11, .ref m12, .ref m13, .ref m14, .ref m15, .ref m16, .ref m17, .ref m18, .ref m19, .ref m20, .int s_signs, .ref m21, .int s_stacked, .ref m22, .int s_name, .int s_shift, .int s_statements, .int s_ifs, .int s_whiles, .int s_variants, .int s_open, .ref m23, .int s_isMade, .int s_conditions, .ref m24, .ref m25, .ref m26, .ref m27, .int s_kept, .ref m28, .int s_tops, .ref m29, .int s_used, .ref m30, .ref m31, .int s_looked, .int s_rows, .int s_firstRow, .ref m32, .ref m33, .ref m34, .ref m35, .ref m36, .ref m37, .ref m38, .ref m39, .ref m40, .int (nI 0), .ref m41, .int s_atoms, .ref m42])), (m28, .inl (ax 0, 180000, .inl kp)), (m32, .inl (ax 0, 30000, .inl (fun j => nI (sf j)))), (m33, .inl (ax 0, 30000, .inl (fun j => nI (wt j)))), (m34, .inl (ax 0, 30000, .inl (fun j => nI (wf j)))), (m35, .inl (ax 0, 20000, .inl (fun j => nI (pa j)))), (m36, .inl (ax 0, 20000, .inl (fun j => nI (pr j)))), (m37, .inl (ax 3, 20000, .inl (fun j => nI (ptr j)))), (m38, .inl (ax 0, 121, .inl bd)), (m39, .inl (ax 3, 121, .inl ib1))]) hP hD hS hA [0, 1, 2, 3, 4, 6, 7, 8, 9, 10] (by decide) rfl
      have hz := xz_of hN hS
      refine va_callv (va_runV (As := [.int (nI fr), .int (nI q), .int (nI r9)]) (rest := []) ⟨hx, hb, hml, hown, hts⟩ (c_M_takeRow l D ax m0 m1 m2 m3 m4 m5 m6 m7 m8 m9 m10 m11 m12 m13 m14 m15 m16 m17 m18 m19 m20 m21 m22 m23 m24 m25 m26 m27 m28 m29 m30 m31 m32 m33 m34 m35 m36 m37 m38 m39 m40 m41 m42 s_thrown s_taped s_size s_outSize s_kind s_value s_begin s_end s_failed s_isProgram s_half s_signs s_stacked s_name s_shift s_statements s_ifs s_whiles s_variants s_open s_isMade s_conditions s_kept s_tops s_used s_looked s_rows s_firstRow s_atoms 0 fr q r9 sf wt wf pa pr ptr kp bd ib1 H_6.size hf hq hq1 hm hz0 hq8 hr8 hb8 hr9 rfl (fun k hk => hz1 k (by first | assumption | omega))) (xcV (n := 3) hts wd_1521 wd_15 wd_1518 wd_1520 ps_102 rfl rfl (by decide +kernel) ⟨Nat.le_of_ble_eq_true rfl, Nat.le_of_ble_eq_true rfl⟩) (xpV (ci := 11) (q0 := 0) (As := [.int (nI fr), .int (nI q), .int (nI r9)]) hPc hK hz hDc rfl rfl) rfl rfl hl1.1 rfl (lv_room (Nat.le_of_ble_eq_true rfl)) d_Model_isPossible_33 ⟨Nat.le_of_ble_eq_true rfl, Nat.le_of_ble_eq_true rfl⟩) hS (fun q _ h => hFc q h) hFc (fun u_7 t H_8 locs ht hvm hw hB hz1 hk1 hS1 => ?_)
      try dsimp only at hw
      have hs_10 := hw
      obtain ⟨x_11, x_12, x_13, x_14, x_15, hx_16, hx_17, hP1, hD1⟩ := hB
      rw [ht] at hP1
      have hjn := xw_join3 (wl := [(m40, .inl (ax 0, 11, .inl av)), (m0, .inr (11, [.int s_thrown, .int s_taped, .ref m1, .int s_size, .int s_outSize, .ref m2, .int s_kind, .int s_value, .int s_begin, .int s_end, .int s_failed, .ref m3, .ref m4, .ref m5, .int s_isProgram, .int s_half, .ref m6, .ref m7, .ref m8, .ref m9, .ref m10, .ref m11, .ref m12, .ref m13, .ref m14, .ref m15, .ref m16, .ref m17, .ref m18, .ref m19, .ref m20, .int s_signs, .ref m21, .int s_stacked, .ref m22, .int s_name, .int s_shift, .int s_statements, .int s_ifs, .int s_whiles, .int s_variants, .int s_open, .ref m23, .int s_isMade, .int s_conditions, .ref m24, .ref m25, .ref m26, .ref m27, .int s_kept, .ref m28, .int s_tops, .ref m29, .int s_used, .ref m30, .ref m31, .int s_looked, .int s_rows, .int s_firstRow, .ref m32, .ref m33, .ref m34, .ref m35, .ref m36, .ref m37, .ref m38, .ref m39, .ref m40, .int (nI (u_7 0)), .ref m41, .int s_atoms, .ref m42])), (m28, .inl (ax 0, 180000, .inl kp)), (m32, .inl (ax 0, 30000, .inl (fun j => nI (sf j)))), (m33, .inl (ax 0, 30000, .inl (fun j => nI (wt j)))), (m34, .inl (ax 0, 30000, .inl (fun j => nI (wf j)))), (m35, .inl (ax 0, 20000, .inl (fun j => nI (x_11 j)))), (m36, .inl (ax 0, 20000, .inl (fun j => nI (x_12 j)))), (m37, .inl (ax 3, 20000, .inl (fun j => nI (x_13 j)))), (m38, .inl (ax 0, 121, .inl x_14)), (m39, .inl (ax 3, 121, .inl x_15))]) hP hD [0, 1, 2, 3, 4, 6, 7, 8, 9, 10] [5] hCs (by decide) (by decide) hk1 hFc hP1 hD1 rfl
      clear hP1 hD1
      clear hPc hDc hFc hCs hz hz1 hk1 ht hvm
      clear hP hD hS
      have hS := hS1
      obtain ⟨hP, hD⟩ := hjn
      clear hS1
      refine lv_aload_n hx hb d_Model_isPossible_36 rfl (lv_at hl1 0 rfl) ?_
      refine va_get (D := D) (ci := 11) (v := .int (nI (u_7 0))) (C := R_Model) (T := F_Model) (N := 72) hx hb hts i_Model hown hK.1 hP 1 rfl rfl 68 (by decide) (hts _ wd_1104) (fun _ h9 => h9) rfl d_Model_isPossible_37 ?_
      refine lv_if_ne (tgt := 54) hx hb d_Model_isPossible_40 (by decide) (fun c_18 => ?_) (fun c_18 => ?_)
      · replace c_18 : ¬ u_7 0 = 0 := fun hq9 => c_18 ((nI_eq (a := u_7 0) (b := 0) (by first | exact Nat.lt_of_lt_of_le (by assumption) (by decide) | exact Nat.lt_of_le_of_lt (by assumption) (by decide) | omega) (by decide)).mpr hq9)
        refine lv_iconst (v := 0) hx hb d_Model_isPossible_54 (by decide) ?_
        rw [← hQe]
        obtain ⟨hP9, hD9⟩ := xw_sub2 (wc := (fun (u : Nat → Nat) (xpa : Nat → Nat) (xpr : Nat → Nat) (xptr : Nat → Nat) (xbd : Nat → Int32) (xib : Nat → Int32) (xav : Nat → Int32) => [(m0, .inr (11, [.int s_thrown, .int s_taped, .ref m1, .int s_size, .int s_outSize, .ref m2, .int s_kind, .int s_value, .int s_begin, .int s_end, .int s_failed, .ref m3, .ref m4, .ref m5, .int s_isProgram, .int s_half, .ref m6, .ref m7, .ref m8, .ref m9, .ref m10, .ref m11, .ref m12, .ref m13, .ref m14, .ref m15, .ref m16, .ref m17, .ref m18, .ref m19, .ref m20, .int s_signs, .ref m21, .int s_stacked, .ref m22, .int s_name, .int s_shift, .int s_statements, .int s_ifs, .int s_whiles, .int s_variants, .int s_open, .ref m23, .int s_isMade, .int s_conditions, .ref m24, .ref m25, .ref m26, .ref m27, .int s_kept, .ref m28, .int s_tops, .ref m29, .int s_used, .ref m30, .ref m31, .int s_looked, .int s_rows, .int s_firstRow, .ref m32, .ref m33, .ref m34, .ref m35, .ref m36, .ref m37, .ref m38, .ref m39, .ref m40, .int (nI (u 1)), .ref m41, .int s_atoms, .ref m42])), (m28, .inl (ax 0, 180000, .inl kp)), (m32, .inl (ax 0, 30000, .inl (fun j => nI (sf j)))), (m33, .inl (ax 0, 30000, .inl (fun j => nI (wt j)))), (m34, .inl (ax 0, 30000, .inl (fun j => nI (wf j)))), (m40, .inl (ax 0, 11, .inl xav)), (m35, .inl (ax 0, 20000, .inl (fun j => nI (xpa j)))), (m36, .inl (ax 0, 20000, .inl (fun j => nI (xpr j)))), (m37, .inl (ax 3, 20000, .inl (fun j => nI (xptr j)))), (m38, .inl (ax 0, 121, .inl xbd)), (m39, .inl (ax 3, 121, .inl xib))]) (ixn [0, (u_7 0)]) x_11 x_12 x_13 x_14 x_15 av) hP hD [1, 2, 3, 4, 5, 0, 6, 7, 8, 9, 10] (by decide) rfl
        have hex0 : pqQ8 (sgl kp (6 * fr) q) r9 av (0) := (pqQ8_b hx_17 (by first | assumption | omega))
        have hsp0 : 0 ≤ 1 := (by first | assumption | omega)
        have hsp1 : (u_7 0) ≤ 1 := (by first | assumption | omega)
        exact W.zret (v := 0) hx hb hr rfl (fun t ht hW => ⟨⟨0, ixn [0, (u_7 0)], rfl, ⟨rfl, ⟨hsp0, hsp1⟩⟩, ⟨x_11, x_12, x_13, x_14, x_15, av, hex0, by rw [ht]; exact hP9, hD9⟩⟩, hS.F ht⟩) hS.2.2 d_Model_isPossible_55
      · replace c_18 : u_7 0 = 0 := (nI_eq (a := u_7 0) (b := 0) (by first | exact Nat.lt_of_lt_of_le (by assumption) (by decide) | exact Nat.lt_of_le_of_lt (by assumption) (by decide) | omega) (by decide)).mp c_18
        refine lv_aload_n hx hb d_Model_isPossible_43 rfl (lv_at hl1 0 rfl) ?_
        obtain ⟨hPc, hDc, hFc, hCs⟩ := xw_sub3 (wc := [(m0, .inr (11, [.int s_thrown, .int s_taped, .ref m1, .int s_size, .int s_outSize, .ref m2, .int s_kind, .int s_value, .int s_begin, .int s_end, .int s_failed, .ref m3, .ref m4, .ref m5, .int s_isProgram, .int s_half, .ref m6, .ref m7, .ref m8, .ref m9, .ref m10, .ref m11, .ref m12, .ref m13, .ref m14, .ref m15, .ref m16, .ref m17, .ref m18, .ref m19, .ref m20, .int s_signs, .ref m21, .int s_stacked, .ref m22, .int s_name, .int s_shift, .int s_statements, .int s_ifs, .int s_whiles, .int s_variants, .int s_open, .ref m23, .int s_isMade, .int s_conditions, .ref m24, .ref m25, .ref m26, .ref m27, .int s_kept, .ref m28, .int s_tops, .ref m29, .int s_used, .ref m30, .ref m31, .int s_looked, .int s_rows, .int s_firstRow, .ref m32, .ref m33, .ref m34, .ref m35, .ref m36, .ref m37, .ref m38, .ref m39, .ref m40, .int (nI (u_7 0)), .ref m41, .int s_atoms, .ref m42])), (m40, .inl (ax 0, 11, .inl av)), (m38, .inl (ax 0, 121, .inl x_14)), (m39, .inl (ax 3, 121, .inl x_15))]) hP hD hS hA [1, 0, 9, 10] (by decide) rfl
        have hz := xz_of hN hS
        refine va_calli (va_runV (As := []) (rest := []) ⟨hx, hb, hml, hown, hts⟩ (c_M_solve l D ax m0 m1 m2 m3 m4 m5 m6 m7 m8 m9 m10 m11 m12 m13 m14 m15 m16 m17 m18 m19 m20 m21 m22 m23 m24 m25 m26 m27 m28 m29 m30 m31 m32 m33 m34 m35 m36 m37 m38 m39 m40 m41 m42 s_thrown s_taped s_size s_outSize s_kind s_value s_begin s_end s_failed s_isProgram s_half s_signs s_stacked s_name s_shift s_statements s_ifs s_whiles s_variants s_open s_isMade s_conditions s_kept s_tops s_used s_looked s_rows s_firstRow (nI (u_7 0)) s_atoms av x_14 x_15 H_8.size hx_16) (xcV (n := 0) hts wd_1536 wd_15 wd_1533 wd_1535 ps_105 rfl rfl (by decide +kernel) ⟨Nat.le_of_ble_eq_true rfl, Nat.le_of_ble_eq_true rfl⟩) (xpV (ci := 11) (q0 := 0) (As := []) hPc hK hz hDc rfl rfl) rfl rfl hl1.1 rfl (lv_room (Nat.le_of_ble_eq_true rfl)) d_Model_isPossible_44 ⟨Nat.le_of_ble_eq_true rfl, Nat.le_of_ble_eq_true rfl⟩) hS (fun q _ h => hFc q h) hFc (fun r_21 u_19 t H_20 locs ht hvm hw hB hz1 hk1 hS1 => ?_)
        try dsimp only at hw
        obtain ⟨hw, hs_22⟩ := hw
        subst hw
        obtain ⟨x_23, hx_24, hP1, hD1⟩ := hB
        rw [ht] at hP1
        have hjn := xw_join3 (wl := [(m28, .inl (ax 0, 180000, .inl kp)), (m32, .inl (ax 0, 30000, .inl (fun j => nI (sf j)))), (m33, .inl (ax 0, 30000, .inl (fun j => nI (wt j)))), (m34, .inl (ax 0, 30000, .inl (fun j => nI (wf j)))), (m35, .inl (ax 0, 20000, .inl (fun j => nI (x_11 j)))), (m36, .inl (ax 0, 20000, .inl (fun j => nI (x_12 j)))), (m37, .inl (ax 3, 20000, .inl (fun j => nI (x_13 j)))), (m0, .inr (11, [.int s_thrown, .int s_taped, .ref m1, .int s_size, .int s_outSize, .ref m2, .int s_kind, .int s_value, .int s_begin, .int s_end, .int s_failed, .ref m3, .ref m4, .ref m5, .int s_isProgram, .int s_half, .ref m6, .ref m7, .ref m8, .ref m9, .ref m10, .ref m11, .ref m12, .ref m13, .ref m14, .ref m15, .ref m16, .ref m17, .ref m18, .ref m19, .ref m20, .int s_signs, .ref m21, .int s_stacked, .ref m22, .int s_name, .int s_shift, .int s_statements, .int s_ifs, .int s_whiles, .int s_variants, .int s_open, .ref m23, .int s_isMade, .int s_conditions, .ref m24, .ref m25, .ref m26, .ref m27, .int s_kept, .ref m28, .int s_tops, .ref m29, .int s_used, .ref m30, .ref m31, .int s_looked, .int s_rows, .int s_firstRow, .ref m32, .ref m33, .ref m34, .ref m35, .ref m36, .ref m37, .ref m38, .ref m39, .ref m40, .int (nI (u_7 0)), .ref m41, .int s_atoms, .ref m42])), (m40, .inl (ax 0, 11, .inl x_23)), (m38, .inl (ax 0, 121, .inl x_14)), (m39, .inl (ax 3, 121, .inl x_15))]) hP hD [1, 0, 9, 10] [2, 3, 4, 5, 6, 7, 8] hCs (by decide) (by decide) hk1 hFc hP1 hD1 rfl
        clear hP1 hD1
        clear hPc hDc hFc hCs hz hz1 hk1 ht hvm
        clear hP hD hS
        have hS := hS1
        obtain ⟨hP, hD⟩ := hjn
        clear hS1
        refine lv_if_eq (tgt := 54) hx hb d_Model_isPossible_47 (by decide) (fun c_25 => ?_) (fun c_25 => ?_)
        · replace c_25 : u_19 0 = 0 := (nI_eq (a := u_19 0) (b := 0) (by first | exact Nat.lt_of_lt_of_le (by assumption) (by decide) | exact Nat.lt_of_le_of_lt (by assumption) (by decide) | omega) (by decide)).mp c_25
          refine lv_iconst (v := 0) hx hb d_Model_isPossible_54 (by decide) ?_
          rw [← hQe]
          obtain ⟨hP9, hD9⟩ := xw_sub2 (wc := (fun (u : Nat → Nat) (xpa : Nat → Nat) (xpr : Nat → Nat) (xptr : Nat → Nat) (xbd : Nat → Int32) (xib : Nat → Int32) (xav : Nat → Int32) => [(m0, .inr (11, [.int s_thrown, .int s_taped, .ref m1, .int s_size, .int s_outSize, .ref m2, .int s_kind, .int s_value, .int s_begin, .int s_end, .int s_failed, .ref m3, .ref m4, .ref m5, .int s_isProgram, .int s_half, .ref m6, .ref m7, .ref m8, .ref m9, .ref m10, .ref m11, .ref m12, .ref m13, .ref m14, .ref m15, .ref m16, .ref m17, .ref m18, .ref m19, .ref m20, .int s_signs, .ref m21, .int s_stacked, .ref m22, .int s_name, .int s_shift, .int s_statements, .int s_ifs, .int s_whiles, .int s_variants, .int s_open, .ref m23, .int s_isMade, .int s_conditions, .ref m24, .ref m25, .ref m26, .ref m27, .int s_kept, .ref m28, .int s_tops, .ref m29, .int s_used, .ref m30, .ref m31, .int s_looked, .int s_rows, .int s_firstRow, .ref m32, .ref m33, .ref m34, .ref m35, .ref m36, .ref m37, .ref m38, .ref m39, .ref m40, .int (nI (u 1)), .ref m41, .int s_atoms, .ref m42])), (m28, .inl (ax 0, 180000, .inl kp)), (m32, .inl (ax 0, 30000, .inl (fun j => nI (sf j)))), (m33, .inl (ax 0, 30000, .inl (fun j => nI (wt j)))), (m34, .inl (ax 0, 30000, .inl (fun j => nI (wf j)))), (m40, .inl (ax 0, 11, .inl xav)), (m35, .inl (ax 0, 20000, .inl (fun j => nI (xpa j)))), (m36, .inl (ax 0, 20000, .inl (fun j => nI (xpr j)))), (m37, .inl (ax 3, 20000, .inl (fun j => nI (xptr j)))), (m38, .inl (ax 0, 121, .inl xbd)), (m39, .inl (ax 3, 121, .inl xib))]) (ixn [0, (u_7 0)]) x_11 x_12 x_13 x_14 x_15 x_23) hP hD [7, 0, 1, 2, 3, 8, 4, 5, 6, 9, 10] (by decide) rfl
          have hex0 : pqQ8 (sgl kp (6 * fr) q) r9 x_23 (0) := (pqQ8_s hx_17 (by first | assumption | omega) (slE8 hx_24 (by first | assumption | omega)))
          have hsp0 : 0 ≤ 1 := (by first | assumption | omega)
          have hsp1 : (u_7 0) ≤ 1 := (by first | assumption | omega)
          exact W.zret (v := 0) hx hb hr rfl (fun t ht hW => ⟨⟨0, ixn [0, (u_7 0)], rfl, ⟨rfl, ⟨hsp0, hsp1⟩⟩, ⟨x_11, x_12, x_13, x_14, x_15, x_23, hex0, by rw [ht]; exact hP9, hD9⟩⟩, hS.F ht⟩) hS.2.2 d_Model_isPossible_55
        · replace c_25 : ¬ u_19 0 = 0 := fun hq9 => c_25 ((nI_eq (a := u_19 0) (b := 0) (by first | exact Nat.lt_of_lt_of_le (by assumption) (by decide) | exact Nat.lt_of_le_of_lt (by assumption) (by decide) | omega) (by decide)).mpr hq9)
          refine lv_iconst (v := 1) hx hb d_Model_isPossible_50 (by decide) ?_
          refine lv_goto (tgt := 55) hx hb d_Model_isPossible_51 (by decide) ?_
          rw [← hQe]
          obtain ⟨hP9, hD9⟩ := xw_sub2 (wc := (fun (u : Nat → Nat) (xpa : Nat → Nat) (xpr : Nat → Nat) (xptr : Nat → Nat) (xbd : Nat → Int32) (xib : Nat → Int32) (xav : Nat → Int32) => [(m0, .inr (11, [.int s_thrown, .int s_taped, .ref m1, .int s_size, .int s_outSize, .ref m2, .int s_kind, .int s_value, .int s_begin, .int s_end, .int s_failed, .ref m3, .ref m4, .ref m5, .int s_isProgram, .int s_half, .ref m6, .ref m7, .ref m8, .ref m9, .ref m10, .ref m11, .ref m12, .ref m13, .ref m14, .ref m15, .ref m16, .ref m17, .ref m18, .ref m19, .ref m20, .int s_signs, .ref m21, .int s_stacked, .ref m22, .int s_name, .int s_shift, .int s_statements, .int s_ifs, .int s_whiles, .int s_variants, .int s_open, .ref m23, .int s_isMade, .int s_conditions, .ref m24, .ref m25, .ref m26, .ref m27, .int s_kept, .ref m28, .int s_tops, .ref m29, .int s_used, .ref m30, .ref m31, .int s_looked, .int s_rows, .int s_firstRow, .ref m32, .ref m33, .ref m34, .ref m35, .ref m36, .ref m37, .ref m38, .ref m39, .ref m40, .int (nI (u 1)), .ref m41, .int s_atoms, .ref m42])), (m28, .inl (ax 0, 180000, .inl kp)), (m32, .inl (ax 0, 30000, .inl (fun j => nI (sf j)))), (m33, .inl (ax 0, 30000, .inl (fun j => nI (wt j)))), (m34, .inl (ax 0, 30000, .inl (fun j => nI (wf j)))), (m40, .inl (ax 0, 11, .inl xav)), (m35, .inl (ax 0, 20000, .inl (fun j => nI (xpa j)))), (m36, .inl (ax 0, 20000, .inl (fun j => nI (xpr j)))), (m37, .inl (ax 3, 20000, .inl (fun j => nI (xptr j)))), (m38, .inl (ax 0, 121, .inl xbd)), (m39, .inl (ax 3, 121, .inl xib))]) (ixn [1, (u_7 0)]) x_11 x_12 x_13 x_14 x_15 x_23) hP hD [7, 0, 1, 2, 3, 8, 4, 5, 6, 9, 10] (by decide) rfl
          have hex0 : pqQ8 (sgl kp (6 * fr) q) r9 x_23 (1) := (pqQ8_s hx_17 (by first | assumption | omega) (slE8 hx_24 (by first | assumption | omega)))
          have hsp0 : 1 ≤ 1 := (by first | assumption | omega)
          have hsp1 : (u_7 0) ≤ 1 := (by first | assumption | omega)
          exact W.zret (v := 1) hx hb hr rfl (fun t ht hW => ⟨⟨1, ixn [1, (u_7 0)], rfl, ⟨rfl, ⟨hsp0, hsp1⟩⟩, ⟨x_11, x_12, x_13, x_14, x_15, x_23, hex0, by rw [ht]; exact hP9, hD9⟩⟩, hS.F ht⟩) hS.2.2 d_Model_isPossible_55
    · replace c_5 : ¬ 121 ≤ i1 := fun hq9 => c_5 ((nI_leI (a := 121) (b := i1) (by decide) (by first | exact Nat.lt_of_lt_of_le (by assumption) (by decide) | exact Nat.lt_of_le_of_lt (by assumption) (by decide) | omega)).mpr hq9)
      refine lv_aload_n hx hb d_Model_isPossible_10 rfl (lv_at hl1 0 rfl) ?_
      refine va_get (D := D) (ci := 11) (v := .ref m39) (C := R_Model) (T := F_Model) (N := 72) hx hb hts i_Model hown hK.1 hP 0 rfl rfl 66 (by decide) (hts _ wd_1102) (fun _ h9 => h9) rfl d_Model_isPossible_11 ?_
      refine lv_iload hx hb d_Model_isPossible_14 (lv_at hl1 4 rfl) ?_
      refine lv_iconst (v := 0) hx hb d_Model_isPossible_16 (by decide) ?_
      refine va_zast hx hb hK.1 hP hD hS 10 3 rfl rfl (vp_in_nI (by first | assumption | omega) (by decide)) d_Model_isPossible_17 (fun H_26 locs hP1 hD1 hS1 => ?_)
      rw [nI_clamp (by first | exact Nat.lt_of_lt_of_le (by assumption) (by decide) | exact Nat.lt_of_le_of_lt (by assumption) (by decide) | omega)] at hP1 hD1
      clear hP hD hS
      have hS := hS1
      have hW7 : (fun w9 : va_W => va_P D classes w9 H_26 ∧ va_D A w9) [(m0, .inr (11, [.int s_thrown, .int s_taped, .ref m1, .int s_size, .int s_outSize, .ref m2, .int s_kind, .int s_value, .int s_begin, .int s_end, .int s_failed, .ref m3, .ref m4, .ref m5, .int s_isProgram, .int s_half, .ref m6, .ref m7, .ref m8, .ref m9, .ref m10, .ref m11, .ref m12, .ref m13, .ref m14, .ref m15, .ref m16, .ref m17, .ref m18, .ref m19, .ref m20, .int s_signs, .ref m21, .int s_stacked, .ref m22, .int s_name, .int s_shift, .int s_statements, .int s_ifs, .int s_whiles, .int s_variants, .int s_open, .ref m23, .int s_isMade, .int s_conditions, .ref m24, .ref m25, .ref m26, .ref m27, .int s_kept, .ref m28, .int s_tops, .ref m29, .int s_used, .ref m30, .ref m31, .int s_looked, .int s_rows, .int s_firstRow, .ref m32, .ref m33, .ref m34, .ref m35, .ref m36, .ref m37, .ref m38, .ref m39, .ref m40, .int s_isBroken, .ref m41, .int s_atoms, .ref m42])), (m28, .inl (ax 0, 180000, .inl kp)), (m32, .inl (ax 0, 30000, .inl (fun j => nI (sf j)))), (m33, .inl (ax 0, 30000, .inl (fun j => nI (wt j)))), (m34, .inl (ax 0, 30000, .inl (fun j => nI (wf j)))), (m40, .inl (ax 0, 11, .inl av)), (m35, .inl (ax 0, 20000, .inl (fun j => nI (pa j)))), (m36, .inl (ax 0, 20000, .inl (fun j => nI (pr j)))), (m37, .inl (ax 3, 20000, .inl (fun j => nI (ptr j)))), (m38, .inl (ax 0, 121, .inl bd)), (m39, .inl (ax 3, 121, .inl (upd ib1 i1 0)))] := ⟨hP1, hD1⟩
      obtain ⟨hP, hD⟩ := hW7
      clear hP1 hD1 hS1
      refine lv_iinc (v := nI (i1 + 1)) (lv' := [(4, .int (nI (i1 + 1))), (0, .ref m0), (1, .int (nI fr)), (2, .int (nI q)), (3, .int (nI r9))]) hx hb d_Model_isPossible_18 hl1 (k := 4) rfl (nI_add i1 1) (by decide) rfl (fun ls hl2 => ?_)
      clear hl1; have hl1 := hl2; clear hl2
      refine lv_goto (tgt := 3) hx hb d_Model_isPossible_21 (by decide) ?_
      exact ih_3 (i1 + 1) (upd ib1 i1 0) (by first | assumption | omega) (by first | assumption | omega) hz1.step _ _ _ (hP.sub [0, 1, 2, 3, 4, 5, 6, 7, 8, 9, 10] rfl) (hD.sub [0, 1, 2, 3, 4, 5, 6, 7, 8, 9, 10] (by decide) rfl) hS (lv_sub hl1 [1, 2, 3, 4, 0] rfl)
