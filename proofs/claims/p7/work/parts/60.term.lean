theorem ps_61 : Cond.selects "TripleDeskModel" ⟨"TripleDeskModel", "must", "(Z)V"⟩ ⟨"TripleDeskModel", "must", "(Z)V"⟩ ∈ lw_gd := ps_in (q := (⟨"TripleDeskModel", "must", "(Z)V"⟩, 72)) (i := 61) (by decide +kernel)
theorem wd_1071 : ((Jvm.Cond.fieldLink "TripleDeskModel" (206 : Nat) "TripleDeskModel" "name" "I")) ∈ lw_gd := lw_gd_in (i := 1071) (by decide +kernel) rfl
theorem wd_1072 : ((Jvm.Cond.fieldLink "TripleDeskModel" (209 : Nat) "TripleDeskModel" "shift" "I")) ∈ lw_gd := lw_gd_in (i := 1072) (by decide +kernel) rfl
theorem wd_1332 : ((Jvm.Cond.methodLink "TripleDeskModel" (215 : Nat) ({ cls := "TripleDeskModel", name := "must", desc := "(Z)V" } : Jvm.MethodName))) ∈ lw_gd := lw_gd_in (i := 1332) (by decide +kernel) rfl
theorem wd_1334 : ((Jvm.Cond.instanceMethod ({ cls := "TripleDeskModel", name := "must", desc := "(Z)V" } : Jvm.MethodName))) ∈ lw_gd := lw_gd_in (i := 1334) (by decide +kernel) rfl
theorem wd_1335 : ((Jvm.Cond.code ({ cls := "TripleDeskModel", name := "must", desc := "(Z)V" } : Jvm.MethodName) prog_13_method_15_code (2 : Nat) (Option.none : Option Jvm.ClassFile.FieldType))) ∈ lw_gd := lw_gd_in (i := 1335) (by decide +kernel) rfl
abbrev b_Model_term : ByteArray := prog_13_method_16_code
def y_Model_term : MethodName := ⟨R_Model, "term", "(Z)V"⟩
theorem d_Model_term_0 : decode b_Model_term 0 = .ok (.aload_n 0, 1) := by decide +kernel
theorem d_Model_term_1 : decode b_Model_term 1 = .ok (.iconst (-1), 1) := by decide +kernel
theorem d_Model_term_2 : decode b_Model_term 2 = .ok (.putfield 206, 3) := by decide +kernel
theorem d_Model_term_5 : decode b_Model_term 5 = .ok (.aload_n 0, 1) := by decide +kernel
theorem d_Model_term_6 : decode b_Model_term 6 = .ok (.iconst 0, 1) := by decide +kernel
theorem d_Model_term_7 : decode b_Model_term 7 = .ok (.putfield 209, 3) := by decide +kernel
theorem d_Model_term_10 : decode b_Model_term 10 = .ok (.aload_n 0, 1) := by decide +kernel
theorem d_Model_term_11 : decode b_Model_term 11 = .ok (.getfield 178, 3) := by decide +kernel
theorem d_Model_term_14 : decode b_Model_term 14 = .ok (.iconst 2, 1) := by decide +kernel
theorem d_Model_term_15 : decode b_Model_term 15 = .ok (.if_icmp .ne 95, 3) := by decide +kernel
theorem d_Model_term_18 : decode b_Model_term 18 = .ok (.aload_n 0, 1) := by decide +kernel
theorem d_Model_term_19 : decode b_Model_term 19 = .ok (.getfield 181, 3) := by decide +kernel
theorem d_Model_term_22 : decode b_Model_term 22 = .ok (.bipush 6, 2) := by decide +kernel
theorem d_Model_term_24 : decode b_Model_term 24 = .ok (.if_icmp .lt 7, 3) := by decide +kernel
theorem d_Model_term_27 : decode b_Model_term 27 = .ok (.iload_n 1, 1) := by decide +kernel
theorem d_Model_term_28 : decode b_Model_term 28 = .ok (.ifCond .eq 82, 3) := by decide +kernel
theorem d_Model_term_31 : decode b_Model_term 31 = .ok (.aload_n 0, 1) := by decide +kernel
theorem d_Model_term_32 : decode b_Model_term 32 = .ok (.aload_n 0, 1) := by decide +kernel
theorem d_Model_term_33 : decode b_Model_term 33 = .ok (.getfield 181, 3) := by decide +kernel
theorem d_Model_term_36 : decode b_Model_term 36 = .ok (.putfield 206, 3) := by decide +kernel
theorem d_Model_term_39 : decode b_Model_term 39 = .ok (.aload_n 0, 1) := by decide +kernel
theorem d_Model_term_40 : decode b_Model_term 40 = .ok (.invokevirtual 203, 3) := by decide +kernel
theorem d_Model_term_43 : decode b_Model_term 43 = .ok (.aload_n 0, 1) := by decide +kernel
theorem d_Model_term_44 : decode b_Model_term 44 = .ok (.bipush 43, 2) := by decide +kernel
theorem d_Model_term_46 : decode b_Model_term 46 = .ok (.invokevirtual 212, 3) := by decide +kernel
theorem d_Model_term_49 : decode b_Model_term 49 = .ok (.ifCond .ne 12, 3) := by decide +kernel
theorem d_Model_term_52 : decode b_Model_term 52 = .ok (.aload_n 0, 1) := by decide +kernel
theorem d_Model_term_53 : decode b_Model_term 53 = .ok (.bipush 45, 2) := by decide +kernel
theorem d_Model_term_55 : decode b_Model_term 55 = .ok (.invokevirtual 212, 3) := by decide +kernel
theorem d_Model_term_58 : decode b_Model_term 58 = .ok (.ifCond .eq 51, 3) := by decide +kernel
theorem d_Model_term_61 : decode b_Model_term 61 = .ok (.aload_n 0, 1) := by decide +kernel
theorem d_Model_term_62 : decode b_Model_term 62 = .ok (.bipush 45, 2) := by decide +kernel
theorem d_Model_term_64 : decode b_Model_term 64 = .ok (.invokevirtual 212, 3) := by decide +kernel
theorem d_Model_term_67 : decode b_Model_term 67 = .ok (.istore_n 2, 1) := by decide +kernel
theorem d_Model_term_68 : decode b_Model_term 68 = .ok (.aload_n 0, 1) := by decide +kernel
theorem d_Model_term_69 : decode b_Model_term 69 = .ok (.invokevirtual 203, 3) := by decide +kernel
theorem d_Model_term_72 : decode b_Model_term 72 = .ok (.aload_n 0, 1) := by decide +kernel
theorem d_Model_term_73 : decode b_Model_term 73 = .ok (.iload_n 2, 1) := by decide +kernel
theorem d_Model_term_74 : decode b_Model_term 74 = .ok (.ifCond .eq 11, 3) := by decide +kernel
theorem d_Model_term_77 : decode b_Model_term 77 = .ok (.aload_n 0, 1) := by decide +kernel
theorem d_Model_term_78 : decode b_Model_term 78 = .ok (.getfield 181, 3) := by decide +kernel
theorem d_Model_term_81 : decode b_Model_term 81 = .ok (.ineg, 1) := by decide +kernel
theorem d_Model_term_82 : decode b_Model_term 82 = .ok (.goto 7, 3) := by decide +kernel
theorem d_Model_term_85 : decode b_Model_term 85 = .ok (.aload_n 0, 1) := by decide +kernel
theorem d_Model_term_86 : decode b_Model_term 86 = .ok (.getfield 181, 3) := by decide +kernel
theorem d_Model_term_89 : decode b_Model_term 89 = .ok (.putfield 209, 3) := by decide +kernel
theorem d_Model_term_92 : decode b_Model_term 92 = .ok (.aload_n 0, 1) := by decide +kernel
theorem d_Model_term_93 : decode b_Model_term 93 = .ok (.aload_n 0, 1) := by decide +kernel
theorem d_Model_term_94 : decode b_Model_term 94 = .ok (.getfield 178, 3) := by decide +kernel
theorem d_Model_term_97 : decode b_Model_term 97 = .ok (.iconst 3, 1) := by decide +kernel
theorem d_Model_term_98 : decode b_Model_term 98 = .ok (.if_icmp .ne 7, 3) := by decide +kernel
theorem d_Model_term_101 : decode b_Model_term 101 = .ok (.iconst 1, 1) := by decide +kernel
theorem d_Model_term_102 : decode b_Model_term 102 = .ok (.goto 4, 3) := by decide +kernel
theorem d_Model_term_105 : decode b_Model_term 105 = .ok (.iconst 0, 1) := by decide +kernel
theorem d_Model_term_106 : decode b_Model_term 106 = .ok (.invokevirtual 215, 3) := by decide +kernel
theorem d_Model_term_109 : decode b_Model_term 109 = .ok (.return_, 1) := by decide +kernel
theorem d_Model_term_110 : decode b_Model_term 110 = .ok (.aload_n 0, 1) := by decide +kernel
theorem d_Model_term_111 : decode b_Model_term 111 = .ok (.bipush 45, 2) := by decide +kernel
theorem d_Model_term_113 : decode b_Model_term 113 = .ok (.invokevirtual 212, 3) := by decide +kernel
theorem d_Model_term_116 : decode b_Model_term 116 = .ok (.istore_n 2, 1) := by decide +kernel
theorem d_Model_term_117 : decode b_Model_term 117 = .ok (.iload_n 2, 1) := by decide +kernel
theorem d_Model_term_118 : decode b_Model_term 118 = .ok (.ifCond .eq 7, 3) := by decide +kernel
theorem d_Model_term_121 : decode b_Model_term 121 = .ok (.aload_n 0, 1) := by decide +kernel
theorem d_Model_term_122 : decode b_Model_term 122 = .ok (.invokevirtual 203, 3) := by decide +kernel
theorem d_Model_term_125 : decode b_Model_term 125 = .ok (.aload_n 0, 1) := by decide +kernel
theorem d_Model_term_126 : decode b_Model_term 126 = .ok (.iload_n 2, 1) := by decide +kernel
theorem d_Model_term_127 : decode b_Model_term 127 = .ok (.ifCond .eq 11, 3) := by decide +kernel
theorem d_Model_term_130 : decode b_Model_term 130 = .ok (.aload_n 0, 1) := by decide +kernel
theorem d_Model_term_131 : decode b_Model_term 131 = .ok (.getfield 181, 3) := by decide +kernel
theorem d_Model_term_134 : decode b_Model_term 134 = .ok (.ineg, 1) := by decide +kernel
theorem d_Model_term_135 : decode b_Model_term 135 = .ok (.goto 7, 3) := by decide +kernel
theorem d_Model_term_138 : decode b_Model_term 138 = .ok (.aload_n 0, 1) := by decide +kernel
theorem d_Model_term_139 : decode b_Model_term 139 = .ok (.getfield 181, 3) := by decide +kernel
theorem d_Model_term_142 : decode b_Model_term 142 = .ok (.putfield 209, 3) := by decide +kernel
theorem d_Model_term_145 : decode b_Model_term 145 = .ok (.aload_n 0, 1) := by decide +kernel
theorem d_Model_term_146 : decode b_Model_term 146 = .ok (.aload_n 0, 1) := by decide +kernel
theorem d_Model_term_147 : decode b_Model_term 147 = .ok (.getfield 178, 3) := by decide +kernel
theorem d_Model_term_150 : decode b_Model_term 150 = .ok (.iconst 3, 1) := by decide +kernel
theorem d_Model_term_151 : decode b_Model_term 151 = .ok (.if_icmp .ne 7, 3) := by decide +kernel
theorem d_Model_term_154 : decode b_Model_term 154 = .ok (.iconst 1, 1) := by decide +kernel
theorem d_Model_term_155 : decode b_Model_term 155 = .ok (.goto 4, 3) := by decide +kernel
theorem d_Model_term_158 : decode b_Model_term 158 = .ok (.iconst 0, 1) := by decide +kernel
theorem d_Model_term_159 : decode b_Model_term 159 = .ok (.invokevirtual 215, 3) := by decide +kernel
theorem d_Model_term_162 : decode b_Model_term 162 = .ok (.return_, 1) := by decide +kernel
set_option maxHeartbeats 40000000 in
set_option maxRecDepth 100000 in
theorem c_M_term (l : Launch) (D : va_G) (ax : Nat → ClassId) (m0 m1 m2 m3 m4 m5 m6 m7 m8 m9 m10 m11 m12 m13 m14 m15 m16 m17 m18 m19 m20 m21 m22 m23 m24 m25 m26 m27 m28 m29 m30 m31 m32 m33 m34 m35 m36 m37 m38 m39 m40 m41 m42 : Nat) (s_thrown s_taped s_outSize s_isProgram s_half s_signs s_stacked s_name s_shift s_statements s_ifs s_whiles s_variants s_open s_isMade s_conditions s_kept s_tops s_used s_looked s_rows s_firstRow s_isBroken s_atoms : Int32) (n b en k v : Nat) (g : Nat → Nat) (gh : Nat) (sz : Nat) (hn : n ≤ 400) (hg : ∀ j, g j < 256) (hbe : b ≤ en) (hen : en ≤ n) (hk0 : tk0 k b en) (hk : k < 10000) (hv : v < 20000) (hkv : tkq g n b en k v) (hgh : gh ≤ 1) : Met l y_Model_term (xws (.code y_Model_term b_Model_term 3 none)) ({ frames := 50, cells := 0, slots := 0, locals := 2000 }) (va_Pc [.ref m0, .int (nI gh)] (xo D ax [(m0, .inr (11, [.int s_thrown, .int s_taped, .ref m1, .int (nI n), .int s_outSize, .ref m2, .int (nI k), .int (nI v), .int (nI b), .int (nI en), .int 0, .ref m3, .ref m4, .ref m5, .int s_isProgram, .int s_half, .ref m6, .ref m7, .ref m8, .ref m9, .ref m10, .ref m11, .ref m12, .ref m13, .ref m14, .ref m15, .ref m16, .ref m17, .ref m18, .ref m19, .ref m20, .int s_signs, .ref m21, .int s_stacked, .ref m22, .int s_name, .int s_shift, .int s_statements, .int s_ifs, .int s_whiles, .int s_variants, .int s_open, .ref m23, .int s_isMade, .int s_conditions, .ref m24, .ref m25, .ref m26, .ref m27, .int s_kept, .ref m28, .int s_tops, .ref m29, .int s_used, .ref m30, .ref m31, .int s_looked, .int s_rows, .int s_firstRow, .ref m32, .ref m33, .ref m34, .ref m35, .ref m36, .ref m37, .ref m38, .ref m39, .ref m40, .int s_isBroken, .ref m41, .int s_atoms, .ref m42])), (m1, .inl (ax 0, 400, .inl (fun j => nI (g j))))] sz)) ((va_Qv (fun (u : Nat → Nat) => (b ≤ u 0 ∧ u 0 ≤ u 1 ∧ u 1 ≤ n ∧ tk0 (u 2) (u 0) (u 1) ∧ u 2 < 10000 ∧ u 3 < 20000 ∧ tkq g n (u 0) (u 1) (u 2) (u 3) ∧ u 4 ≤ 1 ∧ imp0 (u 4) (b < u 0) ∧ trmG (kd g n) (nxt g n) gh b = (u 4, u 0))) (fun (u : Nat → Nat) (t9 : State) => ∃ xnm : Int32, ∃ xsh : Int32, (nmo (6 + 4 * gh) xnm) ∧ (imp0 (u 4) (tmQ xnm xsh (trmV (kd g n) (nxt g n) (kv g n) gh b))) ∧ va_P D classes [(m0, .inr (11, [.int s_thrown, .int s_taped, .ref m1, .int (nI n), .int s_outSize, .ref m2, .int (nI (u 2)), .int (nI (u 3)), .int (nI (u 0)), .int (nI (u 1)), .int (nI (u 4)), .ref m3, .ref m4, .ref m5, .int s_isProgram, .int s_half, .ref m6, .ref m7, .ref m8, .ref m9, .ref m10, .ref m11, .ref m12, .ref m13, .ref m14, .ref m15, .ref m16, .ref m17, .ref m18, .ref m19, .ref m20, .int s_signs, .ref m21, .int s_stacked, .ref m22, .int xnm, .int xsh, .int s_statements, .int s_ifs, .int s_whiles, .int s_variants, .int s_open, .ref m23, .int s_isMade, .int s_conditions, .ref m24, .ref m25, .ref m26, .ref m27, .int s_kept, .ref m28, .int s_tops, .ref m29, .int s_used, .ref m30, .ref m31, .int s_looked, .int s_rows, .int s_firstRow, .ref m32, .ref m33, .ref m34, .ref m35, .ref m36, .ref m37, .ref m38, .ref m39, .ref m40, .int s_isBroken, .ref m41, .int s_atoms, .ref m42])), (m1, .inl (ax 0, 400, .inl (fun j => nI (g j))))] t9.heap ∧ va_D (va_A [(m0, .inr (11, [.int s_thrown, .int s_taped, .ref m1, .int (nI n), .int s_outSize, .ref m2, .int (nI k), .int (nI v), .int (nI b), .int (nI en), .int 0, .ref m3, .ref m4, .ref m5, .int s_isProgram, .int s_half, .ref m6, .ref m7, .ref m8, .ref m9, .ref m10, .ref m11, .ref m12, .ref m13, .ref m14, .ref m15, .ref m16, .ref m17, .ref m18, .ref m19, .ref m20, .int s_signs, .ref m21, .int s_stacked, .ref m22, .int s_name, .int s_shift, .int s_statements, .int s_ifs, .int s_whiles, .int s_variants, .int s_open, .ref m23, .int s_isMade, .int s_conditions, .ref m24, .ref m25, .ref m26, .ref m27, .int s_kept, .ref m28, .int s_tops, .ref m29, .int s_used, .ref m30, .ref m31, .int s_looked, .int s_rows, .int s_firstRow, .ref m32, .ref m33, .ref m34, .ref m35, .ref m36, .ref m37, .ref m38, .ref m39, .ref m40, .int s_isBroken, .ref m41, .int s_atoms, .ref m42])), (m1, .inl (ax 0, 400, .inl (fun j => nI (g j))))] sz) [(m0, .inr (11, [.int s_thrown, .int s_taped, .ref m1, .int (nI n), .int s_outSize, .ref m2, .int (nI (u 2)), .int (nI (u 3)), .int (nI (u 0)), .int (nI (u 1)), .int (nI (u 4)), .ref m3, .ref m4, .ref m5, .int s_isProgram, .int s_half, .ref m6, .ref m7, .ref m8, .ref m9, .ref m10, .ref m11, .ref m12, .ref m13, .ref m14, .ref m15, .ref m16, .ref m17, .ref m18, .ref m19, .ref m20, .int s_signs, .ref m21, .int s_stacked, .ref m22, .int xnm, .int xsh, .int s_statements, .int s_ifs, .int s_whiles, .int s_variants, .int s_open, .ref m23, .int s_isMade, .int s_conditions, .ref m24, .ref m25, .ref m26, .ref m27, .int s_kept, .ref m28, .int s_tops, .ref m29, .int s_used, .ref m30, .ref m31, .int s_looked, .int s_rows, .int s_firstRow, .ref m32, .ref m33, .ref m34, .ref m35, .ref m36, .ref m37, .ref m38, .ref m39, .ref m40, .int s_isBroken, .ref m41, .int s_atoms, .ref m42])), (m1, .inl (ax 0, 400, .inl (fun j => nI (g j))))]) (va_A [(m0, .inr (11, [.int s_thrown, .int s_taped, .ref m1, .int (nI n), .int s_outSize, .ref m2, .int (nI k), .int (nI v), .int (nI b), .int (nI en), .int 0, .ref m3, .ref m4, .ref m5, .int s_isProgram, .int s_half, .ref m6, .ref m7, .ref m8, .ref m9, .ref m10, .ref m11, .ref m12, .ref m13, .ref m14, .ref m15, .ref m16, .ref m17, .ref m18, .ref m19, .ref m20, .int s_signs, .ref m21, .int s_stacked, .ref m22, .int s_name, .int s_shift, .int s_statements, .int s_ifs, .int s_whiles, .int s_variants, .int s_open, .ref m23, .int s_isMade, .int s_conditions, .ref m24, .ref m25, .ref m26, .ref m27, .int s_kept, .ref m28, .int s_tops, .ref m29, .int s_used, .ref m30, .ref m31, .int s_looked, .int s_rows, .int s_firstRow, .ref m32, .ref m33, .ref m34, .ref m35, .ref m36, .ref m37, .ref m38, .ref m39, .ref m40, .int s_isBroken, .ref m41, .int s_atoms, .ref m42])), (m1, .inl (ax 0, 400, .inl (fun j => nI (g j))))] sz))) 0 0 (va_A [(m0, .inr (11, [.int s_thrown, .int s_taped, .ref m1, .int (nI n), .int s_outSize, .ref m2, .int (nI k), .int (nI v), .int (nI b), .int (nI en), .int 0, .ref m3, .ref m4, .ref m5, .int s_isProgram, .int s_half, .ref m6, .ref m7, .ref m8, .ref m9, .ref m10, .ref m11, .ref m12, .ref m13, .ref m14, .ref m15, .ref m16, .ref m17, .ref m18, .ref m19, .ref m20, .int s_signs, .ref m21, .int s_stacked, .ref m22, .int s_name, .int s_shift, .int s_statements, .int s_ifs, .int s_whiles, .int s_variants, .int s_open, .ref m23, .int s_isMade, .int s_conditions, .ref m24, .ref m25, .ref m26, .ref m27, .int s_kept, .ref m28, .int s_tops, .ref m29, .int s_used, .ref m30, .ref m31, .int s_looked, .int s_rows, .int s_firstRow, .ref m32, .ref m33, .ref m34, .ref m35, .ref m36, .ref m37, .ref m38, .ref m39, .ref m40, .int s_isBroken, .ref m41, .int s_atoms, .ref m42])), (m1, .inl (ax 0, 400, .inl (fun j => nI (g j))))] sz) := by
  refine Met.ofW (cc := b_Model_term) (maxL := 3) (ret := none) (by decide) rfl ?_
  intro p e s m args below meth c s₁ B hml hv
  obtain ⟨rfl, hsz, hP, hK, hD0⟩ := hv
  have hx := B.exec
  have hb := B.bytes
  have hr := B.returns
  have hts := xw_hts B.pre
  have hown : s.vm.findClass R_Model = some m.cls := findClass_of_methodNamed B.named
  have hlocks := B.notSynchronized
  subst hsz
  have hD := hD0.self (sz := s.heap.size)
  have hN := xz_entry hP
  generalize hAe : va_A [(m0, .inr (11, [.int s_thrown, .int s_taped, .ref m1, .int (nI n), .int s_outSize, .ref m2, .int (nI k), .int (nI v), .int (nI b), .int (nI en), .int 0, .ref m3, .ref m4, .ref m5, .int s_isProgram, .int s_half, .ref m6, .ref m7, .ref m8, .ref m9, .ref m10, .ref m11, .ref m12, .ref m13, .ref m14, .ref m15, .ref m16, .ref m17, .ref m18, .ref m19, .ref m20, .int s_signs, .ref m21, .int s_stacked, .ref m22, .int s_name, .int s_shift, .int s_statements, .int s_ifs, .int s_whiles, .int s_variants, .int s_open, .ref m23, .int s_isMade, .int s_conditions, .ref m24, .ref m25, .ref m26, .ref m27, .int s_kept, .ref m28, .int s_tops, .ref m29, .int s_used, .ref m30, .ref m31, .int s_looked, .int s_rows, .int s_firstRow, .ref m32, .ref m33, .ref m34, .ref m35, .ref m36, .ref m37, .ref m38, .ref m39, .ref m40, .int s_isBroken, .ref m41, .int s_atoms, .ref m42])), (m1, .inl (ax 0, 400, .inl (fun j => nI (g j))))] s.heap.size = A at hD hN ⊢
  have hA : ∀ q : Nat, s.heap.size ≤ q → A q := fun q h => by rw [← hAe]; exact Or.inr h
  have hS : va_S A s.heap s.heap [] := va_S.rf
  have hl0 := lv_entry ([.ref m0, .int (nI gh)]) (n := 3) (Nat.le_of_ble_eq_true rfl)
  rw [lg_entry_eq]
  generalize (lg_sl ([.ref m0, .int (nI gh)]) ++ List.replicate (3 - (lg_sl ([.ref m0, .int (nI gh)])).length) Slot.unset).toArray = ls at hl0 ⊢
  have hl1 : lv_has ls 3 [(0, .ref m0), (1, .int (nI gh))] := hl0
  refine xw_gen (fun Z9 hQe => ?_)
  refine lv_aload_n hx hb d_Model_term_0 rfl (lv_at hl1 0 rfl) ?_
  refine lv_iconst (v := (-1)) hx hb d_Model_term_1 (by decide) ?_
  refine va_put (D := D) (ci := 11) (v := .int (-1)) (ty := .int) (C := R_Model) (T := F_Model) (N := 72) hx hb hts i_Model t_Model t_Model_ok n_Model hown hK.1 hP hD hS 0 rfl rfl 35 (by decide) (hts _ wd_1071) (fun _ h9 => h9) rfl (by decide +kernel) rfl rfl (Nat.le_of_ble_eq_true rfl) d_Model_term_2 (fun H_1 locs hP1 hD1 hS1 => ?_)
  clear hP hD hS
  have hS := hS1
  have hW7 : (fun w9 : va_W => va_P D classes w9 H_1 ∧ va_D A w9) [(m0, .inr (11, [.int s_thrown, .int s_taped, .ref m1, .int (nI n), .int s_outSize, .ref m2, .int (nI k), .int (nI v), .int (nI b), .int (nI en), .int 0, .ref m3, .ref m4, .ref m5, .int s_isProgram, .int s_half, .ref m6, .ref m7, .ref m8, .ref m9, .ref m10, .ref m11, .ref m12, .ref m13, .ref m14, .ref m15, .ref m16, .ref m17, .ref m18, .ref m19, .ref m20, .int s_signs, .ref m21, .int s_stacked, .ref m22, .int (-1), .int s_shift, .int s_statements, .int s_ifs, .int s_whiles, .int s_variants, .int s_open, .ref m23, .int s_isMade, .int s_conditions, .ref m24, .ref m25, .ref m26, .ref m27, .int s_kept, .ref m28, .int s_tops, .ref m29, .int s_used, .ref m30, .ref m31, .int s_looked, .int s_rows, .int s_firstRow, .ref m32, .ref m33, .ref m34, .ref m35, .ref m36, .ref m37, .ref m38, .ref m39, .ref m40, .int s_isBroken, .ref m41, .int s_atoms, .ref m42])), (m1, .inl (ax 0, 400, .inl (fun j => nI (g j))))] := ⟨hP1, hD1⟩
  obtain ⟨hP, hD⟩ := hW7
  clear hP1 hD1 hS1
  refine lv_aload_n hx hb d_Model_term_5 rfl (lv_at hl1 0 rfl) ?_
  refine lv_iconst (v := 0) hx hb d_Model_term_6 (by decide) ?_
  refine va_put (D := D) (ci := 11) (v := .int 0) (ty := .int) (C := R_Model) (T := F_Model) (N := 72) hx hb hts i_Model t_Model t_Model_ok n_Model hown hK.1 hP hD hS 0 rfl rfl 36 (by decide) (hts _ wd_1072) (fun _ h9 => h9) rfl (by decide +kernel) rfl rfl (Nat.le_of_ble_eq_true rfl) d_Model_term_7 (fun H_2 locs hP1 hD1 hS1 => ?_)
  clear hP hD hS
  have hS := hS1
  have hW7 : (fun w9 : va_W => va_P D classes w9 H_2 ∧ va_D A w9) [(m0, .inr (11, [.int s_thrown, .int s_taped, .ref m1, .int (nI n), .int s_outSize, .ref m2, .int (nI k), .int (nI v), .int (nI b), .int (nI en), .int 0, .ref m3, .ref m4, .ref m5, .int s_isProgram, .int s_half, .ref m6, .ref m7, .ref m8, .ref m9, .ref m10, .ref m11, .ref m12, .ref m13, .ref m14, .ref m15, .ref m16, .ref m17, .ref m18, .ref m19, .ref m20, .int s_signs, .ref m21, .int s_stacked, .ref m22, .int (-1), .int 0, .int s_statements, .int s_ifs, .int s_whiles, .int s_variants, .int s_open, .ref m23, .int s_isMade, .int s_conditions, .ref m24, .ref m25, .ref m26, .ref m27, .int s_kept, .ref m28, .int s_tops, .ref m29, .int s_used, .ref m30, .ref m31, .int s_looked, .int s_rows, .int s_firstRow, .ref m32, .ref m33, .ref m34, .ref m35, .ref m36, .ref m37, .ref m38, .ref m39, .ref m40, .int s_isBroken, .ref m41, .int s_atoms, .ref m42])), (m1, .inl (ax 0, 400, .inl (fun j => nI (g j))))] := ⟨hP1, hD1⟩
  obtain ⟨hP, hD⟩ := hW7
  clear hP1 hD1 hS1
  refine lv_aload_n hx hb d_Model_term_10 rfl (lv_at hl1 0 rfl) ?_
  refine va_get (D := D) (ci := 11) (v := .int (nI k)) (C := R_Model) (T := F_Model) (N := 72) hx hb hts i_Model hown hK.1 hP 0 rfl rfl 6 (by decide) (hts _ wd_1042) (fun _ h9 => h9) rfl d_Model_term_11 ?_
  refine lv_iconst (v := 2) hx hb d_Model_term_14 (by decide) ?_
  refine lv_icmp_ne (tgt := 110) hx hb d_Model_term_15 (by decide) (fun c_3 => ?_) (fun c_3 => ?_)
  · replace c_3 : ¬ k = 2 := fun hq9 => c_3 ((nI_eq (a := k) (b := 2) (by first | exact Nat.lt_of_lt_of_le (by assumption) (by decide) | exact Nat.lt_of_le_of_lt (by assumption) (by decide) | omega) (by decide)).mpr hq9)
    refine lv_aload_n hx hb d_Model_term_110 rfl (lv_at hl1 0 rfl) ?_
    refine lv_bipush (v := 45) hx hb d_Model_term_111 (by decide) ?_
    obtain ⟨hPc, hDc, hFc, hCs⟩ := xw_sub3 (wc := [(m0, .inr (11, [.int s_thrown, .int s_taped, .ref m1, .int (nI n), .int s_outSize, .ref m2, .int (nI k), .int (nI v), .int (nI b), .int (nI en), .int 0, .ref m3, .ref m4, .ref m5, .int s_isProgram, .int s_half, .ref m6, .ref m7, .ref m8, .ref m9, .ref m10, .ref m11, .ref m12, .ref m13, .ref m14, .ref m15, .ref m16, .ref m17, .ref m18, .ref m19, .ref m20, .int s_signs, .ref m21, .int s_stacked, .ref m22, .int (-1), .int 0, .int s_statements, .int s_ifs, .int s_whiles, .int s_variants, .int s_open, .ref m23, .int s_isMade, .int s_conditions, .ref m24, .ref m25, .ref m26, .ref m27, .int s_kept, .ref m28, .int s_tops, .ref m29, .int s_used, .ref m30, .ref m31, .int s_looked, .int s_rows, .int s_firstRow, .ref m32, .ref m33, .ref m34, .ref m35, .ref m36, .ref m37, .ref m38, .ref m39, .ref m40, .int s_isBroken, .ref m41, .int s_atoms, .ref m42]))]) hP hD hS hA [0] (by decide) rfl
    have hz := xz_of hN hS
    refine va_calli (va_runV (As := [.int 45]) (rest := []) ⟨hx, hb, hml, hown, hts⟩ (c_M_is l D ax m0 m1 m2 m3 m4 m5 m6 m7 m8 m9 m10 m11 m12 m13 m14 m15 m16 m17 m18 m19 m20 m21 m22 m23 m24 m25 m26 m27 m28 m29 m30 m31 m32 m33 m34 m35 m36 m37 m38 m39 m40 m41 m42 s_thrown s_taped (nI n) s_outSize (nI v) (nI b) (nI en) 0 s_isProgram s_half s_signs s_stacked (-1) 0 s_statements s_ifs s_whiles s_variants s_open s_isMade s_conditions s_kept s_tops s_used s_looked s_rows s_firstRow s_isBroken s_atoms k 45 H_2.size (by first | assumption | omega) (by first | assumption | omega)) (xcV (n := 1) hts wd_1319 wd_15 wd_1316 wd_1318 ps_57 rfl rfl (by decide +kernel) ⟨Nat.le_of_ble_eq_true rfl, Nat.le_of_ble_eq_true rfl⟩) (xpV (ci := 11) (q0 := 0) (As := [.int 45]) hPc hK hz hDc rfl rfl) rfl rfl hl1.1 rfl (lv_room (Nat.le_of_ble_eq_true rfl)) d_Model_term_113 ⟨Nat.le_of_ble_eq_true rfl, Nat.le_of_ble_eq_true rfl⟩) hS (fun q _ h => hFc q h) hFc (fun r_6 u_4 t H_5 locs ht hvm hw hB hz1 hk1 hS1 => ?_)
    try dsimp only at hw
    subst hw
    obtain ⟨hP1, hD1⟩ := hB
    rw [ht] at hP1
    have hjn := xw_join3 (wl := [(m1, .inl (ax 0, 400, .inl (fun j => nI (g j)))), (m0, .inr (11, [.int s_thrown, .int s_taped, .ref m1, .int (nI n), .int s_outSize, .ref m2, .int (nI k), .int (nI v), .int (nI b), .int (nI en), .int 0, .ref m3, .ref m4, .ref m5, .int s_isProgram, .int s_half, .ref m6, .ref m7, .ref m8, .ref m9, .ref m10, .ref m11, .ref m12, .ref m13, .ref m14, .ref m15, .ref m16, .ref m17, .ref m18, .ref m19, .ref m20, .int s_signs, .ref m21, .int s_stacked, .ref m22, .int (-1), .int 0, .int s_statements, .int s_ifs, .int s_whiles, .int s_variants, .int s_open, .ref m23, .int s_isMade, .int s_conditions, .ref m24, .ref m25, .ref m26, .ref m27, .int s_kept, .ref m28, .int s_tops, .ref m29, .int s_used, .ref m30, .ref m31, .int s_looked, .int s_rows, .int s_firstRow, .ref m32, .ref m33, .ref m34, .ref m35, .ref m36, .ref m37, .ref m38, .ref m39, .ref m40, .int s_isBroken, .ref m41, .int s_atoms, .ref m42]))]) hP hD [0] [1] hCs (by decide) (by decide) hk1 hFc hP1 hD1 rfl
    clear hP1 hD1
    clear hPc hDc hFc hCs hz hz1 hk1 ht hvm
    clear hP hD hS
    have hS := hS1
    obtain ⟨hP, hD⟩ := hjn
    clear hS1
    refine lv_istore_n (lv' := [(2, .int (zb (k = 200 + 45))), (0, .ref m0), (1, .int (nI gh))]) hx hb d_Model_term_116 rfl hl1 (by decide) rfl (fun ls hl2 => ?_)
    clear hl1; have hl1 := hl2; clear hl2
    refine lv_iload_n hx hb d_Model_term_117 rfl (lv_at hl1 0 rfl) ?_
    refine lv_if_eq (tgt := 125) hx hb d_Model_term_118 (by decide) (fun c_7 => ?_) (fun c_7 => ?_)
    · replace c_7 : ¬ (k = 200 + 45) := zb_n c_7
      refine lv_aload_n hx hb d_Model_term_125 rfl (lv_at hl1 1 rfl) ?_
      refine lv_iload_n hx hb d_Model_term_126 rfl (lv_at hl1 0 rfl) ?_
      refine lv_if_eq (tgt := 138) hx hb d_Model_term_127 (by decide) (fun c_8 => ?_) (fun c_8 => ?_)
      · replace c_8 : ¬ (k = 200 + 45) := zb_n c_8
        refine lv_aload_n hx hb d_Model_term_138 rfl (lv_at hl1 1 rfl) ?_
        refine va_get (D := D) (ci := 11) (v := .int (nI v)) (C := R_Model) (T := F_Model) (N := 72) hx hb hts i_Model hown hK.1 hP 1 rfl rfl 7 (by decide) (hts _ wd_1043) (fun _ h9 => h9) rfl d_Model_term_139 ?_
        refine va_put (D := D) (ci := 11) (v := .int (nI v)) (ty := .int) (C := R_Model) (T := F_Model) (N := 72) hx hb hts i_Model t_Model t_Model_ok n_Model hown hK.1 hP hD hS 1 rfl rfl 36 (by decide) (hts _ wd_1072) (fun _ h9 => h9) rfl (by decide +kernel) rfl rfl (Nat.le_of_ble_eq_true rfl) d_Model_term_142 (fun H_9 locs hP1 hD1 hS1 => ?_)
        clear hP hD hS
        have hS := hS1
        have hW7 : (fun w9 : va_W => va_P D classes w9 H_9 ∧ va_D A w9) [(m1, .inl (ax 0, 400, .inl (fun j => nI (g j)))), (m0, .inr (11, [.int s_thrown, .int s_taped, .ref m1, .int (nI n), .int s_outSize, .ref m2, .int (nI k), .int (nI v), .int (nI b), .int (nI en), .int 0, .ref m3, .ref m4, .ref m5, .int s_isProgram, .int s_half, .ref m6, .ref m7, .ref m8, .ref m9, .ref m10, .ref m11, .ref m12, .ref m13, .ref m14, .ref m15, .ref m16, .ref m17, .ref m18, .ref m19, .ref m20, .int s_signs, .ref m21, .int s_stacked, .ref m22, .int (-1), .int (nI v), .int s_statements, .int s_ifs, .int s_whiles, .int s_variants, .int s_open, .ref m23, .int s_isMade, .int s_conditions, .ref m24, .ref m25, .ref m26, .ref m27, .int s_kept, .ref m28, .int s_tops, .ref m29, .int s_used, .ref m30, .ref m31, .int s_looked, .int s_rows, .int s_firstRow, .ref m32, .ref m33, .ref m34, .ref m35, .ref m36, .ref m37, .ref m38, .ref m39, .ref m40, .int s_isBroken, .ref m41, .int s_atoms, .ref m42]))] := ⟨hP1, hD1⟩
        obtain ⟨hP, hD⟩ := hW7
        clear hP1 hD1 hS1
        refine lv_aload_n hx hb d_Model_term_145 rfl (lv_at hl1 1 rfl) ?_
        refine lv_aload_n hx hb d_Model_term_146 rfl (lv_at hl1 1 rfl) ?_
        refine va_get (D := D) (ci := 11) (v := .int (nI k)) (C := R_Model) (T := F_Model) (N := 72) hx hb hts i_Model hown hK.1 hP 1 rfl rfl 6 (by decide) (hts _ wd_1042) (fun _ h9 => h9) rfl d_Model_term_147 ?_
        refine lv_iconst (v := 3) hx hb d_Model_term_150 (by decide) ?_
        refine lv_icmp_ne (tgt := 158) hx hb d_Model_term_151 (by decide) (fun c_10 => ?_) (fun c_10 => ?_)
        · replace c_10 : ¬ k = 3 := fun hq9 => c_10 ((nI_eq (a := k) (b := 3) (by first | exact Nat.lt_of_lt_of_le (by assumption) (by decide) | exact Nat.lt_of_le_of_lt (by assumption) (by decide) | omega) (by decide)).mpr hq9)
          refine lv_iconst (v := 0) hx hb d_Model_term_158 (by decide) ?_
          obtain ⟨hPc, hDc, hFc, hCs⟩ := xw_sub3 (wc := [(m0, .inr (11, [.int s_thrown, .int s_taped, .ref m1, .int (nI n), .int s_outSize, .ref m2, .int (nI k), .int (nI v), .int (nI b), .int (nI en), .int 0, .ref m3, .ref m4, .ref m5, .int s_isProgram, .int s_half, .ref m6, .ref m7, .ref m8, .ref m9, .ref m10, .ref m11, .ref m12, .ref m13, .ref m14, .ref m15, .ref m16, .ref m17, .ref m18, .ref m19, .ref m20, .int s_signs, .ref m21, .int s_stacked, .ref m22, .int (-1), .int (nI v), .int s_statements, .int s_ifs, .int s_whiles, .int s_variants, .int s_open, .ref m23, .int s_isMade, .int s_conditions, .ref m24, .ref m25, .ref m26, .ref m27, .int s_kept, .ref m28, .int s_tops, .ref m29, .int s_used, .ref m30, .ref m31, .int s_looked, .int s_rows, .int s_firstRow, .ref m32, .ref m33, .ref m34, .ref m35, .ref m36, .ref m37, .ref m38, .ref m39, .ref m40, .int s_isBroken, .ref m41, .int s_atoms, .ref m42]))]) hP hD hS hA [1] (by decide) rfl
          have hz := xz_of hN hS
          refine va_callv (va_runV (As := [.int 0]) (rest := []) ⟨hx, hb, hml, hown, hts⟩ (c_M_must_0 l D ax m0 m1 m2 m3 m4 m5 m6 m7 m8 m9 m10 m11 m12 m13 m14 m15 m16 m17 m18 m19 m20 m21 m22 m23 m24 m25 m26 m27 m28 m29 m30 m31 m32 m33 m34 m35 m36 m37 m38 m39 m40 m41 m42 s_thrown s_taped (nI n) s_outSize (nI k) (nI v) (nI b) (nI en) s_isProgram s_half s_signs s_stacked (-1) (nI v) s_statements s_ifs s_whiles s_variants s_open s_isMade s_conditions s_kept s_tops s_used s_looked s_rows s_firstRow s_isBroken s_atoms H_9.size) (xcV (n := 1) hts wd_1335 wd_15 wd_1332 wd_1334 ps_61 rfl rfl (by decide +kernel) ⟨Nat.le_of_ble_eq_true rfl, Nat.le_of_ble_eq_true rfl⟩) (xpV (ci := 11) (q0 := 0) (As := [.int 0]) hPc hK hz hDc rfl rfl) rfl rfl hl1.1 rfl (lv_room (Nat.le_of_ble_eq_true rfl)) d_Model_term_159 ⟨Nat.le_of_ble_eq_true rfl, Nat.le_of_ble_eq_true rfl⟩) hS (fun q _ h => hFc q h) hFc (fun u_11 t H_12 locs ht hvm hw hB hz1 hk1 hS1 => ?_)
          try dsimp only at hw
          obtain ⟨hP1, hD1⟩ := hB
          rw [ht] at hP1
          have hjn := xw_join3 (wl := [(m1, .inl (ax 0, 400, .inl (fun j => nI (g j)))), (m0, .inr (11, [.int s_thrown, .int s_taped, .ref m1, .int (nI n), .int s_outSize, .ref m2, .int (nI k), .int (nI v), .int (nI b), .int (nI en), .int 1, .ref m3, .ref m4, .ref m5, .int s_isProgram, .int s_half, .ref m6, .ref m7, .ref m8, .ref m9, .ref m10, .ref m11, .ref m12, .ref m13, .ref m14, .ref m15, .ref m16, .ref m17, .ref m18, .ref m19, .ref m20, .int s_signs, .ref m21, .int s_stacked, .ref m22, .int (-1), .int (nI v), .int s_statements, .int s_ifs, .int s_whiles, .int s_variants, .int s_open, .ref m23, .int s_isMade, .int s_conditions, .ref m24, .ref m25, .ref m26, .ref m27, .int s_kept, .ref m28, .int s_tops, .ref m29, .int s_used, .ref m30, .ref m31, .int s_looked, .int s_rows, .int s_firstRow, .ref m32, .ref m33, .ref m34, .ref m35, .ref m36, .ref m37, .ref m38, .ref m39, .ref m40, .int s_isBroken, .ref m41, .int s_atoms, .ref m42]))]) hP hD [1] [0] hCs (by decide) (by decide) hk1 hFc hP1 hD1 rfl
          clear hP1 hD1
          clear hPc hDc hFc hCs hz hz1 hk1 ht hvm
          clear hP hD hS
          have hS := hS1
          obtain ⟨hP, hD⟩ := hjn
          clear hS1
          rw [← hQe]
          obtain ⟨hP9, hD9⟩ := xw_sub2 (wc := (fun (u : Nat → Nat) (xnm : Int32) (xsh : Int32) => [(m0, .inr (11, [.int s_thrown, .int s_taped, .ref m1, .int (nI n), .int s_outSize, .ref m2, .int (nI (u 2)), .int (nI (u 3)), .int (nI (u 0)), .int (nI (u 1)), .int (nI (u 4)), .ref m3, .ref m4, .ref m5, .int s_isProgram, .int s_half, .ref m6, .ref m7, .ref m8, .ref m9, .ref m10, .ref m11, .ref m12, .ref m13, .ref m14, .ref m15, .ref m16, .ref m17, .ref m18, .ref m19, .ref m20, .int s_signs, .ref m21, .int s_stacked, .ref m22, .int xnm, .int xsh, .int s_statements, .int s_ifs, .int s_whiles, .int s_variants, .int s_open, .ref m23, .int s_isMade, .int s_conditions, .ref m24, .ref m25, .ref m26, .ref m27, .int s_kept, .ref m28, .int s_tops, .ref m29, .int s_used, .ref m30, .ref m31, .int s_looked, .int s_rows, .int s_firstRow, .ref m32, .ref m33, .ref m34, .ref m35, .ref m36, .ref m37, .ref m38, .ref m39, .ref m40, .int s_isBroken, .ref m41, .int s_atoms, .ref m42])), (m1, .inl (ax 0, 400, .inl (fun j => nI (g j))))]) (ixn [b, en, k, v, 1]) (-1) (nI v)) hP hD [1, 0] (by decide) rfl
          have hex0 : nmo (6 + 4 * gh) (-1) := (by first | exact Or.inl rfl | exact Or.inr ⟨_, by omega, rfl⟩ | assumption)
          have hex1 : imp0 (1) (tmQ (-1) (nI v) (trmV (kd g n) (nxt g n) (kv g n) gh b)) := (Or.inl rfl)
          have hsp0 : b ≤ b := (by first | assumption | omega)
          have hsp1 : b ≤ en := (by first | assumption | omega)
          have hsp2 : en ≤ n := (by first | assumption | omega)
          have hsp3 : tk0 (k) (b) (en) := (by assumption)
          have hsp4 : k < 10000 := (by first | assumption | omega)
          have hsp5 : v < 20000 := (by first | assumption | omega)
          have hsp6 : tkq g n (b) (en) (k) (v) := (by assumption)
          have hsp7 : 1 ≤ 1 := (by first | assumption | omega)
          have hsp8 : imp0 (1) (b < b) := (Or.inl rfl)
          have hsp9 : trmG (kd g n) (nxt g n) gh b = (1, b) := (by first | exact trm_g hkv (by first | assumption | omega) (by first | assumption | omega) (by first | assumption | omega))
          exact W.vret hx hb hr (fun t ht hW => ⟨⟨ixn [b, en, k, v, 1], rfl, ⟨hsp0, hsp1, hsp2, hsp3, hsp4, hsp5, hsp6, hsp7, hsp8, hsp9⟩, ⟨(-1), nI v, hex0, hex1, by rw [ht]; exact hP9, hD9⟩⟩, hS.F ht⟩) hS.2.2 d_Model_term_162
        · replace c_10 : k = 3 := (nI_eq (a := k) (b := 3) (by first | exact Nat.lt_of_lt_of_le (by assumption) (by decide) | exact Nat.lt_of_le_of_lt (by assumption) (by decide) | omega) (by decide)).mp c_10
          have hlt_14 : b < en := tk0.lt (by assumption) (by first | assumption | omega)
          refine lv_iconst (v := 1) hx hb d_Model_term_154 (by decide) ?_
          refine lv_goto (tgt := 159) hx hb d_Model_term_155 (by decide) ?_
          obtain ⟨hPc, hDc, hFc, hCs⟩ := xw_sub3 (wc := [(m0, .inr (11, [.int s_thrown, .int s_taped, .ref m1, .int (nI n), .int s_outSize, .ref m2, .int (nI k), .int (nI v), .int (nI b), .int (nI en), .int 0, .ref m3, .ref m4, .ref m5, .int s_isProgram, .int s_half, .ref m6, .ref m7, .ref m8, .ref m9, .ref m10, .ref m11, .ref m12, .ref m13, .ref m14, .ref m15, .ref m16, .ref m17, .ref m18, .ref m19, .ref m20, .int s_signs, .ref m21, .int s_stacked, .ref m22, .int (-1), .int (nI v), .int s_statements, .int s_ifs, .int s_whiles, .int s_variants, .int s_open, .ref m23, .int s_isMade, .int s_conditions, .ref m24, .ref m25, .ref m26, .ref m27, .int s_kept, .ref m28, .int s_tops, .ref m29, .int s_used, .ref m30, .ref m31, .int s_looked, .int s_rows, .int s_firstRow, .ref m32, .ref m33, .ref m34, .ref m35, .ref m36, .ref m37, .ref m38, .ref m39, .ref m40, .int s_isBroken, .ref m41, .int s_atoms, .ref m42])), (m1, .inl (ax 0, 400, .inl (fun j => nI (g j))))]) hP hD hS hA [1, 0] (by decide) rfl
          have hz := xz_of hN hS
          refine va_callv (va_runV (As := [.int 1]) (rest := []) ⟨hx, hb, hml, hown, hts⟩ (c_M_must_1 l D ax m0 m1 m2 m3 m4 m5 m6 m7 m8 m9 m10 m11 m12 m13 m14 m15 m16 m17 m18 m19 m20 m21 m22 m23 m24 m25 m26 m27 m28 m29 m30 m31 m32 m33 m34 m35 m36 m37 m38 m39 m40 m41 m42 s_thrown s_taped s_outSize (nI k) (nI b) s_isProgram s_half s_signs s_stacked (-1) (nI v) s_statements s_ifs s_whiles s_variants s_open s_isMade s_conditions s_kept s_tops s_used s_looked s_rows s_firstRow s_isBroken s_atoms n en v g H_9.size hn (by first | assumption | omega) hg (by first | assumption | omega)) (xcV (n := 1) hts wd_1335 wd_15 wd_1332 wd_1334 ps_61 rfl rfl (by decide +kernel) ⟨Nat.le_of_ble_eq_true rfl, Nat.le_of_ble_eq_true rfl⟩) (xpV (ci := 11) (q0 := 0) (As := [.int 1]) hPc hK hz hDc rfl rfl) rfl rfl hl1.1 rfl (lv_room (Nat.le_of_ble_eq_true rfl)) d_Model_term_159 ⟨Nat.le_of_ble_eq_true rfl, Nat.le_of_ble_eq_true rfl⟩) hS (fun q _ h => hFc q h) hFc (fun u_15 t H_16 locs ht hvm hw hB hz1 hk1 hS1 => ?_)
          try dsimp only at hw
          obtain ⟨-, -, -, hs_21, hs_22, hs_23, hs_24, hs_25, hs_26, hs_27, hs_28⟩ := hw
          obtain ⟨hP1, hD1⟩ := hB
          rw [ht] at hP1
          have hjn := xw_join3 (wl := [(m0, .inr (11, [.int s_thrown, .int s_taped, .ref m1, .int (nI n), .int s_outSize, .ref m2, .int (nI (u_15 2)), .int (nI (u_15 3)), .int (nI (u_15 0)), .int (nI (u_15 1)), .int 0, .ref m3, .ref m4, .ref m5, .int s_isProgram, .int s_half, .ref m6, .ref m7, .ref m8, .ref m9, .ref m10, .ref m11, .ref m12, .ref m13, .ref m14, .ref m15, .ref m16, .ref m17, .ref m18, .ref m19, .ref m20, .int s_signs, .ref m21, .int s_stacked, .ref m22, .int (-1), .int (nI v), .int s_statements, .int s_ifs, .int s_whiles, .int s_variants, .int s_open, .ref m23, .int s_isMade, .int s_conditions, .ref m24, .ref m25, .ref m26, .ref m27, .int s_kept, .ref m28, .int s_tops, .ref m29, .int s_used, .ref m30, .ref m31, .int s_looked, .int s_rows, .int s_firstRow, .ref m32, .ref m33, .ref m34, .ref m35, .ref m36, .ref m37, .ref m38, .ref m39, .ref m40, .int s_isBroken, .ref m41, .int s_atoms, .ref m42])), (m1, .inl (ax 0, 400, .inl (fun j => nI (g j))))]) hP hD [1, 0] [] hCs (by decide) (by decide) hk1 hFc hP1 hD1 rfl
          clear hP1 hD1
          clear hPc hDc hFc hCs hz hz1 hk1 ht hvm
          clear hP hD hS
          have hS := hS1
          obtain ⟨hP, hD⟩ := hjn
          clear hS1
          rw [← hQe]
          obtain ⟨hP9, hD9⟩ := xw_sub2 (wc := (fun (u : Nat → Nat) (xnm : Int32) (xsh : Int32) => [(m0, .inr (11, [.int s_thrown, .int s_taped, .ref m1, .int (nI n), .int s_outSize, .ref m2, .int (nI (u 2)), .int (nI (u 3)), .int (nI (u 0)), .int (nI (u 1)), .int (nI (u 4)), .ref m3, .ref m4, .ref m5, .int s_isProgram, .int s_half, .ref m6, .ref m7, .ref m8, .ref m9, .ref m10, .ref m11, .ref m12, .ref m13, .ref m14, .ref m15, .ref m16, .ref m17, .ref m18, .ref m19, .ref m20, .int s_signs, .ref m21, .int s_stacked, .ref m22, .int xnm, .int xsh, .int s_statements, .int s_ifs, .int s_whiles, .int s_variants, .int s_open, .ref m23, .int s_isMade, .int s_conditions, .ref m24, .ref m25, .ref m26, .ref m27, .int s_kept, .ref m28, .int s_tops, .ref m29, .int s_used, .ref m30, .ref m31, .int s_looked, .int s_rows, .int s_firstRow, .ref m32, .ref m33, .ref m34, .ref m35, .ref m36, .ref m37, .ref m38, .ref m39, .ref m40, .int s_isBroken, .ref m41, .int s_atoms, .ref m42])), (m1, .inl (ax 0, 400, .inl (fun j => nI (g j))))]) (ixn [(u_15 0), (u_15 1), (u_15 2), (u_15 3), 0]) (-1) (nI v)) hP hD [0, 1] (by decide) rfl
          have hex0 : nmo (6 + 4 * gh) (-1) := (by first | exact Or.inl rfl | exact Or.inr ⟨_, by omega, rfl⟩ | assumption)
          have hex1 : imp0 (0) (tmQ (-1) (nI v) (trmV (kd g n) (nxt g n) (kv g n) gh b)) := (Or.inr (by first | exact trv_a hkv (by first | assumption | omega) hs_28 hs_21 (by first | assumption | omega) | exact trv_f hkv (by first | assumption | omega) (by first | assumption | omega) (by first | assumption | omega) (by first | rfl | assumption | (exfalso; omega))))
          have hsp0 : b ≤ (u_15 0) := (by first | assumption | omega)
          have hsp1 : (u_15 0) ≤ (u_15 1) := (by first | assumption | omega)
          have hsp2 : (u_15 1) ≤ n := (by first | assumption | omega)
          have hsp3 : tk0 ((u_15 2)) ((u_15 0)) ((u_15 1)) := (by assumption)
          have hsp4 : (u_15 2) < 10000 := (by first | assumption | omega)
          have hsp5 : (u_15 3) < 20000 := (by first | assumption | omega)
          have hsp6 : tkq g n ((u_15 0)) ((u_15 1)) ((u_15 2)) ((u_15 3)) := (by assumption)
          have hsp7 : 0 ≤ 1 := (by first | assumption | omega)
          have hsp8 : imp0 (0) (b < (u_15 0)) := (Or.inr (by first | assumption | omega))
          have hsp9 : trmG (kd g n) (nxt g n) gh b = (0, (u_15 0)) := (by first | exact trm_a hkv (by first | assumption | omega) hs_28 hs_21 (by first | assumption | omega) | exact trm_f hkv (by first | assumption | omega) (by first | assumption | omega) (by first | assumption | omega) hs_21)
          exact W.vret hx hb hr (fun t ht hW => ⟨⟨ixn [(u_15 0), (u_15 1), (u_15 2), (u_15 3), 0], rfl, ⟨hsp0, hsp1, hsp2, hsp3, hsp4, hsp5, hsp6, hsp7, hsp8, hsp9⟩, ⟨(-1), nI v, hex0, hex1, by rw [ht]; exact hP9, hD9⟩⟩, hS.F ht⟩) hS.2.2 d_Model_term_162
      · replace c_8 : (k = 200 + 45) := zb_y c_8
        refine lv_aload_n hx hb d_Model_term_130 rfl (lv_at hl1 1 rfl) ?_
        refine va_get (D := D) (ci := 11) (v := .int (nI v)) (C := R_Model) (T := F_Model) (N := 72) hx hb hts i_Model hown hK.1 hP 1 rfl rfl 7 (by decide) (hts _ wd_1043) (fun _ h9 => h9) rfl d_Model_term_131 ?_
        refine lv_ineg hx hb d_Model_term_134 ?_
        refine lv_topi (fun z_29 ez_29 => ?_)
        refine lv_goto (tgt := 142) hx hb d_Model_term_135 (by decide) ?_
        refine va_put (D := D) (ci := 11) (v := .int z_29) (ty := .int) (C := R_Model) (T := F_Model) (N := 72) hx hb hts i_Model t_Model t_Model_ok n_Model hown hK.1 hP hD hS 1 rfl rfl 36 (by decide) (hts _ wd_1072) (fun _ h9 => h9) rfl (by decide +kernel) rfl rfl (Nat.le_of_ble_eq_true rfl) d_Model_term_142 (fun H_30 locs hP1 hD1 hS1 => ?_)
        clear hP hD hS
        have hS := hS1
        have hW7 : (fun w9 : va_W => va_P D classes w9 H_30 ∧ va_D A w9) [(m1, .inl (ax 0, 400, .inl (fun j => nI (g j)))), (m0, .inr (11, [.int s_thrown, .int s_taped, .ref m1, .int (nI n), .int s_outSize, .ref m2, .int (nI k), .int (nI v), .int (nI b), .int (nI en), .int 0, .ref m3, .ref m4, .ref m5, .int s_isProgram, .int s_half, .ref m6, .ref m7, .ref m8, .ref m9, .ref m10, .ref m11, .ref m12, .ref m13, .ref m14, .ref m15, .ref m16, .ref m17, .ref m18, .ref m19, .ref m20, .int s_signs, .ref m21, .int s_stacked, .ref m22, .int (-1), .int z_29, .int s_statements, .int s_ifs, .int s_whiles, .int s_variants, .int s_open, .ref m23, .int s_isMade, .int s_conditions, .ref m24, .ref m25, .ref m26, .ref m27, .int s_kept, .ref m28, .int s_tops, .ref m29, .int s_used, .ref m30, .ref m31, .int s_looked, .int s_rows, .int s_firstRow, .ref m32, .ref m33, .ref m34, .ref m35, .ref m36, .ref m37, .ref m38, .ref m39, .ref m40, .int s_isBroken, .ref m41, .int s_atoms, .ref m42]))] := ⟨hP1, hD1⟩
        obtain ⟨hP, hD⟩ := hW7
        clear hP1 hD1 hS1
        refine lv_aload_n hx hb d_Model_term_145 rfl (lv_at hl1 1 rfl) ?_
        refine lv_aload_n hx hb d_Model_term_146 rfl (lv_at hl1 1 rfl) ?_
        refine va_get (D := D) (ci := 11) (v := .int (nI k)) (C := R_Model) (T := F_Model) (N := 72) hx hb hts i_Model hown hK.1 hP 1 rfl rfl 6 (by decide) (hts _ wd_1042) (fun _ h9 => h9) rfl d_Model_term_147 ?_
        refine lv_iconst (v := 3) hx hb d_Model_term_150 (by decide) ?_
        refine lv_icmp_ne (tgt := 158) hx hb d_Model_term_151 (by decide) (fun c_31 => ?_) (fun c_31 => ?_)
        · replace c_31 : ¬ k = 3 := fun hq9 => c_31 ((nI_eq (a := k) (b := 3) (by first | exact Nat.lt_of_lt_of_le (by assumption) (by decide) | exact Nat.lt_of_le_of_lt (by assumption) (by decide) | omega) (by decide)).mpr hq9)
          refine lv_iconst (v := 0) hx hb d_Model_term_158 (by decide) ?_
          obtain ⟨hPc, hDc, hFc, hCs⟩ := xw_sub3 (wc := [(m0, .inr (11, [.int s_thrown, .int s_taped, .ref m1, .int (nI n), .int s_outSize, .ref m2, .int (nI k), .int (nI v), .int (nI b), .int (nI en), .int 0, .ref m3, .ref m4, .ref m5, .int s_isProgram, .int s_half, .ref m6, .ref m7, .ref m8, .ref m9, .ref m10, .ref m11, .ref m12, .ref m13, .ref m14, .ref m15, .ref m16, .ref m17, .ref m18, .ref m19, .ref m20, .int s_signs, .ref m21, .int s_stacked, .ref m22, .int (-1), .int z_29, .int s_statements, .int s_ifs, .int s_whiles, .int s_variants, .int s_open, .ref m23, .int s_isMade, .int s_conditions, .ref m24, .ref m25, .ref m26, .ref m27, .int s_kept, .ref m28, .int s_tops, .ref m29, .int s_used, .ref m30, .ref m31, .int s_looked, .int s_rows, .int s_firstRow, .ref m32, .ref m33, .ref m34, .ref m35, .ref m36, .ref m37, .ref m38, .ref m39, .ref m40, .int s_isBroken, .ref m41, .int s_atoms, .ref m42]))]) hP hD hS hA [1] (by decide) rfl
          have hz := xz_of hN hS
          refine va_callv (va_runV (As := [.int 0]) (rest := []) ⟨hx, hb, hml, hown, hts⟩ (c_M_must_0 l D ax m0 m1 m2 m3 m4 m5 m6 m7 m8 m9 m10 m11 m12 m13 m14 m15 m16 m17 m18 m19 m20 m21 m22 m23 m24 m25 m26 m27 m28 m29 m30 m31 m32 m33 m34 m35 m36 m37 m38 m39 m40 m41 m42 s_thrown s_taped (nI n) s_outSize (nI k) (nI v) (nI b) (nI en) s_isProgram s_half s_signs s_stacked (-1) z_29 s_statements s_ifs s_whiles s_variants s_open s_isMade s_conditions s_kept s_tops s_used s_looked s_rows s_firstRow s_isBroken s_atoms H_30.size) (xcV (n := 1) hts wd_1335 wd_15 wd_1332 wd_1334 ps_61 rfl rfl (by decide +kernel) ⟨Nat.le_of_ble_eq_true rfl, Nat.le_of_ble_eq_true rfl⟩) (xpV (ci := 11) (q0 := 0) (As := [.int 0]) hPc hK hz hDc rfl rfl) rfl rfl hl1.1 rfl (lv_room (Nat.le_of_ble_eq_true rfl)) d_Model_term_159 ⟨Nat.le_of_ble_eq_true rfl, Nat.le_of_ble_eq_true rfl⟩) hS (fun q _ h => hFc q h) hFc (fun u_32 t H_33 locs ht hvm hw hB hz1 hk1 hS1 => ?_)
          try dsimp only at hw
          obtain ⟨hP1, hD1⟩ := hB
          rw [ht] at hP1
          have hjn := xw_join3 (wl := [(m1, .inl (ax 0, 400, .inl (fun j => nI (g j)))), (m0, .inr (11, [.int s_thrown, .int s_taped, .ref m1, .int (nI n), .int s_outSize, .ref m2, .int (nI k), .int (nI v), .int (nI b), .int (nI en), .int 1, .ref m3, .ref m4, .ref m5, .int s_isProgram, .int s_half, .ref m6, .ref m7, .ref m8, .ref m9, .ref m10, .ref m11, .ref m12, .ref m13, .ref m14, .ref m15, .ref m16, .ref m17, .ref m18, .ref m19, .ref m20, .int s_signs, .ref m21, .int s_stacked, .ref m22, .int (-1), .int z_29, .int s_statements, .int s_ifs, .int s_whiles, .int s_variants, .int s_open, .ref m23, .int s_isMade, .int s_conditions, .ref m24, .ref m25, .ref m26, .ref m27, .int s_kept, .ref m28, .int s_tops, .ref m29, .int s_used, .ref m30, .ref m31, .int s_looked, .int s_rows, .int s_firstRow, .ref m32, .ref m33, .ref m34, .ref m35, .ref m36, .ref m37, .ref m38, .ref m39, .ref m40, .int s_isBroken, .ref m41, .int s_atoms, .ref m42]))]) hP hD [1] [0] hCs (by decide) (by decide) hk1 hFc hP1 hD1 rfl
          clear hP1 hD1
          clear hPc hDc hFc hCs hz hz1 hk1 ht hvm
          clear hP hD hS
          have hS := hS1
          obtain ⟨hP, hD⟩ := hjn
          clear hS1
          rw [← hQe]
          obtain ⟨hP9, hD9⟩ := xw_sub2 (wc := (fun (u : Nat → Nat) (xnm : Int32) (xsh : Int32) => [(m0, .inr (11, [.int s_thrown, .int s_taped, .ref m1, .int (nI n), .int s_outSize, .ref m2, .int (nI (u 2)), .int (nI (u 3)), .int (nI (u 0)), .int (nI (u 1)), .int (nI (u 4)), .ref m3, .ref m4, .ref m5, .int s_isProgram, .int s_half, .ref m6, .ref m7, .ref m8, .ref m9, .ref m10, .ref m11, .ref m12, .ref m13, .ref m14, .ref m15, .ref m16, .ref m17, .ref m18, .ref m19, .ref m20, .int s_signs, .ref m21, .int s_stacked, .ref m22, .int xnm, .int xsh, .int s_statements, .int s_ifs, .int s_whiles, .int s_variants, .int s_open, .ref m23, .int s_isMade, .int s_conditions, .ref m24, .ref m25, .ref m26, .ref m27, .int s_kept, .ref m28, .int s_tops, .ref m29, .int s_used, .ref m30, .ref m31, .int s_looked, .int s_rows, .int s_firstRow, .ref m32, .ref m33, .ref m34, .ref m35, .ref m36, .ref m37, .ref m38, .ref m39, .ref m40, .int s_isBroken, .ref m41, .int s_atoms, .ref m42])), (m1, .inl (ax 0, 400, .inl (fun j => nI (g j))))]) (ixn [b, en, k, v, 1]) (-1) z_29) hP hD [1, 0] (by decide) rfl
          have hex0 : nmo (6 + 4 * gh) (-1) := (by first | exact Or.inl rfl | exact Or.inr ⟨_, by omega, rfl⟩ | assumption)
          have hex1 : imp0 (1) (tmQ (-1) z_29 (trmV (kd g n) (nxt g n) (kv g n) gh b)) := (Or.inl rfl)
          have hsp0 : b ≤ b := (by first | assumption | omega)
          have hsp1 : b ≤ en := (by first | assumption | omega)
          have hsp2 : en ≤ n := (by first | assumption | omega)
          have hsp3 : tk0 (k) (b) (en) := (by assumption)
          have hsp4 : k < 10000 := (by first | assumption | omega)
          have hsp5 : v < 20000 := (by first | assumption | omega)
          have hsp6 : tkq g n (b) (en) (k) (v) := (by assumption)
          have hsp7 : 1 ≤ 1 := (by first | assumption | omega)
          have hsp8 : imp0 (1) (b < b) := (Or.inl rfl)
          have hsp9 : trmG (kd g n) (nxt g n) gh b = (1, b) := (by first | exact trm_g hkv (by first | assumption | omega) (by first | assumption | omega) (by first | assumption | omega))
          exact W.vret hx hb hr (fun t ht hW => ⟨⟨ixn [b, en, k, v, 1], rfl, ⟨hsp0, hsp1, hsp2, hsp3, hsp4, hsp5, hsp6, hsp7, hsp8, hsp9⟩, ⟨(-1), z_29, hex0, hex1, by rw [ht]; exact hP9, hD9⟩⟩, hS.F ht⟩) hS.2.2 d_Model_term_162
        · replace c_31 : k = 3 := (nI_eq (a := k) (b := 3) (by first | exact Nat.lt_of_lt_of_le (by assumption) (by decide) | exact Nat.lt_of_le_of_lt (by assumption) (by decide) | omega) (by decide)).mp c_31
          have hlt_35 : b < en := tk0.lt (by assumption) (by first | assumption | omega)
          refine lv_iconst (v := 1) hx hb d_Model_term_154 (by decide) ?_
          refine lv_goto (tgt := 159) hx hb d_Model_term_155 (by decide) ?_
          obtain ⟨hPc, hDc, hFc, hCs⟩ := xw_sub3 (wc := [(m0, .inr (11, [.int s_thrown, .int s_taped, .ref m1, .int (nI n), .int s_outSize, .ref m2, .int (nI k), .int (nI v), .int (nI b), .int (nI en), .int 0, .ref m3, .ref m4, .ref m5, .int s_isProgram, .int s_half, .ref m6, .ref m7, .ref m8, .ref m9, .ref m10, .ref m11, .ref m12, .ref m13, .ref m14, .ref m15, .ref m16, .ref m17, .ref m18, .ref m19, .ref m20, .int s_signs, .ref m21, .int s_stacked, .ref m22, .int (-1), .int z_29, .int s_statements, .int s_ifs, .int s_whiles, .int s_variants, .int s_open, .ref m23, .int s_isMade, .int s_conditions, .ref m24, .ref m25, .ref m26, .ref m27, .int s_kept, .ref m28, .int s_tops, .ref m29, .int s_used, .ref m30, .ref m31, .int s_looked, .int s_rows, .int s_firstRow, .ref m32, .ref m33, .ref m34, .ref m35, .ref m36, .ref m37, .ref m38, .ref m39, .ref m40, .int s_isBroken, .ref m41, .int s_atoms, .ref m42])), (m1, .inl (ax 0, 400, .inl (fun j => nI (g j))))]) hP hD hS hA [1, 0] (by decide) rfl
          have hz := xz_of hN hS
          refine va_callv (va_runV (As := [.int 1]) (rest := []) ⟨hx, hb, hml, hown, hts⟩ (c_M_must_1 l D ax m0 m1 m2 m3 m4 m5 m6 m7 m8 m9 m10 m11 m12 m13 m14 m15 m16 m17 m18 m19 m20 m21 m22 m23 m24 m25 m26 m27 m28 m29 m30 m31 m32 m33 m34 m35 m36 m37 m38 m39 m40 m41 m42 s_thrown s_taped s_outSize (nI k) (nI b) s_isProgram s_half s_signs s_stacked (-1) z_29 s_statements s_ifs s_whiles s_variants s_open s_isMade s_conditions s_kept s_tops s_used s_looked s_rows s_firstRow s_isBroken s_atoms n en v g H_30.size hn (by first | assumption | omega) hg (by first | assumption | omega)) (xcV (n := 1) hts wd_1335 wd_15 wd_1332 wd_1334 ps_61 rfl rfl (by decide +kernel) ⟨Nat.le_of_ble_eq_true rfl, Nat.le_of_ble_eq_true rfl⟩) (xpV (ci := 11) (q0 := 0) (As := [.int 1]) hPc hK hz hDc rfl rfl) rfl rfl hl1.1 rfl (lv_room (Nat.le_of_ble_eq_true rfl)) d_Model_term_159 ⟨Nat.le_of_ble_eq_true rfl, Nat.le_of_ble_eq_true rfl⟩) hS (fun q _ h => hFc q h) hFc (fun u_36 t H_37 locs ht hvm hw hB hz1 hk1 hS1 => ?_)
          try dsimp only at hw
          obtain ⟨-, -, -, hs_42, hs_43, hs_44, hs_45, hs_46, hs_47, hs_48, hs_49⟩ := hw
          obtain ⟨hP1, hD1⟩ := hB
          rw [ht] at hP1
          have hjn := xw_join3 (wl := [(m0, .inr (11, [.int s_thrown, .int s_taped, .ref m1, .int (nI n), .int s_outSize, .ref m2, .int (nI (u_36 2)), .int (nI (u_36 3)), .int (nI (u_36 0)), .int (nI (u_36 1)), .int 0, .ref m3, .ref m4, .ref m5, .int s_isProgram, .int s_half, .ref m6, .ref m7, .ref m8, .ref m9, .ref m10, .ref m11, .ref m12, .ref m13, .ref m14, .ref m15, .ref m16, .ref m17, .ref m18, .ref m19, .ref m20, .int s_signs, .ref m21, .int s_stacked, .ref m22, .int (-1), .int z_29, .int s_statements, .int s_ifs, .int s_whiles, .int s_variants, .int s_open, .ref m23, .int s_isMade, .int s_conditions, .ref m24, .ref m25, .ref m26, .ref m27, .int s_kept, .ref m28, .int s_tops, .ref m29, .int s_used, .ref m30, .ref m31, .int s_looked, .int s_rows, .int s_firstRow, .ref m32, .ref m33, .ref m34, .ref m35, .ref m36, .ref m37, .ref m38, .ref m39, .ref m40, .int s_isBroken, .ref m41, .int s_atoms, .ref m42])), (m1, .inl (ax 0, 400, .inl (fun j => nI (g j))))]) hP hD [1, 0] [] hCs (by decide) (by decide) hk1 hFc hP1 hD1 rfl
          clear hP1 hD1
          clear hPc hDc hFc hCs hz hz1 hk1 ht hvm
          clear hP hD hS
          have hS := hS1
          obtain ⟨hP, hD⟩ := hjn
          clear hS1
          rw [← hQe]
          obtain ⟨hP9, hD9⟩ := xw_sub2 (wc := (fun (u : Nat → Nat) (xnm : Int32) (xsh : Int32) => [(m0, .inr (11, [.int s_thrown, .int s_taped, .ref m1, .int (nI n), .int s_outSize, .ref m2, .int (nI (u 2)), .int (nI (u 3)), .int (nI (u 0)), .int (nI (u 1)), .int (nI (u 4)), .ref m3, .ref m4, .ref m5, .int s_isProgram, .int s_half, .ref m6, .ref m7, .ref m8, .ref m9, .ref m10, .ref m11, .ref m12, .ref m13, .ref m14, .ref m15, .ref m16, .ref m17, .ref m18, .ref m19, .ref m20, .int s_signs, .ref m21, .int s_stacked, .ref m22, .int xnm, .int xsh, .int s_statements, .int s_ifs, .int s_whiles, .int s_variants, .int s_open, .ref m23, .int s_isMade, .int s_conditions, .ref m24, .ref m25, .ref m26, .ref m27, .int s_kept, .ref m28, .int s_tops, .ref m29, .int s_used, .ref m30, .ref m31, .int s_looked, .int s_rows, .int s_firstRow, .ref m32, .ref m33, .ref m34, .ref m35, .ref m36, .ref m37, .ref m38, .ref m39, .ref m40, .int s_isBroken, .ref m41, .int s_atoms, .ref m42])), (m1, .inl (ax 0, 400, .inl (fun j => nI (g j))))]) (ixn [(u_36 0), (u_36 1), (u_36 2), (u_36 3), 0]) (-1) z_29) hP hD [0, 1] (by decide) rfl
          have hex0 : nmo (6 + 4 * gh) (-1) := (by first | exact Or.inl rfl | exact Or.inr ⟨_, by omega, rfl⟩ | assumption)
          have hex1 : imp0 (0) (tmQ (-1) z_29 (trmV (kd g n) (nxt g n) (kv g n) gh b)) := (Or.inr (by first | exact trv_a hkv (by first | assumption | omega) hs_49 hs_42 (by first | assumption | omega) | exact trv_f hkv (by first | assumption | omega) (by first | assumption | omega) (by first | assumption | omega) (by first | rfl | assumption | (exfalso; omega))))
          have hsp0 : b ≤ (u_36 0) := (by first | assumption | omega)
          have hsp1 : (u_36 0) ≤ (u_36 1) := (by first | assumption | omega)
          have hsp2 : (u_36 1) ≤ n := (by first | assumption | omega)
          have hsp3 : tk0 ((u_36 2)) ((u_36 0)) ((u_36 1)) := (by assumption)
          have hsp4 : (u_36 2) < 10000 := (by first | assumption | omega)
          have hsp5 : (u_36 3) < 20000 := (by first | assumption | omega)
          have hsp6 : tkq g n ((u_36 0)) ((u_36 1)) ((u_36 2)) ((u_36 3)) := (by assumption)
          have hsp7 : 0 ≤ 1 := (by first | assumption | omega)
          have hsp8 : imp0 (0) (b < (u_36 0)) := (Or.inr (by first | assumption | omega))
          have hsp9 : trmG (kd g n) (nxt g n) gh b = (0, (u_36 0)) := (by first | exact trm_a hkv (by first | assumption | omega) hs_49 hs_42 (by first | assumption | omega) | exact trm_f hkv (by first | assumption | omega) (by first | assumption | omega) (by first | assumption | omega) hs_42)
          exact W.vret hx hb hr (fun t ht hW => ⟨⟨ixn [(u_36 0), (u_36 1), (u_36 2), (u_36 3), 0], rfl, ⟨hsp0, hsp1, hsp2, hsp3, hsp4, hsp5, hsp6, hsp7, hsp8, hsp9⟩, ⟨(-1), z_29, hex0, hex1, by rw [ht]; exact hP9, hD9⟩⟩, hS.F ht⟩) hS.2.2 d_Model_term_162
    · replace c_7 : (k = 200 + 45) := zb_y c_7
      have hlt_50 : b < en := tk0.lt (by assumption) (by first | assumption | omega)
      refine lv_aload_n hx hb d_Model_term_121 rfl (lv_at hl1 1 rfl) ?_
      obtain ⟨hPc, hDc, hFc, hCs⟩ := xw_sub3 (wc := [(m0, .inr (11, [.int s_thrown, .int s_taped, .ref m1, .int (nI n), .int s_outSize, .ref m2, .int (nI k), .int (nI v), .int (nI b), .int (nI en), .int 0, .ref m3, .ref m4, .ref m5, .int s_isProgram, .int s_half, .ref m6, .ref m7, .ref m8, .ref m9, .ref m10, .ref m11, .ref m12, .ref m13, .ref m14, .ref m15, .ref m16, .ref m17, .ref m18, .ref m19, .ref m20, .int s_signs, .ref m21, .int s_stacked, .ref m22, .int (-1), .int 0, .int s_statements, .int s_ifs, .int s_whiles, .int s_variants, .int s_open, .ref m23, .int s_isMade, .int s_conditions, .ref m24, .ref m25, .ref m26, .ref m27, .int s_kept, .ref m28, .int s_tops, .ref m29, .int s_used, .ref m30, .ref m31, .int s_looked, .int s_rows, .int s_firstRow, .ref m32, .ref m33, .ref m34, .ref m35, .ref m36, .ref m37, .ref m38, .ref m39, .ref m40, .int s_isBroken, .ref m41, .int s_atoms, .ref m42])), (m1, .inl (ax 0, 400, .inl (fun j => nI (g j))))]) hP hD hS hA [1, 0] (by decide) rfl
      have hz := xz_of hN hS
      refine va_callv (va_runV (As := []) (rest := []) ⟨hx, hb, hml, hown, hts⟩ (c_M_next l D ax m0 m1 m2 m3 m4 m5 m6 m7 m8 m9 m10 m11 m12 m13 m14 m15 m16 m17 m18 m19 m20 m21 m22 m23 m24 m25 m26 m27 m28 m29 m30 m31 m32 m33 m34 m35 m36 m37 m38 m39 m40 m41 m42 s_thrown s_taped s_outSize (nI k) (nI b) 0 s_isProgram s_half s_signs s_stacked (-1) 0 s_statements s_ifs s_whiles s_variants s_open s_isMade s_conditions s_kept s_tops s_used s_looked s_rows s_firstRow s_isBroken s_atoms n en v g H_5.size hn (by first | assumption | omega) hg (by first | assumption | omega)) (xcV (n := 0) hts wd_1278 wd_15 wd_1275 wd_1277 ps_51 rfl rfl (by decide +kernel) ⟨Nat.le_of_ble_eq_true rfl, Nat.le_of_ble_eq_true rfl⟩) (xpV (ci := 11) (q0 := 0) (As := []) hPc hK hz hDc rfl rfl) rfl rfl hl1.1 rfl (lv_room (Nat.le_of_ble_eq_true rfl)) d_Model_term_122 ⟨Nat.le_of_ble_eq_true rfl, Nat.le_of_ble_eq_true rfl⟩) hS (fun q _ h => hFc q h) hFc (fun u_51 t H_52 locs ht hvm hw hB hz1 hk1 hS1 => ?_)
      try dsimp only at hw
      obtain ⟨-, -, -, hs_57, hs_58, hs_59, hs_60, hs_61, hs_62, hs_63, hs_64⟩ := hw
      obtain ⟨hP1, hD1⟩ := hB
      rw [ht] at hP1
      have hjn := xw_join3 (wl := [(m0, .inr (11, [.int s_thrown, .int s_taped, .ref m1, .int (nI n), .int s_outSize, .ref m2, .int (nI (u_51 2)), .int (nI (u_51 3)), .int (nI (u_51 0)), .int (nI (u_51 1)), .int 0, .ref m3, .ref m4, .ref m5, .int s_isProgram, .int s_half, .ref m6, .ref m7, .ref m8, .ref m9, .ref m10, .ref m11, .ref m12, .ref m13, .ref m14, .ref m15, .ref m16, .ref m17, .ref m18, .ref m19, .ref m20, .int s_signs, .ref m21, .int s_stacked, .ref m22, .int (-1), .int 0, .int s_statements, .int s_ifs, .int s_whiles, .int s_variants, .int s_open, .ref m23, .int s_isMade, .int s_conditions, .ref m24, .ref m25, .ref m26, .ref m27, .int s_kept, .ref m28, .int s_tops, .ref m29, .int s_used, .ref m30, .ref m31, .int s_looked, .int s_rows, .int s_firstRow, .ref m32, .ref m33, .ref m34, .ref m35, .ref m36, .ref m37, .ref m38, .ref m39, .ref m40, .int s_isBroken, .ref m41, .int s_atoms, .ref m42])), (m1, .inl (ax 0, 400, .inl (fun j => nI (g j))))]) hP hD [1, 0] [] hCs (by decide) (by decide) hk1 hFc hP1 hD1 rfl
      clear hP1 hD1
      clear hPc hDc hFc hCs hz hz1 hk1 ht hvm
      clear hP hD hS
      have hS := hS1
      obtain ⟨hP, hD⟩ := hjn
      clear hS1
      refine lv_aload_n hx hb d_Model_term_125 rfl (lv_at hl1 1 rfl) ?_
      refine lv_iload_n hx hb d_Model_term_126 rfl (lv_at hl1 0 rfl) ?_
      refine lv_if_eq (tgt := 138) hx hb d_Model_term_127 (by decide) (fun c_65 => ?_) (fun c_65 => ?_)
      · replace c_65 : ¬ (k = 200 + 45) := zb_n c_65
        refine lv_aload_n hx hb d_Model_term_138 rfl (lv_at hl1 1 rfl) ?_
        refine va_get (D := D) (ci := 11) (v := .int (nI (u_51 3))) (C := R_Model) (T := F_Model) (N := 72) hx hb hts i_Model hown hK.1 hP 0 rfl rfl 7 (by decide) (hts _ wd_1043) (fun _ h9 => h9) rfl d_Model_term_139 ?_
        refine va_put (D := D) (ci := 11) (v := .int (nI (u_51 3))) (ty := .int) (C := R_Model) (T := F_Model) (N := 72) hx hb hts i_Model t_Model t_Model_ok n_Model hown hK.1 hP hD hS 0 rfl rfl 36 (by decide) (hts _ wd_1072) (fun _ h9 => h9) rfl (by decide +kernel) rfl rfl (Nat.le_of_ble_eq_true rfl) d_Model_term_142 (fun H_66 locs hP1 hD1 hS1 => ?_)
        clear hP hD hS
        have hS := hS1
        have hW7 : (fun w9 : va_W => va_P D classes w9 H_66 ∧ va_D A w9) [(m0, .inr (11, [.int s_thrown, .int s_taped, .ref m1, .int (nI n), .int s_outSize, .ref m2, .int (nI (u_51 2)), .int (nI (u_51 3)), .int (nI (u_51 0)), .int (nI (u_51 1)), .int 0, .ref m3, .ref m4, .ref m5, .int s_isProgram, .int s_half, .ref m6, .ref m7, .ref m8, .ref m9, .ref m10, .ref m11, .ref m12, .ref m13, .ref m14, .ref m15, .ref m16, .ref m17, .ref m18, .ref m19, .ref m20, .int s_signs, .ref m21, .int s_stacked, .ref m22, .int (-1), .int (nI (u_51 3)), .int s_statements, .int s_ifs, .int s_whiles, .int s_variants, .int s_open, .ref m23, .int s_isMade, .int s_conditions, .ref m24, .ref m25, .ref m26, .ref m27, .int s_kept, .ref m28, .int s_tops, .ref m29, .int s_used, .ref m30, .ref m31, .int s_looked, .int s_rows, .int s_firstRow, .ref m32, .ref m33, .ref m34, .ref m35, .ref m36, .ref m37, .ref m38, .ref m39, .ref m40, .int s_isBroken, .ref m41, .int s_atoms, .ref m42])), (m1, .inl (ax 0, 400, .inl (fun j => nI (g j))))] := ⟨hP1, hD1⟩
        obtain ⟨hP, hD⟩ := hW7
        clear hP1 hD1 hS1
        refine lv_aload_n hx hb d_Model_term_145 rfl (lv_at hl1 1 rfl) ?_
        refine lv_aload_n hx hb d_Model_term_146 rfl (lv_at hl1 1 rfl) ?_
        refine va_get (D := D) (ci := 11) (v := .int (nI (u_51 2))) (C := R_Model) (T := F_Model) (N := 72) hx hb hts i_Model hown hK.1 hP 0 rfl rfl 6 (by decide) (hts _ wd_1042) (fun _ h9 => h9) rfl d_Model_term_147 ?_
        refine lv_iconst (v := 3) hx hb d_Model_term_150 (by decide) ?_
        refine lv_icmp_ne (tgt := 158) hx hb d_Model_term_151 (by decide) (fun c_67 => ?_) (fun c_67 => ?_)
        · replace c_67 : ¬ u_51 2 = 3 := fun hq9 => c_67 ((nI_eq (a := u_51 2) (b := 3) (by first | exact Nat.lt_of_lt_of_le (by assumption) (by decide) | exact Nat.lt_of_le_of_lt (by assumption) (by decide) | omega) (by decide)).mpr hq9)
          refine lv_iconst (v := 0) hx hb d_Model_term_158 (by decide) ?_
          obtain ⟨hPc, hDc, hFc, hCs⟩ := xw_sub3 (wc := [(m0, .inr (11, [.int s_thrown, .int s_taped, .ref m1, .int (nI n), .int s_outSize, .ref m2, .int (nI (u_51 2)), .int (nI (u_51 3)), .int (nI (u_51 0)), .int (nI (u_51 1)), .int 0, .ref m3, .ref m4, .ref m5, .int s_isProgram, .int s_half, .ref m6, .ref m7, .ref m8, .ref m9, .ref m10, .ref m11, .ref m12, .ref m13, .ref m14, .ref m15, .ref m16, .ref m17, .ref m18, .ref m19, .ref m20, .int s_signs, .ref m21, .int s_stacked, .ref m22, .int (-1), .int (nI (u_51 3)), .int s_statements, .int s_ifs, .int s_whiles, .int s_variants, .int s_open, .ref m23, .int s_isMade, .int s_conditions, .ref m24, .ref m25, .ref m26, .ref m27, .int s_kept, .ref m28, .int s_tops, .ref m29, .int s_used, .ref m30, .ref m31, .int s_looked, .int s_rows, .int s_firstRow, .ref m32, .ref m33, .ref m34, .ref m35, .ref m36, .ref m37, .ref m38, .ref m39, .ref m40, .int s_isBroken, .ref m41, .int s_atoms, .ref m42]))]) hP hD hS hA [0] (by decide) rfl
          have hz := xz_of hN hS
          refine va_callv (va_runV (As := [.int 0]) (rest := []) ⟨hx, hb, hml, hown, hts⟩ (c_M_must_0 l D ax m0 m1 m2 m3 m4 m5 m6 m7 m8 m9 m10 m11 m12 m13 m14 m15 m16 m17 m18 m19 m20 m21 m22 m23 m24 m25 m26 m27 m28 m29 m30 m31 m32 m33 m34 m35 m36 m37 m38 m39 m40 m41 m42 s_thrown s_taped (nI n) s_outSize (nI (u_51 2)) (nI (u_51 3)) (nI (u_51 0)) (nI (u_51 1)) s_isProgram s_half s_signs s_stacked (-1) (nI (u_51 3)) s_statements s_ifs s_whiles s_variants s_open s_isMade s_conditions s_kept s_tops s_used s_looked s_rows s_firstRow s_isBroken s_atoms H_66.size) (xcV (n := 1) hts wd_1335 wd_15 wd_1332 wd_1334 ps_61 rfl rfl (by decide +kernel) ⟨Nat.le_of_ble_eq_true rfl, Nat.le_of_ble_eq_true rfl⟩) (xpV (ci := 11) (q0 := 0) (As := [.int 0]) hPc hK hz hDc rfl rfl) rfl rfl hl1.1 rfl (lv_room (Nat.le_of_ble_eq_true rfl)) d_Model_term_159 ⟨Nat.le_of_ble_eq_true rfl, Nat.le_of_ble_eq_true rfl⟩) hS (fun q _ h => hFc q h) hFc (fun u_68 t H_69 locs ht hvm hw hB hz1 hk1 hS1 => ?_)
          try dsimp only at hw
          obtain ⟨hP1, hD1⟩ := hB
          rw [ht] at hP1
          have hjn := xw_join3 (wl := [(m1, .inl (ax 0, 400, .inl (fun j => nI (g j)))), (m0, .inr (11, [.int s_thrown, .int s_taped, .ref m1, .int (nI n), .int s_outSize, .ref m2, .int (nI (u_51 2)), .int (nI (u_51 3)), .int (nI (u_51 0)), .int (nI (u_51 1)), .int 1, .ref m3, .ref m4, .ref m5, .int s_isProgram, .int s_half, .ref m6, .ref m7, .ref m8, .ref m9, .ref m10, .ref m11, .ref m12, .ref m13, .ref m14, .ref m15, .ref m16, .ref m17, .ref m18, .ref m19, .ref m20, .int s_signs, .ref m21, .int s_stacked, .ref m22, .int (-1), .int (nI (u_51 3)), .int s_statements, .int s_ifs, .int s_whiles, .int s_variants, .int s_open, .ref m23, .int s_isMade, .int s_conditions, .ref m24, .ref m25, .ref m26, .ref m27, .int s_kept, .ref m28, .int s_tops, .ref m29, .int s_used, .ref m30, .ref m31, .int s_looked, .int s_rows, .int s_firstRow, .ref m32, .ref m33, .ref m34, .ref m35, .ref m36, .ref m37, .ref m38, .ref m39, .ref m40, .int s_isBroken, .ref m41, .int s_atoms, .ref m42]))]) hP hD [0] [1] hCs (by decide) (by decide) hk1 hFc hP1 hD1 rfl
          clear hP1 hD1
          clear hPc hDc hFc hCs hz hz1 hk1 ht hvm
          clear hP hD hS
          have hS := hS1
          obtain ⟨hP, hD⟩ := hjn
          clear hS1
          rw [← hQe]
          obtain ⟨hP9, hD9⟩ := xw_sub2 (wc := (fun (u : Nat → Nat) (xnm : Int32) (xsh : Int32) => [(m0, .inr (11, [.int s_thrown, .int s_taped, .ref m1, .int (nI n), .int s_outSize, .ref m2, .int (nI (u 2)), .int (nI (u 3)), .int (nI (u 0)), .int (nI (u 1)), .int (nI (u 4)), .ref m3, .ref m4, .ref m5, .int s_isProgram, .int s_half, .ref m6, .ref m7, .ref m8, .ref m9, .ref m10, .ref m11, .ref m12, .ref m13, .ref m14, .ref m15, .ref m16, .ref m17, .ref m18, .ref m19, .ref m20, .int s_signs, .ref m21, .int s_stacked, .ref m22, .int xnm, .int xsh, .int s_statements, .int s_ifs, .int s_whiles, .int s_variants, .int s_open, .ref m23, .int s_isMade, .int s_conditions, .ref m24, .ref m25, .ref m26, .ref m27, .int s_kept, .ref m28, .int s_tops, .ref m29, .int s_used, .ref m30, .ref m31, .int s_looked, .int s_rows, .int s_firstRow, .ref m32, .ref m33, .ref m34, .ref m35, .ref m36, .ref m37, .ref m38, .ref m39, .ref m40, .int s_isBroken, .ref m41, .int s_atoms, .ref m42])), (m1, .inl (ax 0, 400, .inl (fun j => nI (g j))))]) (ixn [(u_51 0), (u_51 1), (u_51 2), (u_51 3), 1]) (-1) (nI (u_51 3))) hP hD [1, 0] (by decide) rfl
          have hex0 : nmo (6 + 4 * gh) (-1) := (by first | exact Or.inl rfl | exact Or.inr ⟨_, by omega, rfl⟩ | assumption)
          have hex1 : imp0 (1) (tmQ (-1) (nI (u_51 3)) (trmV (kd g n) (nxt g n) (kv g n) gh b)) := (Or.inl rfl)
          have hsp0 : b ≤ (u_51 0) := (by first | assumption | omega)
          have hsp1 : (u_51 0) ≤ (u_51 1) := (by first | assumption | omega)
          have hsp2 : (u_51 1) ≤ n := (by first | assumption | omega)
          have hsp3 : tk0 ((u_51 2)) ((u_51 0)) ((u_51 1)) := (by assumption)
          have hsp4 : (u_51 2) < 10000 := (by first | assumption | omega)
          have hsp5 : (u_51 3) < 20000 := (by first | assumption | omega)
          have hsp6 : tkq g n ((u_51 0)) ((u_51 1)) ((u_51 2)) ((u_51 3)) := (by assumption)
          have hsp7 : 1 ≤ 1 := (by first | assumption | omega)
          have hsp8 : imp0 (1) (b < (u_51 0)) := (Or.inl rfl)
          have hsp9 : trmG (kd g n) (nxt g n) gh b = (1, (u_51 0)) := (by first | exact trm_e hkv (by first | assumption | omega) (by first | assumption | omega) hs_64 hs_57 (by first | assumption | omega))
          exact W.vret hx hb hr (fun t ht hW => ⟨⟨ixn [(u_51 0), (u_51 1), (u_51 2), (u_51 3), 1], rfl, ⟨hsp0, hsp1, hsp2, hsp3, hsp4, hsp5, hsp6, hsp7, hsp8, hsp9⟩, ⟨(-1), nI (u_51 3), hex0, hex1, by rw [ht]; exact hP9, hD9⟩⟩, hS.F ht⟩) hS.2.2 d_Model_term_162
        · replace c_67 : u_51 2 = 3 := (nI_eq (a := u_51 2) (b := 3) (by first | exact Nat.lt_of_lt_of_le (by assumption) (by decide) | exact Nat.lt_of_le_of_lt (by assumption) (by decide) | omega) (by decide)).mp c_67
          have hlt_71 : u_51 0 < u_51 1 := tk0.lt (by assumption) (by first | assumption | omega)
          refine lv_iconst (v := 1) hx hb d_Model_term_154 (by decide) ?_
          refine lv_goto (tgt := 159) hx hb d_Model_term_155 (by decide) ?_
          obtain ⟨hPc, hDc, hFc, hCs⟩ := xw_sub3 (wc := [(m0, .inr (11, [.int s_thrown, .int s_taped, .ref m1, .int (nI n), .int s_outSize, .ref m2, .int (nI (u_51 2)), .int (nI (u_51 3)), .int (nI (u_51 0)), .int (nI (u_51 1)), .int 0, .ref m3, .ref m4, .ref m5, .int s_isProgram, .int s_half, .ref m6, .ref m7, .ref m8, .ref m9, .ref m10, .ref m11, .ref m12, .ref m13, .ref m14, .ref m15, .ref m16, .ref m17, .ref m18, .ref m19, .ref m20, .int s_signs, .ref m21, .int s_stacked, .ref m22, .int (-1), .int (nI (u_51 3)), .int s_statements, .int s_ifs, .int s_whiles, .int s_variants, .int s_open, .ref m23, .int s_isMade, .int s_conditions, .ref m24, .ref m25, .ref m26, .ref m27, .int s_kept, .ref m28, .int s_tops, .ref m29, .int s_used, .ref m30, .ref m31, .int s_looked, .int s_rows, .int s_firstRow, .ref m32, .ref m33, .ref m34, .ref m35, .ref m36, .ref m37, .ref m38, .ref m39, .ref m40, .int s_isBroken, .ref m41, .int s_atoms, .ref m42])), (m1, .inl (ax 0, 400, .inl (fun j => nI (g j))))]) hP hD hS hA [0, 1] (by decide) rfl
          have hz := xz_of hN hS
          refine va_callv (va_runV (As := [.int 1]) (rest := []) ⟨hx, hb, hml, hown, hts⟩ (c_M_must_1 l D ax m0 m1 m2 m3 m4 m5 m6 m7 m8 m9 m10 m11 m12 m13 m14 m15 m16 m17 m18 m19 m20 m21 m22 m23 m24 m25 m26 m27 m28 m29 m30 m31 m32 m33 m34 m35 m36 m37 m38 m39 m40 m41 m42 s_thrown s_taped s_outSize (nI (u_51 2)) (nI (u_51 0)) s_isProgram s_half s_signs s_stacked (-1) (nI (u_51 3)) s_statements s_ifs s_whiles s_variants s_open s_isMade s_conditions s_kept s_tops s_used s_looked s_rows s_firstRow s_isBroken s_atoms n (u_51 1) (u_51 3) g H_66.size hn (by first | assumption | omega) hg (by first | assumption | omega)) (xcV (n := 1) hts wd_1335 wd_15 wd_1332 wd_1334 ps_61 rfl rfl (by decide +kernel) ⟨Nat.le_of_ble_eq_true rfl, Nat.le_of_ble_eq_true rfl⟩) (xpV (ci := 11) (q0 := 0) (As := [.int 1]) hPc hK hz hDc rfl rfl) rfl rfl hl1.1 rfl (lv_room (Nat.le_of_ble_eq_true rfl)) d_Model_term_159 ⟨Nat.le_of_ble_eq_true rfl, Nat.le_of_ble_eq_true rfl⟩) hS (fun q _ h => hFc q h) hFc (fun u_72 t H_73 locs ht hvm hw hB hz1 hk1 hS1 => ?_)
          try dsimp only at hw
          obtain ⟨-, -, -, hs_78, hs_79, hs_80, hs_81, hs_82, hs_83, hs_84, hs_85⟩ := hw
          obtain ⟨hP1, hD1⟩ := hB
          rw [ht] at hP1
          have hjn := xw_join3 (wl := [(m0, .inr (11, [.int s_thrown, .int s_taped, .ref m1, .int (nI n), .int s_outSize, .ref m2, .int (nI (u_72 2)), .int (nI (u_72 3)), .int (nI (u_72 0)), .int (nI (u_72 1)), .int 0, .ref m3, .ref m4, .ref m5, .int s_isProgram, .int s_half, .ref m6, .ref m7, .ref m8, .ref m9, .ref m10, .ref m11, .ref m12, .ref m13, .ref m14, .ref m15, .ref m16, .ref m17, .ref m18, .ref m19, .ref m20, .int s_signs, .ref m21, .int s_stacked, .ref m22, .int (-1), .int (nI (u_51 3)), .int s_statements, .int s_ifs, .int s_whiles, .int s_variants, .int s_open, .ref m23, .int s_isMade, .int s_conditions, .ref m24, .ref m25, .ref m26, .ref m27, .int s_kept, .ref m28, .int s_tops, .ref m29, .int s_used, .ref m30, .ref m31, .int s_looked, .int s_rows, .int s_firstRow, .ref m32, .ref m33, .ref m34, .ref m35, .ref m36, .ref m37, .ref m38, .ref m39, .ref m40, .int s_isBroken, .ref m41, .int s_atoms, .ref m42])), (m1, .inl (ax 0, 400, .inl (fun j => nI (g j))))]) hP hD [0, 1] [] hCs (by decide) (by decide) hk1 hFc hP1 hD1 rfl
          clear hP1 hD1
          clear hPc hDc hFc hCs hz hz1 hk1 ht hvm
          clear hP hD hS
          have hS := hS1
          obtain ⟨hP, hD⟩ := hjn
          clear hS1
          rw [← hQe]
          obtain ⟨hP9, hD9⟩ := xw_sub2 (wc := (fun (u : Nat → Nat) (xnm : Int32) (xsh : Int32) => [(m0, .inr (11, [.int s_thrown, .int s_taped, .ref m1, .int (nI n), .int s_outSize, .ref m2, .int (nI (u 2)), .int (nI (u 3)), .int (nI (u 0)), .int (nI (u 1)), .int (nI (u 4)), .ref m3, .ref m4, .ref m5, .int s_isProgram, .int s_half, .ref m6, .ref m7, .ref m8, .ref m9, .ref m10, .ref m11, .ref m12, .ref m13, .ref m14, .ref m15, .ref m16, .ref m17, .ref m18, .ref m19, .ref m20, .int s_signs, .ref m21, .int s_stacked, .ref m22, .int xnm, .int xsh, .int s_statements, .int s_ifs, .int s_whiles, .int s_variants, .int s_open, .ref m23, .int s_isMade, .int s_conditions, .ref m24, .ref m25, .ref m26, .ref m27, .int s_kept, .ref m28, .int s_tops, .ref m29, .int s_used, .ref m30, .ref m31, .int s_looked, .int s_rows, .int s_firstRow, .ref m32, .ref m33, .ref m34, .ref m35, .ref m36, .ref m37, .ref m38, .ref m39, .ref m40, .int s_isBroken, .ref m41, .int s_atoms, .ref m42])), (m1, .inl (ax 0, 400, .inl (fun j => nI (g j))))]) (ixn [(u_72 0), (u_72 1), (u_72 2), (u_72 3), 0]) (-1) (nI (u_51 3))) hP hD [0, 1] (by decide) rfl
          have hex0 : nmo (6 + 4 * gh) (-1) := (by first | exact Or.inl rfl | exact Or.inr ⟨_, by omega, rfl⟩ | assumption)
          have hex1 : imp0 (0) (tmQ (-1) (nI (u_51 3)) (trmV (kd g n) (nxt g n) (kv g n) gh b)) := (Or.inr (by first | exact trv_a hkv (by first | assumption | omega) hs_64 hs_57 (by first | assumption | omega) | exact trv_f hkv (by first | assumption | omega) (by first | assumption | omega) (by first | assumption | omega) (by first | rfl | assumption | (exfalso; omega)) | exact trv_d hkv (by first | assumption | omega) (by first | assumption | omega) hs_64 hs_57 (by first | assumption | omega) (by first | rfl | assumption | (exfalso; omega))))
          have hsp0 : b ≤ (u_72 0) := (by first | assumption | omega)
          have hsp1 : (u_72 0) ≤ (u_72 1) := (by first | assumption | omega)
          have hsp2 : (u_72 1) ≤ n := (by first | assumption | omega)
          have hsp3 : tk0 ((u_72 2)) ((u_72 0)) ((u_72 1)) := (by assumption)
          have hsp4 : (u_72 2) < 10000 := (by first | assumption | omega)
          have hsp5 : (u_72 3) < 20000 := (by first | assumption | omega)
          have hsp6 : tkq g n ((u_72 0)) ((u_72 1)) ((u_72 2)) ((u_72 3)) := (by assumption)
          have hsp7 : 0 ≤ 1 := (by first | assumption | omega)
          have hsp8 : imp0 (0) (b < (u_72 0)) := (Or.inr (by first | assumption | omega))
          have hsp9 : trmG (kd g n) (nxt g n) gh b = (0, (u_72 0)) := (by first | exact trm_d hkv (by first | assumption | omega) (by first | assumption | omega) hs_64 hs_57 (by first | assumption | omega) hs_78)
          exact W.vret hx hb hr (fun t ht hW => ⟨⟨ixn [(u_72 0), (u_72 1), (u_72 2), (u_72 3), 0], rfl, ⟨hsp0, hsp1, hsp2, hsp3, hsp4, hsp5, hsp6, hsp7, hsp8, hsp9⟩, ⟨(-1), nI (u_51 3), hex0, hex1, by rw [ht]; exact hP9, hD9⟩⟩, hS.F ht⟩) hS.2.2 d_Model_term_162
      · replace c_65 : (k = 200 + 45) := zb_y c_65
        refine lv_aload_n hx hb d_Model_term_130 rfl (lv_at hl1 1 rfl) ?_
        refine va_get (D := D) (ci := 11) (v := .int (nI (u_51 3))) (C := R_Model) (T := F_Model) (N := 72) hx hb hts i_Model hown hK.1 hP 0 rfl rfl 7 (by decide) (hts _ wd_1043) (fun _ h9 => h9) rfl d_Model_term_131 ?_
        refine lv_ineg hx hb d_Model_term_134 ?_
        refine lv_topi (fun z_86 ez_86 => ?_)
        refine lv_goto (tgt := 142) hx hb d_Model_term_135 (by decide) ?_
        refine va_put (D := D) (ci := 11) (v := .int z_86) (ty := .int) (C := R_Model) (T := F_Model) (N := 72) hx hb hts i_Model t_Model t_Model_ok n_Model hown hK.1 hP hD hS 0 rfl rfl 36 (by decide) (hts _ wd_1072) (fun _ h9 => h9) rfl (by decide +kernel) rfl rfl (Nat.le_of_ble_eq_true rfl) d_Model_term_142 (fun H_87 locs hP1 hD1 hS1 => ?_)
        clear hP hD hS
        have hS := hS1
        have hW7 : (fun w9 : va_W => va_P D classes w9 H_87 ∧ va_D A w9) [(m0, .inr (11, [.int s_thrown, .int s_taped, .ref m1, .int (nI n), .int s_outSize, .ref m2, .int (nI (u_51 2)), .int (nI (u_51 3)), .int (nI (u_51 0)), .int (nI (u_51 1)), .int 0, .ref m3, .ref m4, .ref m5, .int s_isProgram, .int s_half, .ref m6, .ref m7, .ref m8, .ref m9, .ref m10, .ref m11, .ref m12, .ref m13, .ref m14, .ref m15, .ref m16, .ref m17, .ref m18, .ref m19, .ref m20, .int s_signs, .ref m21, .int s_stacked, .ref m22, .int (-1), .int z_86, .int s_statements, .int s_ifs, .int s_whiles, .int s_variants, .int s_open, .ref m23, .int s_isMade, .int s_conditions, .ref m24, .ref m25, .ref m26, .ref m27, .int s_kept, .ref m28, .int s_tops, .ref m29, .int s_used, .ref m30, .ref m31, .int s_looked, .int s_rows, .int s_firstRow, .ref m32, .ref m33, .ref m34, .ref m35, .ref m36, .ref m37, .ref m38, .ref m39, .ref m40, .int s_isBroken, .ref m41, .int s_atoms, .ref m42])), (m1, .inl (ax 0, 400, .inl (fun j => nI (g j))))] := ⟨hP1, hD1⟩
        obtain ⟨hP, hD⟩ := hW7
        clear hP1 hD1 hS1
        refine lv_aload_n hx hb d_Model_term_145 rfl (lv_at hl1 1 rfl) ?_
        refine lv_aload_n hx hb d_Model_term_146 rfl (lv_at hl1 1 rfl) ?_
        refine va_get (D := D) (ci := 11) (v := .int (nI (u_51 2))) (C := R_Model) (T := F_Model) (N := 72) hx hb hts i_Model hown hK.1 hP 0 rfl rfl 6 (by decide) (hts _ wd_1042) (fun _ h9 => h9) rfl d_Model_term_147 ?_
        refine lv_iconst (v := 3) hx hb d_Model_term_150 (by decide) ?_
        refine lv_icmp_ne (tgt := 158) hx hb d_Model_term_151 (by decide) (fun c_88 => ?_) (fun c_88 => ?_)
        · replace c_88 : ¬ u_51 2 = 3 := fun hq9 => c_88 ((nI_eq (a := u_51 2) (b := 3) (by first | exact Nat.lt_of_lt_of_le (by assumption) (by decide) | exact Nat.lt_of_le_of_lt (by assumption) (by decide) | omega) (by decide)).mpr hq9)
          refine lv_iconst (v := 0) hx hb d_Model_term_158 (by decide) ?_
          obtain ⟨hPc, hDc, hFc, hCs⟩ := xw_sub3 (wc := [(m0, .inr (11, [.int s_thrown, .int s_taped, .ref m1, .int (nI n), .int s_outSize, .ref m2, .int (nI (u_51 2)), .int (nI (u_51 3)), .int (nI (u_51 0)), .int (nI (u_51 1)), .int 0, .ref m3, .ref m4, .ref m5, .int s_isProgram, .int s_half, .ref m6, .ref m7, .ref m8, .ref m9, .ref m10, .ref m11, .ref m12, .ref m13, .ref m14, .ref m15, .ref m16, .ref m17, .ref m18, .ref m19, .ref m20, .int s_signs, .ref m21, .int s_stacked, .ref m22, .int (-1), .int z_86, .int s_statements, .int s_ifs, .int s_whiles, .int s_variants, .int s_open, .ref m23, .int s_isMade, .int s_conditions, .ref m24, .ref m25, .ref m26, .ref m27, .int s_kept, .ref m28, .int s_tops, .ref m29, .int s_used, .ref m30, .ref m31, .int s_looked, .int s_rows, .int s_firstRow, .ref m32, .ref m33, .ref m34, .ref m35, .ref m36, .ref m37, .ref m38, .ref m39, .ref m40, .int s_isBroken, .ref m41, .int s_atoms, .ref m42]))]) hP hD hS hA [0] (by decide) rfl
          have hz := xz_of hN hS
          refine va_callv (va_runV (As := [.int 0]) (rest := []) ⟨hx, hb, hml, hown, hts⟩ (c_M_must_0 l D ax m0 m1 m2 m3 m4 m5 m6 m7 m8 m9 m10 m11 m12 m13 m14 m15 m16 m17 m18 m19 m20 m21 m22 m23 m24 m25 m26 m27 m28 m29 m30 m31 m32 m33 m34 m35 m36 m37 m38 m39 m40 m41 m42 s_thrown s_taped (nI n) s_outSize (nI (u_51 2)) (nI (u_51 3)) (nI (u_51 0)) (nI (u_51 1)) s_isProgram s_half s_signs s_stacked (-1) z_86 s_statements s_ifs s_whiles s_variants s_open s_isMade s_conditions s_kept s_tops s_used s_looked s_rows s_firstRow s_isBroken s_atoms H_87.size) (xcV (n := 1) hts wd_1335 wd_15 wd_1332 wd_1334 ps_61 rfl rfl (by decide +kernel) ⟨Nat.le_of_ble_eq_true rfl, Nat.le_of_ble_eq_true rfl⟩) (xpV (ci := 11) (q0 := 0) (As := [.int 0]) hPc hK hz hDc rfl rfl) rfl rfl hl1.1 rfl (lv_room (Nat.le_of_ble_eq_true rfl)) d_Model_term_159 ⟨Nat.le_of_ble_eq_true rfl, Nat.le_of_ble_eq_true rfl⟩) hS (fun q _ h => hFc q h) hFc (fun u_89 t H_90 locs ht hvm hw hB hz1 hk1 hS1 => ?_)
          try dsimp only at hw
          obtain ⟨hP1, hD1⟩ := hB
          rw [ht] at hP1
          have hjn := xw_join3 (wl := [(m1, .inl (ax 0, 400, .inl (fun j => nI (g j)))), (m0, .inr (11, [.int s_thrown, .int s_taped, .ref m1, .int (nI n), .int s_outSize, .ref m2, .int (nI (u_51 2)), .int (nI (u_51 3)), .int (nI (u_51 0)), .int (nI (u_51 1)), .int 1, .ref m3, .ref m4, .ref m5, .int s_isProgram, .int s_half, .ref m6, .ref m7, .ref m8, .ref m9, .ref m10, .ref m11, .ref m12, .ref m13, .ref m14, .ref m15, .ref m16, .ref m17, .ref m18, .ref m19, .ref m20, .int s_signs, .ref m21, .int s_stacked, .ref m22, .int (-1), .int z_86, .int s_statements, .int s_ifs, .int s_whiles, .int s_variants, .int s_open, .ref m23, .int s_isMade, .int s_conditions, .ref m24, .ref m25, .ref m26, .ref m27, .int s_kept, .ref m28, .int s_tops, .ref m29, .int s_used, .ref m30, .ref m31, .int s_looked, .int s_rows, .int s_firstRow, .ref m32, .ref m33, .ref m34, .ref m35, .ref m36, .ref m37, .ref m38, .ref m39, .ref m40, .int s_isBroken, .ref m41, .int s_atoms, .ref m42]))]) hP hD [0] [1] hCs (by decide) (by decide) hk1 hFc hP1 hD1 rfl
          clear hP1 hD1
          clear hPc hDc hFc hCs hz hz1 hk1 ht hvm
          clear hP hD hS
          have hS := hS1
          obtain ⟨hP, hD⟩ := hjn
          clear hS1
          rw [← hQe]
          obtain ⟨hP9, hD9⟩ := xw_sub2 (wc := (fun (u : Nat → Nat) (xnm : Int32) (xsh : Int32) => [(m0, .inr (11, [.int s_thrown, .int s_taped, .ref m1, .int (nI n), .int s_outSize, .ref m2, .int (nI (u 2)), .int (nI (u 3)), .int (nI (u 0)), .int (nI (u 1)), .int (nI (u 4)), .ref m3, .ref m4, .ref m5, .int s_isProgram, .int s_half, .ref m6, .ref m7, .ref m8, .ref m9, .ref m10, .ref m11, .ref m12, .ref m13, .ref m14, .ref m15, .ref m16, .ref m17, .ref m18, .ref m19, .ref m20, .int s_signs, .ref m21, .int s_stacked, .ref m22, .int xnm, .int xsh, .int s_statements, .int s_ifs, .int s_whiles, .int s_variants, .int s_open, .ref m23, .int s_isMade, .int s_conditions, .ref m24, .ref m25, .ref m26, .ref m27, .int s_kept, .ref m28, .int s_tops, .ref m29, .int s_used, .ref m30, .ref m31, .int s_looked, .int s_rows, .int s_firstRow, .ref m32, .ref m33, .ref m34, .ref m35, .ref m36, .ref m37, .ref m38, .ref m39, .ref m40, .int s_isBroken, .ref m41, .int s_atoms, .ref m42])), (m1, .inl (ax 0, 400, .inl (fun j => nI (g j))))]) (ixn [(u_51 0), (u_51 1), (u_51 2), (u_51 3), 1]) (-1) z_86) hP hD [1, 0] (by decide) rfl
          have hex0 : nmo (6 + 4 * gh) (-1) := (by first | exact Or.inl rfl | exact Or.inr ⟨_, by omega, rfl⟩ | assumption)
          have hex1 : imp0 (1) (tmQ (-1) z_86 (trmV (kd g n) (nxt g n) (kv g n) gh b)) := (Or.inl rfl)
          have hsp0 : b ≤ (u_51 0) := (by first | assumption | omega)
          have hsp1 : (u_51 0) ≤ (u_51 1) := (by first | assumption | omega)
          have hsp2 : (u_51 1) ≤ n := (by first | assumption | omega)
          have hsp3 : tk0 ((u_51 2)) ((u_51 0)) ((u_51 1)) := (by assumption)
          have hsp4 : (u_51 2) < 10000 := (by first | assumption | omega)
          have hsp5 : (u_51 3) < 20000 := (by first | assumption | omega)
          have hsp6 : tkq g n ((u_51 0)) ((u_51 1)) ((u_51 2)) ((u_51 3)) := (by assumption)
          have hsp7 : 1 ≤ 1 := (by first | assumption | omega)
          have hsp8 : imp0 (1) (b < (u_51 0)) := (Or.inl rfl)
          have hsp9 : trmG (kd g n) (nxt g n) gh b = (1, (u_51 0)) := (by first | exact trm_e hkv (by first | assumption | omega) (by first | assumption | omega) hs_64 hs_57 (by first | assumption | omega))
          exact W.vret hx hb hr (fun t ht hW => ⟨⟨ixn [(u_51 0), (u_51 1), (u_51 2), (u_51 3), 1], rfl, ⟨hsp0, hsp1, hsp2, hsp3, hsp4, hsp5, hsp6, hsp7, hsp8, hsp9⟩, ⟨(-1), z_86, hex0, hex1, by rw [ht]; exact hP9, hD9⟩⟩, hS.F ht⟩) hS.2.2 d_Model_term_162
        · replace c_88 : u_51 2 = 3 := (nI_eq (a := u_51 2) (b := 3) (by first | exact Nat.lt_of_lt_of_le (by assumption) (by decide) | exact Nat.lt_of_le_of_lt (by assumption) (by decide) | omega) (by decide)).mp c_88
          have hlt_92 : u_51 0 < u_51 1 := tk0.lt (by assumption) (by first | assumption | omega)
          refine lv_iconst (v := 1) hx hb d_Model_term_154 (by decide) ?_
          refine lv_goto (tgt := 159) hx hb d_Model_term_155 (by decide) ?_
          obtain ⟨hPc, hDc, hFc, hCs⟩ := xw_sub3 (wc := [(m0, .inr (11, [.int s_thrown, .int s_taped, .ref m1, .int (nI n), .int s_outSize, .ref m2, .int (nI (u_51 2)), .int (nI (u_51 3)), .int (nI (u_51 0)), .int (nI (u_51 1)), .int 0, .ref m3, .ref m4, .ref m5, .int s_isProgram, .int s_half, .ref m6, .ref m7, .ref m8, .ref m9, .ref m10, .ref m11, .ref m12, .ref m13, .ref m14, .ref m15, .ref m16, .ref m17, .ref m18, .ref m19, .ref m20, .int s_signs, .ref m21, .int s_stacked, .ref m22, .int (-1), .int z_86, .int s_statements, .int s_ifs, .int s_whiles, .int s_variants, .int s_open, .ref m23, .int s_isMade, .int s_conditions, .ref m24, .ref m25, .ref m26, .ref m27, .int s_kept, .ref m28, .int s_tops, .ref m29, .int s_used, .ref m30, .ref m31, .int s_looked, .int s_rows, .int s_firstRow, .ref m32, .ref m33, .ref m34, .ref m35, .ref m36, .ref m37, .ref m38, .ref m39, .ref m40, .int s_isBroken, .ref m41, .int s_atoms, .ref m42])), (m1, .inl (ax 0, 400, .inl (fun j => nI (g j))))]) hP hD hS hA [0, 1] (by decide) rfl
          have hz := xz_of hN hS
          refine va_callv (va_runV (As := [.int 1]) (rest := []) ⟨hx, hb, hml, hown, hts⟩ (c_M_must_1 l D ax m0 m1 m2 m3 m4 m5 m6 m7 m8 m9 m10 m11 m12 m13 m14 m15 m16 m17 m18 m19 m20 m21 m22 m23 m24 m25 m26 m27 m28 m29 m30 m31 m32 m33 m34 m35 m36 m37 m38 m39 m40 m41 m42 s_thrown s_taped s_outSize (nI (u_51 2)) (nI (u_51 0)) s_isProgram s_half s_signs s_stacked (-1) z_86 s_statements s_ifs s_whiles s_variants s_open s_isMade s_conditions s_kept s_tops s_used s_looked s_rows s_firstRow s_isBroken s_atoms n (u_51 1) (u_51 3) g H_87.size hn (by first | assumption | omega) hg (by first | assumption | omega)) (xcV (n := 1) hts wd_1335 wd_15 wd_1332 wd_1334 ps_61 rfl rfl (by decide +kernel) ⟨Nat.le_of_ble_eq_true rfl, Nat.le_of_ble_eq_true rfl⟩) (xpV (ci := 11) (q0 := 0) (As := [.int 1]) hPc hK hz hDc rfl rfl) rfl rfl hl1.1 rfl (lv_room (Nat.le_of_ble_eq_true rfl)) d_Model_term_159 ⟨Nat.le_of_ble_eq_true rfl, Nat.le_of_ble_eq_true rfl⟩) hS (fun q _ h => hFc q h) hFc (fun u_93 t H_94 locs ht hvm hw hB hz1 hk1 hS1 => ?_)
          try dsimp only at hw
          obtain ⟨-, -, -, hs_99, hs_100, hs_101, hs_102, hs_103, hs_104, hs_105, hs_106⟩ := hw
          obtain ⟨hP1, hD1⟩ := hB
          rw [ht] at hP1
          have hjn := xw_join3 (wl := [(m0, .inr (11, [.int s_thrown, .int s_taped, .ref m1, .int (nI n), .int s_outSize, .ref m2, .int (nI (u_93 2)), .int (nI (u_93 3)), .int (nI (u_93 0)), .int (nI (u_93 1)), .int 0, .ref m3, .ref m4, .ref m5, .int s_isProgram, .int s_half, .ref m6, .ref m7, .ref m8, .ref m9, .ref m10, .ref m11, .ref m12, .ref m13, .ref m14, .ref m15, .ref m16, .ref m17, .ref m18, .ref m19, .ref m20, .int s_signs, .ref m21, .int s_stacked, .ref m22, .int (-1), .int z_86, .int s_statements, .int s_ifs, .int s_whiles, .int s_variants, .int s_open, .ref m23, .int s_isMade, .int s_conditions, .ref m24, .ref m25, .ref m26, .ref m27, .int s_kept, .ref m28, .int s_tops, .ref m29, .int s_used, .ref m30, .ref m31, .int s_looked, .int s_rows, .int s_firstRow, .ref m32, .ref m33, .ref m34, .ref m35, .ref m36, .ref m37, .ref m38, .ref m39, .ref m40, .int s_isBroken, .ref m41, .int s_atoms, .ref m42])), (m1, .inl (ax 0, 400, .inl (fun j => nI (g j))))]) hP hD [0, 1] [] hCs (by decide) (by decide) hk1 hFc hP1 hD1 rfl
          clear hP1 hD1
          clear hPc hDc hFc hCs hz hz1 hk1 ht hvm
          clear hP hD hS
          have hS := hS1
          obtain ⟨hP, hD⟩ := hjn
          clear hS1
          rw [← hQe]
          obtain ⟨hP9, hD9⟩ := xw_sub2 (wc := (fun (u : Nat → Nat) (xnm : Int32) (xsh : Int32) => [(m0, .inr (11, [.int s_thrown, .int s_taped, .ref m1, .int (nI n), .int s_outSize, .ref m2, .int (nI (u 2)), .int (nI (u 3)), .int (nI (u 0)), .int (nI (u 1)), .int (nI (u 4)), .ref m3, .ref m4, .ref m5, .int s_isProgram, .int s_half, .ref m6, .ref m7, .ref m8, .ref m9, .ref m10, .ref m11, .ref m12, .ref m13, .ref m14, .ref m15, .ref m16, .ref m17, .ref m18, .ref m19, .ref m20, .int s_signs, .ref m21, .int s_stacked, .ref m22, .int xnm, .int xsh, .int s_statements, .int s_ifs, .int s_whiles, .int s_variants, .int s_open, .ref m23, .int s_isMade, .int s_conditions, .ref m24, .ref m25, .ref m26, .ref m27, .int s_kept, .ref m28, .int s_tops, .ref m29, .int s_used, .ref m30, .ref m31, .int s_looked, .int s_rows, .int s_firstRow, .ref m32, .ref m33, .ref m34, .ref m35, .ref m36, .ref m37, .ref m38, .ref m39, .ref m40, .int s_isBroken, .ref m41, .int s_atoms, .ref m42])), (m1, .inl (ax 0, 400, .inl (fun j => nI (g j))))]) (ixn [(u_93 0), (u_93 1), (u_93 2), (u_93 3), 0]) (-1) z_86) hP hD [0, 1] (by decide) rfl
          have hex0 : nmo (6 + 4 * gh) (-1) := (by first | exact Or.inl rfl | exact Or.inr ⟨_, by omega, rfl⟩ | assumption)
          have hex1 : imp0 (0) (tmQ (-1) z_86 (trmV (kd g n) (nxt g n) (kv g n) gh b)) := (Or.inr (by first | exact trv_a hkv (by first | assumption | omega) hs_64 hs_57 (by first | assumption | omega) | exact trv_f hkv (by first | assumption | omega) (by first | assumption | omega) (by first | assumption | omega) (by first | rfl | assumption | (exfalso; omega)) | exact trv_d hkv (by first | assumption | omega) (by first | assumption | omega) hs_64 hs_57 (by first | assumption | omega) (by first | rfl | assumption | (exfalso; omega))))
          have hsp0 : b ≤ (u_93 0) := (by first | assumption | omega)
          have hsp1 : (u_93 0) ≤ (u_93 1) := (by first | assumption | omega)
          have hsp2 : (u_93 1) ≤ n := (by first | assumption | omega)
          have hsp3 : tk0 ((u_93 2)) ((u_93 0)) ((u_93 1)) := (by assumption)
          have hsp4 : (u_93 2) < 10000 := (by first | assumption | omega)
          have hsp5 : (u_93 3) < 20000 := (by first | assumption | omega)
          have hsp6 : tkq g n ((u_93 0)) ((u_93 1)) ((u_93 2)) ((u_93 3)) := (by assumption)
          have hsp7 : 0 ≤ 1 := (by first | assumption | omega)
          have hsp8 : imp0 (0) (b < (u_93 0)) := (Or.inr (by first | assumption | omega))
          have hsp9 : trmG (kd g n) (nxt g n) gh b = (0, (u_93 0)) := (by first | exact trm_d hkv (by first | assumption | omega) (by first | assumption | omega) hs_64 hs_57 (by first | assumption | omega) hs_99)
          exact W.vret hx hb hr (fun t ht hW => ⟨⟨ixn [(u_93 0), (u_93 1), (u_93 2), (u_93 3), 0], rfl, ⟨hsp0, hsp1, hsp2, hsp3, hsp4, hsp5, hsp6, hsp7, hsp8, hsp9⟩, ⟨(-1), z_86, hex0, hex1, by rw [ht]; exact hP9, hD9⟩⟩, hS.F ht⟩) hS.2.2 d_Model_term_162
  · replace c_3 : k = 2 := (nI_eq (a := k) (b := 2) (by first | exact Nat.lt_of_lt_of_le (by assumption) (by decide) | exact Nat.lt_of_le_of_lt (by assumption) (by decide) | omega) (by decide)).mp c_3
    have hlt_107 : b < en := tk0.lt (by assumption) (by first | assumption | omega)
    have hvt_108 : v < 10 := tkq.lt (k := k) (by assumption) (by first | assumption | omega)
    refine lv_aload_n hx hb d_Model_term_18 rfl (lv_at hl1 0 rfl) ?_
    refine va_get (D := D) (ci := 11) (v := .int (nI v)) (C := R_Model) (T := F_Model) (N := 72) hx hb hts i_Model hown hK.1 hP 0 rfl rfl 7 (by decide) (hts _ wd_1043) (fun _ h9 => h9) rfl d_Model_term_19 ?_
    refine lv_bipush (v := 6) hx hb d_Model_term_22 (by decide) ?_
    refine lv_icmp_lt (tgt := 31) hx hb d_Model_term_24 (by decide) (fun c_109 => ?_) (fun c_109 => ?_)
    · replace c_109 : v < 6 := (nI_ltI (a := v) (b := 6) (by first | exact Nat.lt_of_lt_of_le (by assumption) (by decide) | exact Nat.lt_of_le_of_lt (by assumption) (by decide) | omega) (by decide)).mp c_109
      refine lv_aload_n hx hb d_Model_term_31 rfl (lv_at hl1 0 rfl) ?_
      refine lv_aload_n hx hb d_Model_term_32 rfl (lv_at hl1 0 rfl) ?_
      refine va_get (D := D) (ci := 11) (v := .int (nI v)) (C := R_Model) (T := F_Model) (N := 72) hx hb hts i_Model hown hK.1 hP 0 rfl rfl 7 (by decide) (hts _ wd_1043) (fun _ h9 => h9) rfl d_Model_term_33 ?_
      refine va_put (D := D) (ci := 11) (v := .int (nI v)) (ty := .int) (C := R_Model) (T := F_Model) (N := 72) hx hb hts i_Model t_Model t_Model_ok n_Model hown hK.1 hP hD hS 0 rfl rfl 35 (by decide) (hts _ wd_1071) (fun _ h9 => h9) rfl (by decide +kernel) rfl rfl (Nat.le_of_ble_eq_true rfl) d_Model_term_36 (fun H_110 locs hP1 hD1 hS1 => ?_)
      clear hP hD hS
      have hS := hS1
      have hW7 : (fun w9 : va_W => va_P D classes w9 H_110 ∧ va_D A w9) [(m0, .inr (11, [.int s_thrown, .int s_taped, .ref m1, .int (nI n), .int s_outSize, .ref m2, .int (nI k), .int (nI v), .int (nI b), .int (nI en), .int 0, .ref m3, .ref m4, .ref m5, .int s_isProgram, .int s_half, .ref m6, .ref m7, .ref m8, .ref m9, .ref m10, .ref m11, .ref m12, .ref m13, .ref m14, .ref m15, .ref m16, .ref m17, .ref m18, .ref m19, .ref m20, .int s_signs, .ref m21, .int s_stacked, .ref m22, .int (nI v), .int 0, .int s_statements, .int s_ifs, .int s_whiles, .int s_variants, .int s_open, .ref m23, .int s_isMade, .int s_conditions, .ref m24, .ref m25, .ref m26, .ref m27, .int s_kept, .ref m28, .int s_tops, .ref m29, .int s_used, .ref m30, .ref m31, .int s_looked, .int s_rows, .int s_firstRow, .ref m32, .ref m33, .ref m34, .ref m35, .ref m36, .ref m37, .ref m38, .ref m39, .ref m40, .int s_isBroken, .ref m41, .int s_atoms, .ref m42])), (m1, .inl (ax 0, 400, .inl (fun j => nI (g j))))] := ⟨hP1, hD1⟩
      obtain ⟨hP, hD⟩ := hW7
      clear hP1 hD1 hS1
      refine lv_aload_n hx hb d_Model_term_39 rfl (lv_at hl1 0 rfl) ?_
      obtain ⟨hPc, hDc, hFc, hCs⟩ := xw_sub3 (wc := [(m0, .inr (11, [.int s_thrown, .int s_taped, .ref m1, .int (nI n), .int s_outSize, .ref m2, .int (nI k), .int (nI v), .int (nI b), .int (nI en), .int 0, .ref m3, .ref m4, .ref m5, .int s_isProgram, .int s_half, .ref m6, .ref m7, .ref m8, .ref m9, .ref m10, .ref m11, .ref m12, .ref m13, .ref m14, .ref m15, .ref m16, .ref m17, .ref m18, .ref m19, .ref m20, .int s_signs, .ref m21, .int s_stacked, .ref m22, .int (nI v), .int 0, .int s_statements, .int s_ifs, .int s_whiles, .int s_variants, .int s_open, .ref m23, .int s_isMade, .int s_conditions, .ref m24, .ref m25, .ref m26, .ref m27, .int s_kept, .ref m28, .int s_tops, .ref m29, .int s_used, .ref m30, .ref m31, .int s_looked, .int s_rows, .int s_firstRow, .ref m32, .ref m33, .ref m34, .ref m35, .ref m36, .ref m37, .ref m38, .ref m39, .ref m40, .int s_isBroken, .ref m41, .int s_atoms, .ref m42])), (m1, .inl (ax 0, 400, .inl (fun j => nI (g j))))]) hP hD hS hA [0, 1] (by decide) rfl
      have hz := xz_of hN hS
      refine va_callv (va_runV (As := []) (rest := []) ⟨hx, hb, hml, hown, hts⟩ (c_M_next l D ax m0 m1 m2 m3 m4 m5 m6 m7 m8 m9 m10 m11 m12 m13 m14 m15 m16 m17 m18 m19 m20 m21 m22 m23 m24 m25 m26 m27 m28 m29 m30 m31 m32 m33 m34 m35 m36 m37 m38 m39 m40 m41 m42 s_thrown s_taped s_outSize (nI k) (nI b) 0 s_isProgram s_half s_signs s_stacked (nI v) 0 s_statements s_ifs s_whiles s_variants s_open s_isMade s_conditions s_kept s_tops s_used s_looked s_rows s_firstRow s_isBroken s_atoms n en v g H_110.size hn (by first | assumption | omega) hg (by first | assumption | omega)) (xcV (n := 0) hts wd_1278 wd_15 wd_1275 wd_1277 ps_51 rfl rfl (by decide +kernel) ⟨Nat.le_of_ble_eq_true rfl, Nat.le_of_ble_eq_true rfl⟩) (xpV (ci := 11) (q0 := 0) (As := []) hPc hK hz hDc rfl rfl) rfl rfl hl1.1 rfl (lv_room (Nat.le_of_ble_eq_true rfl)) d_Model_term_40 ⟨Nat.le_of_ble_eq_true rfl, Nat.le_of_ble_eq_true rfl⟩) hS (fun q _ h => hFc q h) hFc (fun u_111 t H_112 locs ht hvm hw hB hz1 hk1 hS1 => ?_)
      try dsimp only at hw
      obtain ⟨-, -, -, hs_117, hs_118, hs_119, hs_120, hs_121, hs_122, hs_123, hs_124⟩ := hw
      obtain ⟨hP1, hD1⟩ := hB
      rw [ht] at hP1
      have hjn := xw_join3 (wl := [(m0, .inr (11, [.int s_thrown, .int s_taped, .ref m1, .int (nI n), .int s_outSize, .ref m2, .int (nI (u_111 2)), .int (nI (u_111 3)), .int (nI (u_111 0)), .int (nI (u_111 1)), .int 0, .ref m3, .ref m4, .ref m5, .int s_isProgram, .int s_half, .ref m6, .ref m7, .ref m8, .ref m9, .ref m10, .ref m11, .ref m12, .ref m13, .ref m14, .ref m15, .ref m16, .ref m17, .ref m18, .ref m19, .ref m20, .int s_signs, .ref m21, .int s_stacked, .ref m22, .int (nI v), .int 0, .int s_statements, .int s_ifs, .int s_whiles, .int s_variants, .int s_open, .ref m23, .int s_isMade, .int s_conditions, .ref m24, .ref m25, .ref m26, .ref m27, .int s_kept, .ref m28, .int s_tops, .ref m29, .int s_used, .ref m30, .ref m31, .int s_looked, .int s_rows, .int s_firstRow, .ref m32, .ref m33, .ref m34, .ref m35, .ref m36, .ref m37, .ref m38, .ref m39, .ref m40, .int s_isBroken, .ref m41, .int s_atoms, .ref m42])), (m1, .inl (ax 0, 400, .inl (fun j => nI (g j))))]) hP hD [0, 1] [] hCs (by decide) (by decide) hk1 hFc hP1 hD1 rfl
      clear hP1 hD1
      clear hPc hDc hFc hCs hz hz1 hk1 ht hvm
      clear hP hD hS
      have hS := hS1
      obtain ⟨hP, hD⟩ := hjn
      clear hS1
      refine lv_aload_n hx hb d_Model_term_43 rfl (lv_at hl1 0 rfl) ?_
      refine lv_bipush (v := 43) hx hb d_Model_term_44 (by decide) ?_
      obtain ⟨hPc, hDc, hFc, hCs⟩ := xw_sub3 (wc := [(m0, .inr (11, [.int s_thrown, .int s_taped, .ref m1, .int (nI n), .int s_outSize, .ref m2, .int (nI (u_111 2)), .int (nI (u_111 3)), .int (nI (u_111 0)), .int (nI (u_111 1)), .int 0, .ref m3, .ref m4, .ref m5, .int s_isProgram, .int s_half, .ref m6, .ref m7, .ref m8, .ref m9, .ref m10, .ref m11, .ref m12, .ref m13, .ref m14, .ref m15, .ref m16, .ref m17, .ref m18, .ref m19, .ref m20, .int s_signs, .ref m21, .int s_stacked, .ref m22, .int (nI v), .int 0, .int s_statements, .int s_ifs, .int s_whiles, .int s_variants, .int s_open, .ref m23, .int s_isMade, .int s_conditions, .ref m24, .ref m25, .ref m26, .ref m27, .int s_kept, .ref m28, .int s_tops, .ref m29, .int s_used, .ref m30, .ref m31, .int s_looked, .int s_rows, .int s_firstRow, .ref m32, .ref m33, .ref m34, .ref m35, .ref m36, .ref m37, .ref m38, .ref m39, .ref m40, .int s_isBroken, .ref m41, .int s_atoms, .ref m42]))]) hP hD hS hA [0] (by decide) rfl
      have hz := xz_of hN hS
      refine va_calli (va_runV (As := [.int 43]) (rest := []) ⟨hx, hb, hml, hown, hts⟩ (c_M_is l D ax m0 m1 m2 m3 m4 m5 m6 m7 m8 m9 m10 m11 m12 m13 m14 m15 m16 m17 m18 m19 m20 m21 m22 m23 m24 m25 m26 m27 m28 m29 m30 m31 m32 m33 m34 m35 m36 m37 m38 m39 m40 m41 m42 s_thrown s_taped (nI n) s_outSize (nI (u_111 3)) (nI (u_111 0)) (nI (u_111 1)) 0 s_isProgram s_half s_signs s_stacked (nI v) 0 s_statements s_ifs s_whiles s_variants s_open s_isMade s_conditions s_kept s_tops s_used s_looked s_rows s_firstRow s_isBroken s_atoms (u_111 2) 43 H_112.size (by first | assumption | omega) (by first | assumption | omega)) (xcV (n := 1) hts wd_1319 wd_15 wd_1316 wd_1318 ps_57 rfl rfl (by decide +kernel) ⟨Nat.le_of_ble_eq_true rfl, Nat.le_of_ble_eq_true rfl⟩) (xpV (ci := 11) (q0 := 0) (As := [.int 43]) hPc hK hz hDc rfl rfl) rfl rfl hl1.1 rfl (lv_room (Nat.le_of_ble_eq_true rfl)) d_Model_term_46 ⟨Nat.le_of_ble_eq_true rfl, Nat.le_of_ble_eq_true rfl⟩) hS (fun q _ h => hFc q h) hFc (fun r_127 u_125 t H_126 locs ht hvm hw hB hz1 hk1 hS1 => ?_)
      try dsimp only at hw
      subst hw
      obtain ⟨hP1, hD1⟩ := hB
      rw [ht] at hP1
      have hjn := xw_join3 (wl := [(m1, .inl (ax 0, 400, .inl (fun j => nI (g j)))), (m0, .inr (11, [.int s_thrown, .int s_taped, .ref m1, .int (nI n), .int s_outSize, .ref m2, .int (nI (u_111 2)), .int (nI (u_111 3)), .int (nI (u_111 0)), .int (nI (u_111 1)), .int 0, .ref m3, .ref m4, .ref m5, .int s_isProgram, .int s_half, .ref m6, .ref m7, .ref m8, .ref m9, .ref m10, .ref m11, .ref m12, .ref m13, .ref m14, .ref m15, .ref m16, .ref m17, .ref m18, .ref m19, .ref m20, .int s_signs, .ref m21, .int s_stacked, .ref m22, .int (nI v), .int 0, .int s_statements, .int s_ifs, .int s_whiles, .int s_variants, .int s_open, .ref m23, .int s_isMade, .int s_conditions, .ref m24, .ref m25, .ref m26, .ref m27, .int s_kept, .ref m28, .int s_tops, .ref m29, .int s_used, .ref m30, .ref m31, .int s_looked, .int s_rows, .int s_firstRow, .ref m32, .ref m33, .ref m34, .ref m35, .ref m36, .ref m37, .ref m38, .ref m39, .ref m40, .int s_isBroken, .ref m41, .int s_atoms, .ref m42]))]) hP hD [0] [1] hCs (by decide) (by decide) hk1 hFc hP1 hD1 rfl
      clear hP1 hD1
      clear hPc hDc hFc hCs hz hz1 hk1 ht hvm
      clear hP hD hS
      have hS := hS1
      obtain ⟨hP, hD⟩ := hjn
      clear hS1
      refine lv_if_ne (tgt := 61) hx hb d_Model_term_49 (by decide) (fun c_128 => ?_) (fun c_128 => ?_)
      · replace c_128 : ((u_111 2) = 200 + 43) := zb_y c_128
        refine lv_aload_n hx hb d_Model_term_61 rfl (lv_at hl1 0 rfl) ?_
        refine lv_bipush (v := 45) hx hb d_Model_term_62 (by decide) ?_
        obtain ⟨hPc, hDc, hFc, hCs⟩ := xw_sub3 (wc := [(m0, .inr (11, [.int s_thrown, .int s_taped, .ref m1, .int (nI n), .int s_outSize, .ref m2, .int (nI (u_111 2)), .int (nI (u_111 3)), .int (nI (u_111 0)), .int (nI (u_111 1)), .int 0, .ref m3, .ref m4, .ref m5, .int s_isProgram, .int s_half, .ref m6, .ref m7, .ref m8, .ref m9, .ref m10, .ref m11, .ref m12, .ref m13, .ref m14, .ref m15, .ref m16, .ref m17, .ref m18, .ref m19, .ref m20, .int s_signs, .ref m21, .int s_stacked, .ref m22, .int (nI v), .int 0, .int s_statements, .int s_ifs, .int s_whiles, .int s_variants, .int s_open, .ref m23, .int s_isMade, .int s_conditions, .ref m24, .ref m25, .ref m26, .ref m27, .int s_kept, .ref m28, .int s_tops, .ref m29, .int s_used, .ref m30, .ref m31, .int s_looked, .int s_rows, .int s_firstRow, .ref m32, .ref m33, .ref m34, .ref m35, .ref m36, .ref m37, .ref m38, .ref m39, .ref m40, .int s_isBroken, .ref m41, .int s_atoms, .ref m42]))]) hP hD hS hA [1] (by decide) rfl
        have hz := xz_of hN hS
        refine va_calli (va_runV (As := [.int 45]) (rest := []) ⟨hx, hb, hml, hown, hts⟩ (c_M_is l D ax m0 m1 m2 m3 m4 m5 m6 m7 m8 m9 m10 m11 m12 m13 m14 m15 m16 m17 m18 m19 m20 m21 m22 m23 m24 m25 m26 m27 m28 m29 m30 m31 m32 m33 m34 m35 m36 m37 m38 m39 m40 m41 m42 s_thrown s_taped (nI n) s_outSize (nI (u_111 3)) (nI (u_111 0)) (nI (u_111 1)) 0 s_isProgram s_half s_signs s_stacked (nI v) 0 s_statements s_ifs s_whiles s_variants s_open s_isMade s_conditions s_kept s_tops s_used s_looked s_rows s_firstRow s_isBroken s_atoms (u_111 2) 45 H_126.size (by first | assumption | omega) (by first | assumption | omega)) (xcV (n := 1) hts wd_1319 wd_15 wd_1316 wd_1318 ps_57 rfl rfl (by decide +kernel) ⟨Nat.le_of_ble_eq_true rfl, Nat.le_of_ble_eq_true rfl⟩) (xpV (ci := 11) (q0 := 0) (As := [.int 45]) hPc hK hz hDc rfl rfl) rfl rfl hl1.1 rfl (lv_room (Nat.le_of_ble_eq_true rfl)) d_Model_term_64 ⟨Nat.le_of_ble_eq_true rfl, Nat.le_of_ble_eq_true rfl⟩) hS (fun q _ h => hFc q h) hFc (fun r_131 u_129 t H_130 locs ht hvm hw hB hz1 hk1 hS1 => ?_)
        try dsimp only at hw
        subst hw
        obtain ⟨hP1, hD1⟩ := hB
        rw [ht] at hP1
        have hjn := xw_join3 (wl := [(m1, .inl (ax 0, 400, .inl (fun j => nI (g j)))), (m0, .inr (11, [.int s_thrown, .int s_taped, .ref m1, .int (nI n), .int s_outSize, .ref m2, .int (nI (u_111 2)), .int (nI (u_111 3)), .int (nI (u_111 0)), .int (nI (u_111 1)), .int 0, .ref m3, .ref m4, .ref m5, .int s_isProgram, .int s_half, .ref m6, .ref m7, .ref m8, .ref m9, .ref m10, .ref m11, .ref m12, .ref m13, .ref m14, .ref m15, .ref m16, .ref m17, .ref m18, .ref m19, .ref m20, .int s_signs, .ref m21, .int s_stacked, .ref m22, .int (nI v), .int 0, .int s_statements, .int s_ifs, .int s_whiles, .int s_variants, .int s_open, .ref m23, .int s_isMade, .int s_conditions, .ref m24, .ref m25, .ref m26, .ref m27, .int s_kept, .ref m28, .int s_tops, .ref m29, .int s_used, .ref m30, .ref m31, .int s_looked, .int s_rows, .int s_firstRow, .ref m32, .ref m33, .ref m34, .ref m35, .ref m36, .ref m37, .ref m38, .ref m39, .ref m40, .int s_isBroken, .ref m41, .int s_atoms, .ref m42]))]) hP hD [1] [0] hCs (by decide) (by decide) hk1 hFc hP1 hD1 rfl
        clear hP1 hD1
        clear hPc hDc hFc hCs hz hz1 hk1 ht hvm
        clear hP hD hS
        have hS := hS1
        obtain ⟨hP, hD⟩ := hjn
        clear hS1
        refine lv_istore_n (lv' := [(2, .int (zb ((u_111 2) = 200 + 45))), (0, .ref m0), (1, .int (nI gh))]) hx hb d_Model_term_67 rfl hl1 (by decide) rfl (fun ls hl2 => ?_)
        clear hl1; have hl1 := hl2; clear hl2
        refine lv_aload_n hx hb d_Model_term_68 rfl (lv_at hl1 1 rfl) ?_
        obtain ⟨hPc, hDc, hFc, hCs⟩ := xw_sub3 (wc := [(m0, .inr (11, [.int s_thrown, .int s_taped, .ref m1, .int (nI n), .int s_outSize, .ref m2, .int (nI (u_111 2)), .int (nI (u_111 3)), .int (nI (u_111 0)), .int (nI (u_111 1)), .int 0, .ref m3, .ref m4, .ref m5, .int s_isProgram, .int s_half, .ref m6, .ref m7, .ref m8, .ref m9, .ref m10, .ref m11, .ref m12, .ref m13, .ref m14, .ref m15, .ref m16, .ref m17, .ref m18, .ref m19, .ref m20, .int s_signs, .ref m21, .int s_stacked, .ref m22, .int (nI v), .int 0, .int s_statements, .int s_ifs, .int s_whiles, .int s_variants, .int s_open, .ref m23, .int s_isMade, .int s_conditions, .ref m24, .ref m25, .ref m26, .ref m27, .int s_kept, .ref m28, .int s_tops, .ref m29, .int s_used, .ref m30, .ref m31, .int s_looked, .int s_rows, .int s_firstRow, .ref m32, .ref m33, .ref m34, .ref m35, .ref m36, .ref m37, .ref m38, .ref m39, .ref m40, .int s_isBroken, .ref m41, .int s_atoms, .ref m42])), (m1, .inl (ax 0, 400, .inl (fun j => nI (g j))))]) hP hD hS hA [1, 0] (by decide) rfl
        have hz := xz_of hN hS
        refine va_callv (va_runV (As := []) (rest := []) ⟨hx, hb, hml, hown, hts⟩ (c_M_next l D ax m0 m1 m2 m3 m4 m5 m6 m7 m8 m9 m10 m11 m12 m13 m14 m15 m16 m17 m18 m19 m20 m21 m22 m23 m24 m25 m26 m27 m28 m29 m30 m31 m32 m33 m34 m35 m36 m37 m38 m39 m40 m41 m42 s_thrown s_taped s_outSize (nI (u_111 2)) (nI (u_111 0)) 0 s_isProgram s_half s_signs s_stacked (nI v) 0 s_statements s_ifs s_whiles s_variants s_open s_isMade s_conditions s_kept s_tops s_used s_looked s_rows s_firstRow s_isBroken s_atoms n (u_111 1) (u_111 3) g H_130.size hn (by first | assumption | omega) hg (by first | assumption | omega)) (xcV (n := 0) hts wd_1278 wd_15 wd_1275 wd_1277 ps_51 rfl rfl (by decide +kernel) ⟨Nat.le_of_ble_eq_true rfl, Nat.le_of_ble_eq_true rfl⟩) (xpV (ci := 11) (q0 := 0) (As := []) hPc hK hz hDc rfl rfl) rfl rfl hl1.1 rfl (lv_room (Nat.le_of_ble_eq_true rfl)) d_Model_term_69 ⟨Nat.le_of_ble_eq_true rfl, Nat.le_of_ble_eq_true rfl⟩) hS (fun q _ h => hFc q h) hFc (fun u_132 t H_133 locs ht hvm hw hB hz1 hk1 hS1 => ?_)
        try dsimp only at hw
        obtain ⟨-, -, -, hs_138, hs_139, hs_140, hs_141, hs_142, hs_143, hs_144, hs_145⟩ := hw
        obtain ⟨hP1, hD1⟩ := hB
        rw [ht] at hP1
        have hjn := xw_join3 (wl := [(m0, .inr (11, [.int s_thrown, .int s_taped, .ref m1, .int (nI n), .int s_outSize, .ref m2, .int (nI (u_132 2)), .int (nI (u_132 3)), .int (nI (u_132 0)), .int (nI (u_132 1)), .int 0, .ref m3, .ref m4, .ref m5, .int s_isProgram, .int s_half, .ref m6, .ref m7, .ref m8, .ref m9, .ref m10, .ref m11, .ref m12, .ref m13, .ref m14, .ref m15, .ref m16, .ref m17, .ref m18, .ref m19, .ref m20, .int s_signs, .ref m21, .int s_stacked, .ref m22, .int (nI v), .int 0, .int s_statements, .int s_ifs, .int s_whiles, .int s_variants, .int s_open, .ref m23, .int s_isMade, .int s_conditions, .ref m24, .ref m25, .ref m26, .ref m27, .int s_kept, .ref m28, .int s_tops, .ref m29, .int s_used, .ref m30, .ref m31, .int s_looked, .int s_rows, .int s_firstRow, .ref m32, .ref m33, .ref m34, .ref m35, .ref m36, .ref m37, .ref m38, .ref m39, .ref m40, .int s_isBroken, .ref m41, .int s_atoms, .ref m42])), (m1, .inl (ax 0, 400, .inl (fun j => nI (g j))))]) hP hD [1, 0] [] hCs (by decide) (by decide) hk1 hFc hP1 hD1 rfl
        clear hP1 hD1
        clear hPc hDc hFc hCs hz hz1 hk1 ht hvm
        clear hP hD hS
        have hS := hS1
        obtain ⟨hP, hD⟩ := hjn
        clear hS1
        refine lv_aload_n hx hb d_Model_term_72 rfl (lv_at hl1 1 rfl) ?_
        refine lv_iload_n hx hb d_Model_term_73 rfl (lv_at hl1 0 rfl) ?_
        refine lv_if_eq (tgt := 85) hx hb d_Model_term_74 (by decide) (fun c_146 => ?_) (fun c_146 => ?_)
        · replace c_146 : ¬ ((u_111 2) = 200 + 45) := zb_n c_146
          refine lv_aload_n hx hb d_Model_term_85 rfl (lv_at hl1 1 rfl) ?_
          refine va_get (D := D) (ci := 11) (v := .int (nI (u_132 3))) (C := R_Model) (T := F_Model) (N := 72) hx hb hts i_Model hown hK.1 hP 0 rfl rfl 7 (by decide) (hts _ wd_1043) (fun _ h9 => h9) rfl d_Model_term_86 ?_
          refine va_put (D := D) (ci := 11) (v := .int (nI (u_132 3))) (ty := .int) (C := R_Model) (T := F_Model) (N := 72) hx hb hts i_Model t_Model t_Model_ok n_Model hown hK.1 hP hD hS 0 rfl rfl 36 (by decide) (hts _ wd_1072) (fun _ h9 => h9) rfl (by decide +kernel) rfl rfl (Nat.le_of_ble_eq_true rfl) d_Model_term_89 (fun H_147 locs hP1 hD1 hS1 => ?_)
          clear hP hD hS
          have hS := hS1
          have hW7 : (fun w9 : va_W => va_P D classes w9 H_147 ∧ va_D A w9) [(m0, .inr (11, [.int s_thrown, .int s_taped, .ref m1, .int (nI n), .int s_outSize, .ref m2, .int (nI (u_132 2)), .int (nI (u_132 3)), .int (nI (u_132 0)), .int (nI (u_132 1)), .int 0, .ref m3, .ref m4, .ref m5, .int s_isProgram, .int s_half, .ref m6, .ref m7, .ref m8, .ref m9, .ref m10, .ref m11, .ref m12, .ref m13, .ref m14, .ref m15, .ref m16, .ref m17, .ref m18, .ref m19, .ref m20, .int s_signs, .ref m21, .int s_stacked, .ref m22, .int (nI v), .int (nI (u_132 3)), .int s_statements, .int s_ifs, .int s_whiles, .int s_variants, .int s_open, .ref m23, .int s_isMade, .int s_conditions, .ref m24, .ref m25, .ref m26, .ref m27, .int s_kept, .ref m28, .int s_tops, .ref m29, .int s_used, .ref m30, .ref m31, .int s_looked, .int s_rows, .int s_firstRow, .ref m32, .ref m33, .ref m34, .ref m35, .ref m36, .ref m37, .ref m38, .ref m39, .ref m40, .int s_isBroken, .ref m41, .int s_atoms, .ref m42])), (m1, .inl (ax 0, 400, .inl (fun j => nI (g j))))] := ⟨hP1, hD1⟩
          obtain ⟨hP, hD⟩ := hW7
          clear hP1 hD1 hS1
          refine lv_aload_n hx hb d_Model_term_92 rfl (lv_at hl1 1 rfl) ?_
          refine lv_aload_n hx hb d_Model_term_93 rfl (lv_at hl1 1 rfl) ?_
          refine va_get (D := D) (ci := 11) (v := .int (nI (u_132 2))) (C := R_Model) (T := F_Model) (N := 72) hx hb hts i_Model hown hK.1 hP 0 rfl rfl 6 (by decide) (hts _ wd_1042) (fun _ h9 => h9) rfl d_Model_term_94 ?_
          refine lv_iconst (v := 3) hx hb d_Model_term_97 (by decide) ?_
          refine lv_icmp_ne (tgt := 105) hx hb d_Model_term_98 (by decide) (fun c_148 => ?_) (fun c_148 => ?_)
          · replace c_148 : ¬ u_132 2 = 3 := fun hq9 => c_148 ((nI_eq (a := u_132 2) (b := 3) (by first | exact Nat.lt_of_lt_of_le (by assumption) (by decide) | exact Nat.lt_of_le_of_lt (by assumption) (by decide) | omega) (by decide)).mpr hq9)
            refine lv_iconst (v := 0) hx hb d_Model_term_105 (by decide) ?_
            obtain ⟨hPc, hDc, hFc, hCs⟩ := xw_sub3 (wc := [(m0, .inr (11, [.int s_thrown, .int s_taped, .ref m1, .int (nI n), .int s_outSize, .ref m2, .int (nI (u_132 2)), .int (nI (u_132 3)), .int (nI (u_132 0)), .int (nI (u_132 1)), .int 0, .ref m3, .ref m4, .ref m5, .int s_isProgram, .int s_half, .ref m6, .ref m7, .ref m8, .ref m9, .ref m10, .ref m11, .ref m12, .ref m13, .ref m14, .ref m15, .ref m16, .ref m17, .ref m18, .ref m19, .ref m20, .int s_signs, .ref m21, .int s_stacked, .ref m22, .int (nI v), .int (nI (u_132 3)), .int s_statements, .int s_ifs, .int s_whiles, .int s_variants, .int s_open, .ref m23, .int s_isMade, .int s_conditions, .ref m24, .ref m25, .ref m26, .ref m27, .int s_kept, .ref m28, .int s_tops, .ref m29, .int s_used, .ref m30, .ref m31, .int s_looked, .int s_rows, .int s_firstRow, .ref m32, .ref m33, .ref m34, .ref m35, .ref m36, .ref m37, .ref m38, .ref m39, .ref m40, .int s_isBroken, .ref m41, .int s_atoms, .ref m42]))]) hP hD hS hA [0] (by decide) rfl
            have hz := xz_of hN hS
            refine va_callv (va_runV (As := [.int 0]) (rest := []) ⟨hx, hb, hml, hown, hts⟩ (c_M_must_0 l D ax m0 m1 m2 m3 m4 m5 m6 m7 m8 m9 m10 m11 m12 m13 m14 m15 m16 m17 m18 m19 m20 m21 m22 m23 m24 m25 m26 m27 m28 m29 m30 m31 m32 m33 m34 m35 m36 m37 m38 m39 m40 m41 m42 s_thrown s_taped (nI n) s_outSize (nI (u_132 2)) (nI (u_132 3)) (nI (u_132 0)) (nI (u_132 1)) s_isProgram s_half s_signs s_stacked (nI v) (nI (u_132 3)) s_statements s_ifs s_whiles s_variants s_open s_isMade s_conditions s_kept s_tops s_used s_looked s_rows s_firstRow s_isBroken s_atoms H_147.size) (xcV (n := 1) hts wd_1335 wd_15 wd_1332 wd_1334 ps_61 rfl rfl (by decide +kernel) ⟨Nat.le_of_ble_eq_true rfl, Nat.le_of_ble_eq_true rfl⟩) (xpV (ci := 11) (q0 := 0) (As := [.int 0]) hPc hK hz hDc rfl rfl) rfl rfl hl1.1 rfl (lv_room (Nat.le_of_ble_eq_true rfl)) d_Model_term_106 ⟨Nat.le_of_ble_eq_true rfl, Nat.le_of_ble_eq_true rfl⟩) hS (fun q _ h => hFc q h) hFc (fun u_149 t H_150 locs ht hvm hw hB hz1 hk1 hS1 => ?_)
            try dsimp only at hw
            obtain ⟨hP1, hD1⟩ := hB
            rw [ht] at hP1
            have hjn := xw_join3 (wl := [(m1, .inl (ax 0, 400, .inl (fun j => nI (g j)))), (m0, .inr (11, [.int s_thrown, .int s_taped, .ref m1, .int (nI n), .int s_outSize, .ref m2, .int (nI (u_132 2)), .int (nI (u_132 3)), .int (nI (u_132 0)), .int (nI (u_132 1)), .int 1, .ref m3, .ref m4, .ref m5, .int s_isProgram, .int s_half, .ref m6, .ref m7, .ref m8, .ref m9, .ref m10, .ref m11, .ref m12, .ref m13, .ref m14, .ref m15, .ref m16, .ref m17, .ref m18, .ref m19, .ref m20, .int s_signs, .ref m21, .int s_stacked, .ref m22, .int (nI v), .int (nI (u_132 3)), .int s_statements, .int s_ifs, .int s_whiles, .int s_variants, .int s_open, .ref m23, .int s_isMade, .int s_conditions, .ref m24, .ref m25, .ref m26, .ref m27, .int s_kept, .ref m28, .int s_tops, .ref m29, .int s_used, .ref m30, .ref m31, .int s_looked, .int s_rows, .int s_firstRow, .ref m32, .ref m33, .ref m34, .ref m35, .ref m36, .ref m37, .ref m38, .ref m39, .ref m40, .int s_isBroken, .ref m41, .int s_atoms, .ref m42]))]) hP hD [0] [1] hCs (by decide) (by decide) hk1 hFc hP1 hD1 rfl
            clear hP1 hD1
            clear hPc hDc hFc hCs hz hz1 hk1 ht hvm
            clear hP hD hS
            have hS := hS1
            obtain ⟨hP, hD⟩ := hjn
            clear hS1
            rw [← hQe]
            obtain ⟨hP9, hD9⟩ := xw_sub2 (wc := (fun (u : Nat → Nat) (xnm : Int32) (xsh : Int32) => [(m0, .inr (11, [.int s_thrown, .int s_taped, .ref m1, .int (nI n), .int s_outSize, .ref m2, .int (nI (u 2)), .int (nI (u 3)), .int (nI (u 0)), .int (nI (u 1)), .int (nI (u 4)), .ref m3, .ref m4, .ref m5, .int s_isProgram, .int s_half, .ref m6, .ref m7, .ref m8, .ref m9, .ref m10, .ref m11, .ref m12, .ref m13, .ref m14, .ref m15, .ref m16, .ref m17, .ref m18, .ref m19, .ref m20, .int s_signs, .ref m21, .int s_stacked, .ref m22, .int xnm, .int xsh, .int s_statements, .int s_ifs, .int s_whiles, .int s_variants, .int s_open, .ref m23, .int s_isMade, .int s_conditions, .ref m24, .ref m25, .ref m26, .ref m27, .int s_kept, .ref m28, .int s_tops, .ref m29, .int s_used, .ref m30, .ref m31, .int s_looked, .int s_rows, .int s_firstRow, .ref m32, .ref m33, .ref m34, .ref m35, .ref m36, .ref m37, .ref m38, .ref m39, .ref m40, .int s_isBroken, .ref m41, .int s_atoms, .ref m42])), (m1, .inl (ax 0, 400, .inl (fun j => nI (g j))))]) (ixn [(u_132 0), (u_132 1), (u_132 2), (u_132 3), 1]) (nI v) (nI (u_132 3))) hP hD [1, 0] (by decide) rfl
            have hex0 : nmo (6 + 4 * gh) (nI v) := (by first | exact Or.inl rfl | exact Or.inr ⟨_, by omega, rfl⟩ | assumption)
            have hex1 : imp0 (1) (tmQ (nI v) (nI (u_132 3)) (trmV (kd g n) (nxt g n) (kv g n) gh b)) := (Or.inl rfl)
            have hsp0 : b ≤ (u_132 0) := (by first | assumption | omega)
            have hsp1 : (u_132 0) ≤ (u_132 1) := (by first | assumption | omega)
            have hsp2 : (u_132 1) ≤ n := (by first | assumption | omega)
            have hsp3 : tk0 ((u_132 2)) ((u_132 0)) ((u_132 1)) := (by assumption)
            have hsp4 : (u_132 2) < 10000 := (by first | assumption | omega)
            have hsp5 : (u_132 3) < 20000 := (by first | assumption | omega)
            have hsp6 : tkq g n ((u_132 0)) ((u_132 1)) ((u_132 2)) ((u_132 3)) := (by assumption)
            have hsp7 : 1 ≤ 1 := (by first | assumption | omega)
            have hsp8 : imp0 (1) (b < (u_132 0)) := (Or.inl rfl)
            have hsp9 : trmG (kd g n) (nxt g n) gh b = (1, (u_132 0)) := (by first | exact trm_c hkv (by first | assumption | omega) hs_124 hs_117 (by first | assumption | omega) hs_145 hs_138 (by first | assumption | omega))
            exact W.vret hx hb hr (fun t ht hW => ⟨⟨ixn [(u_132 0), (u_132 1), (u_132 2), (u_132 3), 1], rfl, ⟨hsp0, hsp1, hsp2, hsp3, hsp4, hsp5, hsp6, hsp7, hsp8, hsp9⟩, ⟨nI v, nI (u_132 3), hex0, hex1, by rw [ht]; exact hP9, hD9⟩⟩, hS.F ht⟩) hS.2.2 d_Model_term_109
          · replace c_148 : u_132 2 = 3 := (nI_eq (a := u_132 2) (b := 3) (by first | exact Nat.lt_of_lt_of_le (by assumption) (by decide) | exact Nat.lt_of_le_of_lt (by assumption) (by decide) | omega) (by decide)).mp c_148
            have hlt_152 : u_132 0 < u_132 1 := tk0.lt (by assumption) (by first | assumption | omega)
            refine lv_iconst (v := 1) hx hb d_Model_term_101 (by decide) ?_
            refine lv_goto (tgt := 106) hx hb d_Model_term_102 (by decide) ?_
            obtain ⟨hPc, hDc, hFc, hCs⟩ := xw_sub3 (wc := [(m0, .inr (11, [.int s_thrown, .int s_taped, .ref m1, .int (nI n), .int s_outSize, .ref m2, .int (nI (u_132 2)), .int (nI (u_132 3)), .int (nI (u_132 0)), .int (nI (u_132 1)), .int 0, .ref m3, .ref m4, .ref m5, .int s_isProgram, .int s_half, .ref m6, .ref m7, .ref m8, .ref m9, .ref m10, .ref m11, .ref m12, .ref m13, .ref m14, .ref m15, .ref m16, .ref m17, .ref m18, .ref m19, .ref m20, .int s_signs, .ref m21, .int s_stacked, .ref m22, .int (nI v), .int (nI (u_132 3)), .int s_statements, .int s_ifs, .int s_whiles, .int s_variants, .int s_open, .ref m23, .int s_isMade, .int s_conditions, .ref m24, .ref m25, .ref m26, .ref m27, .int s_kept, .ref m28, .int s_tops, .ref m29, .int s_used, .ref m30, .ref m31, .int s_looked, .int s_rows, .int s_firstRow, .ref m32, .ref m33, .ref m34, .ref m35, .ref m36, .ref m37, .ref m38, .ref m39, .ref m40, .int s_isBroken, .ref m41, .int s_atoms, .ref m42])), (m1, .inl (ax 0, 400, .inl (fun j => nI (g j))))]) hP hD hS hA [0, 1] (by decide) rfl
            have hz := xz_of hN hS
            refine va_callv (va_runV (As := [.int 1]) (rest := []) ⟨hx, hb, hml, hown, hts⟩ (c_M_must_1 l D ax m0 m1 m2 m3 m4 m5 m6 m7 m8 m9 m10 m11 m12 m13 m14 m15 m16 m17 m18 m19 m20 m21 m22 m23 m24 m25 m26 m27 m28 m29 m30 m31 m32 m33 m34 m35 m36 m37 m38 m39 m40 m41 m42 s_thrown s_taped s_outSize (nI (u_132 2)) (nI (u_132 0)) s_isProgram s_half s_signs s_stacked (nI v) (nI (u_132 3)) s_statements s_ifs s_whiles s_variants s_open s_isMade s_conditions s_kept s_tops s_used s_looked s_rows s_firstRow s_isBroken s_atoms n (u_132 1) (u_132 3) g H_147.size hn (by first | assumption | omega) hg (by first | assumption | omega)) (xcV (n := 1) hts wd_1335 wd_15 wd_1332 wd_1334 ps_61 rfl rfl (by decide +kernel) ⟨Nat.le_of_ble_eq_true rfl, Nat.le_of_ble_eq_true rfl⟩) (xpV (ci := 11) (q0 := 0) (As := [.int 1]) hPc hK hz hDc rfl rfl) rfl rfl hl1.1 rfl (lv_room (Nat.le_of_ble_eq_true rfl)) d_Model_term_106 ⟨Nat.le_of_ble_eq_true rfl, Nat.le_of_ble_eq_true rfl⟩) hS (fun q _ h => hFc q h) hFc (fun u_153 t H_154 locs ht hvm hw hB hz1 hk1 hS1 => ?_)
            try dsimp only at hw
            obtain ⟨-, -, -, hs_159, hs_160, hs_161, hs_162, hs_163, hs_164, hs_165, hs_166⟩ := hw
            obtain ⟨hP1, hD1⟩ := hB
            rw [ht] at hP1
            have hjn := xw_join3 (wl := [(m0, .inr (11, [.int s_thrown, .int s_taped, .ref m1, .int (nI n), .int s_outSize, .ref m2, .int (nI (u_153 2)), .int (nI (u_153 3)), .int (nI (u_153 0)), .int (nI (u_153 1)), .int 0, .ref m3, .ref m4, .ref m5, .int s_isProgram, .int s_half, .ref m6, .ref m7, .ref m8, .ref m9, .ref m10, .ref m11, .ref m12, .ref m13, .ref m14, .ref m15, .ref m16, .ref m17, .ref m18, .ref m19, .ref m20, .int s_signs, .ref m21, .int s_stacked, .ref m22, .int (nI v), .int (nI (u_132 3)), .int s_statements, .int s_ifs, .int s_whiles, .int s_variants, .int s_open, .ref m23, .int s_isMade, .int s_conditions, .ref m24, .ref m25, .ref m26, .ref m27, .int s_kept, .ref m28, .int s_tops, .ref m29, .int s_used, .ref m30, .ref m31, .int s_looked, .int s_rows, .int s_firstRow, .ref m32, .ref m33, .ref m34, .ref m35, .ref m36, .ref m37, .ref m38, .ref m39, .ref m40, .int s_isBroken, .ref m41, .int s_atoms, .ref m42])), (m1, .inl (ax 0, 400, .inl (fun j => nI (g j))))]) hP hD [0, 1] [] hCs (by decide) (by decide) hk1 hFc hP1 hD1 rfl
            clear hP1 hD1
            clear hPc hDc hFc hCs hz hz1 hk1 ht hvm
            clear hP hD hS
            have hS := hS1
            obtain ⟨hP, hD⟩ := hjn
            clear hS1
            rw [← hQe]
            obtain ⟨hP9, hD9⟩ := xw_sub2 (wc := (fun (u : Nat → Nat) (xnm : Int32) (xsh : Int32) => [(m0, .inr (11, [.int s_thrown, .int s_taped, .ref m1, .int (nI n), .int s_outSize, .ref m2, .int (nI (u 2)), .int (nI (u 3)), .int (nI (u 0)), .int (nI (u 1)), .int (nI (u 4)), .ref m3, .ref m4, .ref m5, .int s_isProgram, .int s_half, .ref m6, .ref m7, .ref m8, .ref m9, .ref m10, .ref m11, .ref m12, .ref m13, .ref m14, .ref m15, .ref m16, .ref m17, .ref m18, .ref m19, .ref m20, .int s_signs, .ref m21, .int s_stacked, .ref m22, .int xnm, .int xsh, .int s_statements, .int s_ifs, .int s_whiles, .int s_variants, .int s_open, .ref m23, .int s_isMade, .int s_conditions, .ref m24, .ref m25, .ref m26, .ref m27, .int s_kept, .ref m28, .int s_tops, .ref m29, .int s_used, .ref m30, .ref m31, .int s_looked, .int s_rows, .int s_firstRow, .ref m32, .ref m33, .ref m34, .ref m35, .ref m36, .ref m37, .ref m38, .ref m39, .ref m40, .int s_isBroken, .ref m41, .int s_atoms, .ref m42])), (m1, .inl (ax 0, 400, .inl (fun j => nI (g j))))]) (ixn [(u_153 0), (u_153 1), (u_153 2), (u_153 3), 0]) (nI v) (nI (u_132 3))) hP hD [0, 1] (by decide) rfl
            have hex0 : nmo (6 + 4 * gh) (nI v) := (by first | exact Or.inl rfl | exact Or.inr ⟨_, by omega, rfl⟩ | assumption)
            have hex1 : imp0 (0) (tmQ (nI v) (nI (u_132 3)) (trmV (kd g n) (nxt g n) (kv g n) gh b)) := (Or.inr (by first | exact trv_p hkv (by first | assumption | omega) hs_124 hs_117 (by first | assumption | omega) hs_145 hs_138 (by first | assumption | omega) (by first | rfl | assumption | (exfalso; omega)) | exact trv_m hkv (by first | assumption | omega) hs_124 hs_117 (by first | assumption | omega) hs_145 hs_138 (by first | assumption | omega) (by first | rfl | assumption | (exfalso; omega))))
            have hsp0 : b ≤ (u_153 0) := (by first | assumption | omega)
            have hsp1 : (u_153 0) ≤ (u_153 1) := (by first | assumption | omega)
            have hsp2 : (u_153 1) ≤ n := (by first | assumption | omega)
            have hsp3 : tk0 ((u_153 2)) ((u_153 0)) ((u_153 1)) := (by assumption)
            have hsp4 : (u_153 2) < 10000 := (by first | assumption | omega)
            have hsp5 : (u_153 3) < 20000 := (by first | assumption | omega)
            have hsp6 : tkq g n ((u_153 0)) ((u_153 1)) ((u_153 2)) ((u_153 3)) := (by assumption)
            have hsp7 : 0 ≤ 1 := (by first | assumption | omega)
            have hsp8 : imp0 (0) (b < (u_153 0)) := (Or.inr (by first | assumption | omega))
            have hsp9 : trmG (kd g n) (nxt g n) gh b = (0, (u_153 0)) := (by first | exact trm_b hkv (by first | assumption | omega) hs_124 hs_117 (by first | assumption | omega) hs_145 hs_138 (by first | assumption | omega) hs_159)
            exact W.vret hx hb hr (fun t ht hW => ⟨⟨ixn [(u_153 0), (u_153 1), (u_153 2), (u_153 3), 0], rfl, ⟨hsp0, hsp1, hsp2, hsp3, hsp4, hsp5, hsp6, hsp7, hsp8, hsp9⟩, ⟨nI v, nI (u_132 3), hex0, hex1, by rw [ht]; exact hP9, hD9⟩⟩, hS.F ht⟩) hS.2.2 d_Model_term_109
        · replace c_146 : ((u_111 2) = 200 + 45) := zb_y c_146
          refine lv_aload_n hx hb d_Model_term_77 rfl (lv_at hl1 1 rfl) ?_
          refine va_get (D := D) (ci := 11) (v := .int (nI (u_132 3))) (C := R_Model) (T := F_Model) (N := 72) hx hb hts i_Model hown hK.1 hP 0 rfl rfl 7 (by decide) (hts _ wd_1043) (fun _ h9 => h9) rfl d_Model_term_78 ?_
          refine lv_ineg hx hb d_Model_term_81 ?_
          refine lv_topi (fun z_167 ez_167 => ?_)
          refine lv_goto (tgt := 89) hx hb d_Model_term_82 (by decide) ?_
          refine va_put (D := D) (ci := 11) (v := .int z_167) (ty := .int) (C := R_Model) (T := F_Model) (N := 72) hx hb hts i_Model t_Model t_Model_ok n_Model hown hK.1 hP hD hS 0 rfl rfl 36 (by decide) (hts _ wd_1072) (fun _ h9 => h9) rfl (by decide +kernel) rfl rfl (Nat.le_of_ble_eq_true rfl) d_Model_term_89 (fun H_168 locs hP1 hD1 hS1 => ?_)
          clear hP hD hS
          have hS := hS1
          have hW7 : (fun w9 : va_W => va_P D classes w9 H_168 ∧ va_D A w9) [(m0, .inr (11, [.int s_thrown, .int s_taped, .ref m1, .int (nI n), .int s_outSize, .ref m2, .int (nI (u_132 2)), .int (nI (u_132 3)), .int (nI (u_132 0)), .int (nI (u_132 1)), .int 0, .ref m3, .ref m4, .ref m5, .int s_isProgram, .int s_half, .ref m6, .ref m7, .ref m8, .ref m9, .ref m10, .ref m11, .ref m12, .ref m13, .ref m14, .ref m15, .ref m16, .ref m17, .ref m18, .ref m19, .ref m20, .int s_signs, .ref m21, .int s_stacked, .ref m22, .int (nI v), .int z_167, .int s_statements, .int s_ifs, .int s_whiles, .int s_variants, .int s_open, .ref m23, .int s_isMade, .int s_conditions, .ref m24, .ref m25, .ref m26, .ref m27, .int s_kept, .ref m28, .int s_tops, .ref m29, .int s_used, .ref m30, .ref m31, .int s_looked, .int s_rows, .int s_firstRow, .ref m32, .ref m33, .ref m34, .ref m35, .ref m36, .ref m37, .ref m38, .ref m39, .ref m40, .int s_isBroken, .ref m41, .int s_atoms, .ref m42])), (m1, .inl (ax 0, 400, .inl (fun j => nI (g j))))] := ⟨hP1, hD1⟩
          obtain ⟨hP, hD⟩ := hW7
          clear hP1 hD1 hS1
          refine lv_aload_n hx hb d_Model_term_92 rfl (lv_at hl1 1 rfl) ?_
          refine lv_aload_n hx hb d_Model_term_93 rfl (lv_at hl1 1 rfl) ?_
          refine va_get (D := D) (ci := 11) (v := .int (nI (u_132 2))) (C := R_Model) (T := F_Model) (N := 72) hx hb hts i_Model hown hK.1 hP 0 rfl rfl 6 (by decide) (hts _ wd_1042) (fun _ h9 => h9) rfl d_Model_term_94 ?_
          refine lv_iconst (v := 3) hx hb d_Model_term_97 (by decide) ?_
          refine lv_icmp_ne (tgt := 105) hx hb d_Model_term_98 (by decide) (fun c_169 => ?_) (fun c_169 => ?_)
          · replace c_169 : ¬ u_132 2 = 3 := fun hq9 => c_169 ((nI_eq (a := u_132 2) (b := 3) (by first | exact Nat.lt_of_lt_of_le (by assumption) (by decide) | exact Nat.lt_of_le_of_lt (by assumption) (by decide) | omega) (by decide)).mpr hq9)
            refine lv_iconst (v := 0) hx hb d_Model_term_105 (by decide) ?_
            obtain ⟨hPc, hDc, hFc, hCs⟩ := xw_sub3 (wc := [(m0, .inr (11, [.int s_thrown, .int s_taped, .ref m1, .int (nI n), .int s_outSize, .ref m2, .int (nI (u_132 2)), .int (nI (u_132 3)), .int (nI (u_132 0)), .int (nI (u_132 1)), .int 0, .ref m3, .ref m4, .ref m5, .int s_isProgram, .int s_half, .ref m6, .ref m7, .ref m8, .ref m9, .ref m10, .ref m11, .ref m12, .ref m13, .ref m14, .ref m15, .ref m16, .ref m17, .ref m18, .ref m19, .ref m20, .int s_signs, .ref m21, .int s_stacked, .ref m22, .int (nI v), .int z_167, .int s_statements, .int s_ifs, .int s_whiles, .int s_variants, .int s_open, .ref m23, .int s_isMade, .int s_conditions, .ref m24, .ref m25, .ref m26, .ref m27, .int s_kept, .ref m28, .int s_tops, .ref m29, .int s_used, .ref m30, .ref m31, .int s_looked, .int s_rows, .int s_firstRow, .ref m32, .ref m33, .ref m34, .ref m35, .ref m36, .ref m37, .ref m38, .ref m39, .ref m40, .int s_isBroken, .ref m41, .int s_atoms, .ref m42]))]) hP hD hS hA [0] (by decide) rfl
            have hz := xz_of hN hS
            refine va_callv (va_runV (As := [.int 0]) (rest := []) ⟨hx, hb, hml, hown, hts⟩ (c_M_must_0 l D ax m0 m1 m2 m3 m4 m5 m6 m7 m8 m9 m10 m11 m12 m13 m14 m15 m16 m17 m18 m19 m20 m21 m22 m23 m24 m25 m26 m27 m28 m29 m30 m31 m32 m33 m34 m35 m36 m37 m38 m39 m40 m41 m42 s_thrown s_taped (nI n) s_outSize (nI (u_132 2)) (nI (u_132 3)) (nI (u_132 0)) (nI (u_132 1)) s_isProgram s_half s_signs s_stacked (nI v) z_167 s_statements s_ifs s_whiles s_variants s_open s_isMade s_conditions s_kept s_tops s_used s_looked s_rows s_firstRow s_isBroken s_atoms H_168.size) (xcV (n := 1) hts wd_1335 wd_15 wd_1332 wd_1334 ps_61 rfl rfl (by decide +kernel) ⟨Nat.le_of_ble_eq_true rfl, Nat.le_of_ble_eq_true rfl⟩) (xpV (ci := 11) (q0 := 0) (As := [.int 0]) hPc hK hz hDc rfl rfl) rfl rfl hl1.1 rfl (lv_room (Nat.le_of_ble_eq_true rfl)) d_Model_term_106 ⟨Nat.le_of_ble_eq_true rfl, Nat.le_of_ble_eq_true rfl⟩) hS (fun q _ h => hFc q h) hFc (fun u_170 t H_171 locs ht hvm hw hB hz1 hk1 hS1 => ?_)
            try dsimp only at hw
            obtain ⟨hP1, hD1⟩ := hB
            rw [ht] at hP1
            have hjn := xw_join3 (wl := [(m1, .inl (ax 0, 400, .inl (fun j => nI (g j)))), (m0, .inr (11, [.int s_thrown, .int s_taped, .ref m1, .int (nI n), .int s_outSize, .ref m2, .int (nI (u_132 2)), .int (nI (u_132 3)), .int (nI (u_132 0)), .int (nI (u_132 1)), .int 1, .ref m3, .ref m4, .ref m5, .int s_isProgram, .int s_half, .ref m6, .ref m7, .ref m8, .ref m9, .ref m10, .ref m11, .ref m12, .ref m13, .ref m14, .ref m15, .ref m16, .ref m17, .ref m18, .ref m19, .ref m20, .int s_signs, .ref m21, .int s_stacked, .ref m22, .int (nI v), .int z_167, .int s_statements, .int s_ifs, .int s_whiles, .int s_variants, .int s_open, .ref m23, .int s_isMade, .int s_conditions, .ref m24, .ref m25, .ref m26, .ref m27, .int s_kept, .ref m28, .int s_tops, .ref m29, .int s_used, .ref m30, .ref m31, .int s_looked, .int s_rows, .int s_firstRow, .ref m32, .ref m33, .ref m34, .ref m35, .ref m36, .ref m37, .ref m38, .ref m39, .ref m40, .int s_isBroken, .ref m41, .int s_atoms, .ref m42]))]) hP hD [0] [1] hCs (by decide) (by decide) hk1 hFc hP1 hD1 rfl
            clear hP1 hD1
            clear hPc hDc hFc hCs hz hz1 hk1 ht hvm
            clear hP hD hS
            have hS := hS1
            obtain ⟨hP, hD⟩ := hjn
            clear hS1
            rw [← hQe]
            obtain ⟨hP9, hD9⟩ := xw_sub2 (wc := (fun (u : Nat → Nat) (xnm : Int32) (xsh : Int32) => [(m0, .inr (11, [.int s_thrown, .int s_taped, .ref m1, .int (nI n), .int s_outSize, .ref m2, .int (nI (u 2)), .int (nI (u 3)), .int (nI (u 0)), .int (nI (u 1)), .int (nI (u 4)), .ref m3, .ref m4, .ref m5, .int s_isProgram, .int s_half, .ref m6, .ref m7, .ref m8, .ref m9, .ref m10, .ref m11, .ref m12, .ref m13, .ref m14, .ref m15, .ref m16, .ref m17, .ref m18, .ref m19, .ref m20, .int s_signs, .ref m21, .int s_stacked, .ref m22, .int xnm, .int xsh, .int s_statements, .int s_ifs, .int s_whiles, .int s_variants, .int s_open, .ref m23, .int s_isMade, .int s_conditions, .ref m24, .ref m25, .ref m26, .ref m27, .int s_kept, .ref m28, .int s_tops, .ref m29, .int s_used, .ref m30, .ref m31, .int s_looked, .int s_rows, .int s_firstRow, .ref m32, .ref m33, .ref m34, .ref m35, .ref m36, .ref m37, .ref m38, .ref m39, .ref m40, .int s_isBroken, .ref m41, .int s_atoms, .ref m42])), (m1, .inl (ax 0, 400, .inl (fun j => nI (g j))))]) (ixn [(u_132 0), (u_132 1), (u_132 2), (u_132 3), 1]) (nI v) z_167) hP hD [1, 0] (by decide) rfl
            have hex0 : nmo (6 + 4 * gh) (nI v) := (by first | exact Or.inl rfl | exact Or.inr ⟨_, by omega, rfl⟩ | assumption)
            have hex1 : imp0 (1) (tmQ (nI v) z_167 (trmV (kd g n) (nxt g n) (kv g n) gh b)) := (Or.inl rfl)
            have hsp0 : b ≤ (u_132 0) := (by first | assumption | omega)
            have hsp1 : (u_132 0) ≤ (u_132 1) := (by first | assumption | omega)
            have hsp2 : (u_132 1) ≤ n := (by first | assumption | omega)
            have hsp3 : tk0 ((u_132 2)) ((u_132 0)) ((u_132 1)) := (by assumption)
            have hsp4 : (u_132 2) < 10000 := (by first | assumption | omega)
            have hsp5 : (u_132 3) < 20000 := (by first | assumption | omega)
            have hsp6 : tkq g n ((u_132 0)) ((u_132 1)) ((u_132 2)) ((u_132 3)) := (by assumption)
            have hsp7 : 1 ≤ 1 := (by first | assumption | omega)
            have hsp8 : imp0 (1) (b < (u_132 0)) := (Or.inl rfl)
            have hsp9 : trmG (kd g n) (nxt g n) gh b = (1, (u_132 0)) := (by first | exact trm_c hkv (by first | assumption | omega) hs_124 hs_117 (by first | assumption | omega) hs_145 hs_138 (by first | assumption | omega))
            exact W.vret hx hb hr (fun t ht hW => ⟨⟨ixn [(u_132 0), (u_132 1), (u_132 2), (u_132 3), 1], rfl, ⟨hsp0, hsp1, hsp2, hsp3, hsp4, hsp5, hsp6, hsp7, hsp8, hsp9⟩, ⟨nI v, z_167, hex0, hex1, by rw [ht]; exact hP9, hD9⟩⟩, hS.F ht⟩) hS.2.2 d_Model_term_109
          · replace c_169 : u_132 2 = 3 := (nI_eq (a := u_132 2) (b := 3) (by first | exact Nat.lt_of_lt_of_le (by assumption) (by decide) | exact Nat.lt_of_le_of_lt (by assumption) (by decide) | omega) (by decide)).mp c_169
            have hlt_173 : u_132 0 < u_132 1 := tk0.lt (by assumption) (by first | assumption | omega)
            refine lv_iconst (v := 1) hx hb d_Model_term_101 (by decide) ?_
            refine lv_goto (tgt := 106) hx hb d_Model_term_102 (by decide) ?_
            obtain ⟨hPc, hDc, hFc, hCs⟩ := xw_sub3 (wc := [(m0, .inr (11, [.int s_thrown, .int s_taped, .ref m1, .int (nI n), .int s_outSize, .ref m2, .int (nI (u_132 2)), .int (nI (u_132 3)), .int (nI (u_132 0)), .int (nI (u_132 1)), .int 0, .ref m3, .ref m4, .ref m5, .int s_isProgram, .int s_half, .ref m6, .ref m7, .ref m8, .ref m9, .ref m10, .ref m11, .ref m12, .ref m13, .ref m14, .ref m15, .ref m16, .ref m17, .ref m18, .ref m19, .ref m20, .int s_signs, .ref m21, .int s_stacked, .ref m22, .int (nI v), .int z_167, .int s_statements, .int s_ifs, .int s_whiles, .int s_variants, .int s_open, .ref m23, .int s_isMade, .int s_conditions, .ref m24, .ref m25, .ref m26, .ref m27, .int s_kept, .ref m28, .int s_tops, .ref m29, .int s_used, .ref m30, .ref m31, .int s_looked, .int s_rows, .int s_firstRow, .ref m32, .ref m33, .ref m34, .ref m35, .ref m36, .ref m37, .ref m38, .ref m39, .ref m40, .int s_isBroken, .ref m41, .int s_atoms, .ref m42])), (m1, .inl (ax 0, 400, .inl (fun j => nI (g j))))]) hP hD hS hA [0, 1] (by decide) rfl
            have hz := xz_of hN hS
            refine va_callv (va_runV (As := [.int 1]) (rest := []) ⟨hx, hb, hml, hown, hts⟩ (c_M_must_1 l D ax m0 m1 m2 m3 m4 m5 m6 m7 m8 m9 m10 m11 m12 m13 m14 m15 m16 m17 m18 m19 m20 m21 m22 m23 m24 m25 m26 m27 m28 m29 m30 m31 m32 m33 m34 m35 m36 m37 m38 m39 m40 m41 m42 s_thrown s_taped s_outSize (nI (u_132 2)) (nI (u_132 0)) s_isProgram s_half s_signs s_stacked (nI v) z_167 s_statements s_ifs s_whiles s_variants s_open s_isMade s_conditions s_kept s_tops s_used s_looked s_rows s_firstRow s_isBroken s_atoms n (u_132 1) (u_132 3) g H_168.size hn (by first | assumption | omega) hg (by first | assumption | omega)) (xcV (n := 1) hts wd_1335 wd_15 wd_1332 wd_1334 ps_61 rfl rfl (by decide +kernel) ⟨Nat.le_of_ble_eq_true rfl, Nat.le_of_ble_eq_true rfl⟩) (xpV (ci := 11) (q0 := 0) (As := [.int 1]) hPc hK hz hDc rfl rfl) rfl rfl hl1.1 rfl (lv_room (Nat.le_of_ble_eq_true rfl)) d_Model_term_106 ⟨Nat.le_of_ble_eq_true rfl, Nat.le_of_ble_eq_true rfl⟩) hS (fun q _ h => hFc q h) hFc (fun u_174 t H_175 locs ht hvm hw hB hz1 hk1 hS1 => ?_)
            try dsimp only at hw
            obtain ⟨-, -, -, hs_180, hs_181, hs_182, hs_183, hs_184, hs_185, hs_186, hs_187⟩ := hw
            obtain ⟨hP1, hD1⟩ := hB
            rw [ht] at hP1
            have hjn := xw_join3 (wl := [(m0, .inr (11, [.int s_thrown, .int s_taped, .ref m1, .int (nI n), .int s_outSize, .ref m2, .int (nI (u_174 2)), .int (nI (u_174 3)), .int (nI (u_174 0)), .int (nI (u_174 1)), .int 0, .ref m3, .ref m4, .ref m5, .int s_isProgram, .int s_half, .ref m6, .ref m7, .ref m8, .ref m9, .ref m10, .ref m11, .ref m12, .ref m13, .ref m14, .ref m15, .ref m16, .ref m17, .ref m18, .ref m19, .ref m20, .int s_signs, .ref m21, .int s_stacked, .ref m22, .int (nI v), .int z_167, .int s_statements, .int s_ifs, .int s_whiles, .int s_variants, .int s_open, .ref m23, .int s_isMade, .int s_conditions, .ref m24, .ref m25, .ref m26, .ref m27, .int s_kept, .ref m28, .int s_tops, .ref m29, .int s_used, .ref m30, .ref m31, .int s_looked, .int s_rows, .int s_firstRow, .ref m32, .ref m33, .ref m34, .ref m35, .ref m36, .ref m37, .ref m38, .ref m39, .ref m40, .int s_isBroken, .ref m41, .int s_atoms, .ref m42])), (m1, .inl (ax 0, 400, .inl (fun j => nI (g j))))]) hP hD [0, 1] [] hCs (by decide) (by decide) hk1 hFc hP1 hD1 rfl
            clear hP1 hD1
            clear hPc hDc hFc hCs hz hz1 hk1 ht hvm
            clear hP hD hS
            have hS := hS1
            obtain ⟨hP, hD⟩ := hjn
            clear hS1
            rw [← hQe]
            obtain ⟨hP9, hD9⟩ := xw_sub2 (wc := (fun (u : Nat → Nat) (xnm : Int32) (xsh : Int32) => [(m0, .inr (11, [.int s_thrown, .int s_taped, .ref m1, .int (nI n), .int s_outSize, .ref m2, .int (nI (u 2)), .int (nI (u 3)), .int (nI (u 0)), .int (nI (u 1)), .int (nI (u 4)), .ref m3, .ref m4, .ref m5, .int s_isProgram, .int s_half, .ref m6, .ref m7, .ref m8, .ref m9, .ref m10, .ref m11, .ref m12, .ref m13, .ref m14, .ref m15, .ref m16, .ref m17, .ref m18, .ref m19, .ref m20, .int s_signs, .ref m21, .int s_stacked, .ref m22, .int xnm, .int xsh, .int s_statements, .int s_ifs, .int s_whiles, .int s_variants, .int s_open, .ref m23, .int s_isMade, .int s_conditions, .ref m24, .ref m25, .ref m26, .ref m27, .int s_kept, .ref m28, .int s_tops, .ref m29, .int s_used, .ref m30, .ref m31, .int s_looked, .int s_rows, .int s_firstRow, .ref m32, .ref m33, .ref m34, .ref m35, .ref m36, .ref m37, .ref m38, .ref m39, .ref m40, .int s_isBroken, .ref m41, .int s_atoms, .ref m42])), (m1, .inl (ax 0, 400, .inl (fun j => nI (g j))))]) (ixn [(u_174 0), (u_174 1), (u_174 2), (u_174 3), 0]) (nI v) z_167) hP hD [0, 1] (by decide) rfl
            have hex0 : nmo (6 + 4 * gh) (nI v) := (by first | exact Or.inl rfl | exact Or.inr ⟨_, by omega, rfl⟩ | assumption)
            have hex1 : imp0 (0) (tmQ (nI v) z_167 (trmV (kd g n) (nxt g n) (kv g n) gh b)) := (Or.inr (by first | exact trv_p hkv (by first | assumption | omega) hs_124 hs_117 (by first | assumption | omega) hs_145 hs_138 (by first | assumption | omega) (by first | rfl | assumption | (exfalso; omega)) | exact trv_m hkv (by first | assumption | omega) hs_124 hs_117 (by first | assumption | omega) hs_145 hs_138 (by first | assumption | omega) (by first | rfl | assumption | (exfalso; omega))))
            have hsp0 : b ≤ (u_174 0) := (by first | assumption | omega)
            have hsp1 : (u_174 0) ≤ (u_174 1) := (by first | assumption | omega)
            have hsp2 : (u_174 1) ≤ n := (by first | assumption | omega)
            have hsp3 : tk0 ((u_174 2)) ((u_174 0)) ((u_174 1)) := (by assumption)
            have hsp4 : (u_174 2) < 10000 := (by first | assumption | omega)
            have hsp5 : (u_174 3) < 20000 := (by first | assumption | omega)
            have hsp6 : tkq g n ((u_174 0)) ((u_174 1)) ((u_174 2)) ((u_174 3)) := (by assumption)
            have hsp7 : 0 ≤ 1 := (by first | assumption | omega)
            have hsp8 : imp0 (0) (b < (u_174 0)) := (Or.inr (by first | assumption | omega))
            have hsp9 : trmG (kd g n) (nxt g n) gh b = (0, (u_174 0)) := (by first | exact trm_b hkv (by first | assumption | omega) hs_124 hs_117 (by first | assumption | omega) hs_145 hs_138 (by first | assumption | omega) hs_180)
            exact W.vret hx hb hr (fun t ht hW => ⟨⟨ixn [(u_174 0), (u_174 1), (u_174 2), (u_174 3), 0], rfl, ⟨hsp0, hsp1, hsp2, hsp3, hsp4, hsp5, hsp6, hsp7, hsp8, hsp9⟩, ⟨nI v, z_167, hex0, hex1, by rw [ht]; exact hP9, hD9⟩⟩, hS.F ht⟩) hS.2.2 d_Model_term_109
      · replace c_128 : ¬ ((u_111 2) = 200 + 43) := zb_n c_128
        refine lv_aload_n hx hb d_Model_term_52 rfl (lv_at hl1 0 rfl) ?_
        refine lv_bipush (v := 45) hx hb d_Model_term_53 (by decide) ?_
        obtain ⟨hPc, hDc, hFc, hCs⟩ := xw_sub3 (wc := [(m0, .inr (11, [.int s_thrown, .int s_taped, .ref m1, .int (nI n), .int s_outSize, .ref m2, .int (nI (u_111 2)), .int (nI (u_111 3)), .int (nI (u_111 0)), .int (nI (u_111 1)), .int 0, .ref m3, .ref m4, .ref m5, .int s_isProgram, .int s_half, .ref m6, .ref m7, .ref m8, .ref m9, .ref m10, .ref m11, .ref m12, .ref m13, .ref m14, .ref m15, .ref m16, .ref m17, .ref m18, .ref m19, .ref m20, .int s_signs, .ref m21, .int s_stacked, .ref m22, .int (nI v), .int 0, .int s_statements, .int s_ifs, .int s_whiles, .int s_variants, .int s_open, .ref m23, .int s_isMade, .int s_conditions, .ref m24, .ref m25, .ref m26, .ref m27, .int s_kept, .ref m28, .int s_tops, .ref m29, .int s_used, .ref m30, .ref m31, .int s_looked, .int s_rows, .int s_firstRow, .ref m32, .ref m33, .ref m34, .ref m35, .ref m36, .ref m37, .ref m38, .ref m39, .ref m40, .int s_isBroken, .ref m41, .int s_atoms, .ref m42]))]) hP hD hS hA [1] (by decide) rfl
        have hz := xz_of hN hS
        refine va_calli (va_runV (As := [.int 45]) (rest := []) ⟨hx, hb, hml, hown, hts⟩ (c_M_is l D ax m0 m1 m2 m3 m4 m5 m6 m7 m8 m9 m10 m11 m12 m13 m14 m15 m16 m17 m18 m19 m20 m21 m22 m23 m24 m25 m26 m27 m28 m29 m30 m31 m32 m33 m34 m35 m36 m37 m38 m39 m40 m41 m42 s_thrown s_taped (nI n) s_outSize (nI (u_111 3)) (nI (u_111 0)) (nI (u_111 1)) 0 s_isProgram s_half s_signs s_stacked (nI v) 0 s_statements s_ifs s_whiles s_variants s_open s_isMade s_conditions s_kept s_tops s_used s_looked s_rows s_firstRow s_isBroken s_atoms (u_111 2) 45 H_126.size (by first | assumption | omega) (by first | assumption | omega)) (xcV (n := 1) hts wd_1319 wd_15 wd_1316 wd_1318 ps_57 rfl rfl (by decide +kernel) ⟨Nat.le_of_ble_eq_true rfl, Nat.le_of_ble_eq_true rfl⟩) (xpV (ci := 11) (q0 := 0) (As := [.int 45]) hPc hK hz hDc rfl rfl) rfl rfl hl1.1 rfl (lv_room (Nat.le_of_ble_eq_true rfl)) d_Model_term_55 ⟨Nat.le_of_ble_eq_true rfl, Nat.le_of_ble_eq_true rfl⟩) hS (fun q _ h => hFc q h) hFc (fun r_190 u_188 t H_189 locs ht hvm hw hB hz1 hk1 hS1 => ?_)
        try dsimp only at hw
        subst hw
        obtain ⟨hP1, hD1⟩ := hB
        rw [ht] at hP1
        have hjn := xw_join3 (wl := [(m1, .inl (ax 0, 400, .inl (fun j => nI (g j)))), (m0, .inr (11, [.int s_thrown, .int s_taped, .ref m1, .int (nI n), .int s_outSize, .ref m2, .int (nI (u_111 2)), .int (nI (u_111 3)), .int (nI (u_111 0)), .int (nI (u_111 1)), .int 0, .ref m3, .ref m4, .ref m5, .int s_isProgram, .int s_half, .ref m6, .ref m7, .ref m8, .ref m9, .ref m10, .ref m11, .ref m12, .ref m13, .ref m14, .ref m15, .ref m16, .ref m17, .ref m18, .ref m19, .ref m20, .int s_signs, .ref m21, .int s_stacked, .ref m22, .int (nI v), .int 0, .int s_statements, .int s_ifs, .int s_whiles, .int s_variants, .int s_open, .ref m23, .int s_isMade, .int s_conditions, .ref m24, .ref m25, .ref m26, .ref m27, .int s_kept, .ref m28, .int s_tops, .ref m29, .int s_used, .ref m30, .ref m31, .int s_looked, .int s_rows, .int s_firstRow, .ref m32, .ref m33, .ref m34, .ref m35, .ref m36, .ref m37, .ref m38, .ref m39, .ref m40, .int s_isBroken, .ref m41, .int s_atoms, .ref m42]))]) hP hD [1] [0] hCs (by decide) (by decide) hk1 hFc hP1 hD1 rfl
        clear hP1 hD1
        clear hPc hDc hFc hCs hz hz1 hk1 ht hvm
        clear hP hD hS
        have hS := hS1
        obtain ⟨hP, hD⟩ := hjn
        clear hS1
        refine lv_if_eq (tgt := 109) hx hb d_Model_term_58 (by decide) (fun c_191 => ?_) (fun c_191 => ?_)
        · replace c_191 : ¬ ((u_111 2) = 200 + 45) := zb_n c_191
          rw [← hQe]
          obtain ⟨hP9, hD9⟩ := xw_sub2 (wc := (fun (u : Nat → Nat) (xnm : Int32) (xsh : Int32) => [(m0, .inr (11, [.int s_thrown, .int s_taped, .ref m1, .int (nI n), .int s_outSize, .ref m2, .int (nI (u 2)), .int (nI (u 3)), .int (nI (u 0)), .int (nI (u 1)), .int (nI (u 4)), .ref m3, .ref m4, .ref m5, .int s_isProgram, .int s_half, .ref m6, .ref m7, .ref m8, .ref m9, .ref m10, .ref m11, .ref m12, .ref m13, .ref m14, .ref m15, .ref m16, .ref m17, .ref m18, .ref m19, .ref m20, .int s_signs, .ref m21, .int s_stacked, .ref m22, .int xnm, .int xsh, .int s_statements, .int s_ifs, .int s_whiles, .int s_variants, .int s_open, .ref m23, .int s_isMade, .int s_conditions, .ref m24, .ref m25, .ref m26, .ref m27, .int s_kept, .ref m28, .int s_tops, .ref m29, .int s_used, .ref m30, .ref m31, .int s_looked, .int s_rows, .int s_firstRow, .ref m32, .ref m33, .ref m34, .ref m35, .ref m36, .ref m37, .ref m38, .ref m39, .ref m40, .int s_isBroken, .ref m41, .int s_atoms, .ref m42])), (m1, .inl (ax 0, 400, .inl (fun j => nI (g j))))]) (ixn [(u_111 0), (u_111 1), (u_111 2), (u_111 3), 0]) (nI v) 0) hP hD [1, 0] (by decide) rfl
          have hex0 : nmo (6 + 4 * gh) (nI v) := (by first | exact Or.inl rfl | exact Or.inr ⟨_, by omega, rfl⟩ | assumption)
          have hex1 : imp0 (0) (tmQ (nI v) 0 (trmV (kd g n) (nxt g n) (kv g n) gh b)) := (Or.inr (by first | exact trv_a hkv (by first | assumption | omega) hs_124 hs_117 (by first | assumption | omega) | exact trv_f hkv (by first | assumption | omega) (by first | assumption | omega) (by first | assumption | omega) (by first | rfl | assumption | (exfalso; omega))))
          have hsp0 : b ≤ (u_111 0) := (by first | assumption | omega)
          have hsp1 : (u_111 0) ≤ (u_111 1) := (by first | assumption | omega)
          have hsp2 : (u_111 1) ≤ n := (by first | assumption | omega)
          have hsp3 : tk0 ((u_111 2)) ((u_111 0)) ((u_111 1)) := (by assumption)
          have hsp4 : (u_111 2) < 10000 := (by first | assumption | omega)
          have hsp5 : (u_111 3) < 20000 := (by first | assumption | omega)
          have hsp6 : tkq g n ((u_111 0)) ((u_111 1)) ((u_111 2)) ((u_111 3)) := (by assumption)
          have hsp7 : 0 ≤ 1 := (by first | assumption | omega)
          have hsp8 : imp0 (0) (b < (u_111 0)) := (Or.inr (by first | assumption | omega))
          have hsp9 : trmG (kd g n) (nxt g n) gh b = (0, (u_111 0)) := (by first | exact trm_a hkv (by first | assumption | omega) hs_124 hs_117 (by first | assumption | omega) | exact trm_f hkv (by first | assumption | omega) (by first | assumption | omega) (by first | assumption | omega) hs_117)
          exact W.vret hx hb hr (fun t ht hW => ⟨⟨ixn [(u_111 0), (u_111 1), (u_111 2), (u_111 3), 0], rfl, ⟨hsp0, hsp1, hsp2, hsp3, hsp4, hsp5, hsp6, hsp7, hsp8, hsp9⟩, ⟨nI v, 0, hex0, hex1, by rw [ht]; exact hP9, hD9⟩⟩, hS.F ht⟩) hS.2.2 d_Model_term_109
        · replace c_191 : ((u_111 2) = 200 + 45) := zb_y c_191
          refine lv_aload_n hx hb d_Model_term_61 rfl (lv_at hl1 0 rfl) ?_
          refine lv_bipush (v := 45) hx hb d_Model_term_62 (by decide) ?_
          obtain ⟨hPc, hDc, hFc, hCs⟩ := xw_sub3 (wc := [(m0, .inr (11, [.int s_thrown, .int s_taped, .ref m1, .int (nI n), .int s_outSize, .ref m2, .int (nI (u_111 2)), .int (nI (u_111 3)), .int (nI (u_111 0)), .int (nI (u_111 1)), .int 0, .ref m3, .ref m4, .ref m5, .int s_isProgram, .int s_half, .ref m6, .ref m7, .ref m8, .ref m9, .ref m10, .ref m11, .ref m12, .ref m13, .ref m14, .ref m15, .ref m16, .ref m17, .ref m18, .ref m19, .ref m20, .int s_signs, .ref m21, .int s_stacked, .ref m22, .int (nI v), .int 0, .int s_statements, .int s_ifs, .int s_whiles, .int s_variants, .int s_open, .ref m23, .int s_isMade, .int s_conditions, .ref m24, .ref m25, .ref m26, .ref m27, .int s_kept, .ref m28, .int s_tops, .ref m29, .int s_used, .ref m30, .ref m31, .int s_looked, .int s_rows, .int s_firstRow, .ref m32, .ref m33, .ref m34, .ref m35, .ref m36, .ref m37, .ref m38, .ref m39, .ref m40, .int s_isBroken, .ref m41, .int s_atoms, .ref m42]))]) hP hD hS hA [1] (by decide) rfl
          have hz := xz_of hN hS
          refine va_calli (va_runV (As := [.int 45]) (rest := []) ⟨hx, hb, hml, hown, hts⟩ (c_M_is l D ax m0 m1 m2 m3 m4 m5 m6 m7 m8 m9 m10 m11 m12 m13 m14 m15 m16 m17 m18 m19 m20 m21 m22 m23 m24 m25 m26 m27 m28 m29 m30 m31 m32 m33 m34 m35 m36 m37 m38 m39 m40 m41 m42 s_thrown s_taped (nI n) s_outSize (nI (u_111 3)) (nI (u_111 0)) (nI (u_111 1)) 0 s_isProgram s_half s_signs s_stacked (nI v) 0 s_statements s_ifs s_whiles s_variants s_open s_isMade s_conditions s_kept s_tops s_used s_looked s_rows s_firstRow s_isBroken s_atoms (u_111 2) 45 H_189.size (by first | assumption | omega) (by first | assumption | omega)) (xcV (n := 1) hts wd_1319 wd_15 wd_1316 wd_1318 ps_57 rfl rfl (by decide +kernel) ⟨Nat.le_of_ble_eq_true rfl, Nat.le_of_ble_eq_true rfl⟩) (xpV (ci := 11) (q0 := 0) (As := [.int 45]) hPc hK hz hDc rfl rfl) rfl rfl hl1.1 rfl (lv_room (Nat.le_of_ble_eq_true rfl)) d_Model_term_64 ⟨Nat.le_of_ble_eq_true rfl, Nat.le_of_ble_eq_true rfl⟩) hS (fun q _ h => hFc q h) hFc (fun r_194 u_192 t H_193 locs ht hvm hw hB hz1 hk1 hS1 => ?_)
          try dsimp only at hw
          subst hw
          obtain ⟨hP1, hD1⟩ := hB
          rw [ht] at hP1
          have hjn := xw_join3 (wl := [(m1, .inl (ax 0, 400, .inl (fun j => nI (g j)))), (m0, .inr (11, [.int s_thrown, .int s_taped, .ref m1, .int (nI n), .int s_outSize, .ref m2, .int (nI (u_111 2)), .int (nI (u_111 3)), .int (nI (u_111 0)), .int (nI (u_111 1)), .int 0, .ref m3, .ref m4, .ref m5, .int s_isProgram, .int s_half, .ref m6, .ref m7, .ref m8, .ref m9, .ref m10, .ref m11, .ref m12, .ref m13, .ref m14, .ref m15, .ref m16, .ref m17, .ref m18, .ref m19, .ref m20, .int s_signs, .ref m21, .int s_stacked, .ref m22, .int (nI v), .int 0, .int s_statements, .int s_ifs, .int s_whiles, .int s_variants, .int s_open, .ref m23, .int s_isMade, .int s_conditions, .ref m24, .ref m25, .ref m26, .ref m27, .int s_kept, .ref m28, .int s_tops, .ref m29, .int s_used, .ref m30, .ref m31, .int s_looked, .int s_rows, .int s_firstRow, .ref m32, .ref m33, .ref m34, .ref m35, .ref m36, .ref m37, .ref m38, .ref m39, .ref m40, .int s_isBroken, .ref m41, .int s_atoms, .ref m42]))]) hP hD [1] [0] hCs (by decide) (by decide) hk1 hFc hP1 hD1 rfl
          clear hP1 hD1
          clear hPc hDc hFc hCs hz hz1 hk1 ht hvm
          clear hP hD hS
          have hS := hS1
          obtain ⟨hP, hD⟩ := hjn
          clear hS1
          refine lv_istore_n (lv' := [(2, .int (zb ((u_111 2) = 200 + 45))), (0, .ref m0), (1, .int (nI gh))]) hx hb d_Model_term_67 rfl hl1 (by decide) rfl (fun ls hl2 => ?_)
          clear hl1; have hl1 := hl2; clear hl2
          refine lv_aload_n hx hb d_Model_term_68 rfl (lv_at hl1 1 rfl) ?_
          obtain ⟨hPc, hDc, hFc, hCs⟩ := xw_sub3 (wc := [(m0, .inr (11, [.int s_thrown, .int s_taped, .ref m1, .int (nI n), .int s_outSize, .ref m2, .int (nI (u_111 2)), .int (nI (u_111 3)), .int (nI (u_111 0)), .int (nI (u_111 1)), .int 0, .ref m3, .ref m4, .ref m5, .int s_isProgram, .int s_half, .ref m6, .ref m7, .ref m8, .ref m9, .ref m10, .ref m11, .ref m12, .ref m13, .ref m14, .ref m15, .ref m16, .ref m17, .ref m18, .ref m19, .ref m20, .int s_signs, .ref m21, .int s_stacked, .ref m22, .int (nI v), .int 0, .int s_statements, .int s_ifs, .int s_whiles, .int s_variants, .int s_open, .ref m23, .int s_isMade, .int s_conditions, .ref m24, .ref m25, .ref m26, .ref m27, .int s_kept, .ref m28, .int s_tops, .ref m29, .int s_used, .ref m30, .ref m31, .int s_looked, .int s_rows, .int s_firstRow, .ref m32, .ref m33, .ref m34, .ref m35, .ref m36, .ref m37, .ref m38, .ref m39, .ref m40, .int s_isBroken, .ref m41, .int s_atoms, .ref m42])), (m1, .inl (ax 0, 400, .inl (fun j => nI (g j))))]) hP hD hS hA [1, 0] (by decide) rfl
          have hz := xz_of hN hS
          refine va_callv (va_runV (As := []) (rest := []) ⟨hx, hb, hml, hown, hts⟩ (c_M_next l D ax m0 m1 m2 m3 m4 m5 m6 m7 m8 m9 m10 m11 m12 m13 m14 m15 m16 m17 m18 m19 m20 m21 m22 m23 m24 m25 m26 m27 m28 m29 m30 m31 m32 m33 m34 m35 m36 m37 m38 m39 m40 m41 m42 s_thrown s_taped s_outSize (nI (u_111 2)) (nI (u_111 0)) 0 s_isProgram s_half s_signs s_stacked (nI v) 0 s_statements s_ifs s_whiles s_variants s_open s_isMade s_conditions s_kept s_tops s_used s_looked s_rows s_firstRow s_isBroken s_atoms n (u_111 1) (u_111 3) g H_193.size hn (by first | assumption | omega) hg (by first | assumption | omega)) (xcV (n := 0) hts wd_1278 wd_15 wd_1275 wd_1277 ps_51 rfl rfl (by decide +kernel) ⟨Nat.le_of_ble_eq_true rfl, Nat.le_of_ble_eq_true rfl⟩) (xpV (ci := 11) (q0 := 0) (As := []) hPc hK hz hDc rfl rfl) rfl rfl hl1.1 rfl (lv_room (Nat.le_of_ble_eq_true rfl)) d_Model_term_69 ⟨Nat.le_of_ble_eq_true rfl, Nat.le_of_ble_eq_true rfl⟩) hS (fun q _ h => hFc q h) hFc (fun u_195 t H_196 locs ht hvm hw hB hz1 hk1 hS1 => ?_)
          try dsimp only at hw
          obtain ⟨-, -, -, hs_201, hs_202, hs_203, hs_204, hs_205, hs_206, hs_207, hs_208⟩ := hw
          obtain ⟨hP1, hD1⟩ := hB
          rw [ht] at hP1
          have hjn := xw_join3 (wl := [(m0, .inr (11, [.int s_thrown, .int s_taped, .ref m1, .int (nI n), .int s_outSize, .ref m2, .int (nI (u_195 2)), .int (nI (u_195 3)), .int (nI (u_195 0)), .int (nI (u_195 1)), .int 0, .ref m3, .ref m4, .ref m5, .int s_isProgram, .int s_half, .ref m6, .ref m7, .ref m8, .ref m9, .ref m10, .ref m11, .ref m12, .ref m13, .ref m14, .ref m15, .ref m16, .ref m17, .ref m18, .ref m19, .ref m20, .int s_signs, .ref m21, .int s_stacked, .ref m22, .int (nI v), .int 0, .int s_statements, .int s_ifs, .int s_whiles, .int s_variants, .int s_open, .ref m23, .int s_isMade, .int s_conditions, .ref m24, .ref m25, .ref m26, .ref m27, .int s_kept, .ref m28, .int s_tops, .ref m29, .int s_used, .ref m30, .ref m31, .int s_looked, .int s_rows, .int s_firstRow, .ref m32, .ref m33, .ref m34, .ref m35, .ref m36, .ref m37, .ref m38, .ref m39, .ref m40, .int s_isBroken, .ref m41, .int s_atoms, .ref m42])), (m1, .inl (ax 0, 400, .inl (fun j => nI (g j))))]) hP hD [1, 0] [] hCs (by decide) (by decide) hk1 hFc hP1 hD1 rfl
          clear hP1 hD1
          clear hPc hDc hFc hCs hz hz1 hk1 ht hvm
          clear hP hD hS
          have hS := hS1
          obtain ⟨hP, hD⟩ := hjn
          clear hS1
          refine lv_aload_n hx hb d_Model_term_72 rfl (lv_at hl1 1 rfl) ?_
          refine lv_iload_n hx hb d_Model_term_73 rfl (lv_at hl1 0 rfl) ?_
          refine lv_if_eq (tgt := 85) hx hb d_Model_term_74 (by decide) (fun c_209 => ?_) (fun c_209 => ?_)
          · replace c_209 : ¬ ((u_111 2) = 200 + 45) := zb_n c_209
            refine lv_aload_n hx hb d_Model_term_85 rfl (lv_at hl1 1 rfl) ?_
            refine va_get (D := D) (ci := 11) (v := .int (nI (u_195 3))) (C := R_Model) (T := F_Model) (N := 72) hx hb hts i_Model hown hK.1 hP 0 rfl rfl 7 (by decide) (hts _ wd_1043) (fun _ h9 => h9) rfl d_Model_term_86 ?_
            refine va_put (D := D) (ci := 11) (v := .int (nI (u_195 3))) (ty := .int) (C := R_Model) (T := F_Model) (N := 72) hx hb hts i_Model t_Model t_Model_ok n_Model hown hK.1 hP hD hS 0 rfl rfl 36 (by decide) (hts _ wd_1072) (fun _ h9 => h9) rfl (by decide +kernel) rfl rfl (Nat.le_of_ble_eq_true rfl) d_Model_term_89 (fun H_210 locs hP1 hD1 hS1 => ?_)
            clear hP hD hS
            have hS := hS1
            have hW7 : (fun w9 : va_W => va_P D classes w9 H_210 ∧ va_D A w9) [(m0, .inr (11, [.int s_thrown, .int s_taped, .ref m1, .int (nI n), .int s_outSize, .ref m2, .int (nI (u_195 2)), .int (nI (u_195 3)), .int (nI (u_195 0)), .int (nI (u_195 1)), .int 0, .ref m3, .ref m4, .ref m5, .int s_isProgram, .int s_half, .ref m6, .ref m7, .ref m8, .ref m9, .ref m10, .ref m11, .ref m12, .ref m13, .ref m14, .ref m15, .ref m16, .ref m17, .ref m18, .ref m19, .ref m20, .int s_signs, .ref m21, .int s_stacked, .ref m22, .int (nI v), .int (nI (u_195 3)), .int s_statements, .int s_ifs, .int s_whiles, .int s_variants, .int s_open, .ref m23, .int s_isMade, .int s_conditions, .ref m24, .ref m25, .ref m26, .ref m27, .int s_kept, .ref m28, .int s_tops, .ref m29, .int s_used, .ref m30, .ref m31, .int s_looked, .int s_rows, .int s_firstRow, .ref m32, .ref m33, .ref m34, .ref m35, .ref m36, .ref m37, .ref m38, .ref m39, .ref m40, .int s_isBroken, .ref m41, .int s_atoms, .ref m42])), (m1, .inl (ax 0, 400, .inl (fun j => nI (g j))))] := ⟨hP1, hD1⟩
            obtain ⟨hP, hD⟩ := hW7
            clear hP1 hD1 hS1
            refine lv_aload_n hx hb d_Model_term_92 rfl (lv_at hl1 1 rfl) ?_
            refine lv_aload_n hx hb d_Model_term_93 rfl (lv_at hl1 1 rfl) ?_
            refine va_get (D := D) (ci := 11) (v := .int (nI (u_195 2))) (C := R_Model) (T := F_Model) (N := 72) hx hb hts i_Model hown hK.1 hP 0 rfl rfl 6 (by decide) (hts _ wd_1042) (fun _ h9 => h9) rfl d_Model_term_94 ?_
            refine lv_iconst (v := 3) hx hb d_Model_term_97 (by decide) ?_
            refine lv_icmp_ne (tgt := 105) hx hb d_Model_term_98 (by decide) (fun c_211 => ?_) (fun c_211 => ?_)
            · replace c_211 : ¬ u_195 2 = 3 := fun hq9 => c_211 ((nI_eq (a := u_195 2) (b := 3) (by first | exact Nat.lt_of_lt_of_le (by assumption) (by decide) | exact Nat.lt_of_le_of_lt (by assumption) (by decide) | omega) (by decide)).mpr hq9)
              refine lv_iconst (v := 0) hx hb d_Model_term_105 (by decide) ?_
              obtain ⟨hPc, hDc, hFc, hCs⟩ := xw_sub3 (wc := [(m0, .inr (11, [.int s_thrown, .int s_taped, .ref m1, .int (nI n), .int s_outSize, .ref m2, .int (nI (u_195 2)), .int (nI (u_195 3)), .int (nI (u_195 0)), .int (nI (u_195 1)), .int 0, .ref m3, .ref m4, .ref m5, .int s_isProgram, .int s_half, .ref m6, .ref m7, .ref m8, .ref m9, .ref m10, .ref m11, .ref m12, .ref m13, .ref m14, .ref m15, .ref m16, .ref m17, .ref m18, .ref m19, .ref m20, .int s_signs, .ref m21, .int s_stacked, .ref m22, .int (nI v), .int (nI (u_195 3)), .int s_statements, .int s_ifs, .int s_whiles, .int s_variants, .int s_open, .ref m23, .int s_isMade, .int s_conditions, .ref m24, .ref m25, .ref m26, .ref m27, .int s_kept, .ref m28, .int s_tops, .ref m29, .int s_used, .ref m30, .ref m31, .int s_looked, .int s_rows, .int s_firstRow, .ref m32, .ref m33, .ref m34, .ref m35, .ref m36, .ref m37, .ref m38, .ref m39, .ref m40, .int s_isBroken, .ref m41, .int s_atoms, .ref m42]))]) hP hD hS hA [0] (by decide) rfl
              have hz := xz_of hN hS
              refine va_callv (va_runV (As := [.int 0]) (rest := []) ⟨hx, hb, hml, hown, hts⟩ (c_M_must_0 l D ax m0 m1 m2 m3 m4 m5 m6 m7 m8 m9 m10 m11 m12 m13 m14 m15 m16 m17 m18 m19 m20 m21 m22 m23 m24 m25 m26 m27 m28 m29 m30 m31 m32 m33 m34 m35 m36 m37 m38 m39 m40 m41 m42 s_thrown s_taped (nI n) s_outSize (nI (u_195 2)) (nI (u_195 3)) (nI (u_195 0)) (nI (u_195 1)) s_isProgram s_half s_signs s_stacked (nI v) (nI (u_195 3)) s_statements s_ifs s_whiles s_variants s_open s_isMade s_conditions s_kept s_tops s_used s_looked s_rows s_firstRow s_isBroken s_atoms H_210.size) (xcV (n := 1) hts wd_1335 wd_15 wd_1332 wd_1334 ps_61 rfl rfl (by decide +kernel) ⟨Nat.le_of_ble_eq_true rfl, Nat.le_of_ble_eq_true rfl⟩) (xpV (ci := 11) (q0 := 0) (As := [.int 0]) hPc hK hz hDc rfl rfl) rfl rfl hl1.1 rfl (lv_room (Nat.le_of_ble_eq_true rfl)) d_Model_term_106 ⟨Nat.le_of_ble_eq_true rfl, Nat.le_of_ble_eq_true rfl⟩) hS (fun q _ h => hFc q h) hFc (fun u_212 t H_213 locs ht hvm hw hB hz1 hk1 hS1 => ?_)
              try dsimp only at hw
              obtain ⟨hP1, hD1⟩ := hB
              rw [ht] at hP1
              have hjn := xw_join3 (wl := [(m1, .inl (ax 0, 400, .inl (fun j => nI (g j)))), (m0, .inr (11, [.int s_thrown, .int s_taped, .ref m1, .int (nI n), .int s_outSize, .ref m2, .int (nI (u_195 2)), .int (nI (u_195 3)), .int (nI (u_195 0)), .int (nI (u_195 1)), .int 1, .ref m3, .ref m4, .ref m5, .int s_isProgram, .int s_half, .ref m6, .ref m7, .ref m8, .ref m9, .ref m10, .ref m11, .ref m12, .ref m13, .ref m14, .ref m15, .ref m16, .ref m17, .ref m18, .ref m19, .ref m20, .int s_signs, .ref m21, .int s_stacked, .ref m22, .int (nI v), .int (nI (u_195 3)), .int s_statements, .int s_ifs, .int s_whiles, .int s_variants, .int s_open, .ref m23, .int s_isMade, .int s_conditions, .ref m24, .ref m25, .ref m26, .ref m27, .int s_kept, .ref m28, .int s_tops, .ref m29, .int s_used, .ref m30, .ref m31, .int s_looked, .int s_rows, .int s_firstRow, .ref m32, .ref m33, .ref m34, .ref m35, .ref m36, .ref m37, .ref m38, .ref m39, .ref m40, .int s_isBroken, .ref m41, .int s_atoms, .ref m42]))]) hP hD [0] [1] hCs (by decide) (by decide) hk1 hFc hP1 hD1 rfl
              clear hP1 hD1
              clear hPc hDc hFc hCs hz hz1 hk1 ht hvm
              clear hP hD hS
              have hS := hS1
              obtain ⟨hP, hD⟩ := hjn
              clear hS1
              rw [← hQe]
              obtain ⟨hP9, hD9⟩ := xw_sub2 (wc := (fun (u : Nat → Nat) (xnm : Int32) (xsh : Int32) => [(m0, .inr (11, [.int s_thrown, .int s_taped, .ref m1, .int (nI n), .int s_outSize, .ref m2, .int (nI (u 2)), .int (nI (u 3)), .int (nI (u 0)), .int (nI (u 1)), .int (nI (u 4)), .ref m3, .ref m4, .ref m5, .int s_isProgram, .int s_half, .ref m6, .ref m7, .ref m8, .ref m9, .ref m10, .ref m11, .ref m12, .ref m13, .ref m14, .ref m15, .ref m16, .ref m17, .ref m18, .ref m19, .ref m20, .int s_signs, .ref m21, .int s_stacked, .ref m22, .int xnm, .int xsh, .int s_statements, .int s_ifs, .int s_whiles, .int s_variants, .int s_open, .ref m23, .int s_isMade, .int s_conditions, .ref m24, .ref m25, .ref m26, .ref m27, .int s_kept, .ref m28, .int s_tops, .ref m29, .int s_used, .ref m30, .ref m31, .int s_looked, .int s_rows, .int s_firstRow, .ref m32, .ref m33, .ref m34, .ref m35, .ref m36, .ref m37, .ref m38, .ref m39, .ref m40, .int s_isBroken, .ref m41, .int s_atoms, .ref m42])), (m1, .inl (ax 0, 400, .inl (fun j => nI (g j))))]) (ixn [(u_195 0), (u_195 1), (u_195 2), (u_195 3), 1]) (nI v) (nI (u_195 3))) hP hD [1, 0] (by decide) rfl
              have hex0 : nmo (6 + 4 * gh) (nI v) := (by first | exact Or.inl rfl | exact Or.inr ⟨_, by omega, rfl⟩ | assumption)
              have hex1 : imp0 (1) (tmQ (nI v) (nI (u_195 3)) (trmV (kd g n) (nxt g n) (kv g n) gh b)) := (Or.inl rfl)
              have hsp0 : b ≤ (u_195 0) := (by first | assumption | omega)
              have hsp1 : (u_195 0) ≤ (u_195 1) := (by first | assumption | omega)
              have hsp2 : (u_195 1) ≤ n := (by first | assumption | omega)
              have hsp3 : tk0 ((u_195 2)) ((u_195 0)) ((u_195 1)) := (by assumption)
              have hsp4 : (u_195 2) < 10000 := (by first | assumption | omega)
              have hsp5 : (u_195 3) < 20000 := (by first | assumption | omega)
              have hsp6 : tkq g n ((u_195 0)) ((u_195 1)) ((u_195 2)) ((u_195 3)) := (by assumption)
              have hsp7 : 1 ≤ 1 := (by first | assumption | omega)
              have hsp8 : imp0 (1) (b < (u_195 0)) := (Or.inl rfl)
              have hsp9 : trmG (kd g n) (nxt g n) gh b = (1, (u_195 0)) := (by first | exact trm_c hkv (by first | assumption | omega) hs_124 hs_117 (by first | assumption | omega) hs_208 hs_201 (by first | assumption | omega))
              exact W.vret hx hb hr (fun t ht hW => ⟨⟨ixn [(u_195 0), (u_195 1), (u_195 2), (u_195 3), 1], rfl, ⟨hsp0, hsp1, hsp2, hsp3, hsp4, hsp5, hsp6, hsp7, hsp8, hsp9⟩, ⟨nI v, nI (u_195 3), hex0, hex1, by rw [ht]; exact hP9, hD9⟩⟩, hS.F ht⟩) hS.2.2 d_Model_term_109
            · replace c_211 : u_195 2 = 3 := (nI_eq (a := u_195 2) (b := 3) (by first | exact Nat.lt_of_lt_of_le (by assumption) (by decide) | exact Nat.lt_of_le_of_lt (by assumption) (by decide) | omega) (by decide)).mp c_211
              have hlt_215 : u_195 0 < u_195 1 := tk0.lt (by assumption) (by first | assumption | omega)
              refine lv_iconst (v := 1) hx hb d_Model_term_101 (by decide) ?_
              refine lv_goto (tgt := 106) hx hb d_Model_term_102 (by decide) ?_
              obtain ⟨hPc, hDc, hFc, hCs⟩ := xw_sub3 (wc := [(m0, .inr (11, [.int s_thrown, .int s_taped, .ref m1, .int (nI n), .int s_outSize, .ref m2, .int (nI (u_195 2)), .int (nI (u_195 3)), .int (nI (u_195 0)), .int (nI (u_195 1)), .int 0, .ref m3, .ref m4, .ref m5, .int s_isProgram, .int s_half, .ref m6, .ref m7, .ref m8, .ref m9, .ref m10, .ref m11, .ref m12, .ref m13, .ref m14, .ref m15, .ref m16, .ref m17, .ref m18, .ref m19, .ref m20, .int s_signs, .ref m21, .int s_stacked, .ref m22, .int (nI v), .int (nI (u_195 3)), .int s_statements, .int s_ifs, .int s_whiles, .int s_variants, .int s_open, .ref m23, .int s_isMade, .int s_conditions, .ref m24, .ref m25, .ref m26, .ref m27, .int s_kept, .ref m28, .int s_tops, .ref m29, .int s_used, .ref m30, .ref m31, .int s_looked, .int s_rows, .int s_firstRow, .ref m32, .ref m33, .ref m34, .ref m35, .ref m36, .ref m37, .ref m38, .ref m39, .ref m40, .int s_isBroken, .ref m41, .int s_atoms, .ref m42])), (m1, .inl (ax 0, 400, .inl (fun j => nI (g j))))]) hP hD hS hA [0, 1] (by decide) rfl
              have hz := xz_of hN hS
              refine va_callv (va_runV (As := [.int 1]) (rest := []) ⟨hx, hb, hml, hown, hts⟩ (c_M_must_1 l D ax m0 m1 m2 m3 m4 m5 m6 m7 m8 m9 m10 m11 m12 m13 m14 m15 m16 m17 m18 m19 m20 m21 m22 m23 m24 m25 m26 m27 m28 m29 m30 m31 m32 m33 m34 m35 m36 m37 m38 m39 m40 m41 m42 s_thrown s_taped s_outSize (nI (u_195 2)) (nI (u_195 0)) s_isProgram s_half s_signs s_stacked (nI v) (nI (u_195 3)) s_statements s_ifs s_whiles s_variants s_open s_isMade s_conditions s_kept s_tops s_used s_looked s_rows s_firstRow s_isBroken s_atoms n (u_195 1) (u_195 3) g H_210.size hn (by first | assumption | omega) hg (by first | assumption | omega)) (xcV (n := 1) hts wd_1335 wd_15 wd_1332 wd_1334 ps_61 rfl rfl (by decide +kernel) ⟨Nat.le_of_ble_eq_true rfl, Nat.le_of_ble_eq_true rfl⟩) (xpV (ci := 11) (q0 := 0) (As := [.int 1]) hPc hK hz hDc rfl rfl) rfl rfl hl1.1 rfl (lv_room (Nat.le_of_ble_eq_true rfl)) d_Model_term_106 ⟨Nat.le_of_ble_eq_true rfl, Nat.le_of_ble_eq_true rfl⟩) hS (fun q _ h => hFc q h) hFc (fun u_216 t H_217 locs ht hvm hw hB hz1 hk1 hS1 => ?_)
              try dsimp only at hw
              obtain ⟨-, -, -, hs_222, hs_223, hs_224, hs_225, hs_226, hs_227, hs_228, hs_229⟩ := hw
              obtain ⟨hP1, hD1⟩ := hB
              rw [ht] at hP1
              have hjn := xw_join3 (wl := [(m0, .inr (11, [.int s_thrown, .int s_taped, .ref m1, .int (nI n), .int s_outSize, .ref m2, .int (nI (u_216 2)), .int (nI (u_216 3)), .int (nI (u_216 0)), .int (nI (u_216 1)), .int 0, .ref m3, .ref m4, .ref m5, .int s_isProgram, .int s_half, .ref m6, .ref m7, .ref m8, .ref m9, .ref m10, .ref m11, .ref m12, .ref m13, .ref m14, .ref m15, .ref m16, .ref m17, .ref m18, .ref m19, .ref m20, .int s_signs, .ref m21, .int s_stacked, .ref m22, .int (nI v), .int (nI (u_195 3)), .int s_statements, .int s_ifs, .int s_whiles, .int s_variants, .int s_open, .ref m23, .int s_isMade, .int s_conditions, .ref m24, .ref m25, .ref m26, .ref m27, .int s_kept, .ref m28, .int s_tops, .ref m29, .int s_used, .ref m30, .ref m31, .int s_looked, .int s_rows, .int s_firstRow, .ref m32, .ref m33, .ref m34, .ref m35, .ref m36, .ref m37, .ref m38, .ref m39, .ref m40, .int s_isBroken, .ref m41, .int s_atoms, .ref m42])), (m1, .inl (ax 0, 400, .inl (fun j => nI (g j))))]) hP hD [0, 1] [] hCs (by decide) (by decide) hk1 hFc hP1 hD1 rfl
              clear hP1 hD1
              clear hPc hDc hFc hCs hz hz1 hk1 ht hvm
              clear hP hD hS
              have hS := hS1
              obtain ⟨hP, hD⟩ := hjn
              clear hS1
              rw [← hQe]
              obtain ⟨hP9, hD9⟩ := xw_sub2 (wc := (fun (u : Nat → Nat) (xnm : Int32) (xsh : Int32) => [(m0, .inr (11, [.int s_thrown, .int s_taped, .ref m1, .int (nI n), .int s_outSize, .ref m2, .int (nI (u 2)), .int (nI (u 3)), .int (nI (u 0)), .int (nI (u 1)), .int (nI (u 4)), .ref m3, .ref m4, .ref m5, .int s_isProgram, .int s_half, .ref m6, .ref m7, .ref m8, .ref m9, .ref m10, .ref m11, .ref m12, .ref m13, .ref m14, .ref m15, .ref m16, .ref m17, .ref m18, .ref m19, .ref m20, .int s_signs, .ref m21, .int s_stacked, .ref m22, .int xnm, .int xsh, .int s_statements, .int s_ifs, .int s_whiles, .int s_variants, .int s_open, .ref m23, .int s_isMade, .int s_conditions, .ref m24, .ref m25, .ref m26, .ref m27, .int s_kept, .ref m28, .int s_tops, .ref m29, .int s_used, .ref m30, .ref m31, .int s_looked, .int s_rows, .int s_firstRow, .ref m32, .ref m33, .ref m34, .ref m35, .ref m36, .ref m37, .ref m38, .ref m39, .ref m40, .int s_isBroken, .ref m41, .int s_atoms, .ref m42])), (m1, .inl (ax 0, 400, .inl (fun j => nI (g j))))]) (ixn [(u_216 0), (u_216 1), (u_216 2), (u_216 3), 0]) (nI v) (nI (u_195 3))) hP hD [0, 1] (by decide) rfl
              have hex0 : nmo (6 + 4 * gh) (nI v) := (by first | exact Or.inl rfl | exact Or.inr ⟨_, by omega, rfl⟩ | assumption)
              have hex1 : imp0 (0) (tmQ (nI v) (nI (u_195 3)) (trmV (kd g n) (nxt g n) (kv g n) gh b)) := (Or.inr (by first | exact trv_p hkv (by first | assumption | omega) hs_124 hs_117 (by first | assumption | omega) hs_208 hs_201 (by first | assumption | omega) (by first | rfl | assumption | (exfalso; omega)) | exact trv_m hkv (by first | assumption | omega) hs_124 hs_117 (by first | assumption | omega) hs_208 hs_201 (by first | assumption | omega) (by first | rfl | assumption | (exfalso; omega))))
              have hsp0 : b ≤ (u_216 0) := (by first | assumption | omega)
              have hsp1 : (u_216 0) ≤ (u_216 1) := (by first | assumption | omega)
              have hsp2 : (u_216 1) ≤ n := (by first | assumption | omega)
              have hsp3 : tk0 ((u_216 2)) ((u_216 0)) ((u_216 1)) := (by assumption)
              have hsp4 : (u_216 2) < 10000 := (by first | assumption | omega)
              have hsp5 : (u_216 3) < 20000 := (by first | assumption | omega)
              have hsp6 : tkq g n ((u_216 0)) ((u_216 1)) ((u_216 2)) ((u_216 3)) := (by assumption)
              have hsp7 : 0 ≤ 1 := (by first | assumption | omega)
              have hsp8 : imp0 (0) (b < (u_216 0)) := (Or.inr (by first | assumption | omega))
              have hsp9 : trmG (kd g n) (nxt g n) gh b = (0, (u_216 0)) := (by first | exact trm_b hkv (by first | assumption | omega) hs_124 hs_117 (by first | assumption | omega) hs_208 hs_201 (by first | assumption | omega) hs_222)
              exact W.vret hx hb hr (fun t ht hW => ⟨⟨ixn [(u_216 0), (u_216 1), (u_216 2), (u_216 3), 0], rfl, ⟨hsp0, hsp1, hsp2, hsp3, hsp4, hsp5, hsp6, hsp7, hsp8, hsp9⟩, ⟨nI v, nI (u_195 3), hex0, hex1, by rw [ht]; exact hP9, hD9⟩⟩, hS.F ht⟩) hS.2.2 d_Model_term_109
          · replace c_209 : ((u_111 2) = 200 + 45) := zb_y c_209
            refine lv_aload_n hx hb d_Model_term_77 rfl (lv_at hl1 1 rfl) ?_
            refine va_get (D := D) (ci := 11) (v := .int (nI (u_195 3))) (C := R_Model) (T := F_Model) (N := 72) hx hb hts i_Model hown hK.1 hP 0 rfl rfl 7 (by decide) (hts _ wd_1043) (fun _ h9 => h9) rfl d_Model_term_78 ?_
            refine lv_ineg hx hb d_Model_term_81 ?_
            refine lv_topi (fun z_230 ez_230 => ?_)
            refine lv_goto (tgt := 89) hx hb d_Model_term_82 (by decide) ?_
            refine va_put (D := D) (ci := 11) (v := .int z_230) (ty := .int) (C := R_Model) (T := F_Model) (N := 72) hx hb hts i_Model t_Model t_Model_ok n_Model hown hK.1 hP hD hS 0 rfl rfl 36 (by decide) (hts _ wd_1072) (fun _ h9 => h9) rfl (by decide +kernel) rfl rfl (Nat.le_of_ble_eq_true rfl) d_Model_term_89 (fun H_231 locs hP1 hD1 hS1 => ?_)
            clear hP hD hS
            have hS := hS1
            have hW7 : (fun w9 : va_W => va_P D classes w9 H_231 ∧ va_D A w9) [(m0, .inr (11, [.int s_thrown, .int s_taped, .ref m1, .int (nI n), .int s_outSize, .ref m2, .int (nI (u_195 2)), .int (nI (u_195 3)), .int (nI (u_195 0)), .int (nI (u_195 1)), .int 0, .ref m3, .ref m4, .ref m5, .int s_isProgram, .int s_half, .ref m6, .ref m7, .ref m8, .ref m9, .ref m10, .ref m11, .ref m12, .ref m13, .ref m14, .ref m15, .ref m16, .ref m17, .ref m18, .ref m19, .ref m20, .int s_signs, .ref m21, .int s_stacked, .ref m22, .int (nI v), .int z_230, .int s_statements, .int s_ifs, .int s_whiles, .int s_variants, .int s_open, .ref m23, .int s_isMade, .int s_conditions, .ref m24, .ref m25, .ref m26, .ref m27, .int s_kept, .ref m28, .int s_tops, .ref m29, .int s_used, .ref m30, .ref m31, .int s_looked, .int s_rows, .int s_firstRow, .ref m32, .ref m33, .ref m34, .ref m35, .ref m36, .ref m37, .ref m38, .ref m39, .ref m40, .int s_isBroken, .ref m41, .int s_atoms, .ref m42])), (m1, .inl (ax 0, 400, .inl (fun j => nI (g j))))] := ⟨hP1, hD1⟩
            obtain ⟨hP, hD⟩ := hW7
            clear hP1 hD1 hS1
            refine lv_aload_n hx hb d_Model_term_92 rfl (lv_at hl1 1 rfl) ?_
            refine lv_aload_n hx hb d_Model_term_93 rfl (lv_at hl1 1 rfl) ?_
            refine va_get (D := D) (ci := 11) (v := .int (nI (u_195 2))) (C := R_Model) (T := F_Model) (N := 72) hx hb hts i_Model hown hK.1 hP 0 rfl rfl 6 (by decide) (hts _ wd_1042) (fun _ h9 => h9) rfl d_Model_term_94 ?_
            refine lv_iconst (v := 3) hx hb d_Model_term_97 (by decide) ?_
            refine lv_icmp_ne (tgt := 105) hx hb d_Model_term_98 (by decide) (fun c_232 => ?_) (fun c_232 => ?_)
            · replace c_232 : ¬ u_195 2 = 3 := fun hq9 => c_232 ((nI_eq (a := u_195 2) (b := 3) (by first | exact Nat.lt_of_lt_of_le (by assumption) (by decide) | exact Nat.lt_of_le_of_lt (by assumption) (by decide) | omega) (by decide)).mpr hq9)
              refine lv_iconst (v := 0) hx hb d_Model_term_105 (by decide) ?_
              obtain ⟨hPc, hDc, hFc, hCs⟩ := xw_sub3 (wc := [(m0, .inr (11, [.int s_thrown, .int s_taped, .ref m1, .int (nI n), .int s_outSize, .ref m2, .int (nI (u_195 2)), .int (nI (u_195 3)), .int (nI (u_195 0)), .int (nI (u_195 1)), .int 0, .ref m3, .ref m4, .ref m5, .int s_isProgram, .int s_half, .ref m6, .ref m7, .ref m8, .ref m9, .ref m10, .ref m11, .ref m12, .ref m13, .ref m14, .ref m15, .ref m16, .ref m17, .ref m18, .ref m19, .ref m20, .int s_signs, .ref m21, .int s_stacked, .ref m22, .int (nI v), .int z_230, .int s_statements, .int s_ifs, .int s_whiles, .int s_variants, .int s_open, .ref m23, .int s_isMade, .int s_conditions, .ref m24, .ref m25, .ref m26, .ref m27, .int s_kept, .ref m28, .int s_tops, .ref m29, .int s_used, .ref m30, .ref m31, .int s_looked, .int s_rows, .int s_firstRow, .ref m32, .ref m33, .ref m34, .ref m35, .ref m36, .ref m37, .ref m38, .ref m39, .ref m40, .int s_isBroken, .ref m41, .int s_atoms, .ref m42]))]) hP hD hS hA [0] (by decide) rfl
              have hz := xz_of hN hS
              refine va_callv (va_runV (As := [.int 0]) (rest := []) ⟨hx, hb, hml, hown, hts⟩ (c_M_must_0 l D ax m0 m1 m2 m3 m4 m5 m6 m7 m8 m9 m10 m11 m12 m13 m14 m15 m16 m17 m18 m19 m20 m21 m22 m23 m24 m25 m26 m27 m28 m29 m30 m31 m32 m33 m34 m35 m36 m37 m38 m39 m40 m41 m42 s_thrown s_taped (nI n) s_outSize (nI (u_195 2)) (nI (u_195 3)) (nI (u_195 0)) (nI (u_195 1)) s_isProgram s_half s_signs s_stacked (nI v) z_230 s_statements s_ifs s_whiles s_variants s_open s_isMade s_conditions s_kept s_tops s_used s_looked s_rows s_firstRow s_isBroken s_atoms H_231.size) (xcV (n := 1) hts wd_1335 wd_15 wd_1332 wd_1334 ps_61 rfl rfl (by decide +kernel) ⟨Nat.le_of_ble_eq_true rfl, Nat.le_of_ble_eq_true rfl⟩) (xpV (ci := 11) (q0 := 0) (As := [.int 0]) hPc hK hz hDc rfl rfl) rfl rfl hl1.1 rfl (lv_room (Nat.le_of_ble_eq_true rfl)) d_Model_term_106 ⟨Nat.le_of_ble_eq_true rfl, Nat.le_of_ble_eq_true rfl⟩) hS (fun q _ h => hFc q h) hFc (fun u_233 t H_234 locs ht hvm hw hB hz1 hk1 hS1 => ?_)
              try dsimp only at hw
              obtain ⟨hP1, hD1⟩ := hB
              rw [ht] at hP1
              have hjn := xw_join3 (wl := [(m1, .inl (ax 0, 400, .inl (fun j => nI (g j)))), (m0, .inr (11, [.int s_thrown, .int s_taped, .ref m1, .int (nI n), .int s_outSize, .ref m2, .int (nI (u_195 2)), .int (nI (u_195 3)), .int (nI (u_195 0)), .int (nI (u_195 1)), .int 1, .ref m3, .ref m4, .ref m5, .int s_isProgram, .int s_half, .ref m6, .ref m7, .ref m8, .ref m9, .ref m10, .ref m11, .ref m12, .ref m13, .ref m14, .ref m15, .ref m16, .ref m17, .ref m18, .ref m19, .ref m20, .int s_signs, .ref m21, .int s_stacked, .ref m22, .int (nI v), .int z_230, .int s_statements, .int s_ifs, .int s_whiles, .int s_variants, .int s_open, .ref m23, .int s_isMade, .int s_conditions, .ref m24, .ref m25, .ref m26, .ref m27, .int s_kept, .ref m28, .int s_tops, .ref m29, .int s_used, .ref m30, .ref m31, .int s_looked, .int s_rows, .int s_firstRow, .ref m32, .ref m33, .ref m34, .ref m35, .ref m36, .ref m37, .ref m38, .ref m39, .ref m40, .int s_isBroken, .ref m41, .int s_atoms, .ref m42]))]) hP hD [0] [1] hCs (by decide) (by decide) hk1 hFc hP1 hD1 rfl
              clear hP1 hD1
              clear hPc hDc hFc hCs hz hz1 hk1 ht hvm
              clear hP hD hS
              have hS := hS1
              obtain ⟨hP, hD⟩ := hjn
              clear hS1
              rw [← hQe]
              obtain ⟨hP9, hD9⟩ := xw_sub2 (wc := (fun (u : Nat → Nat) (xnm : Int32) (xsh : Int32) => [(m0, .inr (11, [.int s_thrown, .int s_taped, .ref m1, .int (nI n), .int s_outSize, .ref m2, .int (nI (u 2)), .int (nI (u 3)), .int (nI (u 0)), .int (nI (u 1)), .int (nI (u 4)), .ref m3, .ref m4, .ref m5, .int s_isProgram, .int s_half, .ref m6, .ref m7, .ref m8, .ref m9, .ref m10, .ref m11, .ref m12, .ref m13, .ref m14, .ref m15, .ref m16, .ref m17, .ref m18, .ref m19, .ref m20, .int s_signs, .ref m21, .int s_stacked, .ref m22, .int xnm, .int xsh, .int s_statements, .int s_ifs, .int s_whiles, .int s_variants, .int s_open, .ref m23, .int s_isMade, .int s_conditions, .ref m24, .ref m25, .ref m26, .ref m27, .int s_kept, .ref m28, .int s_tops, .ref m29, .int s_used, .ref m30, .ref m31, .int s_looked, .int s_rows, .int s_firstRow, .ref m32, .ref m33, .ref m34, .ref m35, .ref m36, .ref m37, .ref m38, .ref m39, .ref m40, .int s_isBroken, .ref m41, .int s_atoms, .ref m42])), (m1, .inl (ax 0, 400, .inl (fun j => nI (g j))))]) (ixn [(u_195 0), (u_195 1), (u_195 2), (u_195 3), 1]) (nI v) z_230) hP hD [1, 0] (by decide) rfl
              have hex0 : nmo (6 + 4 * gh) (nI v) := (by first | exact Or.inl rfl | exact Or.inr ⟨_, by omega, rfl⟩ | assumption)
              have hex1 : imp0 (1) (tmQ (nI v) z_230 (trmV (kd g n) (nxt g n) (kv g n) gh b)) := (Or.inl rfl)
              have hsp0 : b ≤ (u_195 0) := (by first | assumption | omega)
              have hsp1 : (u_195 0) ≤ (u_195 1) := (by first | assumption | omega)
              have hsp2 : (u_195 1) ≤ n := (by first | assumption | omega)
              have hsp3 : tk0 ((u_195 2)) ((u_195 0)) ((u_195 1)) := (by assumption)
              have hsp4 : (u_195 2) < 10000 := (by first | assumption | omega)
              have hsp5 : (u_195 3) < 20000 := (by first | assumption | omega)
              have hsp6 : tkq g n ((u_195 0)) ((u_195 1)) ((u_195 2)) ((u_195 3)) := (by assumption)
              have hsp7 : 1 ≤ 1 := (by first | assumption | omega)
              have hsp8 : imp0 (1) (b < (u_195 0)) := (Or.inl rfl)
              have hsp9 : trmG (kd g n) (nxt g n) gh b = (1, (u_195 0)) := (by first | exact trm_c hkv (by first | assumption | omega) hs_124 hs_117 (by first | assumption | omega) hs_208 hs_201 (by first | assumption | omega))
              exact W.vret hx hb hr (fun t ht hW => ⟨⟨ixn [(u_195 0), (u_195 1), (u_195 2), (u_195 3), 1], rfl, ⟨hsp0, hsp1, hsp2, hsp3, hsp4, hsp5, hsp6, hsp7, hsp8, hsp9⟩, ⟨nI v, z_230, hex0, hex1, by rw [ht]; exact hP9, hD9⟩⟩, hS.F ht⟩) hS.2.2 d_Model_term_109
            · replace c_232 : u_195 2 = 3 := (nI_eq (a := u_195 2) (b := 3) (by first | exact Nat.lt_of_lt_of_le (by assumption) (by decide) | exact Nat.lt_of_le_of_lt (by assumption) (by decide) | omega) (by decide)).mp c_232
              have hlt_236 : u_195 0 < u_195 1 := tk0.lt (by assumption) (by first | assumption | omega)
              refine lv_iconst (v := 1) hx hb d_Model_term_101 (by decide) ?_
              refine lv_goto (tgt := 106) hx hb d_Model_term_102 (by decide) ?_
              obtain ⟨hPc, hDc, hFc, hCs⟩ := xw_sub3 (wc := [(m0, .inr (11, [.int s_thrown, .int s_taped, .ref m1, .int (nI n), .int s_outSize, .ref m2, .int (nI (u_195 2)), .int (nI (u_195 3)), .int (nI (u_195 0)), .int (nI (u_195 1)), .int 0, .ref m3, .ref m4, .ref m5, .int s_isProgram, .int s_half, .ref m6, .ref m7, .ref m8, .ref m9, .ref m10, .ref m11, .ref m12, .ref m13, .ref m14, .ref m15, .ref m16, .ref m17, .ref m18, .ref m19, .ref m20, .int s_signs, .ref m21, .int s_stacked, .ref m22, .int (nI v), .int z_230, .int s_statements, .int s_ifs, .int s_whiles, .int s_variants, .int s_open, .ref m23, .int s_isMade, .int s_conditions, .ref m24, .ref m25, .ref m26, .ref m27, .int s_kept, .ref m28, .int s_tops, .ref m29, .int s_used, .ref m30, .ref m31, .int s_looked, .int s_rows, .int s_firstRow, .ref m32, .ref m33, .ref m34, .ref m35, .ref m36, .ref m37, .ref m38, .ref m39, .ref m40, .int s_isBroken, .ref m41, .int s_atoms, .ref m42])), (m1, .inl (ax 0, 400, .inl (fun j => nI (g j))))]) hP hD hS hA [0, 1] (by decide) rfl
              have hz := xz_of hN hS
              refine va_callv (va_runV (As := [.int 1]) (rest := []) ⟨hx, hb, hml, hown, hts⟩ (c_M_must_1 l D ax m0 m1 m2 m3 m4 m5 m6 m7 m8 m9 m10 m11 m12 m13 m14 m15 m16 m17 m18 m19 m20 m21 m22 m23 m24 m25 m26 m27 m28 m29 m30 m31 m32 m33 m34 m35 m36 m37 m38 m39 m40 m41 m42 s_thrown s_taped s_outSize (nI (u_195 2)) (nI (u_195 0)) s_isProgram s_half s_signs s_stacked (nI v) z_230 s_statements s_ifs s_whiles s_variants s_open s_isMade s_conditions s_kept s_tops s_used s_looked s_rows s_firstRow s_isBroken s_atoms n (u_195 1) (u_195 3) g H_231.size hn (by first | assumption | omega) hg (by first | assumption | omega)) (xcV (n := 1) hts wd_1335 wd_15 wd_1332 wd_1334 ps_61 rfl rfl (by decide +kernel) ⟨Nat.le_of_ble_eq_true rfl, Nat.le_of_ble_eq_true rfl⟩) (xpV (ci := 11) (q0 := 0) (As := [.int 1]) hPc hK hz hDc rfl rfl) rfl rfl hl1.1 rfl (lv_room (Nat.le_of_ble_eq_true rfl)) d_Model_term_106 ⟨Nat.le_of_ble_eq_true rfl, Nat.le_of_ble_eq_true rfl⟩) hS (fun q _ h => hFc q h) hFc (fun u_237 t H_238 locs ht hvm hw hB hz1 hk1 hS1 => ?_)
              try dsimp only at hw
              obtain ⟨-, -, -, hs_243, hs_244, hs_245, hs_246, hs_247, hs_248, hs_249, hs_250⟩ := hw
              obtain ⟨hP1, hD1⟩ := hB
              rw [ht] at hP1
              have hjn := xw_join3 (wl := [(m0, .inr (11, [.int s_thrown, .int s_taped, .ref m1, .int (nI n), .int s_outSize, .ref m2, .int (nI (u_237 2)), .int (nI (u_237 3)), .int (nI (u_237 0)), .int (nI (u_237 1)), .int 0, .ref m3, .ref m4, .ref m5, .int s_isProgram, .int s_half, .ref m6, .ref m7, .ref m8, .ref m9, .ref m10, .ref m11, .ref m12, .ref m13, .ref m14, .ref m15, .ref m16, .ref m17, .ref m18, .ref m19, .ref m20, .int s_signs, .ref m21, .int s_stacked, .ref m22, .int (nI v), .int z_230, .int s_statements, .int s_ifs, .int s_whiles, .int s_variants, .int s_open, .ref m23, .int s_isMade, .int s_conditions, .ref m24, .ref m25, .ref m26, .ref m27, .int s_kept, .ref m28, .int s_tops, .ref m29, .int s_used, .ref m30, .ref m31, .int s_looked, .int s_rows, .int s_firstRow, .ref m32, .ref m33, .ref m34, .ref m35, .ref m36, .ref m37, .ref m38, .ref m39, .ref m40, .int s_isBroken, .ref m41, .int s_atoms, .ref m42])), (m1, .inl (ax 0, 400, .inl (fun j => nI (g j))))]) hP hD [0, 1] [] hCs (by decide) (by decide) hk1 hFc hP1 hD1 rfl
              clear hP1 hD1
              clear hPc hDc hFc hCs hz hz1 hk1 ht hvm
              clear hP hD hS
              have hS := hS1
              obtain ⟨hP, hD⟩ := hjn
              clear hS1
              rw [← hQe]
              obtain ⟨hP9, hD9⟩ := xw_sub2 (wc := (fun (u : Nat → Nat) (xnm : Int32) (xsh : Int32) => [(m0, .inr (11, [.int s_thrown, .int s_taped, .ref m1, .int (nI n), .int s_outSize, .ref m2, .int (nI (u 2)), .int (nI (u 3)), .int (nI (u 0)), .int (nI (u 1)), .int (nI (u 4)), .ref m3, .ref m4, .ref m5, .int s_isProgram, .int s_half, .ref m6, .ref m7, .ref m8, .ref m9, .ref m10, .ref m11, .ref m12, .ref m13, .ref m14, .ref m15, .ref m16, .ref m17, .ref m18, .ref m19, .ref m20, .int s_signs, .ref m21, .int s_stacked, .ref m22, .int xnm, .int xsh, .int s_statements, .int s_ifs, .int s_whiles, .int s_variants, .int s_open, .ref m23, .int s_isMade, .int s_conditions, .ref m24, .ref m25, .ref m26, .ref m27, .int s_kept, .ref m28, .int s_tops, .ref m29, .int s_used, .ref m30, .ref m31, .int s_looked, .int s_rows, .int s_firstRow, .ref m32, .ref m33, .ref m34, .ref m35, .ref m36, .ref m37, .ref m38, .ref m39, .ref m40, .int s_isBroken, .ref m41, .int s_atoms, .ref m42])), (m1, .inl (ax 0, 400, .inl (fun j => nI (g j))))]) (ixn [(u_237 0), (u_237 1), (u_237 2), (u_237 3), 0]) (nI v) z_230) hP hD [0, 1] (by decide) rfl
              have hex0 : nmo (6 + 4 * gh) (nI v) := (by first | exact Or.inl rfl | exact Or.inr ⟨_, by omega, rfl⟩ | assumption)
              have hex1 : imp0 (0) (tmQ (nI v) z_230 (trmV (kd g n) (nxt g n) (kv g n) gh b)) := (Or.inr (by first | exact trv_p hkv (by first | assumption | omega) hs_124 hs_117 (by first | assumption | omega) hs_208 hs_201 (by first | assumption | omega) (by first | rfl | assumption | (exfalso; omega)) | exact trv_m hkv (by first | assumption | omega) hs_124 hs_117 (by first | assumption | omega) hs_208 hs_201 (by first | assumption | omega) (by first | rfl | assumption | (exfalso; omega))))
              have hsp0 : b ≤ (u_237 0) := (by first | assumption | omega)
              have hsp1 : (u_237 0) ≤ (u_237 1) := (by first | assumption | omega)
              have hsp2 : (u_237 1) ≤ n := (by first | assumption | omega)
              have hsp3 : tk0 ((u_237 2)) ((u_237 0)) ((u_237 1)) := (by assumption)
              have hsp4 : (u_237 2) < 10000 := (by first | assumption | omega)
              have hsp5 : (u_237 3) < 20000 := (by first | assumption | omega)
              have hsp6 : tkq g n ((u_237 0)) ((u_237 1)) ((u_237 2)) ((u_237 3)) := (by assumption)
              have hsp7 : 0 ≤ 1 := (by first | assumption | omega)
              have hsp8 : imp0 (0) (b < (u_237 0)) := (Or.inr (by first | assumption | omega))
              have hsp9 : trmG (kd g n) (nxt g n) gh b = (0, (u_237 0)) := (by first | exact trm_b hkv (by first | assumption | omega) hs_124 hs_117 (by first | assumption | omega) hs_208 hs_201 (by first | assumption | omega) hs_243)
              exact W.vret hx hb hr (fun t ht hW => ⟨⟨ixn [(u_237 0), (u_237 1), (u_237 2), (u_237 3), 0], rfl, ⟨hsp0, hsp1, hsp2, hsp3, hsp4, hsp5, hsp6, hsp7, hsp8, hsp9⟩, ⟨nI v, z_230, hex0, hex1, by rw [ht]; exact hP9, hD9⟩⟩, hS.F ht⟩) hS.2.2 d_Model_term_109
    · replace c_109 : ¬ v < 6 := fun hq9 => c_109 ((nI_ltI (a := v) (b := 6) (by first | exact Nat.lt_of_lt_of_le (by assumption) (by decide) | exact Nat.lt_of_le_of_lt (by assumption) (by decide) | omega) (by decide)).mpr hq9)
      refine lv_iload_n hx hb d_Model_term_27 rfl (lv_at hl1 1 rfl) ?_
      refine lv_if_eq (tgt := 110) hx hb d_Model_term_28 (by decide) (fun c_251 => ?_) (fun c_251 => ?_)
      · replace c_251 : gh = 0 := (nI_eq (a := gh) (b := 0) (by first | exact Nat.lt_of_lt_of_le (by assumption) (by decide) | exact Nat.lt_of_le_of_lt (by assumption) (by decide) | omega) (by decide)).mp c_251
        refine lv_aload_n hx hb d_Model_term_110 rfl (lv_at hl1 0 rfl) ?_
        refine lv_bipush (v := 45) hx hb d_Model_term_111 (by decide) ?_
        obtain ⟨hPc, hDc, hFc, hCs⟩ := xw_sub3 (wc := [(m0, .inr (11, [.int s_thrown, .int s_taped, .ref m1, .int (nI n), .int s_outSize, .ref m2, .int (nI k), .int (nI v), .int (nI b), .int (nI en), .int 0, .ref m3, .ref m4, .ref m5, .int s_isProgram, .int s_half, .ref m6, .ref m7, .ref m8, .ref m9, .ref m10, .ref m11, .ref m12, .ref m13, .ref m14, .ref m15, .ref m16, .ref m17, .ref m18, .ref m19, .ref m20, .int s_signs, .ref m21, .int s_stacked, .ref m22, .int (-1), .int 0, .int s_statements, .int s_ifs, .int s_whiles, .int s_variants, .int s_open, .ref m23, .int s_isMade, .int s_conditions, .ref m24, .ref m25, .ref m26, .ref m27, .int s_kept, .ref m28, .int s_tops, .ref m29, .int s_used, .ref m30, .ref m31, .int s_looked, .int s_rows, .int s_firstRow, .ref m32, .ref m33, .ref m34, .ref m35, .ref m36, .ref m37, .ref m38, .ref m39, .ref m40, .int s_isBroken, .ref m41, .int s_atoms, .ref m42]))]) hP hD hS hA [0] (by decide) rfl
        have hz := xz_of hN hS
        refine va_calli (va_runV (As := [.int 45]) (rest := []) ⟨hx, hb, hml, hown, hts⟩ (c_M_is l D ax m0 m1 m2 m3 m4 m5 m6 m7 m8 m9 m10 m11 m12 m13 m14 m15 m16 m17 m18 m19 m20 m21 m22 m23 m24 m25 m26 m27 m28 m29 m30 m31 m32 m33 m34 m35 m36 m37 m38 m39 m40 m41 m42 s_thrown s_taped (nI n) s_outSize (nI v) (nI b) (nI en) 0 s_isProgram s_half s_signs s_stacked (-1) 0 s_statements s_ifs s_whiles s_variants s_open s_isMade s_conditions s_kept s_tops s_used s_looked s_rows s_firstRow s_isBroken s_atoms k 45 H_2.size (by first | assumption | omega) (by first | assumption | omega)) (xcV (n := 1) hts wd_1319 wd_15 wd_1316 wd_1318 ps_57 rfl rfl (by decide +kernel) ⟨Nat.le_of_ble_eq_true rfl, Nat.le_of_ble_eq_true rfl⟩) (xpV (ci := 11) (q0 := 0) (As := [.int 45]) hPc hK hz hDc rfl rfl) rfl rfl hl1.1 rfl (lv_room (Nat.le_of_ble_eq_true rfl)) d_Model_term_113 ⟨Nat.le_of_ble_eq_true rfl, Nat.le_of_ble_eq_true rfl⟩) hS (fun q _ h => hFc q h) hFc (fun r_254 u_252 t H_253 locs ht hvm hw hB hz1 hk1 hS1 => ?_)
        try dsimp only at hw
        subst hw
        obtain ⟨hP1, hD1⟩ := hB
        rw [ht] at hP1
        have hjn := xw_join3 (wl := [(m1, .inl (ax 0, 400, .inl (fun j => nI (g j)))), (m0, .inr (11, [.int s_thrown, .int s_taped, .ref m1, .int (nI n), .int s_outSize, .ref m2, .int (nI k), .int (nI v), .int (nI b), .int (nI en), .int 0, .ref m3, .ref m4, .ref m5, .int s_isProgram, .int s_half, .ref m6, .ref m7, .ref m8, .ref m9, .ref m10, .ref m11, .ref m12, .ref m13, .ref m14, .ref m15, .ref m16, .ref m17, .ref m18, .ref m19, .ref m20, .int s_signs, .ref m21, .int s_stacked, .ref m22, .int (-1), .int 0, .int s_statements, .int s_ifs, .int s_whiles, .int s_variants, .int s_open, .ref m23, .int s_isMade, .int s_conditions, .ref m24, .ref m25, .ref m26, .ref m27, .int s_kept, .ref m28, .int s_tops, .ref m29, .int s_used, .ref m30, .ref m31, .int s_looked, .int s_rows, .int s_firstRow, .ref m32, .ref m33, .ref m34, .ref m35, .ref m36, .ref m37, .ref m38, .ref m39, .ref m40, .int s_isBroken, .ref m41, .int s_atoms, .ref m42]))]) hP hD [0] [1] hCs (by decide) (by decide) hk1 hFc hP1 hD1 rfl
        clear hP1 hD1
        clear hPc hDc hFc hCs hz hz1 hk1 ht hvm
        clear hP hD hS
        have hS := hS1
        obtain ⟨hP, hD⟩ := hjn
        clear hS1
        refine lv_istore_n (lv' := [(2, .int (zb (k = 200 + 45))), (0, .ref m0), (1, .int (nI gh))]) hx hb d_Model_term_116 rfl hl1 (by decide) rfl (fun ls hl2 => ?_)
        clear hl1; have hl1 := hl2; clear hl2
        refine lv_iload_n hx hb d_Model_term_117 rfl (lv_at hl1 0 rfl) ?_
        refine lv_if_eq (tgt := 125) hx hb d_Model_term_118 (by decide) (fun c_255 => ?_) (fun c_255 => ?_)
        · replace c_255 : ¬ (k = 200 + 45) := zb_n c_255
          refine lv_aload_n hx hb d_Model_term_125 rfl (lv_at hl1 1 rfl) ?_
          refine lv_iload_n hx hb d_Model_term_126 rfl (lv_at hl1 0 rfl) ?_
          refine lv_if_eq (tgt := 138) hx hb d_Model_term_127 (by decide) (fun c_256 => ?_) (fun c_256 => ?_)
          · replace c_256 : ¬ (k = 200 + 45) := zb_n c_256
            refine lv_aload_n hx hb d_Model_term_138 rfl (lv_at hl1 1 rfl) ?_
            refine va_get (D := D) (ci := 11) (v := .int (nI v)) (C := R_Model) (T := F_Model) (N := 72) hx hb hts i_Model hown hK.1 hP 1 rfl rfl 7 (by decide) (hts _ wd_1043) (fun _ h9 => h9) rfl d_Model_term_139 ?_
            refine va_put (D := D) (ci := 11) (v := .int (nI v)) (ty := .int) (C := R_Model) (T := F_Model) (N := 72) hx hb hts i_Model t_Model t_Model_ok n_Model hown hK.1 hP hD hS 1 rfl rfl 36 (by decide) (hts _ wd_1072) (fun _ h9 => h9) rfl (by decide +kernel) rfl rfl (Nat.le_of_ble_eq_true rfl) d_Model_term_142 (fun H_257 locs hP1 hD1 hS1 => ?_)
            clear hP hD hS
            have hS := hS1
            have hW7 : (fun w9 : va_W => va_P D classes w9 H_257 ∧ va_D A w9) [(m1, .inl (ax 0, 400, .inl (fun j => nI (g j)))), (m0, .inr (11, [.int s_thrown, .int s_taped, .ref m1, .int (nI n), .int s_outSize, .ref m2, .int (nI k), .int (nI v), .int (nI b), .int (nI en), .int 0, .ref m3, .ref m4, .ref m5, .int s_isProgram, .int s_half, .ref m6, .ref m7, .ref m8, .ref m9, .ref m10, .ref m11, .ref m12, .ref m13, .ref m14, .ref m15, .ref m16, .ref m17, .ref m18, .ref m19, .ref m20, .int s_signs, .ref m21, .int s_stacked, .ref m22, .int (-1), .int (nI v), .int s_statements, .int s_ifs, .int s_whiles, .int s_variants, .int s_open, .ref m23, .int s_isMade, .int s_conditions, .ref m24, .ref m25, .ref m26, .ref m27, .int s_kept, .ref m28, .int s_tops, .ref m29, .int s_used, .ref m30, .ref m31, .int s_looked, .int s_rows, .int s_firstRow, .ref m32, .ref m33, .ref m34, .ref m35, .ref m36, .ref m37, .ref m38, .ref m39, .ref m40, .int s_isBroken, .ref m41, .int s_atoms, .ref m42]))] := ⟨hP1, hD1⟩
            obtain ⟨hP, hD⟩ := hW7
            clear hP1 hD1 hS1
            refine lv_aload_n hx hb d_Model_term_145 rfl (lv_at hl1 1 rfl) ?_
            refine lv_aload_n hx hb d_Model_term_146 rfl (lv_at hl1 1 rfl) ?_
            refine va_get (D := D) (ci := 11) (v := .int (nI k)) (C := R_Model) (T := F_Model) (N := 72) hx hb hts i_Model hown hK.1 hP 1 rfl rfl 6 (by decide) (hts _ wd_1042) (fun _ h9 => h9) rfl d_Model_term_147 ?_
            refine lv_iconst (v := 3) hx hb d_Model_term_150 (by decide) ?_
            refine lv_icmp_ne (tgt := 158) hx hb d_Model_term_151 (by decide) (fun c_258 => ?_) (fun c_258 => ?_)
            · replace c_258 : ¬ k = 3 := fun hq9 => c_258 ((nI_eq (a := k) (b := 3) (by first | exact Nat.lt_of_lt_of_le (by assumption) (by decide) | exact Nat.lt_of_le_of_lt (by assumption) (by decide) | omega) (by decide)).mpr hq9)
              refine lv_iconst (v := 0) hx hb d_Model_term_158 (by decide) ?_
              obtain ⟨hPc, hDc, hFc, hCs⟩ := xw_sub3 (wc := [(m0, .inr (11, [.int s_thrown, .int s_taped, .ref m1, .int (nI n), .int s_outSize, .ref m2, .int (nI k), .int (nI v), .int (nI b), .int (nI en), .int 0, .ref m3, .ref m4, .ref m5, .int s_isProgram, .int s_half, .ref m6, .ref m7, .ref m8, .ref m9, .ref m10, .ref m11, .ref m12, .ref m13, .ref m14, .ref m15, .ref m16, .ref m17, .ref m18, .ref m19, .ref m20, .int s_signs, .ref m21, .int s_stacked, .ref m22, .int (-1), .int (nI v), .int s_statements, .int s_ifs, .int s_whiles, .int s_variants, .int s_open, .ref m23, .int s_isMade, .int s_conditions, .ref m24, .ref m25, .ref m26, .ref m27, .int s_kept, .ref m28, .int s_tops, .ref m29, .int s_used, .ref m30, .ref m31, .int s_looked, .int s_rows, .int s_firstRow, .ref m32, .ref m33, .ref m34, .ref m35, .ref m36, .ref m37, .ref m38, .ref m39, .ref m40, .int s_isBroken, .ref m41, .int s_atoms, .ref m42]))]) hP hD hS hA [1] (by decide) rfl
              have hz := xz_of hN hS
              refine va_callv (va_runV (As := [.int 0]) (rest := []) ⟨hx, hb, hml, hown, hts⟩ (c_M_must_0 l D ax m0 m1 m2 m3 m4 m5 m6 m7 m8 m9 m10 m11 m12 m13 m14 m15 m16 m17 m18 m19 m20 m21 m22 m23 m24 m25 m26 m27 m28 m29 m30 m31 m32 m33 m34 m35 m36 m37 m38 m39 m40 m41 m42 s_thrown s_taped (nI n) s_outSize (nI k) (nI v) (nI b) (nI en) s_isProgram s_half s_signs s_stacked (-1) (nI v) s_statements s_ifs s_whiles s_variants s_open s_isMade s_conditions s_kept s_tops s_used s_looked s_rows s_firstRow s_isBroken s_atoms H_257.size) (xcV (n := 1) hts wd_1335 wd_15 wd_1332 wd_1334 ps_61 rfl rfl (by decide +kernel) ⟨Nat.le_of_ble_eq_true rfl, Nat.le_of_ble_eq_true rfl⟩) (xpV (ci := 11) (q0 := 0) (As := [.int 0]) hPc hK hz hDc rfl rfl) rfl rfl hl1.1 rfl (lv_room (Nat.le_of_ble_eq_true rfl)) d_Model_term_159 ⟨Nat.le_of_ble_eq_true rfl, Nat.le_of_ble_eq_true rfl⟩) hS (fun q _ h => hFc q h) hFc (fun u_259 t H_260 locs ht hvm hw hB hz1 hk1 hS1 => ?_)
              try dsimp only at hw
              obtain ⟨hP1, hD1⟩ := hB
              rw [ht] at hP1
              have hjn := xw_join3 (wl := [(m1, .inl (ax 0, 400, .inl (fun j => nI (g j)))), (m0, .inr (11, [.int s_thrown, .int s_taped, .ref m1, .int (nI n), .int s_outSize, .ref m2, .int (nI k), .int (nI v), .int (nI b), .int (nI en), .int 1, .ref m3, .ref m4, .ref m5, .int s_isProgram, .int s_half, .ref m6, .ref m7, .ref m8, .ref m9, .ref m10, .ref m11, .ref m12, .ref m13, .ref m14, .ref m15, .ref m16, .ref m17, .ref m18, .ref m19, .ref m20, .int s_signs, .ref m21, .int s_stacked, .ref m22, .int (-1), .int (nI v), .int s_statements, .int s_ifs, .int s_whiles, .int s_variants, .int s_open, .ref m23, .int s_isMade, .int s_conditions, .ref m24, .ref m25, .ref m26, .ref m27, .int s_kept, .ref m28, .int s_tops, .ref m29, .int s_used, .ref m30, .ref m31, .int s_looked, .int s_rows, .int s_firstRow, .ref m32, .ref m33, .ref m34, .ref m35, .ref m36, .ref m37, .ref m38, .ref m39, .ref m40, .int s_isBroken, .ref m41, .int s_atoms, .ref m42]))]) hP hD [1] [0] hCs (by decide) (by decide) hk1 hFc hP1 hD1 rfl
              clear hP1 hD1
              clear hPc hDc hFc hCs hz hz1 hk1 ht hvm
              clear hP hD hS
              have hS := hS1
              obtain ⟨hP, hD⟩ := hjn
              clear hS1
              rw [← hQe]
              obtain ⟨hP9, hD9⟩ := xw_sub2 (wc := (fun (u : Nat → Nat) (xnm : Int32) (xsh : Int32) => [(m0, .inr (11, [.int s_thrown, .int s_taped, .ref m1, .int (nI n), .int s_outSize, .ref m2, .int (nI (u 2)), .int (nI (u 3)), .int (nI (u 0)), .int (nI (u 1)), .int (nI (u 4)), .ref m3, .ref m4, .ref m5, .int s_isProgram, .int s_half, .ref m6, .ref m7, .ref m8, .ref m9, .ref m10, .ref m11, .ref m12, .ref m13, .ref m14, .ref m15, .ref m16, .ref m17, .ref m18, .ref m19, .ref m20, .int s_signs, .ref m21, .int s_stacked, .ref m22, .int xnm, .int xsh, .int s_statements, .int s_ifs, .int s_whiles, .int s_variants, .int s_open, .ref m23, .int s_isMade, .int s_conditions, .ref m24, .ref m25, .ref m26, .ref m27, .int s_kept, .ref m28, .int s_tops, .ref m29, .int s_used, .ref m30, .ref m31, .int s_looked, .int s_rows, .int s_firstRow, .ref m32, .ref m33, .ref m34, .ref m35, .ref m36, .ref m37, .ref m38, .ref m39, .ref m40, .int s_isBroken, .ref m41, .int s_atoms, .ref m42])), (m1, .inl (ax 0, 400, .inl (fun j => nI (g j))))]) (ixn [b, en, k, v, 1]) (-1) (nI v)) hP hD [1, 0] (by decide) rfl
              have hex0 : nmo (6 + 4 * gh) (-1) := (by first | exact Or.inl rfl | exact Or.inr ⟨_, by omega, rfl⟩ | assumption)
              have hex1 : imp0 (1) (tmQ (-1) (nI v) (trmV (kd g n) (nxt g n) (kv g n) gh b)) := (Or.inl rfl)
              have hsp0 : b ≤ b := (by first | assumption | omega)
              have hsp1 : b ≤ en := (by first | assumption | omega)
              have hsp2 : en ≤ n := (by first | assumption | omega)
              have hsp3 : tk0 (k) (b) (en) := (by assumption)
              have hsp4 : k < 10000 := (by first | assumption | omega)
              have hsp5 : v < 20000 := (by first | assumption | omega)
              have hsp6 : tkq g n (b) (en) (k) (v) := (by assumption)
              have hsp7 : 1 ≤ 1 := (by first | assumption | omega)
              have hsp8 : imp0 (1) (b < b) := (Or.inl rfl)
              have hsp9 : trmG (kd g n) (nxt g n) gh b = (1, b) := (by first | exact trm_g hkv (by first | assumption | omega) (by first | assumption | omega) (by first | assumption | omega))
              exact W.vret hx hb hr (fun t ht hW => ⟨⟨ixn [b, en, k, v, 1], rfl, ⟨hsp0, hsp1, hsp2, hsp3, hsp4, hsp5, hsp6, hsp7, hsp8, hsp9⟩, ⟨(-1), nI v, hex0, hex1, by rw [ht]; exact hP9, hD9⟩⟩, hS.F ht⟩) hS.2.2 d_Model_term_162
            · replace c_258 : k = 3 := (nI_eq (a := k) (b := 3) (by first | exact Nat.lt_of_lt_of_le (by assumption) (by decide) | exact Nat.lt_of_le_of_lt (by assumption) (by decide) | omega) (by decide)).mp c_258
              have hlt_262 : b < en := tk0.lt (by assumption) (by first | assumption | omega)
              refine lv_iconst (v := 1) hx hb d_Model_term_154 (by decide) ?_
              refine lv_goto (tgt := 159) hx hb d_Model_term_155 (by decide) ?_
              obtain ⟨hPc, hDc, hFc, hCs⟩ := xw_sub3 (wc := [(m0, .inr (11, [.int s_thrown, .int s_taped, .ref m1, .int (nI n), .int s_outSize, .ref m2, .int (nI k), .int (nI v), .int (nI b), .int (nI en), .int 0, .ref m3, .ref m4, .ref m5, .int s_isProgram, .int s_half, .ref m6, .ref m7, .ref m8, .ref m9, .ref m10, .ref m11, .ref m12, .ref m13, .ref m14, .ref m15, .ref m16, .ref m17, .ref m18, .ref m19, .ref m20, .int s_signs, .ref m21, .int s_stacked, .ref m22, .int (-1), .int (nI v), .int s_statements, .int s_ifs, .int s_whiles, .int s_variants, .int s_open, .ref m23, .int s_isMade, .int s_conditions, .ref m24, .ref m25, .ref m26, .ref m27, .int s_kept, .ref m28, .int s_tops, .ref m29, .int s_used, .ref m30, .ref m31, .int s_looked, .int s_rows, .int s_firstRow, .ref m32, .ref m33, .ref m34, .ref m35, .ref m36, .ref m37, .ref m38, .ref m39, .ref m40, .int s_isBroken, .ref m41, .int s_atoms, .ref m42])), (m1, .inl (ax 0, 400, .inl (fun j => nI (g j))))]) hP hD hS hA [1, 0] (by decide) rfl
              have hz := xz_of hN hS
              refine va_callv (va_runV (As := [.int 1]) (rest := []) ⟨hx, hb, hml, hown, hts⟩ (c_M_must_1 l D ax m0 m1 m2 m3 m4 m5 m6 m7 m8 m9 m10 m11 m12 m13 m14 m15 m16 m17 m18 m19 m20 m21 m22 m23 m24 m25 m26 m27 m28 m29 m30 m31 m32 m33 m34 m35 m36 m37 m38 m39 m40 m41 m42 s_thrown s_taped s_outSize (nI k) (nI b) s_isProgram s_half s_signs s_stacked (-1) (nI v) s_statements s_ifs s_whiles s_variants s_open s_isMade s_conditions s_kept s_tops s_used s_looked s_rows s_firstRow s_isBroken s_atoms n en v g H_257.size hn (by first | assumption | omega) hg (by first | assumption | omega)) (xcV (n := 1) hts wd_1335 wd_15 wd_1332 wd_1334 ps_61 rfl rfl (by decide +kernel) ⟨Nat.le_of_ble_eq_true rfl, Nat.le_of_ble_eq_true rfl⟩) (xpV (ci := 11) (q0 := 0) (As := [.int 1]) hPc hK hz hDc rfl rfl) rfl rfl hl1.1 rfl (lv_room (Nat.le_of_ble_eq_true rfl)) d_Model_term_159 ⟨Nat.le_of_ble_eq_true rfl, Nat.le_of_ble_eq_true rfl⟩) hS (fun q _ h => hFc q h) hFc (fun u_263 t H_264 locs ht hvm hw hB hz1 hk1 hS1 => ?_)
              try dsimp only at hw
              obtain ⟨-, -, -, hs_269, hs_270, hs_271, hs_272, hs_273, hs_274, hs_275, hs_276⟩ := hw
              obtain ⟨hP1, hD1⟩ := hB
              rw [ht] at hP1
              have hjn := xw_join3 (wl := [(m0, .inr (11, [.int s_thrown, .int s_taped, .ref m1, .int (nI n), .int s_outSize, .ref m2, .int (nI (u_263 2)), .int (nI (u_263 3)), .int (nI (u_263 0)), .int (nI (u_263 1)), .int 0, .ref m3, .ref m4, .ref m5, .int s_isProgram, .int s_half, .ref m6, .ref m7, .ref m8, .ref m9, .ref m10, .ref m11, .ref m12, .ref m13, .ref m14, .ref m15, .ref m16, .ref m17, .ref m18, .ref m19, .ref m20, .int s_signs, .ref m21, .int s_stacked, .ref m22, .int (-1), .int (nI v), .int s_statements, .int s_ifs, .int s_whiles, .int s_variants, .int s_open, .ref m23, .int s_isMade, .int s_conditions, .ref m24, .ref m25, .ref m26, .ref m27, .int s_kept, .ref m28, .int s_tops, .ref m29, .int s_used, .ref m30, .ref m31, .int s_looked, .int s_rows, .int s_firstRow, .ref m32, .ref m33, .ref m34, .ref m35, .ref m36, .ref m37, .ref m38, .ref m39, .ref m40, .int s_isBroken, .ref m41, .int s_atoms, .ref m42])), (m1, .inl (ax 0, 400, .inl (fun j => nI (g j))))]) hP hD [1, 0] [] hCs (by decide) (by decide) hk1 hFc hP1 hD1 rfl
              clear hP1 hD1
              clear hPc hDc hFc hCs hz hz1 hk1 ht hvm
              clear hP hD hS
              have hS := hS1
              obtain ⟨hP, hD⟩ := hjn
              clear hS1
              rw [← hQe]
              obtain ⟨hP9, hD9⟩ := xw_sub2 (wc := (fun (u : Nat → Nat) (xnm : Int32) (xsh : Int32) => [(m0, .inr (11, [.int s_thrown, .int s_taped, .ref m1, .int (nI n), .int s_outSize, .ref m2, .int (nI (u 2)), .int (nI (u 3)), .int (nI (u 0)), .int (nI (u 1)), .int (nI (u 4)), .ref m3, .ref m4, .ref m5, .int s_isProgram, .int s_half, .ref m6, .ref m7, .ref m8, .ref m9, .ref m10, .ref m11, .ref m12, .ref m13, .ref m14, .ref m15, .ref m16, .ref m17, .ref m18, .ref m19, .ref m20, .int s_signs, .ref m21, .int s_stacked, .ref m22, .int xnm, .int xsh, .int s_statements, .int s_ifs, .int s_whiles, .int s_variants, .int s_open, .ref m23, .int s_isMade, .int s_conditions, .ref m24, .ref m25, .ref m26, .ref m27, .int s_kept, .ref m28, .int s_tops, .ref m29, .int s_used, .ref m30, .ref m31, .int s_looked, .int s_rows, .int s_firstRow, .ref m32, .ref m33, .ref m34, .ref m35, .ref m36, .ref m37, .ref m38, .ref m39, .ref m40, .int s_isBroken, .ref m41, .int s_atoms, .ref m42])), (m1, .inl (ax 0, 400, .inl (fun j => nI (g j))))]) (ixn [(u_263 0), (u_263 1), (u_263 2), (u_263 3), 0]) (-1) (nI v)) hP hD [0, 1] (by decide) rfl
              have hex0 : nmo (6 + 4 * gh) (-1) := (by first | exact Or.inl rfl | exact Or.inr ⟨_, by omega, rfl⟩ | assumption)
              have hex1 : imp0 (0) (tmQ (-1) (nI v) (trmV (kd g n) (nxt g n) (kv g n) gh b)) := (Or.inr (by first | exact trv_a hkv (by first | assumption | omega) hs_276 hs_269 (by first | assumption | omega) | exact trv_f hkv (by first | assumption | omega) (by first | assumption | omega) (by first | assumption | omega) (by first | rfl | assumption | (exfalso; omega))))
              have hsp0 : b ≤ (u_263 0) := (by first | assumption | omega)
              have hsp1 : (u_263 0) ≤ (u_263 1) := (by first | assumption | omega)
              have hsp2 : (u_263 1) ≤ n := (by first | assumption | omega)
              have hsp3 : tk0 ((u_263 2)) ((u_263 0)) ((u_263 1)) := (by assumption)
              have hsp4 : (u_263 2) < 10000 := (by first | assumption | omega)
              have hsp5 : (u_263 3) < 20000 := (by first | assumption | omega)
              have hsp6 : tkq g n ((u_263 0)) ((u_263 1)) ((u_263 2)) ((u_263 3)) := (by assumption)
              have hsp7 : 0 ≤ 1 := (by first | assumption | omega)
              have hsp8 : imp0 (0) (b < (u_263 0)) := (Or.inr (by first | assumption | omega))
              have hsp9 : trmG (kd g n) (nxt g n) gh b = (0, (u_263 0)) := (by first | exact trm_a hkv (by first | assumption | omega) hs_276 hs_269 (by first | assumption | omega) | exact trm_f hkv (by first | assumption | omega) (by first | assumption | omega) (by first | assumption | omega) hs_269)
              exact W.vret hx hb hr (fun t ht hW => ⟨⟨ixn [(u_263 0), (u_263 1), (u_263 2), (u_263 3), 0], rfl, ⟨hsp0, hsp1, hsp2, hsp3, hsp4, hsp5, hsp6, hsp7, hsp8, hsp9⟩, ⟨(-1), nI v, hex0, hex1, by rw [ht]; exact hP9, hD9⟩⟩, hS.F ht⟩) hS.2.2 d_Model_term_162
          · replace c_256 : (k = 200 + 45) := zb_y c_256
            refine lv_aload_n hx hb d_Model_term_130 rfl (lv_at hl1 1 rfl) ?_
            refine va_get (D := D) (ci := 11) (v := .int (nI v)) (C := R_Model) (T := F_Model) (N := 72) hx hb hts i_Model hown hK.1 hP 1 rfl rfl 7 (by decide) (hts _ wd_1043) (fun _ h9 => h9) rfl d_Model_term_131 ?_
            refine lv_ineg hx hb d_Model_term_134 ?_
            refine lv_topi (fun z_277 ez_277 => ?_)
            refine lv_goto (tgt := 142) hx hb d_Model_term_135 (by decide) ?_
            refine va_put (D := D) (ci := 11) (v := .int z_277) (ty := .int) (C := R_Model) (T := F_Model) (N := 72) hx hb hts i_Model t_Model t_Model_ok n_Model hown hK.1 hP hD hS 1 rfl rfl 36 (by decide) (hts _ wd_1072) (fun _ h9 => h9) rfl (by decide +kernel) rfl rfl (Nat.le_of_ble_eq_true rfl) d_Model_term_142 (fun H_278 locs hP1 hD1 hS1 => ?_)
            clear hP hD hS
            have hS := hS1
            have hW7 : (fun w9 : va_W => va_P D classes w9 H_278 ∧ va_D A w9) [(m1, .inl (ax 0, 400, .inl (fun j => nI (g j)))), (m0, .inr (11, [.int s_thrown, .int s_taped, .ref m1, .int (nI n), .int s_outSize, .ref m2, .int (nI k), .int (nI v), .int (nI b), .int (nI en), .int 0, .ref m3, .ref m4, .ref m5, .int s_isProgram, .int s_half, .ref m6, .ref m7, .ref m8, .ref m9, .ref m10, .ref m11, .ref m12, .ref m13, .ref m14, .ref m15, .ref m16, .ref m17, .ref m18, .ref m19, .ref m20, .int s_signs, .ref m21, .int s_stacked, .ref m22, .int (-1), .int z_277, .int s_statements, .int s_ifs, .int s_whiles, .int s_variants, .int s_open, .ref m23, .int s_isMade, .int s_conditions, .ref m24, .ref m25, .ref m26, .ref m27, .int s_kept, .ref m28, .int s_tops, .ref m29, .int s_used, .ref m30, .ref m31, .int s_looked, .int s_rows, .int s_firstRow, .ref m32, .ref m33, .ref m34, .ref m35, .ref m36, .ref m37, .ref m38, .ref m39, .ref m40, .int s_isBroken, .ref m41, .int s_atoms, .ref m42]))] := ⟨hP1, hD1⟩
            obtain ⟨hP, hD⟩ := hW7
            clear hP1 hD1 hS1
            refine lv_aload_n hx hb d_Model_term_145 rfl (lv_at hl1 1 rfl) ?_
            refine lv_aload_n hx hb d_Model_term_146 rfl (lv_at hl1 1 rfl) ?_
            refine va_get (D := D) (ci := 11) (v := .int (nI k)) (C := R_Model) (T := F_Model) (N := 72) hx hb hts i_Model hown hK.1 hP 1 rfl rfl 6 (by decide) (hts _ wd_1042) (fun _ h9 => h9) rfl d_Model_term_147 ?_
            refine lv_iconst (v := 3) hx hb d_Model_term_150 (by decide) ?_
            refine lv_icmp_ne (tgt := 158) hx hb d_Model_term_151 (by decide) (fun c_279 => ?_) (fun c_279 => ?_)
            · replace c_279 : ¬ k = 3 := fun hq9 => c_279 ((nI_eq (a := k) (b := 3) (by first | exact Nat.lt_of_lt_of_le (by assumption) (by decide) | exact Nat.lt_of_le_of_lt (by assumption) (by decide) | omega) (by decide)).mpr hq9)
              refine lv_iconst (v := 0) hx hb d_Model_term_158 (by decide) ?_
              obtain ⟨hPc, hDc, hFc, hCs⟩ := xw_sub3 (wc := [(m0, .inr (11, [.int s_thrown, .int s_taped, .ref m1, .int (nI n), .int s_outSize, .ref m2, .int (nI k), .int (nI v), .int (nI b), .int (nI en), .int 0, .ref m3, .ref m4, .ref m5, .int s_isProgram, .int s_half, .ref m6, .ref m7, .ref m8, .ref m9, .ref m10, .ref m11, .ref m12, .ref m13, .ref m14, .ref m15, .ref m16, .ref m17, .ref m18, .ref m19, .ref m20, .int s_signs, .ref m21, .int s_stacked, .ref m22, .int (-1), .int z_277, .int s_statements, .int s_ifs, .int s_whiles, .int s_variants, .int s_open, .ref m23, .int s_isMade, .int s_conditions, .ref m24, .ref m25, .ref m26, .ref m27, .int s_kept, .ref m28, .int s_tops, .ref m29, .int s_used, .ref m30, .ref m31, .int s_looked, .int s_rows, .int s_firstRow, .ref m32, .ref m33, .ref m34, .ref m35, .ref m36, .ref m37, .ref m38, .ref m39, .ref m40, .int s_isBroken, .ref m41, .int s_atoms, .ref m42]))]) hP hD hS hA [1] (by decide) rfl
              have hz := xz_of hN hS
              refine va_callv (va_runV (As := [.int 0]) (rest := []) ⟨hx, hb, hml, hown, hts⟩ (c_M_must_0 l D ax m0 m1 m2 m3 m4 m5 m6 m7 m8 m9 m10 m11 m12 m13 m14 m15 m16 m17 m18 m19 m20 m21 m22 m23 m24 m25 m26 m27 m28 m29 m30 m31 m32 m33 m34 m35 m36 m37 m38 m39 m40 m41 m42 s_thrown s_taped (nI n) s_outSize (nI k) (nI v) (nI b) (nI en) s_isProgram s_half s_signs s_stacked (-1) z_277 s_statements s_ifs s_whiles s_variants s_open s_isMade s_conditions s_kept s_tops s_used s_looked s_rows s_firstRow s_isBroken s_atoms H_278.size) (xcV (n := 1) hts wd_1335 wd_15 wd_1332 wd_1334 ps_61 rfl rfl (by decide +kernel) ⟨Nat.le_of_ble_eq_true rfl, Nat.le_of_ble_eq_true rfl⟩) (xpV (ci := 11) (q0 := 0) (As := [.int 0]) hPc hK hz hDc rfl rfl) rfl rfl hl1.1 rfl (lv_room (Nat.le_of_ble_eq_true rfl)) d_Model_term_159 ⟨Nat.le_of_ble_eq_true rfl, Nat.le_of_ble_eq_true rfl⟩) hS (fun q _ h => hFc q h) hFc (fun u_280 t H_281 locs ht hvm hw hB hz1 hk1 hS1 => ?_)
              try dsimp only at hw
              obtain ⟨hP1, hD1⟩ := hB
              rw [ht] at hP1
              have hjn := xw_join3 (wl := [(m1, .inl (ax 0, 400, .inl (fun j => nI (g j)))), (m0, .inr (11, [.int s_thrown, .int s_taped, .ref m1, .int (nI n), .int s_outSize, .ref m2, .int (nI k), .int (nI v), .int (nI b), .int (nI en), .int 1, .ref m3, .ref m4, .ref m5, .int s_isProgram, .int s_half, .ref m6, .ref m7, .ref m8, .ref m9, .ref m10, .ref m11, .ref m12, .ref m13, .ref m14, .ref m15, .ref m16, .ref m17, .ref m18, .ref m19, .ref m20, .int s_signs, .ref m21, .int s_stacked, .ref m22, .int (-1), .int z_277, .int s_statements, .int s_ifs, .int s_whiles, .int s_variants, .int s_open, .ref m23, .int s_isMade, .int s_conditions, .ref m24, .ref m25, .ref m26, .ref m27, .int s_kept, .ref m28, .int s_tops, .ref m29, .int s_used, .ref m30, .ref m31, .int s_looked, .int s_rows, .int s_firstRow, .ref m32, .ref m33, .ref m34, .ref m35, .ref m36, .ref m37, .ref m38, .ref m39, .ref m40, .int s_isBroken, .ref m41, .int s_atoms, .ref m42]))]) hP hD [1] [0] hCs (by decide) (by decide) hk1 hFc hP1 hD1 rfl
              clear hP1 hD1
              clear hPc hDc hFc hCs hz hz1 hk1 ht hvm
              clear hP hD hS
              have hS := hS1
              obtain ⟨hP, hD⟩ := hjn
              clear hS1
              rw [← hQe]
              obtain ⟨hP9, hD9⟩ := xw_sub2 (wc := (fun (u : Nat → Nat) (xnm : Int32) (xsh : Int32) => [(m0, .inr (11, [.int s_thrown, .int s_taped, .ref m1, .int (nI n), .int s_outSize, .ref m2, .int (nI (u 2)), .int (nI (u 3)), .int (nI (u 0)), .int (nI (u 1)), .int (nI (u 4)), .ref m3, .ref m4, .ref m5, .int s_isProgram, .int s_half, .ref m6, .ref m7, .ref m8, .ref m9, .ref m10, .ref m11, .ref m12, .ref m13, .ref m14, .ref m15, .ref m16, .ref m17, .ref m18, .ref m19, .ref m20, .int s_signs, .ref m21, .int s_stacked, .ref m22, .int xnm, .int xsh, .int s_statements, .int s_ifs, .int s_whiles, .int s_variants, .int s_open, .ref m23, .int s_isMade, .int s_conditions, .ref m24, .ref m25, .ref m26, .ref m27, .int s_kept, .ref m28, .int s_tops, .ref m29, .int s_used, .ref m30, .ref m31, .int s_looked, .int s_rows, .int s_firstRow, .ref m32, .ref m33, .ref m34, .ref m35, .ref m36, .ref m37, .ref m38, .ref m39, .ref m40, .int s_isBroken, .ref m41, .int s_atoms, .ref m42])), (m1, .inl (ax 0, 400, .inl (fun j => nI (g j))))]) (ixn [b, en, k, v, 1]) (-1) z_277) hP hD [1, 0] (by decide) rfl
              have hex0 : nmo (6 + 4 * gh) (-1) := (by first | exact Or.inl rfl | exact Or.inr ⟨_, by omega, rfl⟩ | assumption)
              have hex1 : imp0 (1) (tmQ (-1) z_277 (trmV (kd g n) (nxt g n) (kv g n) gh b)) := (Or.inl rfl)
              have hsp0 : b ≤ b := (by first | assumption | omega)
              have hsp1 : b ≤ en := (by first | assumption | omega)
              have hsp2 : en ≤ n := (by first | assumption | omega)
              have hsp3 : tk0 (k) (b) (en) := (by assumption)
              have hsp4 : k < 10000 := (by first | assumption | omega)
              have hsp5 : v < 20000 := (by first | assumption | omega)
              have hsp6 : tkq g n (b) (en) (k) (v) := (by assumption)
              have hsp7 : 1 ≤ 1 := (by first | assumption | omega)
              have hsp8 : imp0 (1) (b < b) := (Or.inl rfl)
              have hsp9 : trmG (kd g n) (nxt g n) gh b = (1, b) := (by first | exact trm_g hkv (by first | assumption | omega) (by first | assumption | omega) (by first | assumption | omega))
              exact W.vret hx hb hr (fun t ht hW => ⟨⟨ixn [b, en, k, v, 1], rfl, ⟨hsp0, hsp1, hsp2, hsp3, hsp4, hsp5, hsp6, hsp7, hsp8, hsp9⟩, ⟨(-1), z_277, hex0, hex1, by rw [ht]; exact hP9, hD9⟩⟩, hS.F ht⟩) hS.2.2 d_Model_term_162
            · replace c_279 : k = 3 := (nI_eq (a := k) (b := 3) (by first | exact Nat.lt_of_lt_of_le (by assumption) (by decide) | exact Nat.lt_of_le_of_lt (by assumption) (by decide) | omega) (by decide)).mp c_279
              have hlt_283 : b < en := tk0.lt (by assumption) (by first | assumption | omega)
              refine lv_iconst (v := 1) hx hb d_Model_term_154 (by decide) ?_
              refine lv_goto (tgt := 159) hx hb d_Model_term_155 (by decide) ?_
              obtain ⟨hPc, hDc, hFc, hCs⟩ := xw_sub3 (wc := [(m0, .inr (11, [.int s_thrown, .int s_taped, .ref m1, .int (nI n), .int s_outSize, .ref m2, .int (nI k), .int (nI v), .int (nI b), .int (nI en), .int 0, .ref m3, .ref m4, .ref m5, .int s_isProgram, .int s_half, .ref m6, .ref m7, .ref m8, .ref m9, .ref m10, .ref m11, .ref m12, .ref m13, .ref m14, .ref m15, .ref m16, .ref m17, .ref m18, .ref m19, .ref m20, .int s_signs, .ref m21, .int s_stacked, .ref m22, .int (-1), .int z_277, .int s_statements, .int s_ifs, .int s_whiles, .int s_variants, .int s_open, .ref m23, .int s_isMade, .int s_conditions, .ref m24, .ref m25, .ref m26, .ref m27, .int s_kept, .ref m28, .int s_tops, .ref m29, .int s_used, .ref m30, .ref m31, .int s_looked, .int s_rows, .int s_firstRow, .ref m32, .ref m33, .ref m34, .ref m35, .ref m36, .ref m37, .ref m38, .ref m39, .ref m40, .int s_isBroken, .ref m41, .int s_atoms, .ref m42])), (m1, .inl (ax 0, 400, .inl (fun j => nI (g j))))]) hP hD hS hA [1, 0] (by decide) rfl
              have hz := xz_of hN hS
              refine va_callv (va_runV (As := [.int 1]) (rest := []) ⟨hx, hb, hml, hown, hts⟩ (c_M_must_1 l D ax m0 m1 m2 m3 m4 m5 m6 m7 m8 m9 m10 m11 m12 m13 m14 m15 m16 m17 m18 m19 m20 m21 m22 m23 m24 m25 m26 m27 m28 m29 m30 m31 m32 m33 m34 m35 m36 m37 m38 m39 m40 m41 m42 s_thrown s_taped s_outSize (nI k) (nI b) s_isProgram s_half s_signs s_stacked (-1) z_277 s_statements s_ifs s_whiles s_variants s_open s_isMade s_conditions s_kept s_tops s_used s_looked s_rows s_firstRow s_isBroken s_atoms n en v g H_278.size hn (by first | assumption | omega) hg (by first | assumption | omega)) (xcV (n := 1) hts wd_1335 wd_15 wd_1332 wd_1334 ps_61 rfl rfl (by decide +kernel) ⟨Nat.le_of_ble_eq_true rfl, Nat.le_of_ble_eq_true rfl⟩) (xpV (ci := 11) (q0 := 0) (As := [.int 1]) hPc hK hz hDc rfl rfl) rfl rfl hl1.1 rfl (lv_room (Nat.le_of_ble_eq_true rfl)) d_Model_term_159 ⟨Nat.le_of_ble_eq_true rfl, Nat.le_of_ble_eq_true rfl⟩) hS (fun q _ h => hFc q h) hFc (fun u_284 t H_285 locs ht hvm hw hB hz1 hk1 hS1 => ?_)
              try dsimp only at hw
              obtain ⟨-, -, -, hs_290, hs_291, hs_292, hs_293, hs_294, hs_295, hs_296, hs_297⟩ := hw
              obtain ⟨hP1, hD1⟩ := hB
              rw [ht] at hP1
              have hjn := xw_join3 (wl := [(m0, .inr (11, [.int s_thrown, .int s_taped, .ref m1, .int (nI n), .int s_outSize, .ref m2, .int (nI (u_284 2)), .int (nI (u_284 3)), .int (nI (u_284 0)), .int (nI (u_284 1)), .int 0, .ref m3, .ref m4, .ref m5, .int s_isProgram, .int s_half, .ref m6, .ref m7, .ref m8, .ref m9, .ref m10, .ref m11, .ref m12, .ref m13, .ref m14, .ref m15, .ref m16, .ref m17, .ref m18, .ref m19, .ref m20, .int s_signs, .ref m21, .int s_stacked, .ref m22, .int (-1), .int z_277, .int s_statements, .int s_ifs, .int s_whiles, .int s_variants, .int s_open, .ref m23, .int s_isMade, .int s_conditions, .ref m24, .ref m25, .ref m26, .ref m27, .int s_kept, .ref m28, .int s_tops, .ref m29, .int s_used, .ref m30, .ref m31, .int s_looked, .int s_rows, .int s_firstRow, .ref m32, .ref m33, .ref m34, .ref m35, .ref m36, .ref m37, .ref m38, .ref m39, .ref m40, .int s_isBroken, .ref m41, .int s_atoms, .ref m42])), (m1, .inl (ax 0, 400, .inl (fun j => nI (g j))))]) hP hD [1, 0] [] hCs (by decide) (by decide) hk1 hFc hP1 hD1 rfl
              clear hP1 hD1
              clear hPc hDc hFc hCs hz hz1 hk1 ht hvm
              clear hP hD hS
              have hS := hS1
              obtain ⟨hP, hD⟩ := hjn
              clear hS1
              rw [← hQe]
              obtain ⟨hP9, hD9⟩ := xw_sub2 (wc := (fun (u : Nat → Nat) (xnm : Int32) (xsh : Int32) => [(m0, .inr (11, [.int s_thrown, .int s_taped, .ref m1, .int (nI n), .int s_outSize, .ref m2, .int (nI (u 2)), .int (nI (u 3)), .int (nI (u 0)), .int (nI (u 1)), .int (nI (u 4)), .ref m3, .ref m4, .ref m5, .int s_isProgram, .int s_half, .ref m6, .ref m7, .ref m8, .ref m9, .ref m10, .ref m11, .ref m12, .ref m13, .ref m14, .ref m15, .ref m16, .ref m17, .ref m18, .ref m19, .ref m20, .int s_signs, .ref m21, .int s_stacked, .ref m22, .int xnm, .int xsh, .int s_statements, .int s_ifs, .int s_whiles, .int s_variants, .int s_open, .ref m23, .int s_isMade, .int s_conditions, .ref m24, .ref m25, .ref m26, .ref m27, .int s_kept, .ref m28, .int s_tops, .ref m29, .int s_used, .ref m30, .ref m31, .int s_looked, .int s_rows, .int s_firstRow, .ref m32, .ref m33, .ref m34, .ref m35, .ref m36, .ref m37, .ref m38, .ref m39, .ref m40, .int s_isBroken, .ref m41, .int s_atoms, .ref m42])), (m1, .inl (ax 0, 400, .inl (fun j => nI (g j))))]) (ixn [(u_284 0), (u_284 1), (u_284 2), (u_284 3), 0]) (-1) z_277) hP hD [0, 1] (by decide) rfl
              have hex0 : nmo (6 + 4 * gh) (-1) := (by first | exact Or.inl rfl | exact Or.inr ⟨_, by omega, rfl⟩ | assumption)
              have hex1 : imp0 (0) (tmQ (-1) z_277 (trmV (kd g n) (nxt g n) (kv g n) gh b)) := (Or.inr (by first | exact trv_a hkv (by first | assumption | omega) hs_297 hs_290 (by first | assumption | omega) | exact trv_f hkv (by first | assumption | omega) (by first | assumption | omega) (by first | assumption | omega) (by first | rfl | assumption | (exfalso; omega))))
              have hsp0 : b ≤ (u_284 0) := (by first | assumption | omega)
              have hsp1 : (u_284 0) ≤ (u_284 1) := (by first | assumption | omega)
              have hsp2 : (u_284 1) ≤ n := (by first | assumption | omega)
              have hsp3 : tk0 ((u_284 2)) ((u_284 0)) ((u_284 1)) := (by assumption)
              have hsp4 : (u_284 2) < 10000 := (by first | assumption | omega)
              have hsp5 : (u_284 3) < 20000 := (by first | assumption | omega)
              have hsp6 : tkq g n ((u_284 0)) ((u_284 1)) ((u_284 2)) ((u_284 3)) := (by assumption)
              have hsp7 : 0 ≤ 1 := (by first | assumption | omega)
              have hsp8 : imp0 (0) (b < (u_284 0)) := (Or.inr (by first | assumption | omega))
              have hsp9 : trmG (kd g n) (nxt g n) gh b = (0, (u_284 0)) := (by first | exact trm_a hkv (by first | assumption | omega) hs_297 hs_290 (by first | assumption | omega) | exact trm_f hkv (by first | assumption | omega) (by first | assumption | omega) (by first | assumption | omega) hs_290)
              exact W.vret hx hb hr (fun t ht hW => ⟨⟨ixn [(u_284 0), (u_284 1), (u_284 2), (u_284 3), 0], rfl, ⟨hsp0, hsp1, hsp2, hsp3, hsp4, hsp5, hsp6, hsp7, hsp8, hsp9⟩, ⟨(-1), z_277, hex0, hex1, by rw [ht]; exact hP9, hD9⟩⟩, hS.F ht⟩) hS.2.2 d_Model_term_162
        · replace c_255 : (k = 200 + 45) := zb_y c_255
          have hlt_298 : b < en := tk0.lt (by assumption) (by first | assumption | omega)
          refine lv_aload_n hx hb d_Model_term_121 rfl (lv_at hl1 1 rfl) ?_
          obtain ⟨hPc, hDc, hFc, hCs⟩ := xw_sub3 (wc := [(m0, .inr (11, [.int s_thrown, .int s_taped, .ref m1, .int (nI n), .int s_outSize, .ref m2, .int (nI k), .int (nI v), .int (nI b), .int (nI en), .int 0, .ref m3, .ref m4, .ref m5, .int s_isProgram, .int s_half, .ref m6, .ref m7, .ref m8, .ref m9, .ref m10, .ref m11, .ref m12, .ref m13, .ref m14, .ref m15, .ref m16, .ref m17, .ref m18, .ref m19, .ref m20, .int s_signs, .ref m21, .int s_stacked, .ref m22, .int (-1), .int 0, .int s_statements, .int s_ifs, .int s_whiles, .int s_variants, .int s_open, .ref m23, .int s_isMade, .int s_conditions, .ref m24, .ref m25, .ref m26, .ref m27, .int s_kept, .ref m28, .int s_tops, .ref m29, .int s_used, .ref m30, .ref m31, .int s_looked, .int s_rows, .int s_firstRow, .ref m32, .ref m33, .ref m34, .ref m35, .ref m36, .ref m37, .ref m38, .ref m39, .ref m40, .int s_isBroken, .ref m41, .int s_atoms, .ref m42])), (m1, .inl (ax 0, 400, .inl (fun j => nI (g j))))]) hP hD hS hA [1, 0] (by decide) rfl
          have hz := xz_of hN hS
          refine va_callv (va_runV (As := []) (rest := []) ⟨hx, hb, hml, hown, hts⟩ (c_M_next l D ax m0 m1 m2 m3 m4 m5 m6 m7 m8 m9 m10 m11 m12 m13 m14 m15 m16 m17 m18 m19 m20 m21 m22 m23 m24 m25 m26 m27 m28 m29 m30 m31 m32 m33 m34 m35 m36 m37 m38 m39 m40 m41 m42 s_thrown s_taped s_outSize (nI k) (nI b) 0 s_isProgram s_half s_signs s_stacked (-1) 0 s_statements s_ifs s_whiles s_variants s_open s_isMade s_conditions s_kept s_tops s_used s_looked s_rows s_firstRow s_isBroken s_atoms n en v g H_253.size hn (by first | assumption | omega) hg (by first | assumption | omega)) (xcV (n := 0) hts wd_1278 wd_15 wd_1275 wd_1277 ps_51 rfl rfl (by decide +kernel) ⟨Nat.le_of_ble_eq_true rfl, Nat.le_of_ble_eq_true rfl⟩) (xpV (ci := 11) (q0 := 0) (As := []) hPc hK hz hDc rfl rfl) rfl rfl hl1.1 rfl (lv_room (Nat.le_of_ble_eq_true rfl)) d_Model_term_122 ⟨Nat.le_of_ble_eq_true rfl, Nat.le_of_ble_eq_true rfl⟩) hS (fun q _ h => hFc q h) hFc (fun u_299 t H_300 locs ht hvm hw hB hz1 hk1 hS1 => ?_)
          try dsimp only at hw
          obtain ⟨-, -, -, hs_305, hs_306, hs_307, hs_308, hs_309, hs_310, hs_311, hs_312⟩ := hw
          obtain ⟨hP1, hD1⟩ := hB
          rw [ht] at hP1
          have hjn := xw_join3 (wl := [(m0, .inr (11, [.int s_thrown, .int s_taped, .ref m1, .int (nI n), .int s_outSize, .ref m2, .int (nI (u_299 2)), .int (nI (u_299 3)), .int (nI (u_299 0)), .int (nI (u_299 1)), .int 0, .ref m3, .ref m4, .ref m5, .int s_isProgram, .int s_half, .ref m6, .ref m7, .ref m8, .ref m9, .ref m10, .ref m11, .ref m12, .ref m13, .ref m14, .ref m15, .ref m16, .ref m17, .ref m18, .ref m19, .ref m20, .int s_signs, .ref m21, .int s_stacked, .ref m22, .int (-1), .int 0, .int s_statements, .int s_ifs, .int s_whiles, .int s_variants, .int s_open, .ref m23, .int s_isMade, .int s_conditions, .ref m24, .ref m25, .ref m26, .ref m27, .int s_kept, .ref m28, .int s_tops, .ref m29, .int s_used, .ref m30, .ref m31, .int s_looked, .int s_rows, .int s_firstRow, .ref m32, .ref m33, .ref m34, .ref m35, .ref m36, .ref m37, .ref m38, .ref m39, .ref m40, .int s_isBroken, .ref m41, .int s_atoms, .ref m42])), (m1, .inl (ax 0, 400, .inl (fun j => nI (g j))))]) hP hD [1, 0] [] hCs (by decide) (by decide) hk1 hFc hP1 hD1 rfl
          clear hP1 hD1
          clear hPc hDc hFc hCs hz hz1 hk1 ht hvm
          clear hP hD hS
          have hS := hS1
          obtain ⟨hP, hD⟩ := hjn
          clear hS1
          refine lv_aload_n hx hb d_Model_term_125 rfl (lv_at hl1 1 rfl) ?_
          refine lv_iload_n hx hb d_Model_term_126 rfl (lv_at hl1 0 rfl) ?_
          refine lv_if_eq (tgt := 138) hx hb d_Model_term_127 (by decide) (fun c_313 => ?_) (fun c_313 => ?_)
          · replace c_313 : ¬ (k = 200 + 45) := zb_n c_313
            refine lv_aload_n hx hb d_Model_term_138 rfl (lv_at hl1 1 rfl) ?_
            refine va_get (D := D) (ci := 11) (v := .int (nI (u_299 3))) (C := R_Model) (T := F_Model) (N := 72) hx hb hts i_Model hown hK.1 hP 0 rfl rfl 7 (by decide) (hts _ wd_1043) (fun _ h9 => h9) rfl d_Model_term_139 ?_
            refine va_put (D := D) (ci := 11) (v := .int (nI (u_299 3))) (ty := .int) (C := R_Model) (T := F_Model) (N := 72) hx hb hts i_Model t_Model t_Model_ok n_Model hown hK.1 hP hD hS 0 rfl rfl 36 (by decide) (hts _ wd_1072) (fun _ h9 => h9) rfl (by decide +kernel) rfl rfl (Nat.le_of_ble_eq_true rfl) d_Model_term_142 (fun H_314 locs hP1 hD1 hS1 => ?_)
            clear hP hD hS
            have hS := hS1
            have hW7 : (fun w9 : va_W => va_P D classes w9 H_314 ∧ va_D A w9) [(m0, .inr (11, [.int s_thrown, .int s_taped, .ref m1, .int (nI n), .int s_outSize, .ref m2, .int (nI (u_299 2)), .int (nI (u_299 3)), .int (nI (u_299 0)), .int (nI (u_299 1)), .int 0, .ref m3, .ref m4, .ref m5, .int s_isProgram, .int s_half, .ref m6, .ref m7, .ref m8, .ref m9, .ref m10, .ref m11, .ref m12, .ref m13, .ref m14, .ref m15, .ref m16, .ref m17, .ref m18, .ref m19, .ref m20, .int s_signs, .ref m21, .int s_stacked, .ref m22, .int (-1), .int (nI (u_299 3)), .int s_statements, .int s_ifs, .int s_whiles, .int s_variants, .int s_open, .ref m23, .int s_isMade, .int s_conditions, .ref m24, .ref m25, .ref m26, .ref m27, .int s_kept, .ref m28, .int s_tops, .ref m29, .int s_used, .ref m30, .ref m31, .int s_looked, .int s_rows, .int s_firstRow, .ref m32, .ref m33, .ref m34, .ref m35, .ref m36, .ref m37, .ref m38, .ref m39, .ref m40, .int s_isBroken, .ref m41, .int s_atoms, .ref m42])), (m1, .inl (ax 0, 400, .inl (fun j => nI (g j))))] := ⟨hP1, hD1⟩
            obtain ⟨hP, hD⟩ := hW7
            clear hP1 hD1 hS1
            refine lv_aload_n hx hb d_Model_term_145 rfl (lv_at hl1 1 rfl) ?_
            refine lv_aload_n hx hb d_Model_term_146 rfl (lv_at hl1 1 rfl) ?_
            refine va_get (D := D) (ci := 11) (v := .int (nI (u_299 2))) (C := R_Model) (T := F_Model) (N := 72) hx hb hts i_Model hown hK.1 hP 0 rfl rfl 6 (by decide) (hts _ wd_1042) (fun _ h9 => h9) rfl d_Model_term_147 ?_
            refine lv_iconst (v := 3) hx hb d_Model_term_150 (by decide) ?_
            refine lv_icmp_ne (tgt := 158) hx hb d_Model_term_151 (by decide) (fun c_315 => ?_) (fun c_315 => ?_)
            · replace c_315 : ¬ u_299 2 = 3 := fun hq9 => c_315 ((nI_eq (a := u_299 2) (b := 3) (by first | exact Nat.lt_of_lt_of_le (by assumption) (by decide) | exact Nat.lt_of_le_of_lt (by assumption) (by decide) | omega) (by decide)).mpr hq9)
              refine lv_iconst (v := 0) hx hb d_Model_term_158 (by decide) ?_
              obtain ⟨hPc, hDc, hFc, hCs⟩ := xw_sub3 (wc := [(m0, .inr (11, [.int s_thrown, .int s_taped, .ref m1, .int (nI n), .int s_outSize, .ref m2, .int (nI (u_299 2)), .int (nI (u_299 3)), .int (nI (u_299 0)), .int (nI (u_299 1)), .int 0, .ref m3, .ref m4, .ref m5, .int s_isProgram, .int s_half, .ref m6, .ref m7, .ref m8, .ref m9, .ref m10, .ref m11, .ref m12, .ref m13, .ref m14, .ref m15, .ref m16, .ref m17, .ref m18, .ref m19, .ref m20, .int s_signs, .ref m21, .int s_stacked, .ref m22, .int (-1), .int (nI (u_299 3)), .int s_statements, .int s_ifs, .int s_whiles, .int s_variants, .int s_open, .ref m23, .int s_isMade, .int s_conditions, .ref m24, .ref m25, .ref m26, .ref m27, .int s_kept, .ref m28, .int s_tops, .ref m29, .int s_used, .ref m30, .ref m31, .int s_looked, .int s_rows, .int s_firstRow, .ref m32, .ref m33, .ref m34, .ref m35, .ref m36, .ref m37, .ref m38, .ref m39, .ref m40, .int s_isBroken, .ref m41, .int s_atoms, .ref m42]))]) hP hD hS hA [0] (by decide) rfl
              have hz := xz_of hN hS
              refine va_callv (va_runV (As := [.int 0]) (rest := []) ⟨hx, hb, hml, hown, hts⟩ (c_M_must_0 l D ax m0 m1 m2 m3 m4 m5 m6 m7 m8 m9 m10 m11 m12 m13 m14 m15 m16 m17 m18 m19 m20 m21 m22 m23 m24 m25 m26 m27 m28 m29 m30 m31 m32 m33 m34 m35 m36 m37 m38 m39 m40 m41 m42 s_thrown s_taped (nI n) s_outSize (nI (u_299 2)) (nI (u_299 3)) (nI (u_299 0)) (nI (u_299 1)) s_isProgram s_half s_signs s_stacked (-1) (nI (u_299 3)) s_statements s_ifs s_whiles s_variants s_open s_isMade s_conditions s_kept s_tops s_used s_looked s_rows s_firstRow s_isBroken s_atoms H_314.size) (xcV (n := 1) hts wd_1335 wd_15 wd_1332 wd_1334 ps_61 rfl rfl (by decide +kernel) ⟨Nat.le_of_ble_eq_true rfl, Nat.le_of_ble_eq_true rfl⟩) (xpV (ci := 11) (q0 := 0) (As := [.int 0]) hPc hK hz hDc rfl rfl) rfl rfl hl1.1 rfl (lv_room (Nat.le_of_ble_eq_true rfl)) d_Model_term_159 ⟨Nat.le_of_ble_eq_true rfl, Nat.le_of_ble_eq_true rfl⟩) hS (fun q _ h => hFc q h) hFc (fun u_316 t H_317 locs ht hvm hw hB hz1 hk1 hS1 => ?_)
              try dsimp only at hw
              obtain ⟨hP1, hD1⟩ := hB
              rw [ht] at hP1
              have hjn := xw_join3 (wl := [(m1, .inl (ax 0, 400, .inl (fun j => nI (g j)))), (m0, .inr (11, [.int s_thrown, .int s_taped, .ref m1, .int (nI n), .int s_outSize, .ref m2, .int (nI (u_299 2)), .int (nI (u_299 3)), .int (nI (u_299 0)), .int (nI (u_299 1)), .int 1, .ref m3, .ref m4, .ref m5, .int s_isProgram, .int s_half, .ref m6, .ref m7, .ref m8, .ref m9, .ref m10, .ref m11, .ref m12, .ref m13, .ref m14, .ref m15, .ref m16, .ref m17, .ref m18, .ref m19, .ref m20, .int s_signs, .ref m21, .int s_stacked, .ref m22, .int (-1), .int (nI (u_299 3)), .int s_statements, .int s_ifs, .int s_whiles, .int s_variants, .int s_open, .ref m23, .int s_isMade, .int s_conditions, .ref m24, .ref m25, .ref m26, .ref m27, .int s_kept, .ref m28, .int s_tops, .ref m29, .int s_used, .ref m30, .ref m31, .int s_looked, .int s_rows, .int s_firstRow, .ref m32, .ref m33, .ref m34, .ref m35, .ref m36, .ref m37, .ref m38, .ref m39, .ref m40, .int s_isBroken, .ref m41, .int s_atoms, .ref m42]))]) hP hD [0] [1] hCs (by decide) (by decide) hk1 hFc hP1 hD1 rfl
              clear hP1 hD1
              clear hPc hDc hFc hCs hz hz1 hk1 ht hvm
              clear hP hD hS
              have hS := hS1
              obtain ⟨hP, hD⟩ := hjn
              clear hS1
              rw [← hQe]
              obtain ⟨hP9, hD9⟩ := xw_sub2 (wc := (fun (u : Nat → Nat) (xnm : Int32) (xsh : Int32) => [(m0, .inr (11, [.int s_thrown, .int s_taped, .ref m1, .int (nI n), .int s_outSize, .ref m2, .int (nI (u 2)), .int (nI (u 3)), .int (nI (u 0)), .int (nI (u 1)), .int (nI (u 4)), .ref m3, .ref m4, .ref m5, .int s_isProgram, .int s_half, .ref m6, .ref m7, .ref m8, .ref m9, .ref m10, .ref m11, .ref m12, .ref m13, .ref m14, .ref m15, .ref m16, .ref m17, .ref m18, .ref m19, .ref m20, .int s_signs, .ref m21, .int s_stacked, .ref m22, .int xnm, .int xsh, .int s_statements, .int s_ifs, .int s_whiles, .int s_variants, .int s_open, .ref m23, .int s_isMade, .int s_conditions, .ref m24, .ref m25, .ref m26, .ref m27, .int s_kept, .ref m28, .int s_tops, .ref m29, .int s_used, .ref m30, .ref m31, .int s_looked, .int s_rows, .int s_firstRow, .ref m32, .ref m33, .ref m34, .ref m35, .ref m36, .ref m37, .ref m38, .ref m39, .ref m40, .int s_isBroken, .ref m41, .int s_atoms, .ref m42])), (m1, .inl (ax 0, 400, .inl (fun j => nI (g j))))]) (ixn [(u_299 0), (u_299 1), (u_299 2), (u_299 3), 1]) (-1) (nI (u_299 3))) hP hD [1, 0] (by decide) rfl
              have hex0 : nmo (6 + 4 * gh) (-1) := (by first | exact Or.inl rfl | exact Or.inr ⟨_, by omega, rfl⟩ | assumption)
              have hex1 : imp0 (1) (tmQ (-1) (nI (u_299 3)) (trmV (kd g n) (nxt g n) (kv g n) gh b)) := (Or.inl rfl)
              have hsp0 : b ≤ (u_299 0) := (by first | assumption | omega)
              have hsp1 : (u_299 0) ≤ (u_299 1) := (by first | assumption | omega)
              have hsp2 : (u_299 1) ≤ n := (by first | assumption | omega)
              have hsp3 : tk0 ((u_299 2)) ((u_299 0)) ((u_299 1)) := (by assumption)
              have hsp4 : (u_299 2) < 10000 := (by first | assumption | omega)
              have hsp5 : (u_299 3) < 20000 := (by first | assumption | omega)
              have hsp6 : tkq g n ((u_299 0)) ((u_299 1)) ((u_299 2)) ((u_299 3)) := (by assumption)
              have hsp7 : 1 ≤ 1 := (by first | assumption | omega)
              have hsp8 : imp0 (1) (b < (u_299 0)) := (Or.inl rfl)
              have hsp9 : trmG (kd g n) (nxt g n) gh b = (1, (u_299 0)) := (by first | exact trm_e hkv (by first | assumption | omega) (by first | assumption | omega) hs_312 hs_305 (by first | assumption | omega))
              exact W.vret hx hb hr (fun t ht hW => ⟨⟨ixn [(u_299 0), (u_299 1), (u_299 2), (u_299 3), 1], rfl, ⟨hsp0, hsp1, hsp2, hsp3, hsp4, hsp5, hsp6, hsp7, hsp8, hsp9⟩, ⟨(-1), nI (u_299 3), hex0, hex1, by rw [ht]; exact hP9, hD9⟩⟩, hS.F ht⟩) hS.2.2 d_Model_term_162
            · replace c_315 : u_299 2 = 3 := (nI_eq (a := u_299 2) (b := 3) (by first | exact Nat.lt_of_lt_of_le (by assumption) (by decide) | exact Nat.lt_of_le_of_lt (by assumption) (by decide) | omega) (by decide)).mp c_315
              have hlt_319 : u_299 0 < u_299 1 := tk0.lt (by assumption) (by first | assumption | omega)
              refine lv_iconst (v := 1) hx hb d_Model_term_154 (by decide) ?_
              refine lv_goto (tgt := 159) hx hb d_Model_term_155 (by decide) ?_
              obtain ⟨hPc, hDc, hFc, hCs⟩ := xw_sub3 (wc := [(m0, .inr (11, [.int s_thrown, .int s_taped, .ref m1, .int (nI n), .int s_outSize, .ref m2, .int (nI (u_299 2)), .int (nI (u_299 3)), .int (nI (u_299 0)), .int (nI (u_299 1)), .int 0, .ref m3, .ref m4, .ref m5, .int s_isProgram, .int s_half, .ref m6, .ref m7, .ref m8, .ref m9, .ref m10, .ref m11, .ref m12, .ref m13, .ref m14, .ref m15, .ref m16, .ref m17, .ref m18, .ref m19, .ref m20, .int s_signs, .ref m21, .int s_stacked, .ref m22, .int (-1), .int (nI (u_299 3)), .int s_statements, .int s_ifs, .int s_whiles, .int s_variants, .int s_open, .ref m23, .int s_isMade, .int s_conditions, .ref m24, .ref m25, .ref m26, .ref m27, .int s_kept, .ref m28, .int s_tops, .ref m29, .int s_used, .ref m30, .ref m31, .int s_looked, .int s_rows, .int s_firstRow, .ref m32, .ref m33, .ref m34, .ref m35, .ref m36, .ref m37, .ref m38, .ref m39, .ref m40, .int s_isBroken, .ref m41, .int s_atoms, .ref m42])), (m1, .inl (ax 0, 400, .inl (fun j => nI (g j))))]) hP hD hS hA [0, 1] (by decide) rfl
              have hz := xz_of hN hS
              refine va_callv (va_runV (As := [.int 1]) (rest := []) ⟨hx, hb, hml, hown, hts⟩ (c_M_must_1 l D ax m0 m1 m2 m3 m4 m5 m6 m7 m8 m9 m10 m11 m12 m13 m14 m15 m16 m17 m18 m19 m20 m21 m22 m23 m24 m25 m26 m27 m28 m29 m30 m31 m32 m33 m34 m35 m36 m37 m38 m39 m40 m41 m42 s_thrown s_taped s_outSize (nI (u_299 2)) (nI (u_299 0)) s_isProgram s_half s_signs s_stacked (-1) (nI (u_299 3)) s_statements s_ifs s_whiles s_variants s_open s_isMade s_conditions s_kept s_tops s_used s_looked s_rows s_firstRow s_isBroken s_atoms n (u_299 1) (u_299 3) g H_314.size hn (by first | assumption | omega) hg (by first | assumption | omega)) (xcV (n := 1) hts wd_1335 wd_15 wd_1332 wd_1334 ps_61 rfl rfl (by decide +kernel) ⟨Nat.le_of_ble_eq_true rfl, Nat.le_of_ble_eq_true rfl⟩) (xpV (ci := 11) (q0 := 0) (As := [.int 1]) hPc hK hz hDc rfl rfl) rfl rfl hl1.1 rfl (lv_room (Nat.le_of_ble_eq_true rfl)) d_Model_term_159 ⟨Nat.le_of_ble_eq_true rfl, Nat.le_of_ble_eq_true rfl⟩) hS (fun q _ h => hFc q h) hFc (fun u_320 t H_321 locs ht hvm hw hB hz1 hk1 hS1 => ?_)
              try dsimp only at hw
              obtain ⟨-, -, -, hs_326, hs_327, hs_328, hs_329, hs_330, hs_331, hs_332, hs_333⟩ := hw
              obtain ⟨hP1, hD1⟩ := hB
              rw [ht] at hP1
              have hjn := xw_join3 (wl := [(m0, .inr (11, [.int s_thrown, .int s_taped, .ref m1, .int (nI n), .int s_outSize, .ref m2, .int (nI (u_320 2)), .int (nI (u_320 3)), .int (nI (u_320 0)), .int (nI (u_320 1)), .int 0, .ref m3, .ref m4, .ref m5, .int s_isProgram, .int s_half, .ref m6, .ref m7, .ref m8, .ref m9, .ref m10, .ref m11, .ref m12, .ref m13, .ref m14, .ref m15, .ref m16, .ref m17, .ref m18, .ref m19, .ref m20, .int s_signs, .ref m21, .int s_stacked, .ref m22, .int (-1), .int (nI (u_299 3)), .int s_statements, .int s_ifs, .int s_whiles, .int s_variants, .int s_open, .ref m23, .int s_isMade, .int s_conditions, .ref m24, .ref m25, .ref m26, .ref m27, .int s_kept, .ref m28, .int s_tops, .ref m29, .int s_used, .ref m30, .ref m31, .int s_looked, .int s_rows, .int s_firstRow, .ref m32, .ref m33, .ref m34, .ref m35, .ref m36, .ref m37, .ref m38, .ref m39, .ref m40, .int s_isBroken, .ref m41, .int s_atoms, .ref m42])), (m1, .inl (ax 0, 400, .inl (fun j => nI (g j))))]) hP hD [0, 1] [] hCs (by decide) (by decide) hk1 hFc hP1 hD1 rfl
              clear hP1 hD1
              clear hPc hDc hFc hCs hz hz1 hk1 ht hvm
              clear hP hD hS
              have hS := hS1
              obtain ⟨hP, hD⟩ := hjn
              clear hS1
              rw [← hQe]
              obtain ⟨hP9, hD9⟩ := xw_sub2 (wc := (fun (u : Nat → Nat) (xnm : Int32) (xsh : Int32) => [(m0, .inr (11, [.int s_thrown, .int s_taped, .ref m1, .int (nI n), .int s_outSize, .ref m2, .int (nI (u 2)), .int (nI (u 3)), .int (nI (u 0)), .int (nI (u 1)), .int (nI (u 4)), .ref m3, .ref m4, .ref m5, .int s_isProgram, .int s_half, .ref m6, .ref m7, .ref m8, .ref m9, .ref m10, .ref m11, .ref m12, .ref m13, .ref m14, .ref m15, .ref m16, .ref m17, .ref m18, .ref m19, .ref m20, .int s_signs, .ref m21, .int s_stacked, .ref m22, .int xnm, .int xsh, .int s_statements, .int s_ifs, .int s_whiles, .int s_variants, .int s_open, .ref m23, .int s_isMade, .int s_conditions, .ref m24, .ref m25, .ref m26, .ref m27, .int s_kept, .ref m28, .int s_tops, .ref m29, .int s_used, .ref m30, .ref m31, .int s_looked, .int s_rows, .int s_firstRow, .ref m32, .ref m33, .ref m34, .ref m35, .ref m36, .ref m37, .ref m38, .ref m39, .ref m40, .int s_isBroken, .ref m41, .int s_atoms, .ref m42])), (m1, .inl (ax 0, 400, .inl (fun j => nI (g j))))]) (ixn [(u_320 0), (u_320 1), (u_320 2), (u_320 3), 0]) (-1) (nI (u_299 3))) hP hD [0, 1] (by decide) rfl
              have hex0 : nmo (6 + 4 * gh) (-1) := (by first | exact Or.inl rfl | exact Or.inr ⟨_, by omega, rfl⟩ | assumption)
              have hex1 : imp0 (0) (tmQ (-1) (nI (u_299 3)) (trmV (kd g n) (nxt g n) (kv g n) gh b)) := (Or.inr (by first | exact trv_a hkv (by first | assumption | omega) hs_312 hs_305 (by first | assumption | omega) | exact trv_f hkv (by first | assumption | omega) (by first | assumption | omega) (by first | assumption | omega) (by first | rfl | assumption | (exfalso; omega)) | exact trv_d hkv (by first | assumption | omega) (by first | assumption | omega) hs_312 hs_305 (by first | assumption | omega) (by first | rfl | assumption | (exfalso; omega))))
              have hsp0 : b ≤ (u_320 0) := (by first | assumption | omega)
              have hsp1 : (u_320 0) ≤ (u_320 1) := (by first | assumption | omega)
              have hsp2 : (u_320 1) ≤ n := (by first | assumption | omega)
              have hsp3 : tk0 ((u_320 2)) ((u_320 0)) ((u_320 1)) := (by assumption)
              have hsp4 : (u_320 2) < 10000 := (by first | assumption | omega)
              have hsp5 : (u_320 3) < 20000 := (by first | assumption | omega)
              have hsp6 : tkq g n ((u_320 0)) ((u_320 1)) ((u_320 2)) ((u_320 3)) := (by assumption)
              have hsp7 : 0 ≤ 1 := (by first | assumption | omega)
              have hsp8 : imp0 (0) (b < (u_320 0)) := (Or.inr (by first | assumption | omega))
              have hsp9 : trmG (kd g n) (nxt g n) gh b = (0, (u_320 0)) := (by first | exact trm_d hkv (by first | assumption | omega) (by first | assumption | omega) hs_312 hs_305 (by first | assumption | omega) hs_326)
              exact W.vret hx hb hr (fun t ht hW => ⟨⟨ixn [(u_320 0), (u_320 1), (u_320 2), (u_320 3), 0], rfl, ⟨hsp0, hsp1, hsp2, hsp3, hsp4, hsp5, hsp6, hsp7, hsp8, hsp9⟩, ⟨(-1), nI (u_299 3), hex0, hex1, by rw [ht]; exact hP9, hD9⟩⟩, hS.F ht⟩) hS.2.2 d_Model_term_162
          · replace c_313 : (k = 200 + 45) := zb_y c_313
            refine lv_aload_n hx hb d_Model_term_130 rfl (lv_at hl1 1 rfl) ?_
            refine va_get (D := D) (ci := 11) (v := .int (nI (u_299 3))) (C := R_Model) (T := F_Model) (N := 72) hx hb hts i_Model hown hK.1 hP 0 rfl rfl 7 (by decide) (hts _ wd_1043) (fun _ h9 => h9) rfl d_Model_term_131 ?_
            refine lv_ineg hx hb d_Model_term_134 ?_
            refine lv_topi (fun z_334 ez_334 => ?_)
            refine lv_goto (tgt := 142) hx hb d_Model_term_135 (by decide) ?_
            refine va_put (D := D) (ci := 11) (v := .int z_334) (ty := .int) (C := R_Model) (T := F_Model) (N := 72) hx hb hts i_Model t_Model t_Model_ok n_Model hown hK.1 hP hD hS 0 rfl rfl 36 (by decide) (hts _ wd_1072) (fun _ h9 => h9) rfl (by decide +kernel) rfl rfl (Nat.le_of_ble_eq_true rfl) d_Model_term_142 (fun H_335 locs hP1 hD1 hS1 => ?_)
            clear hP hD hS
            have hS := hS1
            have hW7 : (fun w9 : va_W => va_P D classes w9 H_335 ∧ va_D A w9) [(m0, .inr (11, [.int s_thrown, .int s_taped, .ref m1, .int (nI n), .int s_outSize, .ref m2, .int (nI (u_299 2)), .int (nI (u_299 3)), .int (nI (u_299 0)), .int (nI (u_299 1)), .int 0, .ref m3, .ref m4, .ref m5, .int s_isProgram, .int s_half, .ref m6, .ref m7, .ref m8, .ref m9, .ref m10, .ref m11, .ref m12, .ref m13, .ref m14, .ref m15, .ref m16, .ref m17, .ref m18, .ref m19, .ref m20, .int s_signs, .ref m21, .int s_stacked, .ref m22, .int (-1), .int z_334, .int s_statements, .int s_ifs, .int s_whiles, .int s_variants, .int s_open, .ref m23, .int s_isMade, .int s_conditions, .ref m24, .ref m25, .ref m26, .ref m27, .int s_kept, .ref m28, .int s_tops, .ref m29, .int s_used, .ref m30, .ref m31, .int s_looked, .int s_rows, .int s_firstRow, .ref m32, .ref m33, .ref m34, .ref m35, .ref m36, .ref m37, .ref m38, .ref m39, .ref m40, .int s_isBroken, .ref m41, .int s_atoms, .ref m42])), (m1, .inl (ax 0, 400, .inl (fun j => nI (g j))))] := ⟨hP1, hD1⟩
            obtain ⟨hP, hD⟩ := hW7
            clear hP1 hD1 hS1
            refine lv_aload_n hx hb d_Model_term_145 rfl (lv_at hl1 1 rfl) ?_
            refine lv_aload_n hx hb d_Model_term_146 rfl (lv_at hl1 1 rfl) ?_
            refine va_get (D := D) (ci := 11) (v := .int (nI (u_299 2))) (C := R_Model) (T := F_Model) (N := 72) hx hb hts i_Model hown hK.1 hP 0 rfl rfl 6 (by decide) (hts _ wd_1042) (fun _ h9 => h9) rfl d_Model_term_147 ?_
            refine lv_iconst (v := 3) hx hb d_Model_term_150 (by decide) ?_
            refine lv_icmp_ne (tgt := 158) hx hb d_Model_term_151 (by decide) (fun c_336 => ?_) (fun c_336 => ?_)
            · replace c_336 : ¬ u_299 2 = 3 := fun hq9 => c_336 ((nI_eq (a := u_299 2) (b := 3) (by first | exact Nat.lt_of_lt_of_le (by assumption) (by decide) | exact Nat.lt_of_le_of_lt (by assumption) (by decide) | omega) (by decide)).mpr hq9)
              refine lv_iconst (v := 0) hx hb d_Model_term_158 (by decide) ?_
              obtain ⟨hPc, hDc, hFc, hCs⟩ := xw_sub3 (wc := [(m0, .inr (11, [.int s_thrown, .int s_taped, .ref m1, .int (nI n), .int s_outSize, .ref m2, .int (nI (u_299 2)), .int (nI (u_299 3)), .int (nI (u_299 0)), .int (nI (u_299 1)), .int 0, .ref m3, .ref m4, .ref m5, .int s_isProgram, .int s_half, .ref m6, .ref m7, .ref m8, .ref m9, .ref m10, .ref m11, .ref m12, .ref m13, .ref m14, .ref m15, .ref m16, .ref m17, .ref m18, .ref m19, .ref m20, .int s_signs, .ref m21, .int s_stacked, .ref m22, .int (-1), .int z_334, .int s_statements, .int s_ifs, .int s_whiles, .int s_variants, .int s_open, .ref m23, .int s_isMade, .int s_conditions, .ref m24, .ref m25, .ref m26, .ref m27, .int s_kept, .ref m28, .int s_tops, .ref m29, .int s_used, .ref m30, .ref m31, .int s_looked, .int s_rows, .int s_firstRow, .ref m32, .ref m33, .ref m34, .ref m35, .ref m36, .ref m37, .ref m38, .ref m39, .ref m40, .int s_isBroken, .ref m41, .int s_atoms, .ref m42]))]) hP hD hS hA [0] (by decide) rfl
              have hz := xz_of hN hS
              refine va_callv (va_runV (As := [.int 0]) (rest := []) ⟨hx, hb, hml, hown, hts⟩ (c_M_must_0 l D ax m0 m1 m2 m3 m4 m5 m6 m7 m8 m9 m10 m11 m12 m13 m14 m15 m16 m17 m18 m19 m20 m21 m22 m23 m24 m25 m26 m27 m28 m29 m30 m31 m32 m33 m34 m35 m36 m37 m38 m39 m40 m41 m42 s_thrown s_taped (nI n) s_outSize (nI (u_299 2)) (nI (u_299 3)) (nI (u_299 0)) (nI (u_299 1)) s_isProgram s_half s_signs s_stacked (-1) z_334 s_statements s_ifs s_whiles s_variants s_open s_isMade s_conditions s_kept s_tops s_used s_looked s_rows s_firstRow s_isBroken s_atoms H_335.size) (xcV (n := 1) hts wd_1335 wd_15 wd_1332 wd_1334 ps_61 rfl rfl (by decide +kernel) ⟨Nat.le_of_ble_eq_true rfl, Nat.le_of_ble_eq_true rfl⟩) (xpV (ci := 11) (q0 := 0) (As := [.int 0]) hPc hK hz hDc rfl rfl) rfl rfl hl1.1 rfl (lv_room (Nat.le_of_ble_eq_true rfl)) d_Model_term_159 ⟨Nat.le_of_ble_eq_true rfl, Nat.le_of_ble_eq_true rfl⟩) hS (fun q _ h => hFc q h) hFc (fun u_337 t H_338 locs ht hvm hw hB hz1 hk1 hS1 => ?_)
              try dsimp only at hw
              obtain ⟨hP1, hD1⟩ := hB
              rw [ht] at hP1
              have hjn := xw_join3 (wl := [(m1, .inl (ax 0, 400, .inl (fun j => nI (g j)))), (m0, .inr (11, [.int s_thrown, .int s_taped, .ref m1, .int (nI n), .int s_outSize, .ref m2, .int (nI (u_299 2)), .int (nI (u_299 3)), .int (nI (u_299 0)), .int (nI (u_299 1)), .int 1, .ref m3, .ref m4, .ref m5, .int s_isProgram, .int s_half, .ref m6, .ref m7, .ref m8, .ref m9, .ref m10, .ref m11, .ref m12, .ref m13, .ref m14, .ref m15, .ref m16, .ref m17, .ref m18, .ref m19, .ref m20, .int s_signs, .ref m21, .int s_stacked, .ref m22, .int (-1), .int z_334, .int s_statements, .int s_ifs, .int s_whiles, .int s_variants, .int s_open, .ref m23, .int s_isMade, .int s_conditions, .ref m24, .ref m25, .ref m26, .ref m27, .int s_kept, .ref m28, .int s_tops, .ref m29, .int s_used, .ref m30, .ref m31, .int s_looked, .int s_rows, .int s_firstRow, .ref m32, .ref m33, .ref m34, .ref m35, .ref m36, .ref m37, .ref m38, .ref m39, .ref m40, .int s_isBroken, .ref m41, .int s_atoms, .ref m42]))]) hP hD [0] [1] hCs (by decide) (by decide) hk1 hFc hP1 hD1 rfl
              clear hP1 hD1
              clear hPc hDc hFc hCs hz hz1 hk1 ht hvm
              clear hP hD hS
              have hS := hS1
              obtain ⟨hP, hD⟩ := hjn
              clear hS1
              rw [← hQe]
              obtain ⟨hP9, hD9⟩ := xw_sub2 (wc := (fun (u : Nat → Nat) (xnm : Int32) (xsh : Int32) => [(m0, .inr (11, [.int s_thrown, .int s_taped, .ref m1, .int (nI n), .int s_outSize, .ref m2, .int (nI (u 2)), .int (nI (u 3)), .int (nI (u 0)), .int (nI (u 1)), .int (nI (u 4)), .ref m3, .ref m4, .ref m5, .int s_isProgram, .int s_half, .ref m6, .ref m7, .ref m8, .ref m9, .ref m10, .ref m11, .ref m12, .ref m13, .ref m14, .ref m15, .ref m16, .ref m17, .ref m18, .ref m19, .ref m20, .int s_signs, .ref m21, .int s_stacked, .ref m22, .int xnm, .int xsh, .int s_statements, .int s_ifs, .int s_whiles, .int s_variants, .int s_open, .ref m23, .int s_isMade, .int s_conditions, .ref m24, .ref m25, .ref m26, .ref m27, .int s_kept, .ref m28, .int s_tops, .ref m29, .int s_used, .ref m30, .ref m31, .int s_looked, .int s_rows, .int s_firstRow, .ref m32, .ref m33, .ref m34, .ref m35, .ref m36, .ref m37, .ref m38, .ref m39, .ref m40, .int s_isBroken, .ref m41, .int s_atoms, .ref m42])), (m1, .inl (ax 0, 400, .inl (fun j => nI (g j))))]) (ixn [(u_299 0), (u_299 1), (u_299 2), (u_299 3), 1]) (-1) z_334) hP hD [1, 0] (by decide) rfl
              have hex0 : nmo (6 + 4 * gh) (-1) := (by first | exact Or.inl rfl | exact Or.inr ⟨_, by omega, rfl⟩ | assumption)
              have hex1 : imp0 (1) (tmQ (-1) z_334 (trmV (kd g n) (nxt g n) (kv g n) gh b)) := (Or.inl rfl)
              have hsp0 : b ≤ (u_299 0) := (by first | assumption | omega)
              have hsp1 : (u_299 0) ≤ (u_299 1) := (by first | assumption | omega)
              have hsp2 : (u_299 1) ≤ n := (by first | assumption | omega)
              have hsp3 : tk0 ((u_299 2)) ((u_299 0)) ((u_299 1)) := (by assumption)
              have hsp4 : (u_299 2) < 10000 := (by first | assumption | omega)
              have hsp5 : (u_299 3) < 20000 := (by first | assumption | omega)
              have hsp6 : tkq g n ((u_299 0)) ((u_299 1)) ((u_299 2)) ((u_299 3)) := (by assumption)
              have hsp7 : 1 ≤ 1 := (by first | assumption | omega)
              have hsp8 : imp0 (1) (b < (u_299 0)) := (Or.inl rfl)
              have hsp9 : trmG (kd g n) (nxt g n) gh b = (1, (u_299 0)) := (by first | exact trm_e hkv (by first | assumption | omega) (by first | assumption | omega) hs_312 hs_305 (by first | assumption | omega))
              exact W.vret hx hb hr (fun t ht hW => ⟨⟨ixn [(u_299 0), (u_299 1), (u_299 2), (u_299 3), 1], rfl, ⟨hsp0, hsp1, hsp2, hsp3, hsp4, hsp5, hsp6, hsp7, hsp8, hsp9⟩, ⟨(-1), z_334, hex0, hex1, by rw [ht]; exact hP9, hD9⟩⟩, hS.F ht⟩) hS.2.2 d_Model_term_162
            · replace c_336 : u_299 2 = 3 := (nI_eq (a := u_299 2) (b := 3) (by first | exact Nat.lt_of_lt_of_le (by assumption) (by decide) | exact Nat.lt_of_le_of_lt (by assumption) (by decide) | omega) (by decide)).mp c_336
              have hlt_340 : u_299 0 < u_299 1 := tk0.lt (by assumption) (by first | assumption | omega)
              refine lv_iconst (v := 1) hx hb d_Model_term_154 (by decide) ?_
              refine lv_goto (tgt := 159) hx hb d_Model_term_155 (by decide) ?_
              obtain ⟨hPc, hDc, hFc, hCs⟩ := xw_sub3 (wc := [(m0, .inr (11, [.int s_thrown, .int s_taped, .ref m1, .int (nI n), .int s_outSize, .ref m2, .int (nI (u_299 2)), .int (nI (u_299 3)), .int (nI (u_299 0)), .int (nI (u_299 1)), .int 0, .ref m3, .ref m4, .ref m5, .int s_isProgram, .int s_half, .ref m6, .ref m7, .ref m8, .ref m9, .ref m10, .ref m11, .ref m12, .ref m13, .ref m14, .ref m15, .ref m16, .ref m17, .ref m18, .ref m19, .ref m20, .int s_signs, .ref m21, .int s_stacked, .ref m22, .int (-1), .int z_334, .int s_statements, .int s_ifs, .int s_whiles, .int s_variants, .int s_open, .ref m23, .int s_isMade, .int s_conditions, .ref m24, .ref m25, .ref m26, .ref m27, .int s_kept, .ref m28, .int s_tops, .ref m29, .int s_used, .ref m30, .ref m31, .int s_looked, .int s_rows, .int s_firstRow, .ref m32, .ref m33, .ref m34, .ref m35, .ref m36, .ref m37, .ref m38, .ref m39, .ref m40, .int s_isBroken, .ref m41, .int s_atoms, .ref m42])), (m1, .inl (ax 0, 400, .inl (fun j => nI (g j))))]) hP hD hS hA [0, 1] (by decide) rfl
              have hz := xz_of hN hS
              refine va_callv (va_runV (As := [.int 1]) (rest := []) ⟨hx, hb, hml, hown, hts⟩ (c_M_must_1 l D ax m0 m1 m2 m3 m4 m5 m6 m7 m8 m9 m10 m11 m12 m13 m14 m15 m16 m17 m18 m19 m20 m21 m22 m23 m24 m25 m26 m27 m28 m29 m30 m31 m32 m33 m34 m35 m36 m37 m38 m39 m40 m41 m42 s_thrown s_taped s_outSize (nI (u_299 2)) (nI (u_299 0)) s_isProgram s_half s_signs s_stacked (-1) z_334 s_statements s_ifs s_whiles s_variants s_open s_isMade s_conditions s_kept s_tops s_used s_looked s_rows s_firstRow s_isBroken s_atoms n (u_299 1) (u_299 3) g H_335.size hn (by first | assumption | omega) hg (by first | assumption | omega)) (xcV (n := 1) hts wd_1335 wd_15 wd_1332 wd_1334 ps_61 rfl rfl (by decide +kernel) ⟨Nat.le_of_ble_eq_true rfl, Nat.le_of_ble_eq_true rfl⟩) (xpV (ci := 11) (q0 := 0) (As := [.int 1]) hPc hK hz hDc rfl rfl) rfl rfl hl1.1 rfl (lv_room (Nat.le_of_ble_eq_true rfl)) d_Model_term_159 ⟨Nat.le_of_ble_eq_true rfl, Nat.le_of_ble_eq_true rfl⟩) hS (fun q _ h => hFc q h) hFc (fun u_341 t H_342 locs ht hvm hw hB hz1 hk1 hS1 => ?_)
              try dsimp only at hw
              obtain ⟨-, -, -, hs_347, hs_348, hs_349, hs_350, hs_351, hs_352, hs_353, hs_354⟩ := hw
              obtain ⟨hP1, hD1⟩ := hB
              rw [ht] at hP1
              have hjn := xw_join3 (wl := [(m0, .inr (11, [.int s_thrown, .int s_taped, .ref m1, .int (nI n), .int s_outSize, .ref m2, .int (nI (u_341 2)), .int (nI (u_341 3)), .int (nI (u_341 0)), .int (nI (u_341 1)), .int 0, .ref m3, .ref m4, .ref m5, .int s_isProgram, .int s_half, .ref m6, .ref m7, .ref m8, .ref m9, .ref m10, .ref m11, .ref m12, .ref m13, .ref m14, .ref m15, .ref m16, .ref m17, .ref m18, .ref m19, .ref m20, .int s_signs, .ref m21, .int s_stacked, .ref m22, .int (-1), .int z_334, .int s_statements, .int s_ifs, .int s_whiles, .int s_variants, .int s_open, .ref m23, .int s_isMade, .int s_conditions, .ref m24, .ref m25, .ref m26, .ref m27, .int s_kept, .ref m28, .int s_tops, .ref m29, .int s_used, .ref m30, .ref m31, .int s_looked, .int s_rows, .int s_firstRow, .ref m32, .ref m33, .ref m34, .ref m35, .ref m36, .ref m37, .ref m38, .ref m39, .ref m40, .int s_isBroken, .ref m41, .int s_atoms, .ref m42])), (m1, .inl (ax 0, 400, .inl (fun j => nI (g j))))]) hP hD [0, 1] [] hCs (by decide) (by decide) hk1 hFc hP1 hD1 rfl
              clear hP1 hD1
              clear hPc hDc hFc hCs hz hz1 hk1 ht hvm
              clear hP hD hS
              have hS := hS1
              obtain ⟨hP, hD⟩ := hjn
              clear hS1
              rw [← hQe]
              obtain ⟨hP9, hD9⟩ := xw_sub2 (wc := (fun (u : Nat → Nat) (xnm : Int32) (xsh : Int32) => [(m0, .inr (11, [.int s_thrown, .int s_taped, .ref m1, .int (nI n), .int s_outSize, .ref m2, .int (nI (u 2)), .int (nI (u 3)), .int (nI (u 0)), .int (nI (u 1)), .int (nI (u 4)), .ref m3, .ref m4, .ref m5, .int s_isProgram, .int s_half, .ref m6, .ref m7, .ref m8, .ref m9, .ref m10, .ref m11, .ref m12, .ref m13, .ref m14, .ref m15, .ref m16, .ref m17, .ref m18, .ref m19, .ref m20, .int s_signs, .ref m21, .int s_stacked, .ref m22, .int xnm, .int xsh, .int s_statements, .int s_ifs, .int s_whiles, .int s_variants, .int s_open, .ref m23, .int s_isMade, .int s_conditions, .ref m24, .ref m25, .ref m26, .ref m27, .int s_kept, .ref m28, .int s_tops, .ref m29, .int s_used, .ref m30, .ref m31, .int s_looked, .int s_rows, .int s_firstRow, .ref m32, .ref m33, .ref m34, .ref m35, .ref m36, .ref m37, .ref m38, .ref m39, .ref m40, .int s_isBroken, .ref m41, .int s_atoms, .ref m42])), (m1, .inl (ax 0, 400, .inl (fun j => nI (g j))))]) (ixn [(u_341 0), (u_341 1), (u_341 2), (u_341 3), 0]) (-1) z_334) hP hD [0, 1] (by decide) rfl
              have hex0 : nmo (6 + 4 * gh) (-1) := (by first | exact Or.inl rfl | exact Or.inr ⟨_, by omega, rfl⟩ | assumption)
              have hex1 : imp0 (0) (tmQ (-1) z_334 (trmV (kd g n) (nxt g n) (kv g n) gh b)) := (Or.inr (by first | exact trv_a hkv (by first | assumption | omega) hs_312 hs_305 (by first | assumption | omega) | exact trv_f hkv (by first | assumption | omega) (by first | assumption | omega) (by first | assumption | omega) (by first | rfl | assumption | (exfalso; omega)) | exact trv_d hkv (by first | assumption | omega) (by first | assumption | omega) hs_312 hs_305 (by first | assumption | omega) (by first | rfl | assumption | (exfalso; omega))))
              have hsp0 : b ≤ (u_341 0) := (by first | assumption | omega)
              have hsp1 : (u_341 0) ≤ (u_341 1) := (by first | assumption | omega)
              have hsp2 : (u_341 1) ≤ n := (by first | assumption | omega)
              have hsp3 : tk0 ((u_341 2)) ((u_341 0)) ((u_341 1)) := (by assumption)
              have hsp4 : (u_341 2) < 10000 := (by first | assumption | omega)
              have hsp5 : (u_341 3) < 20000 := (by first | assumption | omega)
              have hsp6 : tkq g n ((u_341 0)) ((u_341 1)) ((u_341 2)) ((u_341 3)) := (by assumption)
              have hsp7 : 0 ≤ 1 := (by first | assumption | omega)
              have hsp8 : imp0 (0) (b < (u_341 0)) := (Or.inr (by first | assumption | omega))
              have hsp9 : trmG (kd g n) (nxt g n) gh b = (0, (u_341 0)) := (by first | exact trm_d hkv (by first | assumption | omega) (by first | assumption | omega) hs_312 hs_305 (by first | assumption | omega) hs_347)
              exact W.vret hx hb hr (fun t ht hW => ⟨⟨ixn [(u_341 0), (u_341 1), (u_341 2), (u_341 3), 0], rfl, ⟨hsp0, hsp1, hsp2, hsp3, hsp4, hsp5, hsp6, hsp7, hsp8, hsp9⟩, ⟨(-1), z_334, hex0, hex1, by rw [ht]; exact hP9, hD9⟩⟩, hS.F ht⟩) hS.2.2 d_Model_term_162
      · replace c_251 : ¬ gh = 0 := fun hq9 => c_251 ((nI_eq (a := gh) (b := 0) (by first | exact Nat.lt_of_lt_of_le (by assumption) (by decide) | exact Nat.lt_of_le_of_lt (by assumption) (by decide) | omega) (by decide)).mpr hq9)
        refine lv_aload_n hx hb d_Model_term_31 rfl (lv_at hl1 0 rfl) ?_
        refine lv_aload_n hx hb d_Model_term_32 rfl (lv_at hl1 0 rfl) ?_
        refine va_get (D := D) (ci := 11) (v := .int (nI v)) (C := R_Model) (T := F_Model) (N := 72) hx hb hts i_Model hown hK.1 hP 0 rfl rfl 7 (by decide) (hts _ wd_1043) (fun _ h9 => h9) rfl d_Model_term_33 ?_
        refine va_put (D := D) (ci := 11) (v := .int (nI v)) (ty := .int) (C := R_Model) (T := F_Model) (N := 72) hx hb hts i_Model t_Model t_Model_ok n_Model hown hK.1 hP hD hS 0 rfl rfl 35 (by decide) (hts _ wd_1071) (fun _ h9 => h9) rfl (by decide +kernel) rfl rfl (Nat.le_of_ble_eq_true rfl) d_Model_term_36 (fun H_355 locs hP1 hD1 hS1 => ?_)
        clear hP hD hS
        have hS := hS1
        have hW7 : (fun w9 : va_W => va_P D classes w9 H_355 ∧ va_D A w9) [(m0, .inr (11, [.int s_thrown, .int s_taped, .ref m1, .int (nI n), .int s_outSize, .ref m2, .int (nI k), .int (nI v), .int (nI b), .int (nI en), .int 0, .ref m3, .ref m4, .ref m5, .int s_isProgram, .int s_half, .ref m6, .ref m7, .ref m8, .ref m9, .ref m10, .ref m11, .ref m12, .ref m13, .ref m14, .ref m15, .ref m16, .ref m17, .ref m18, .ref m19, .ref m20, .int s_signs, .ref m21, .int s_stacked, .ref m22, .int (nI v), .int 0, .int s_statements, .int s_ifs, .int s_whiles, .int s_variants, .int s_open, .ref m23, .int s_isMade, .int s_conditions, .ref m24, .ref m25, .ref m26, .ref m27, .int s_kept, .ref m28, .int s_tops, .ref m29, .int s_used, .ref m30, .ref m31, .int s_looked, .int s_rows, .int s_firstRow, .ref m32, .ref m33, .ref m34, .ref m35, .ref m36, .ref m37, .ref m38, .ref m39, .ref m40, .int s_isBroken, .ref m41, .int s_atoms, .ref m42])), (m1, .inl (ax 0, 400, .inl (fun j => nI (g j))))] := ⟨hP1, hD1⟩
        obtain ⟨hP, hD⟩ := hW7
        clear hP1 hD1 hS1
        refine lv_aload_n hx hb d_Model_term_39 rfl (lv_at hl1 0 rfl) ?_
        obtain ⟨hPc, hDc, hFc, hCs⟩ := xw_sub3 (wc := [(m0, .inr (11, [.int s_thrown, .int s_taped, .ref m1, .int (nI n), .int s_outSize, .ref m2, .int (nI k), .int (nI v), .int (nI b), .int (nI en), .int 0, .ref m3, .ref m4, .ref m5, .int s_isProgram, .int s_half, .ref m6, .ref m7, .ref m8, .ref m9, .ref m10, .ref m11, .ref m12, .ref m13, .ref m14, .ref m15, .ref m16, .ref m17, .ref m18, .ref m19, .ref m20, .int s_signs, .ref m21, .int s_stacked, .ref m22, .int (nI v), .int 0, .int s_statements, .int s_ifs, .int s_whiles, .int s_variants, .int s_open, .ref m23, .int s_isMade, .int s_conditions, .ref m24, .ref m25, .ref m26, .ref m27, .int s_kept, .ref m28, .int s_tops, .ref m29, .int s_used, .ref m30, .ref m31, .int s_looked, .int s_rows, .int s_firstRow, .ref m32, .ref m33, .ref m34, .ref m35, .ref m36, .ref m37, .ref m38, .ref m39, .ref m40, .int s_isBroken, .ref m41, .int s_atoms, .ref m42])), (m1, .inl (ax 0, 400, .inl (fun j => nI (g j))))]) hP hD hS hA [0, 1] (by decide) rfl
        have hz := xz_of hN hS
        refine va_callv (va_runV (As := []) (rest := []) ⟨hx, hb, hml, hown, hts⟩ (c_M_next l D ax m0 m1 m2 m3 m4 m5 m6 m7 m8 m9 m10 m11 m12 m13 m14 m15 m16 m17 m18 m19 m20 m21 m22 m23 m24 m25 m26 m27 m28 m29 m30 m31 m32 m33 m34 m35 m36 m37 m38 m39 m40 m41 m42 s_thrown s_taped s_outSize (nI k) (nI b) 0 s_isProgram s_half s_signs s_stacked (nI v) 0 s_statements s_ifs s_whiles s_variants s_open s_isMade s_conditions s_kept s_tops s_used s_looked s_rows s_firstRow s_isBroken s_atoms n en v g H_355.size hn (by first | assumption | omega) hg (by first | assumption | omega)) (xcV (n := 0) hts wd_1278 wd_15 wd_1275 wd_1277 ps_51 rfl rfl (by decide +kernel) ⟨Nat.le_of_ble_eq_true rfl, Nat.le_of_ble_eq_true rfl⟩) (xpV (ci := 11) (q0 := 0) (As := []) hPc hK hz hDc rfl rfl) rfl rfl hl1.1 rfl (lv_room (Nat.le_of_ble_eq_true rfl)) d_Model_term_40 ⟨Nat.le_of_ble_eq_true rfl, Nat.le_of_ble_eq_true rfl⟩) hS (fun q _ h => hFc q h) hFc (fun u_356 t H_357 locs ht hvm hw hB hz1 hk1 hS1 => ?_)
        try dsimp only at hw
        obtain ⟨-, -, -, hs_362, hs_363, hs_364, hs_365, hs_366, hs_367, hs_368, hs_369⟩ := hw
        obtain ⟨hP1, hD1⟩ := hB
        rw [ht] at hP1
        have hjn := xw_join3 (wl := [(m0, .inr (11, [.int s_thrown, .int s_taped, .ref m1, .int (nI n), .int s_outSize, .ref m2, .int (nI (u_356 2)), .int (nI (u_356 3)), .int (nI (u_356 0)), .int (nI (u_356 1)), .int 0, .ref m3, .ref m4, .ref m5, .int s_isProgram, .int s_half, .ref m6, .ref m7, .ref m8, .ref m9, .ref m10, .ref m11, .ref m12, .ref m13, .ref m14, .ref m15, .ref m16, .ref m17, .ref m18, .ref m19, .ref m20, .int s_signs, .ref m21, .int s_stacked, .ref m22, .int (nI v), .int 0, .int s_statements, .int s_ifs, .int s_whiles, .int s_variants, .int s_open, .ref m23, .int s_isMade, .int s_conditions, .ref m24, .ref m25, .ref m26, .ref m27, .int s_kept, .ref m28, .int s_tops, .ref m29, .int s_used, .ref m30, .ref m31, .int s_looked, .int s_rows, .int s_firstRow, .ref m32, .ref m33, .ref m34, .ref m35, .ref m36, .ref m37, .ref m38, .ref m39, .ref m40, .int s_isBroken, .ref m41, .int s_atoms, .ref m42])), (m1, .inl (ax 0, 400, .inl (fun j => nI (g j))))]) hP hD [0, 1] [] hCs (by decide) (by decide) hk1 hFc hP1 hD1 rfl
        clear hP1 hD1
        clear hPc hDc hFc hCs hz hz1 hk1 ht hvm
        clear hP hD hS
        have hS := hS1
        obtain ⟨hP, hD⟩ := hjn
        clear hS1
        refine lv_aload_n hx hb d_Model_term_43 rfl (lv_at hl1 0 rfl) ?_
        refine lv_bipush (v := 43) hx hb d_Model_term_44 (by decide) ?_
        obtain ⟨hPc, hDc, hFc, hCs⟩ := xw_sub3 (wc := [(m0, .inr (11, [.int s_thrown, .int s_taped, .ref m1, .int (nI n), .int s_outSize, .ref m2, .int (nI (u_356 2)), .int (nI (u_356 3)), .int (nI (u_356 0)), .int (nI (u_356 1)), .int 0, .ref m3, .ref m4, .ref m5, .int s_isProgram, .int s_half, .ref m6, .ref m7, .ref m8, .ref m9, .ref m10, .ref m11, .ref m12, .ref m13, .ref m14, .ref m15, .ref m16, .ref m17, .ref m18, .ref m19, .ref m20, .int s_signs, .ref m21, .int s_stacked, .ref m22, .int (nI v), .int 0, .int s_statements, .int s_ifs, .int s_whiles, .int s_variants, .int s_open, .ref m23, .int s_isMade, .int s_conditions, .ref m24, .ref m25, .ref m26, .ref m27, .int s_kept, .ref m28, .int s_tops, .ref m29, .int s_used, .ref m30, .ref m31, .int s_looked, .int s_rows, .int s_firstRow, .ref m32, .ref m33, .ref m34, .ref m35, .ref m36, .ref m37, .ref m38, .ref m39, .ref m40, .int s_isBroken, .ref m41, .int s_atoms, .ref m42]))]) hP hD hS hA [0] (by decide) rfl
        have hz := xz_of hN hS
        refine va_calli (va_runV (As := [.int 43]) (rest := []) ⟨hx, hb, hml, hown, hts⟩ (c_M_is l D ax m0 m1 m2 m3 m4 m5 m6 m7 m8 m9 m10 m11 m12 m13 m14 m15 m16 m17 m18 m19 m20 m21 m22 m23 m24 m25 m26 m27 m28 m29 m30 m31 m32 m33 m34 m35 m36 m37 m38 m39 m40 m41 m42 s_thrown s_taped (nI n) s_outSize (nI (u_356 3)) (nI (u_356 0)) (nI (u_356 1)) 0 s_isProgram s_half s_signs s_stacked (nI v) 0 s_statements s_ifs s_whiles s_variants s_open s_isMade s_conditions s_kept s_tops s_used s_looked s_rows s_firstRow s_isBroken s_atoms (u_356 2) 43 H_357.size (by first | assumption | omega) (by first | assumption | omega)) (xcV (n := 1) hts wd_1319 wd_15 wd_1316 wd_1318 ps_57 rfl rfl (by decide +kernel) ⟨Nat.le_of_ble_eq_true rfl, Nat.le_of_ble_eq_true rfl⟩) (xpV (ci := 11) (q0 := 0) (As := [.int 43]) hPc hK hz hDc rfl rfl) rfl rfl hl1.1 rfl (lv_room (Nat.le_of_ble_eq_true rfl)) d_Model_term_46 ⟨Nat.le_of_ble_eq_true rfl, Nat.le_of_ble_eq_true rfl⟩) hS (fun q _ h => hFc q h) hFc (fun r_372 u_370 t H_371 locs ht hvm hw hB hz1 hk1 hS1 => ?_)
        try dsimp only at hw
        subst hw
        obtain ⟨hP1, hD1⟩ := hB
        rw [ht] at hP1
        have hjn := xw_join3 (wl := [(m1, .inl (ax 0, 400, .inl (fun j => nI (g j)))), (m0, .inr (11, [.int s_thrown, .int s_taped, .ref m1, .int (nI n), .int s_outSize, .ref m2, .int (nI (u_356 2)), .int (nI (u_356 3)), .int (nI (u_356 0)), .int (nI (u_356 1)), .int 0, .ref m3, .ref m4, .ref m5, .int s_isProgram, .int s_half, .ref m6, .ref m7, .ref m8, .ref m9, .ref m10, .ref m11, .ref m12, .ref m13, .ref m14, .ref m15, .ref m16, .ref m17, .ref m18, .ref m19, .ref m20, .int s_signs, .ref m21, .int s_stacked, .ref m22, .int (nI v), .int 0, .int s_statements, .int s_ifs, .int s_whiles, .int s_variants, .int s_open, .ref m23, .int s_isMade, .int s_conditions, .ref m24, .ref m25, .ref m26, .ref m27, .int s_kept, .ref m28, .int s_tops, .ref m29, .int s_used, .ref m30, .ref m31, .int s_looked, .int s_rows, .int s_firstRow, .ref m32, .ref m33, .ref m34, .ref m35, .ref m36, .ref m37, .ref m38, .ref m39, .ref m40, .int s_isBroken, .ref m41, .int s_atoms, .ref m42]))]) hP hD [0] [1] hCs (by decide) (by decide) hk1 hFc hP1 hD1 rfl
        clear hP1 hD1
        clear hPc hDc hFc hCs hz hz1 hk1 ht hvm
        clear hP hD hS
        have hS := hS1
        obtain ⟨hP, hD⟩ := hjn
        clear hS1
        refine lv_if_ne (tgt := 61) hx hb d_Model_term_49 (by decide) (fun c_373 => ?_) (fun c_373 => ?_)
        · replace c_373 : ((u_356 2) = 200 + 43) := zb_y c_373
          refine lv_aload_n hx hb d_Model_term_61 rfl (lv_at hl1 0 rfl) ?_
          refine lv_bipush (v := 45) hx hb d_Model_term_62 (by decide) ?_
          obtain ⟨hPc, hDc, hFc, hCs⟩ := xw_sub3 (wc := [(m0, .inr (11, [.int s_thrown, .int s_taped, .ref m1, .int (nI n), .int s_outSize, .ref m2, .int (nI (u_356 2)), .int (nI (u_356 3)), .int (nI (u_356 0)), .int (nI (u_356 1)), .int 0, .ref m3, .ref m4, .ref m5, .int s_isProgram, .int s_half, .ref m6, .ref m7, .ref m8, .ref m9, .ref m10, .ref m11, .ref m12, .ref m13, .ref m14, .ref m15, .ref m16, .ref m17, .ref m18, .ref m19, .ref m20, .int s_signs, .ref m21, .int s_stacked, .ref m22, .int (nI v), .int 0, .int s_statements, .int s_ifs, .int s_whiles, .int s_variants, .int s_open, .ref m23, .int s_isMade, .int s_conditions, .ref m24, .ref m25, .ref m26, .ref m27, .int s_kept, .ref m28, .int s_tops, .ref m29, .int s_used, .ref m30, .ref m31, .int s_looked, .int s_rows, .int s_firstRow, .ref m32, .ref m33, .ref m34, .ref m35, .ref m36, .ref m37, .ref m38, .ref m39, .ref m40, .int s_isBroken, .ref m41, .int s_atoms, .ref m42]))]) hP hD hS hA [1] (by decide) rfl
          have hz := xz_of hN hS
          refine va_calli (va_runV (As := [.int 45]) (rest := []) ⟨hx, hb, hml, hown, hts⟩ (c_M_is l D ax m0 m1 m2 m3 m4 m5 m6 m7 m8 m9 m10 m11 m12 m13 m14 m15 m16 m17 m18 m19 m20 m21 m22 m23 m24 m25 m26 m27 m28 m29 m30 m31 m32 m33 m34 m35 m36 m37 m38 m39 m40 m41 m42 s_thrown s_taped (nI n) s_outSize (nI (u_356 3)) (nI (u_356 0)) (nI (u_356 1)) 0 s_isProgram s_half s_signs s_stacked (nI v) 0 s_statements s_ifs s_whiles s_variants s_open s_isMade s_conditions s_kept s_tops s_used s_looked s_rows s_firstRow s_isBroken s_atoms (u_356 2) 45 H_371.size (by first | assumption | omega) (by first | assumption | omega)) (xcV (n := 1) hts wd_1319 wd_15 wd_1316 wd_1318 ps_57 rfl rfl (by decide +kernel) ⟨Nat.le_of_ble_eq_true rfl, Nat.le_of_ble_eq_true rfl⟩) (xpV (ci := 11) (q0 := 0) (As := [.int 45]) hPc hK hz hDc rfl rfl) rfl rfl hl1.1 rfl (lv_room (Nat.le_of_ble_eq_true rfl)) d_Model_term_64 ⟨Nat.le_of_ble_eq_true rfl, Nat.le_of_ble_eq_true rfl⟩) hS (fun q _ h => hFc q h) hFc (fun r_376 u_374 t H_375 locs ht hvm hw hB hz1 hk1 hS1 => ?_)
          try dsimp only at hw
          subst hw
          obtain ⟨hP1, hD1⟩ := hB
          rw [ht] at hP1
          have hjn := xw_join3 (wl := [(m1, .inl (ax 0, 400, .inl (fun j => nI (g j)))), (m0, .inr (11, [.int s_thrown, .int s_taped, .ref m1, .int (nI n), .int s_outSize, .ref m2, .int (nI (u_356 2)), .int (nI (u_356 3)), .int (nI (u_356 0)), .int (nI (u_356 1)), .int 0, .ref m3, .ref m4, .ref m5, .int s_isProgram, .int s_half, .ref m6, .ref m7, .ref m8, .ref m9, .ref m10, .ref m11, .ref m12, .ref m13, .ref m14, .ref m15, .ref m16, .ref m17, .ref m18, .ref m19, .ref m20, .int s_signs, .ref m21, .int s_stacked, .ref m22, .int (nI v), .int 0, .int s_statements, .int s_ifs, .int s_whiles, .int s_variants, .int s_open, .ref m23, .int s_isMade, .int s_conditions, .ref m24, .ref m25, .ref m26, .ref m27, .int s_kept, .ref m28, .int s_tops, .ref m29, .int s_used, .ref m30, .ref m31, .int s_looked, .int s_rows, .int s_firstRow, .ref m32, .ref m33, .ref m34, .ref m35, .ref m36, .ref m37, .ref m38, .ref m39, .ref m40, .int s_isBroken, .ref m41, .int s_atoms, .ref m42]))]) hP hD [1] [0] hCs (by decide) (by decide) hk1 hFc hP1 hD1 rfl
          clear hP1 hD1
          clear hPc hDc hFc hCs hz hz1 hk1 ht hvm
          clear hP hD hS
          have hS := hS1
          obtain ⟨hP, hD⟩ := hjn
          clear hS1
          refine lv_istore_n (lv' := [(2, .int (zb ((u_356 2) = 200 + 45))), (0, .ref m0), (1, .int (nI gh))]) hx hb d_Model_term_67 rfl hl1 (by decide) rfl (fun ls hl2 => ?_)
          clear hl1; have hl1 := hl2; clear hl2
          refine lv_aload_n hx hb d_Model_term_68 rfl (lv_at hl1 1 rfl) ?_
          obtain ⟨hPc, hDc, hFc, hCs⟩ := xw_sub3 (wc := [(m0, .inr (11, [.int s_thrown, .int s_taped, .ref m1, .int (nI n), .int s_outSize, .ref m2, .int (nI (u_356 2)), .int (nI (u_356 3)), .int (nI (u_356 0)), .int (nI (u_356 1)), .int 0, .ref m3, .ref m4, .ref m5, .int s_isProgram, .int s_half, .ref m6, .ref m7, .ref m8, .ref m9, .ref m10, .ref m11, .ref m12, .ref m13, .ref m14, .ref m15, .ref m16, .ref m17, .ref m18, .ref m19, .ref m20, .int s_signs, .ref m21, .int s_stacked, .ref m22, .int (nI v), .int 0, .int s_statements, .int s_ifs, .int s_whiles, .int s_variants, .int s_open, .ref m23, .int s_isMade, .int s_conditions, .ref m24, .ref m25, .ref m26, .ref m27, .int s_kept, .ref m28, .int s_tops, .ref m29, .int s_used, .ref m30, .ref m31, .int s_looked, .int s_rows, .int s_firstRow, .ref m32, .ref m33, .ref m34, .ref m35, .ref m36, .ref m37, .ref m38, .ref m39, .ref m40, .int s_isBroken, .ref m41, .int s_atoms, .ref m42])), (m1, .inl (ax 0, 400, .inl (fun j => nI (g j))))]) hP hD hS hA [1, 0] (by decide) rfl
          have hz := xz_of hN hS
          refine va_callv (va_runV (As := []) (rest := []) ⟨hx, hb, hml, hown, hts⟩ (c_M_next l D ax m0 m1 m2 m3 m4 m5 m6 m7 m8 m9 m10 m11 m12 m13 m14 m15 m16 m17 m18 m19 m20 m21 m22 m23 m24 m25 m26 m27 m28 m29 m30 m31 m32 m33 m34 m35 m36 m37 m38 m39 m40 m41 m42 s_thrown s_taped s_outSize (nI (u_356 2)) (nI (u_356 0)) 0 s_isProgram s_half s_signs s_stacked (nI v) 0 s_statements s_ifs s_whiles s_variants s_open s_isMade s_conditions s_kept s_tops s_used s_looked s_rows s_firstRow s_isBroken s_atoms n (u_356 1) (u_356 3) g H_375.size hn (by first | assumption | omega) hg (by first | assumption | omega)) (xcV (n := 0) hts wd_1278 wd_15 wd_1275 wd_1277 ps_51 rfl rfl (by decide +kernel) ⟨Nat.le_of_ble_eq_true rfl, Nat.le_of_ble_eq_true rfl⟩) (xpV (ci := 11) (q0 := 0) (As := []) hPc hK hz hDc rfl rfl) rfl rfl hl1.1 rfl (lv_room (Nat.le_of_ble_eq_true rfl)) d_Model_term_69 ⟨Nat.le_of_ble_eq_true rfl, Nat.le_of_ble_eq_true rfl⟩) hS (fun q _ h => hFc q h) hFc (fun u_377 t H_378 locs ht hvm hw hB hz1 hk1 hS1 => ?_)
          try dsimp only at hw
          obtain ⟨-, -, -, hs_383, hs_384, hs_385, hs_386, hs_387, hs_388, hs_389, hs_390⟩ := hw
          obtain ⟨hP1, hD1⟩ := hB
          rw [ht] at hP1
          have hjn := xw_join3 (wl := [(m0, .inr (11, [.int s_thrown, .int s_taped, .ref m1, .int (nI n), .int s_outSize, .ref m2, .int (nI (u_377 2)), .int (nI (u_377 3)), .int (nI (u_377 0)), .int (nI (u_377 1)), .int 0, .ref m3, .ref m4, .ref m5, .int s_isProgram, .int s_half, .ref m6, .ref m7, .ref m8, .ref m9, .ref m10, .ref m11, .ref m12, .ref m13, .ref m14, .ref m15, .ref m16, .ref m17, .ref m18, .ref m19, .ref m20, .int s_signs, .ref m21, .int s_stacked, .ref m22, .int (nI v), .int 0, .int s_statements, .int s_ifs, .int s_whiles, .int s_variants, .int s_open, .ref m23, .int s_isMade, .int s_conditions, .ref m24, .ref m25, .ref m26, .ref m27, .int s_kept, .ref m28, .int s_tops, .ref m29, .int s_used, .ref m30, .ref m31, .int s_looked, .int s_rows, .int s_firstRow, .ref m32, .ref m33, .ref m34, .ref m35, .ref m36, .ref m37, .ref m38, .ref m39, .ref m40, .int s_isBroken, .ref m41, .int s_atoms, .ref m42])), (m1, .inl (ax 0, 400, .inl (fun j => nI (g j))))]) hP hD [1, 0] [] hCs (by decide) (by decide) hk1 hFc hP1 hD1 rfl
          clear hP1 hD1
          clear hPc hDc hFc hCs hz hz1 hk1 ht hvm
          clear hP hD hS
          have hS := hS1
          obtain ⟨hP, hD⟩ := hjn
          clear hS1
          refine lv_aload_n hx hb d_Model_term_72 rfl (lv_at hl1 1 rfl) ?_
          refine lv_iload_n hx hb d_Model_term_73 rfl (lv_at hl1 0 rfl) ?_
          refine lv_if_eq (tgt := 85) hx hb d_Model_term_74 (by decide) (fun c_391 => ?_) (fun c_391 => ?_)
          · replace c_391 : ¬ ((u_356 2) = 200 + 45) := zb_n c_391
            refine lv_aload_n hx hb d_Model_term_85 rfl (lv_at hl1 1 rfl) ?_
            refine va_get (D := D) (ci := 11) (v := .int (nI (u_377 3))) (C := R_Model) (T := F_Model) (N := 72) hx hb hts i_Model hown hK.1 hP 0 rfl rfl 7 (by decide) (hts _ wd_1043) (fun _ h9 => h9) rfl d_Model_term_86 ?_
            refine va_put (D := D) (ci := 11) (v := .int (nI (u_377 3))) (ty := .int) (C := R_Model) (T := F_Model) (N := 72) hx hb hts i_Model t_Model t_Model_ok n_Model hown hK.1 hP hD hS 0 rfl rfl 36 (by decide) (hts _ wd_1072) (fun _ h9 => h9) rfl (by decide +kernel) rfl rfl (Nat.le_of_ble_eq_true rfl) d_Model_term_89 (fun H_392 locs hP1 hD1 hS1 => ?_)
            clear hP hD hS
            have hS := hS1
            have hW7 : (fun w9 : va_W => va_P D classes w9 H_392 ∧ va_D A w9) [(m0, .inr (11, [.int s_thrown, .int s_taped, .ref m1, .int (nI n), .int s_outSize, .ref m2, .int (nI (u_377 2)), .int (nI (u_377 3)), .int (nI (u_377 0)), .int (nI (u_377 1)), .int 0, .ref m3, .ref m4, .ref m5, .int s_isProgram, .int s_half, .ref m6, .ref m7, .ref m8, .ref m9, .ref m10, .ref m11, .ref m12, .ref m13, .ref m14, .ref m15, .ref m16, .ref m17, .ref m18, .ref m19, .ref m20, .int s_signs, .ref m21, .int s_stacked, .ref m22, .int (nI v), .int (nI (u_377 3)), .int s_statements, .int s_ifs, .int s_whiles, .int s_variants, .int s_open, .ref m23, .int s_isMade, .int s_conditions, .ref m24, .ref m25, .ref m26, .ref m27, .int s_kept, .ref m28, .int s_tops, .ref m29, .int s_used, .ref m30, .ref m31, .int s_looked, .int s_rows, .int s_firstRow, .ref m32, .ref m33, .ref m34, .ref m35, .ref m36, .ref m37, .ref m38, .ref m39, .ref m40, .int s_isBroken, .ref m41, .int s_atoms, .ref m42])), (m1, .inl (ax 0, 400, .inl (fun j => nI (g j))))] := ⟨hP1, hD1⟩
            obtain ⟨hP, hD⟩ := hW7
            clear hP1 hD1 hS1
            refine lv_aload_n hx hb d_Model_term_92 rfl (lv_at hl1 1 rfl) ?_
            refine lv_aload_n hx hb d_Model_term_93 rfl (lv_at hl1 1 rfl) ?_
            refine va_get (D := D) (ci := 11) (v := .int (nI (u_377 2))) (C := R_Model) (T := F_Model) (N := 72) hx hb hts i_Model hown hK.1 hP 0 rfl rfl 6 (by decide) (hts _ wd_1042) (fun _ h9 => h9) rfl d_Model_term_94 ?_
            refine lv_iconst (v := 3) hx hb d_Model_term_97 (by decide) ?_
            refine lv_icmp_ne (tgt := 105) hx hb d_Model_term_98 (by decide) (fun c_393 => ?_) (fun c_393 => ?_)
            · replace c_393 : ¬ u_377 2 = 3 := fun hq9 => c_393 ((nI_eq (a := u_377 2) (b := 3) (by first | exact Nat.lt_of_lt_of_le (by assumption) (by decide) | exact Nat.lt_of_le_of_lt (by assumption) (by decide) | omega) (by decide)).mpr hq9)
              refine lv_iconst (v := 0) hx hb d_Model_term_105 (by decide) ?_
              obtain ⟨hPc, hDc, hFc, hCs⟩ := xw_sub3 (wc := [(m0, .inr (11, [.int s_thrown, .int s_taped, .ref m1, .int (nI n), .int s_outSize, .ref m2, .int (nI (u_377 2)), .int (nI (u_377 3)), .int (nI (u_377 0)), .int (nI (u_377 1)), .int 0, .ref m3, .ref m4, .ref m5, .int s_isProgram, .int s_half, .ref m6, .ref m7, .ref m8, .ref m9, .ref m10, .ref m11, .ref m12, .ref m13, .ref m14, .ref m15, .ref m16, .ref m17, .ref m18, .ref m19, .ref m20, .int s_signs, .ref m21, .int s_stacked, .ref m22, .int (nI v), .int (nI (u_377 3)), .int s_statements, .int s_ifs, .int s_whiles, .int s_variants, .int s_open, .ref m23, .int s_isMade, .int s_conditions, .ref m24, .ref m25, .ref m26, .ref m27, .int s_kept, .ref m28, .int s_tops, .ref m29, .int s_used, .ref m30, .ref m31, .int s_looked, .int s_rows, .int s_firstRow, .ref m32, .ref m33, .ref m34, .ref m35, .ref m36, .ref m37, .ref m38, .ref m39, .ref m40, .int s_isBroken, .ref m41, .int s_atoms, .ref m42]))]) hP hD hS hA [0] (by decide) rfl
              have hz := xz_of hN hS
              refine va_callv (va_runV (As := [.int 0]) (rest := []) ⟨hx, hb, hml, hown, hts⟩ (c_M_must_0 l D ax m0 m1 m2 m3 m4 m5 m6 m7 m8 m9 m10 m11 m12 m13 m14 m15 m16 m17 m18 m19 m20 m21 m22 m23 m24 m25 m26 m27 m28 m29 m30 m31 m32 m33 m34 m35 m36 m37 m38 m39 m40 m41 m42 s_thrown s_taped (nI n) s_outSize (nI (u_377 2)) (nI (u_377 3)) (nI (u_377 0)) (nI (u_377 1)) s_isProgram s_half s_signs s_stacked (nI v) (nI (u_377 3)) s_statements s_ifs s_whiles s_variants s_open s_isMade s_conditions s_kept s_tops s_used s_looked s_rows s_firstRow s_isBroken s_atoms H_392.size) (xcV (n := 1) hts wd_1335 wd_15 wd_1332 wd_1334 ps_61 rfl rfl (by decide +kernel) ⟨Nat.le_of_ble_eq_true rfl, Nat.le_of_ble_eq_true rfl⟩) (xpV (ci := 11) (q0 := 0) (As := [.int 0]) hPc hK hz hDc rfl rfl) rfl rfl hl1.1 rfl (lv_room (Nat.le_of_ble_eq_true rfl)) d_Model_term_106 ⟨Nat.le_of_ble_eq_true rfl, Nat.le_of_ble_eq_true rfl⟩) hS (fun q _ h => hFc q h) hFc (fun u_394 t H_395 locs ht hvm hw hB hz1 hk1 hS1 => ?_)
              try dsimp only at hw
              obtain ⟨hP1, hD1⟩ := hB
              rw [ht] at hP1
              have hjn := xw_join3 (wl := [(m1, .inl (ax 0, 400, .inl (fun j => nI (g j)))), (m0, .inr (11, [.int s_thrown, .int s_taped, .ref m1, .int (nI n), .int s_outSize, .ref m2, .int (nI (u_377 2)), .int (nI (u_377 3)), .int (nI (u_377 0)), .int (nI (u_377 1)), .int 1, .ref m3, .ref m4, .ref m5, .int s_isProgram, .int s_half, .ref m6, .ref m7, .ref m8, .ref m9, .ref m10, .ref m11, .ref m12, .ref m13, .ref m14, .ref m15, .ref m16, .ref m17, .ref m18, .ref m19, .ref m20, .int s_signs, .ref m21, .int s_stacked, .ref m22, .int (nI v), .int (nI (u_377 3)), .int s_statements, .int s_ifs, .int s_whiles, .int s_variants, .int s_open, .ref m23, .int s_isMade, .int s_conditions, .ref m24, .ref m25, .ref m26, .ref m27, .int s_kept, .ref m28, .int s_tops, .ref m29, .int s_used, .ref m30, .ref m31, .int s_looked, .int s_rows, .int s_firstRow, .ref m32, .ref m33, .ref m34, .ref m35, .ref m36, .ref m37, .ref m38, .ref m39, .ref m40, .int s_isBroken, .ref m41, .int s_atoms, .ref m42]))]) hP hD [0] [1] hCs (by decide) (by decide) hk1 hFc hP1 hD1 rfl
              clear hP1 hD1
              clear hPc hDc hFc hCs hz hz1 hk1 ht hvm
              clear hP hD hS
              have hS := hS1
              obtain ⟨hP, hD⟩ := hjn
              clear hS1
              rw [← hQe]
              obtain ⟨hP9, hD9⟩ := xw_sub2 (wc := (fun (u : Nat → Nat) (xnm : Int32) (xsh : Int32) => [(m0, .inr (11, [.int s_thrown, .int s_taped, .ref m1, .int (nI n), .int s_outSize, .ref m2, .int (nI (u 2)), .int (nI (u 3)), .int (nI (u 0)), .int (nI (u 1)), .int (nI (u 4)), .ref m3, .ref m4, .ref m5, .int s_isProgram, .int s_half, .ref m6, .ref m7, .ref m8, .ref m9, .ref m10, .ref m11, .ref m12, .ref m13, .ref m14, .ref m15, .ref m16, .ref m17, .ref m18, .ref m19, .ref m20, .int s_signs, .ref m21, .int s_stacked, .ref m22, .int xnm, .int xsh, .int s_statements, .int s_ifs, .int s_whiles, .int s_variants, .int s_open, .ref m23, .int s_isMade, .int s_conditions, .ref m24, .ref m25, .ref m26, .ref m27, .int s_kept, .ref m28, .int s_tops, .ref m29, .int s_used, .ref m30, .ref m31, .int s_looked, .int s_rows, .int s_firstRow, .ref m32, .ref m33, .ref m34, .ref m35, .ref m36, .ref m37, .ref m38, .ref m39, .ref m40, .int s_isBroken, .ref m41, .int s_atoms, .ref m42])), (m1, .inl (ax 0, 400, .inl (fun j => nI (g j))))]) (ixn [(u_377 0), (u_377 1), (u_377 2), (u_377 3), 1]) (nI v) (nI (u_377 3))) hP hD [1, 0] (by decide) rfl
              have hex0 : nmo (6 + 4 * gh) (nI v) := (by first | exact Or.inl rfl | exact Or.inr ⟨_, by omega, rfl⟩ | assumption)
              have hex1 : imp0 (1) (tmQ (nI v) (nI (u_377 3)) (trmV (kd g n) (nxt g n) (kv g n) gh b)) := (Or.inl rfl)
              have hsp0 : b ≤ (u_377 0) := (by first | assumption | omega)
              have hsp1 : (u_377 0) ≤ (u_377 1) := (by first | assumption | omega)
              have hsp2 : (u_377 1) ≤ n := (by first | assumption | omega)
              have hsp3 : tk0 ((u_377 2)) ((u_377 0)) ((u_377 1)) := (by assumption)
              have hsp4 : (u_377 2) < 10000 := (by first | assumption | omega)
              have hsp5 : (u_377 3) < 20000 := (by first | assumption | omega)
              have hsp6 : tkq g n ((u_377 0)) ((u_377 1)) ((u_377 2)) ((u_377 3)) := (by assumption)
              have hsp7 : 1 ≤ 1 := (by first | assumption | omega)
              have hsp8 : imp0 (1) (b < (u_377 0)) := (Or.inl rfl)
              have hsp9 : trmG (kd g n) (nxt g n) gh b = (1, (u_377 0)) := (by first | exact trm_c hkv (by first | assumption | omega) hs_369 hs_362 (by first | assumption | omega) hs_390 hs_383 (by first | assumption | omega))
              exact W.vret hx hb hr (fun t ht hW => ⟨⟨ixn [(u_377 0), (u_377 1), (u_377 2), (u_377 3), 1], rfl, ⟨hsp0, hsp1, hsp2, hsp3, hsp4, hsp5, hsp6, hsp7, hsp8, hsp9⟩, ⟨nI v, nI (u_377 3), hex0, hex1, by rw [ht]; exact hP9, hD9⟩⟩, hS.F ht⟩) hS.2.2 d_Model_term_109
            · replace c_393 : u_377 2 = 3 := (nI_eq (a := u_377 2) (b := 3) (by first | exact Nat.lt_of_lt_of_le (by assumption) (by decide) | exact Nat.lt_of_le_of_lt (by assumption) (by decide) | omega) (by decide)).mp c_393
              have hlt_397 : u_377 0 < u_377 1 := tk0.lt (by assumption) (by first | assumption | omega)
              refine lv_iconst (v := 1) hx hb d_Model_term_101 (by decide) ?_
              refine lv_goto (tgt := 106) hx hb d_Model_term_102 (by decide) ?_
              obtain ⟨hPc, hDc, hFc, hCs⟩ := xw_sub3 (wc := [(m0, .inr (11, [.int s_thrown, .int s_taped, .ref m1, .int (nI n), .int s_outSize, .ref m2, .int (nI (u_377 2)), .int (nI (u_377 3)), .int (nI (u_377 0)), .int (nI (u_377 1)), .int 0, .ref m3, .ref m4, .ref m5, .int s_isProgram, .int s_half, .ref m6, .ref m7, .ref m8, .ref m9, .ref m10, .ref m11, .ref m12, .ref m13, .ref m14, .ref m15, .ref m16, .ref m17, .ref m18, .ref m19, .ref m20, .int s_signs, .ref m21, .int s_stacked, .ref m22, .int (nI v), .int (nI (u_377 3)), .int s_statements, .int s_ifs, .int s_whiles, .int s_variants, .int s_open, .ref m23, .int s_isMade, .int s_conditions, .ref m24, .ref m25, .ref m26, .ref m27, .int s_kept, .ref m28, .int s_tops, .ref m29, .int s_used, .ref m30, .ref m31, .int s_looked, .int s_rows, .int s_firstRow, .ref m32, .ref m33, .ref m34, .ref m35, .ref m36, .ref m37, .ref m38, .ref m39, .ref m40, .int s_isBroken, .ref m41, .int s_atoms, .ref m42])), (m1, .inl (ax 0, 400, .inl (fun j => nI (g j))))]) hP hD hS hA [0, 1] (by decide) rfl
              have hz := xz_of hN hS
              refine va_callv (va_runV (As := [.int 1]) (rest := []) ⟨hx, hb, hml, hown, hts⟩ (c_M_must_1 l D ax m0 m1 m2 m3 m4 m5 m6 m7 m8 m9 m10 m11 m12 m13 m14 m15 m16 m17 m18 m19 m20 m21 m22 m23 m24 m25 m26 m27 m28 m29 m30 m31 m32 m33 m34 m35 m36 m37 m38 m39 m40 m41 m42 s_thrown s_taped s_outSize (nI (u_377 2)) (nI (u_377 0)) s_isProgram s_half s_signs s_stacked (nI v) (nI (u_377 3)) s_statements s_ifs s_whiles s_variants s_open s_isMade s_conditions s_kept s_tops s_used s_looked s_rows s_firstRow s_isBroken s_atoms n (u_377 1) (u_377 3) g H_392.size hn (by first | assumption | omega) hg (by first | assumption | omega)) (xcV (n := 1) hts wd_1335 wd_15 wd_1332 wd_1334 ps_61 rfl rfl (by decide +kernel) ⟨Nat.le_of_ble_eq_true rfl, Nat.le_of_ble_eq_true rfl⟩) (xpV (ci := 11) (q0 := 0) (As := [.int 1]) hPc hK hz hDc rfl rfl) rfl rfl hl1.1 rfl (lv_room (Nat.le_of_ble_eq_true rfl)) d_Model_term_106 ⟨Nat.le_of_ble_eq_true rfl, Nat.le_of_ble_eq_true rfl⟩) hS (fun q _ h => hFc q h) hFc (fun u_398 t H_399 locs ht hvm hw hB hz1 hk1 hS1 => ?_)
              try dsimp only at hw
              obtain ⟨-, -, -, hs_404, hs_405, hs_406, hs_407, hs_408, hs_409, hs_410, hs_411⟩ := hw
              obtain ⟨hP1, hD1⟩ := hB
              rw [ht] at hP1
              have hjn := xw_join3 (wl := [(m0, .inr (11, [.int s_thrown, .int s_taped, .ref m1, .int (nI n), .int s_outSize, .ref m2, .int (nI (u_398 2)), .int (nI (u_398 3)), .int (nI (u_398 0)), .int (nI (u_398 1)), .int 0, .ref m3, .ref m4, .ref m5, .int s_isProgram, .int s_half, .ref m6, .ref m7, .ref m8, .ref m9, .ref m10, .ref m11, .ref m12, .ref m13, .ref m14, .ref m15, .ref m16, .ref m17, .ref m18, .ref m19, .ref m20, .int s_signs, .ref m21, .int s_stacked, .ref m22, .int (nI v), .int (nI (u_377 3)), .int s_statements, .int s_ifs, .int s_whiles, .int s_variants, .int s_open, .ref m23, .int s_isMade, .int s_conditions, .ref m24, .ref m25, .ref m26, .ref m27, .int s_kept, .ref m28, .int s_tops, .ref m29, .int s_used, .ref m30, .ref m31, .int s_looked, .int s_rows, .int s_firstRow, .ref m32, .ref m33, .ref m34, .ref m35, .ref m36, .ref m37, .ref m38, .ref m39, .ref m40, .int s_isBroken, .ref m41, .int s_atoms, .ref m42])), (m1, .inl (ax 0, 400, .inl (fun j => nI (g j))))]) hP hD [0, 1] [] hCs (by decide) (by decide) hk1 hFc hP1 hD1 rfl
              clear hP1 hD1
              clear hPc hDc hFc hCs hz hz1 hk1 ht hvm
              clear hP hD hS
              have hS := hS1
              obtain ⟨hP, hD⟩ := hjn
              clear hS1
              rw [← hQe]
              obtain ⟨hP9, hD9⟩ := xw_sub2 (wc := (fun (u : Nat → Nat) (xnm : Int32) (xsh : Int32) => [(m0, .inr (11, [.int s_thrown, .int s_taped, .ref m1, .int (nI n), .int s_outSize, .ref m2, .int (nI (u 2)), .int (nI (u 3)), .int (nI (u 0)), .int (nI (u 1)), .int (nI (u 4)), .ref m3, .ref m4, .ref m5, .int s_isProgram, .int s_half, .ref m6, .ref m7, .ref m8, .ref m9, .ref m10, .ref m11, .ref m12, .ref m13, .ref m14, .ref m15, .ref m16, .ref m17, .ref m18, .ref m19, .ref m20, .int s_signs, .ref m21, .int s_stacked, .ref m22, .int xnm, .int xsh, .int s_statements, .int s_ifs, .int s_whiles, .int s_variants, .int s_open, .ref m23, .int s_isMade, .int s_conditions, .ref m24, .ref m25, .ref m26, .ref m27, .int s_kept, .ref m28, .int s_tops, .ref m29, .int s_used, .ref m30, .ref m31, .int s_looked, .int s_rows, .int s_firstRow, .ref m32, .ref m33, .ref m34, .ref m35, .ref m36, .ref m37, .ref m38, .ref m39, .ref m40, .int s_isBroken, .ref m41, .int s_atoms, .ref m42])), (m1, .inl (ax 0, 400, .inl (fun j => nI (g j))))]) (ixn [(u_398 0), (u_398 1), (u_398 2), (u_398 3), 0]) (nI v) (nI (u_377 3))) hP hD [0, 1] (by decide) rfl
              have hex0 : nmo (6 + 4 * gh) (nI v) := (by first | exact Or.inl rfl | exact Or.inr ⟨_, by omega, rfl⟩ | assumption)
              have hex1 : imp0 (0) (tmQ (nI v) (nI (u_377 3)) (trmV (kd g n) (nxt g n) (kv g n) gh b)) := (Or.inr (by first | exact trv_p hkv (by first | assumption | omega) hs_369 hs_362 (by first | assumption | omega) hs_390 hs_383 (by first | assumption | omega) (by first | rfl | assumption | (exfalso; omega)) | exact trv_m hkv (by first | assumption | omega) hs_369 hs_362 (by first | assumption | omega) hs_390 hs_383 (by first | assumption | omega) (by first | rfl | assumption | (exfalso; omega))))
              have hsp0 : b ≤ (u_398 0) := (by first | assumption | omega)
              have hsp1 : (u_398 0) ≤ (u_398 1) := (by first | assumption | omega)
              have hsp2 : (u_398 1) ≤ n := (by first | assumption | omega)
              have hsp3 : tk0 ((u_398 2)) ((u_398 0)) ((u_398 1)) := (by assumption)
              have hsp4 : (u_398 2) < 10000 := (by first | assumption | omega)
              have hsp5 : (u_398 3) < 20000 := (by first | assumption | omega)
              have hsp6 : tkq g n ((u_398 0)) ((u_398 1)) ((u_398 2)) ((u_398 3)) := (by assumption)
              have hsp7 : 0 ≤ 1 := (by first | assumption | omega)
              have hsp8 : imp0 (0) (b < (u_398 0)) := (Or.inr (by first | assumption | omega))
              have hsp9 : trmG (kd g n) (nxt g n) gh b = (0, (u_398 0)) := (by first | exact trm_b hkv (by first | assumption | omega) hs_369 hs_362 (by first | assumption | omega) hs_390 hs_383 (by first | assumption | omega) hs_404)
              exact W.vret hx hb hr (fun t ht hW => ⟨⟨ixn [(u_398 0), (u_398 1), (u_398 2), (u_398 3), 0], rfl, ⟨hsp0, hsp1, hsp2, hsp3, hsp4, hsp5, hsp6, hsp7, hsp8, hsp9⟩, ⟨nI v, nI (u_377 3), hex0, hex1, by rw [ht]; exact hP9, hD9⟩⟩, hS.F ht⟩) hS.2.2 d_Model_term_109
          · replace c_391 : ((u_356 2) = 200 + 45) := zb_y c_391
            refine lv_aload_n hx hb d_Model_term_77 rfl (lv_at hl1 1 rfl) ?_
            refine va_get (D := D) (ci := 11) (v := .int (nI (u_377 3))) (C := R_Model) (T := F_Model) (N := 72) hx hb hts i_Model hown hK.1 hP 0 rfl rfl 7 (by decide) (hts _ wd_1043) (fun _ h9 => h9) rfl d_Model_term_78 ?_
            refine lv_ineg hx hb d_Model_term_81 ?_
            refine lv_topi (fun z_412 ez_412 => ?_)
            refine lv_goto (tgt := 89) hx hb d_Model_term_82 (by decide) ?_
            refine va_put (D := D) (ci := 11) (v := .int z_412) (ty := .int) (C := R_Model) (T := F_Model) (N := 72) hx hb hts i_Model t_Model t_Model_ok n_Model hown hK.1 hP hD hS 0 rfl rfl 36 (by decide) (hts _ wd_1072) (fun _ h9 => h9) rfl (by decide +kernel) rfl rfl (Nat.le_of_ble_eq_true rfl) d_Model_term_89 (fun H_413 locs hP1 hD1 hS1 => ?_)
            clear hP hD hS
            have hS := hS1
            have hW7 : (fun w9 : va_W => va_P D classes w9 H_413 ∧ va_D A w9) [(m0, .inr (11, [.int s_thrown, .int s_taped, .ref m1, .int (nI n), .int s_outSize, .ref m2, .int (nI (u_377 2)), .int (nI (u_377 3)), .int (nI (u_377 0)), .int (nI (u_377 1)), .int 0, .ref m3, .ref m4, .ref m5, .int s_isProgram, .int s_half, .ref m6, .ref m7, .ref m8, .ref m9, .ref m10, .ref m11, .ref m12, .ref m13, .ref m14, .ref m15, .ref m16, .ref m17, .ref m18, .ref m19, .ref m20, .int s_signs, .ref m21, .int s_stacked, .ref m22, .int (nI v), .int z_412, .int s_statements, .int s_ifs, .int s_whiles, .int s_variants, .int s_open, .ref m23, .int s_isMade, .int s_conditions, .ref m24, .ref m25, .ref m26, .ref m27, .int s_kept, .ref m28, .int s_tops, .ref m29, .int s_used, .ref m30, .ref m31, .int s_looked, .int s_rows, .int s_firstRow, .ref m32, .ref m33, .ref m34, .ref m35, .ref m36, .ref m37, .ref m38, .ref m39, .ref m40, .int s_isBroken, .ref m41, .int s_atoms, .ref m42])), (m1, .inl (ax 0, 400, .inl (fun j => nI (g j))))] := ⟨hP1, hD1⟩
            obtain ⟨hP, hD⟩ := hW7
            clear hP1 hD1 hS1
            refine lv_aload_n hx hb d_Model_term_92 rfl (lv_at hl1 1 rfl) ?_
            refine lv_aload_n hx hb d_Model_term_93 rfl (lv_at hl1 1 rfl) ?_
            refine va_get (D := D) (ci := 11) (v := .int (nI (u_377 2))) (C := R_Model) (T := F_Model) (N := 72) hx hb hts i_Model hown hK.1 hP 0 rfl rfl 6 (by decide) (hts _ wd_1042) (fun _ h9 => h9) rfl d_Model_term_94 ?_
            refine lv_iconst (v := 3) hx hb d_Model_term_97 (by decide) ?_
            refine lv_icmp_ne (tgt := 105) hx hb d_Model_term_98 (by decide) (fun c_414 => ?_) (fun c_414 => ?_)
            · replace c_414 : ¬ u_377 2 = 3 := fun hq9 => c_414 ((nI_eq (a := u_377 2) (b := 3) (by first | exact Nat.lt_of_lt_of_le (by assumption) (by decide) | exact Nat.lt_of_le_of_lt (by assumption) (by decide) | omega) (by decide)).mpr hq9)
              refine lv_iconst (v := 0) hx hb d_Model_term_105 (by decide) ?_
              obtain ⟨hPc, hDc, hFc, hCs⟩ := xw_sub3 (wc := [(m0, .inr (11, [.int s_thrown, .int s_taped, .ref m1, .int (nI n), .int s_outSize, .ref m2, .int (nI (u_377 2)), .int (nI (u_377 3)), .int (nI (u_377 0)), .int (nI (u_377 1)), .int 0, .ref m3, .ref m4, .ref m5, .int s_isProgram, .int s_half, .ref m6, .ref m7, .ref m8, .ref m9, .ref m10, .ref m11, .ref m12, .ref m13, .ref m14, .ref m15, .ref m16, .ref m17, .ref m18, .ref m19, .ref m20, .int s_signs, .ref m21, .int s_stacked, .ref m22, .int (nI v), .int z_412, .int s_statements, .int s_ifs, .int s_whiles, .int s_variants, .int s_open, .ref m23, .int s_isMade, .int s_conditions, .ref m24, .ref m25, .ref m26, .ref m27, .int s_kept, .ref m28, .int s_tops, .ref m29, .int s_used, .ref m30, .ref m31, .int s_looked, .int s_rows, .int s_firstRow, .ref m32, .ref m33, .ref m34, .ref m35, .ref m36, .ref m37, .ref m38, .ref m39, .ref m40, .int s_isBroken, .ref m41, .int s_atoms, .ref m42]))]) hP hD hS hA [0] (by decide) rfl
              have hz := xz_of hN hS
              refine va_callv (va_runV (As := [.int 0]) (rest := []) ⟨hx, hb, hml, hown, hts⟩ (c_M_must_0 l D ax m0 m1 m2 m3 m4 m5 m6 m7 m8 m9 m10 m11 m12 m13 m14 m15 m16 m17 m18 m19 m20 m21 m22 m23 m24 m25 m26 m27 m28 m29 m30 m31 m32 m33 m34 m35 m36 m37 m38 m39 m40 m41 m42 s_thrown s_taped (nI n) s_outSize (nI (u_377 2)) (nI (u_377 3)) (nI (u_377 0)) (nI (u_377 1)) s_isProgram s_half s_signs s_stacked (nI v) z_412 s_statements s_ifs s_whiles s_variants s_open s_isMade s_conditions s_kept s_tops s_used s_looked s_rows s_firstRow s_isBroken s_atoms H_413.size) (xcV (n := 1) hts wd_1335 wd_15 wd_1332 wd_1334 ps_61 rfl rfl (by decide +kernel) ⟨Nat.le_of_ble_eq_true rfl, Nat.le_of_ble_eq_true rfl⟩) (xpV (ci := 11) (q0 := 0) (As := [.int 0]) hPc hK hz hDc rfl rfl) rfl rfl hl1.1 rfl (lv_room (Nat.le_of_ble_eq_true rfl)) d_Model_term_106 ⟨Nat.le_of_ble_eq_true rfl, Nat.le_of_ble_eq_true rfl⟩) hS (fun q _ h => hFc q h) hFc (fun u_415 t H_416 locs ht hvm hw hB hz1 hk1 hS1 => ?_)
              try dsimp only at hw
              obtain ⟨hP1, hD1⟩ := hB
              rw [ht] at hP1
              have hjn := xw_join3 (wl := [(m1, .inl (ax 0, 400, .inl (fun j => nI (g j)))), (m0, .inr (11, [.int s_thrown, .int s_taped, .ref m1, .int (nI n), .int s_outSize, .ref m2, .int (nI (u_377 2)), .int (nI (u_377 3)), .int (nI (u_377 0)), .int (nI (u_377 1)), .int 1, .ref m3, .ref m4, .ref m5, .int s_isProgram, .int s_half, .ref m6, .ref m7, .ref m8, .ref m9, .ref m10, .ref m11, .ref m12, .ref m13, .ref m14, .ref m15, .ref m16, .ref m17, .ref m18, .ref m19, .ref m20, .int s_signs, .ref m21, .int s_stacked, .ref m22, .int (nI v), .int z_412, .int s_statements, .int s_ifs, .int s_whiles, .int s_variants, .int s_open, .ref m23, .int s_isMade, .int s_conditions, .ref m24, .ref m25, .ref m26, .ref m27, .int s_kept, .ref m28, .int s_tops, .ref m29, .int s_used, .ref m30, .ref m31, .int s_looked, .int s_rows, .int s_firstRow, .ref m32, .ref m33, .ref m34, .ref m35, .ref m36, .ref m37, .ref m38, .ref m39, .ref m40, .int s_isBroken, .ref m41, .int s_atoms, .ref m42]))]) hP hD [0] [1] hCs (by decide) (by decide) hk1 hFc hP1 hD1 rfl
              clear hP1 hD1
              clear hPc hDc hFc hCs hz hz1 hk1 ht hvm
              clear hP hD hS
              have hS := hS1
              obtain ⟨hP, hD⟩ := hjn
              clear hS1
              rw [← hQe]
              obtain ⟨hP9, hD9⟩ := xw_sub2 (wc := (fun (u : Nat → Nat) (xnm : Int32) (xsh : Int32) => [(m0, .inr (11, [.int s_thrown, .int s_taped, .ref m1, .int (nI n), .int s_outSize, .ref m2, .int (nI (u 2)), .int (nI (u 3)), .int (nI (u 0)), .int (nI (u 1)), .int (nI (u 4)), .ref m3, .ref m4, .ref m5, .int s_isProgram, .int s_half, .ref m6, .ref m7, .ref m8, .ref m9, .ref m10, .ref m11, .ref m12, .ref m13, .ref m14, .ref m15, .ref m16, .ref m17, .ref m18, .ref m19, .ref m20, .int s_signs, .ref m21, .int s_stacked, .ref m22, .int xnm, .int xsh, .int s_statements, .int s_ifs, .int s_whiles, .int s_variants, .int s_open, .ref m23, .int s_isMade, .int s_conditions, .ref m24, .ref m25, .ref m26, .ref m27, .int s_kept, .ref m28, .int s_tops, .ref m29, .int s_used, .ref m30, .ref m31, .int s_looked, .int s_rows, .int s_firstRow, .ref m32, .ref m33, .ref m34, .ref m35, .ref m36, .ref m37, .ref m38, .ref m39, .ref m40, .int s_isBroken, .ref m41, .int s_atoms, .ref m42])), (m1, .inl (ax 0, 400, .inl (fun j => nI (g j))))]) (ixn [(u_377 0), (u_377 1), (u_377 2), (u_377 3), 1]) (nI v) z_412) hP hD [1, 0] (by decide) rfl
              have hex0 : nmo (6 + 4 * gh) (nI v) := (by first | exact Or.inl rfl | exact Or.inr ⟨_, by omega, rfl⟩ | assumption)
              have hex1 : imp0 (1) (tmQ (nI v) z_412 (trmV (kd g n) (nxt g n) (kv g n) gh b)) := (Or.inl rfl)
              have hsp0 : b ≤ (u_377 0) := (by first | assumption | omega)
              have hsp1 : (u_377 0) ≤ (u_377 1) := (by first | assumption | omega)
              have hsp2 : (u_377 1) ≤ n := (by first | assumption | omega)
              have hsp3 : tk0 ((u_377 2)) ((u_377 0)) ((u_377 1)) := (by assumption)
              have hsp4 : (u_377 2) < 10000 := (by first | assumption | omega)
              have hsp5 : (u_377 3) < 20000 := (by first | assumption | omega)
              have hsp6 : tkq g n ((u_377 0)) ((u_377 1)) ((u_377 2)) ((u_377 3)) := (by assumption)
              have hsp7 : 1 ≤ 1 := (by first | assumption | omega)
              have hsp8 : imp0 (1) (b < (u_377 0)) := (Or.inl rfl)
              have hsp9 : trmG (kd g n) (nxt g n) gh b = (1, (u_377 0)) := (by first | exact trm_c hkv (by first | assumption | omega) hs_369 hs_362 (by first | assumption | omega) hs_390 hs_383 (by first | assumption | omega))
              exact W.vret hx hb hr (fun t ht hW => ⟨⟨ixn [(u_377 0), (u_377 1), (u_377 2), (u_377 3), 1], rfl, ⟨hsp0, hsp1, hsp2, hsp3, hsp4, hsp5, hsp6, hsp7, hsp8, hsp9⟩, ⟨nI v, z_412, hex0, hex1, by rw [ht]; exact hP9, hD9⟩⟩, hS.F ht⟩) hS.2.2 d_Model_term_109
            · replace c_414 : u_377 2 = 3 := (nI_eq (a := u_377 2) (b := 3) (by first | exact Nat.lt_of_lt_of_le (by assumption) (by decide) | exact Nat.lt_of_le_of_lt (by assumption) (by decide) | omega) (by decide)).mp c_414
              have hlt_418 : u_377 0 < u_377 1 := tk0.lt (by assumption) (by first | assumption | omega)
              refine lv_iconst (v := 1) hx hb d_Model_term_101 (by decide) ?_
              refine lv_goto (tgt := 106) hx hb d_Model_term_102 (by decide) ?_
              obtain ⟨hPc, hDc, hFc, hCs⟩ := xw_sub3 (wc := [(m0, .inr (11, [.int s_thrown, .int s_taped, .ref m1, .int (nI n), .int s_outSize, .ref m2, .int (nI (u_377 2)), .int (nI (u_377 3)), .int (nI (u_377 0)), .int (nI (u_377 1)), .int 0, .ref m3, .ref m4, .ref m5, .int s_isProgram, .int s_half, .ref m6, .ref m7, .ref m8, .ref m9, .ref m10, .ref m11, .ref m12, .ref m13, .ref m14, .ref m15, .ref m16, .ref m17, .ref m18, .ref m19, .ref m20, .int s_signs, .ref m21, .int s_stacked, .ref m22, .int (nI v), .int z_412, .int s_statements, .int s_ifs, .int s_whiles, .int s_variants, .int s_open, .ref m23, .int s_isMade, .int s_conditions, .ref m24, .ref m25, .ref m26, .ref m27, .int s_kept, .ref m28, .int s_tops, .ref m29, .int s_used, .ref m30, .ref m31, .int s_looked, .int s_rows, .int s_firstRow, .ref m32, .ref m33, .ref m34, .ref m35, .ref m36, .ref m37, .ref m38, .ref m39, .ref m40, .int s_isBroken, .ref m41, .int s_atoms, .ref m42])), (m1, .inl (ax 0, 400, .inl (fun j => nI (g j))))]) hP hD hS hA [0, 1] (by decide) rfl
              have hz := xz_of hN hS
              refine va_callv (va_runV (As := [.int 1]) (rest := []) ⟨hx, hb, hml, hown, hts⟩ (c_M_must_1 l D ax m0 m1 m2 m3 m4 m5 m6 m7 m8 m9 m10 m11 m12 m13 m14 m15 m16 m17 m18 m19 m20 m21 m22 m23 m24 m25 m26 m27 m28 m29 m30 m31 m32 m33 m34 m35 m36 m37 m38 m39 m40 m41 m42 s_thrown s_taped s_outSize (nI (u_377 2)) (nI (u_377 0)) s_isProgram s_half s_signs s_stacked (nI v) z_412 s_statements s_ifs s_whiles s_variants s_open s_isMade s_conditions s_kept s_tops s_used s_looked s_rows s_firstRow s_isBroken s_atoms n (u_377 1) (u_377 3) g H_413.size hn (by first | assumption | omega) hg (by first | assumption | omega)) (xcV (n := 1) hts wd_1335 wd_15 wd_1332 wd_1334 ps_61 rfl rfl (by decide +kernel) ⟨Nat.le_of_ble_eq_true rfl, Nat.le_of_ble_eq_true rfl⟩) (xpV (ci := 11) (q0 := 0) (As := [.int 1]) hPc hK hz hDc rfl rfl) rfl rfl hl1.1 rfl (lv_room (Nat.le_of_ble_eq_true rfl)) d_Model_term_106 ⟨Nat.le_of_ble_eq_true rfl, Nat.le_of_ble_eq_true rfl⟩) hS (fun q _ h => hFc q h) hFc (fun u_419 t H_420 locs ht hvm hw hB hz1 hk1 hS1 => ?_)
              try dsimp only at hw
              obtain ⟨-, -, -, hs_425, hs_426, hs_427, hs_428, hs_429, hs_430, hs_431, hs_432⟩ := hw
              obtain ⟨hP1, hD1⟩ := hB
              rw [ht] at hP1
              have hjn := xw_join3 (wl := [(m0, .inr (11, [.int s_thrown, .int s_taped, .ref m1, .int (nI n), .int s_outSize, .ref m2, .int (nI (u_419 2)), .int (nI (u_419 3)), .int (nI (u_419 0)), .int (nI (u_419 1)), .int 0, .ref m3, .ref m4, .ref m5, .int s_isProgram, .int s_half, .ref m6, .ref m7, .ref m8, .ref m9, .ref m10, .ref m11, .ref m12, .ref m13, .ref m14, .ref m15, .ref m16, .ref m17, .ref m18, .ref m19, .ref m20, .int s_signs, .ref m21, .int s_stacked, .ref m22, .int (nI v), .int z_412, .int s_statements, .int s_ifs, .int s_whiles, .int s_variants, .int s_open, .ref m23, .int s_isMade, .int s_conditions, .ref m24, .ref m25, .ref m26, .ref m27, .int s_kept, .ref m28, .int s_tops, .ref m29, .int s_used, .ref m30, .ref m31, .int s_looked, .int s_rows, .int s_firstRow, .ref m32, .ref m33, .ref m34, .ref m35, .ref m36, .ref m37, .ref m38, .ref m39, .ref m40, .int s_isBroken, .ref m41, .int s_atoms, .ref m42])), (m1, .inl (ax 0, 400, .inl (fun j => nI (g j))))]) hP hD [0, 1] [] hCs (by decide) (by decide) hk1 hFc hP1 hD1 rfl
              clear hP1 hD1
              clear hPc hDc hFc hCs hz hz1 hk1 ht hvm
              clear hP hD hS
              have hS := hS1
              obtain ⟨hP, hD⟩ := hjn
              clear hS1
              rw [← hQe]
              obtain ⟨hP9, hD9⟩ := xw_sub2 (wc := (fun (u : Nat → Nat) (xnm : Int32) (xsh : Int32) => [(m0, .inr (11, [.int s_thrown, .int s_taped, .ref m1, .int (nI n), .int s_outSize, .ref m2, .int (nI (u 2)), .int (nI (u 3)), .int (nI (u 0)), .int (nI (u 1)), .int (nI (u 4)), .ref m3, .ref m4, .ref m5, .int s_isProgram, .int s_half, .ref m6, .ref m7, .ref m8, .ref m9, .ref m10, .ref m11, .ref m12, .ref m13, .ref m14, .ref m15, .ref m16, .ref m17, .ref m18, .ref m19, .ref m20, .int s_signs, .ref m21, .int s_stacked, .ref m22, .int xnm, .int xsh, .int s_statements, .int s_ifs, .int s_whiles, .int s_variants, .int s_open, .ref m23, .int s_isMade, .int s_conditions, .ref m24, .ref m25, .ref m26, .ref m27, .int s_kept, .ref m28, .int s_tops, .ref m29, .int s_used, .ref m30, .ref m31, .int s_looked, .int s_rows, .int s_firstRow, .ref m32, .ref m33, .ref m34, .ref m35, .ref m36, .ref m37, .ref m38, .ref m39, .ref m40, .int s_isBroken, .ref m41, .int s_atoms, .ref m42])), (m1, .inl (ax 0, 400, .inl (fun j => nI (g j))))]) (ixn [(u_419 0), (u_419 1), (u_419 2), (u_419 3), 0]) (nI v) z_412) hP hD [0, 1] (by decide) rfl
              have hex0 : nmo (6 + 4 * gh) (nI v) := (by first | exact Or.inl rfl | exact Or.inr ⟨_, by omega, rfl⟩ | assumption)
              have hex1 : imp0 (0) (tmQ (nI v) z_412 (trmV (kd g n) (nxt g n) (kv g n) gh b)) := (Or.inr (by first | exact trv_p hkv (by first | assumption | omega) hs_369 hs_362 (by first | assumption | omega) hs_390 hs_383 (by first | assumption | omega) (by first | rfl | assumption | (exfalso; omega)) | exact trv_m hkv (by first | assumption | omega) hs_369 hs_362 (by first | assumption | omega) hs_390 hs_383 (by first | assumption | omega) (by first | rfl | assumption | (exfalso; omega))))
              have hsp0 : b ≤ (u_419 0) := (by first | assumption | omega)
              have hsp1 : (u_419 0) ≤ (u_419 1) := (by first | assumption | omega)
              have hsp2 : (u_419 1) ≤ n := (by first | assumption | omega)
              have hsp3 : tk0 ((u_419 2)) ((u_419 0)) ((u_419 1)) := (by assumption)
              have hsp4 : (u_419 2) < 10000 := (by first | assumption | omega)
              have hsp5 : (u_419 3) < 20000 := (by first | assumption | omega)
              have hsp6 : tkq g n ((u_419 0)) ((u_419 1)) ((u_419 2)) ((u_419 3)) := (by assumption)
              have hsp7 : 0 ≤ 1 := (by first | assumption | omega)
              have hsp8 : imp0 (0) (b < (u_419 0)) := (Or.inr (by first | assumption | omega))
              have hsp9 : trmG (kd g n) (nxt g n) gh b = (0, (u_419 0)) := (by first | exact trm_b hkv (by first | assumption | omega) hs_369 hs_362 (by first | assumption | omega) hs_390 hs_383 (by first | assumption | omega) hs_425)
              exact W.vret hx hb hr (fun t ht hW => ⟨⟨ixn [(u_419 0), (u_419 1), (u_419 2), (u_419 3), 0], rfl, ⟨hsp0, hsp1, hsp2, hsp3, hsp4, hsp5, hsp6, hsp7, hsp8, hsp9⟩, ⟨nI v, z_412, hex0, hex1, by rw [ht]; exact hP9, hD9⟩⟩, hS.F ht⟩) hS.2.2 d_Model_term_109
        · replace c_373 : ¬ ((u_356 2) = 200 + 43) := zb_n c_373
          refine lv_aload_n hx hb d_Model_term_52 rfl (lv_at hl1 0 rfl) ?_
          refine lv_bipush (v := 45) hx hb d_Model_term_53 (by decide) ?_
          obtain ⟨hPc, hDc, hFc, hCs⟩ := xw_sub3 (wc := [(m0, .inr (11, [.int s_thrown, .int s_taped, .ref m1, .int (nI n), .int s_outSize, .ref m2, .int (nI (u_356 2)), .int (nI (u_356 3)), .int (nI (u_356 0)), .int (nI (u_356 1)), .int 0, .ref m3, .ref m4, .ref m5, .int s_isProgram, .int s_half, .ref m6, .ref m7, .ref m8, .ref m9, .ref m10, .ref m11, .ref m12, .ref m13, .ref m14, .ref m15, .ref m16, .ref m17, .ref m18, .ref m19, .ref m20, .int s_signs, .ref m21, .int s_stacked, .ref m22, .int (nI v), .int 0, .int s_statements, .int s_ifs, .int s_whiles, .int s_variants, .int s_open, .ref m23, .int s_isMade, .int s_conditions, .ref m24, .ref m25, .ref m26, .ref m27, .int s_kept, .ref m28, .int s_tops, .ref m29, .int s_used, .ref m30, .ref m31, .int s_looked, .int s_rows, .int s_firstRow, .ref m32, .ref m33, .ref m34, .ref m35, .ref m36, .ref m37, .ref m38, .ref m39, .ref m40, .int s_isBroken, .ref m41, .int s_atoms, .ref m42]))]) hP hD hS hA [1] (by decide) rfl
          have hz := xz_of hN hS
          refine va_calli (va_runV (As := [.int 45]) (rest := []) ⟨hx, hb, hml, hown, hts⟩ (c_M_is l D ax m0 m1 m2 m3 m4 m5 m6 m7 m8 m9 m10 m11 m12 m13 m14 m15 m16 m17 m18 m19 m20 m21 m22 m23 m24 m25 m26 m27 m28 m29 m30 m31 m32 m33 m34 m35 m36 m37 m38 m39 m40 m41 m42 s_thrown s_taped (nI n) s_outSize (nI (u_356 3)) (nI (u_356 0)) (nI (u_356 1)) 0 s_isProgram s_half s_signs s_stacked (nI v) 0 s_statements s_ifs s_whiles s_variants s_open s_isMade s_conditions s_kept s_tops s_used s_looked s_rows s_firstRow s_isBroken s_atoms (u_356 2) 45 H_371.size (by first | assumption | omega) (by first | assumption | omega)) (xcV (n := 1) hts wd_1319 wd_15 wd_1316 wd_1318 ps_57 rfl rfl (by decide +kernel) ⟨Nat.le_of_ble_eq_true rfl, Nat.le_of_ble_eq_true rfl⟩) (xpV (ci := 11) (q0 := 0) (As := [.int 45]) hPc hK hz hDc rfl rfl) rfl rfl hl1.1 rfl (lv_room (Nat.le_of_ble_eq_true rfl)) d_Model_term_55 ⟨Nat.le_of_ble_eq_true rfl, Nat.le_of_ble_eq_true rfl⟩) hS (fun q _ h => hFc q h) hFc (fun r_435 u_433 t H_434 locs ht hvm hw hB hz1 hk1 hS1 => ?_)
          try dsimp only at hw
          subst hw
          obtain ⟨hP1, hD1⟩ := hB
          rw [ht] at hP1
          have hjn := xw_join3 (wl := [(m1, .inl (ax 0, 400, .inl (fun j => nI (g j)))), (m0, .inr (11, [.int s_thrown, .int s_taped, .ref m1, .int (nI n), .int s_outSize, .ref m2, .int (nI (u_356 2)), .int (nI (u_356 3)), .int (nI (u_356 0)), .int (nI (u_356 1)), .int 0, .ref m3, .ref m4, .ref m5, .int s_isProgram, .int s_half, .ref m6, .ref m7, .ref m8, .ref m9, .ref m10, .ref m11, .ref m12, .ref m13, .ref m14, .ref m15, .ref m16, .ref m17, .ref m18, .ref m19, .ref m20, .int s_signs, .ref m21, .int s_stacked, .ref m22, .int (nI v), .int 0, .int s_statements, .int s_ifs, .int s_whiles, .int s_variants, .int s_open, .ref m23, .int s_isMade, .int s_conditions, .ref m24, .ref m25, .ref m26, .ref m27, .int s_kept, .ref m28, .int s_tops, .ref m29, .int s_used, .ref m30, .ref m31, .int s_looked, .int s_rows, .int s_firstRow, .ref m32, .ref m33, .ref m34, .ref m35, .ref m36, .ref m37, .ref m38, .ref m39, .ref m40, .int s_isBroken, .ref m41, .int s_atoms, .ref m42]))]) hP hD [1] [0] hCs (by decide) (by decide) hk1 hFc hP1 hD1 rfl
          clear hP1 hD1
          clear hPc hDc hFc hCs hz hz1 hk1 ht hvm
          clear hP hD hS
          have hS := hS1
          obtain ⟨hP, hD⟩ := hjn
          clear hS1
          refine lv_if_eq (tgt := 109) hx hb d_Model_term_58 (by decide) (fun c_436 => ?_) (fun c_436 => ?_)
          · replace c_436 : ¬ ((u_356 2) = 200 + 45) := zb_n c_436
            rw [← hQe]
            obtain ⟨hP9, hD9⟩ := xw_sub2 (wc := (fun (u : Nat → Nat) (xnm : Int32) (xsh : Int32) => [(m0, .inr (11, [.int s_thrown, .int s_taped, .ref m1, .int (nI n), .int s_outSize, .ref m2, .int (nI (u 2)), .int (nI (u 3)), .int (nI (u 0)), .int (nI (u 1)), .int (nI (u 4)), .ref m3, .ref m4, .ref m5, .int s_isProgram, .int s_half, .ref m6, .ref m7, .ref m8, .ref m9, .ref m10, .ref m11, .ref m12, .ref m13, .ref m14, .ref m15, .ref m16, .ref m17, .ref m18, .ref m19, .ref m20, .int s_signs, .ref m21, .int s_stacked, .ref m22, .int xnm, .int xsh, .int s_statements, .int s_ifs, .int s_whiles, .int s_variants, .int s_open, .ref m23, .int s_isMade, .int s_conditions, .ref m24, .ref m25, .ref m26, .ref m27, .int s_kept, .ref m28, .int s_tops, .ref m29, .int s_used, .ref m30, .ref m31, .int s_looked, .int s_rows, .int s_firstRow, .ref m32, .ref m33, .ref m34, .ref m35, .ref m36, .ref m37, .ref m38, .ref m39, .ref m40, .int s_isBroken, .ref m41, .int s_atoms, .ref m42])), (m1, .inl (ax 0, 400, .inl (fun j => nI (g j))))]) (ixn [(u_356 0), (u_356 1), (u_356 2), (u_356 3), 0]) (nI v) 0) hP hD [1, 0] (by decide) rfl
            have hex0 : nmo (6 + 4 * gh) (nI v) := (by first | exact Or.inl rfl | exact Or.inr ⟨_, by omega, rfl⟩ | assumption)
            have hex1 : imp0 (0) (tmQ (nI v) 0 (trmV (kd g n) (nxt g n) (kv g n) gh b)) := (Or.inr (by first | exact trv_a hkv (by first | assumption | omega) hs_369 hs_362 (by first | assumption | omega) | exact trv_f hkv (by first | assumption | omega) (by first | assumption | omega) (by first | assumption | omega) (by first | rfl | assumption | (exfalso; omega))))
            have hsp0 : b ≤ (u_356 0) := (by first | assumption | omega)
            have hsp1 : (u_356 0) ≤ (u_356 1) := (by first | assumption | omega)
            have hsp2 : (u_356 1) ≤ n := (by first | assumption | omega)
            have hsp3 : tk0 ((u_356 2)) ((u_356 0)) ((u_356 1)) := (by assumption)
            have hsp4 : (u_356 2) < 10000 := (by first | assumption | omega)
            have hsp5 : (u_356 3) < 20000 := (by first | assumption | omega)
            have hsp6 : tkq g n ((u_356 0)) ((u_356 1)) ((u_356 2)) ((u_356 3)) := (by assumption)
            have hsp7 : 0 ≤ 1 := (by first | assumption | omega)
            have hsp8 : imp0 (0) (b < (u_356 0)) := (Or.inr (by first | assumption | omega))
            have hsp9 : trmG (kd g n) (nxt g n) gh b = (0, (u_356 0)) := (by first | exact trm_a hkv (by first | assumption | omega) hs_369 hs_362 (by first | assumption | omega) | exact trm_f hkv (by first | assumption | omega) (by first | assumption | omega) (by first | assumption | omega) hs_362)
            exact W.vret hx hb hr (fun t ht hW => ⟨⟨ixn [(u_356 0), (u_356 1), (u_356 2), (u_356 3), 0], rfl, ⟨hsp0, hsp1, hsp2, hsp3, hsp4, hsp5, hsp6, hsp7, hsp8, hsp9⟩, ⟨nI v, 0, hex0, hex1, by rw [ht]; exact hP9, hD9⟩⟩, hS.F ht⟩) hS.2.2 d_Model_term_109
          · replace c_436 : ((u_356 2) = 200 + 45) := zb_y c_436
            refine lv_aload_n hx hb d_Model_term_61 rfl (lv_at hl1 0 rfl) ?_
            refine lv_bipush (v := 45) hx hb d_Model_term_62 (by decide) ?_
            obtain ⟨hPc, hDc, hFc, hCs⟩ := xw_sub3 (wc := [(m0, .inr (11, [.int s_thrown, .int s_taped, .ref m1, .int (nI n), .int s_outSize, .ref m2, .int (nI (u_356 2)), .int (nI (u_356 3)), .int (nI (u_356 0)), .int (nI (u_356 1)), .int 0, .ref m3, .ref m4, .ref m5, .int s_isProgram, .int s_half, .ref m6, .ref m7, .ref m8, .ref m9, .ref m10, .ref m11, .ref m12, .ref m13, .ref m14, .ref m15, .ref m16, .ref m17, .ref m18, .ref m19, .ref m20, .int s_signs, .ref m21, .int s_stacked, .ref m22, .int (nI v), .int 0, .int s_statements, .int s_ifs, .int s_whiles, .int s_variants, .int s_open, .ref m23, .int s_isMade, .int s_conditions, .ref m24, .ref m25, .ref m26, .ref m27, .int s_kept, .ref m28, .int s_tops, .ref m29, .int s_used, .ref m30, .ref m31, .int s_looked, .int s_rows, .int s_firstRow, .ref m32, .ref m33, .ref m34, .ref m35, .ref m36, .ref m37, .ref m38, .ref m39, .ref m40, .int s_isBroken, .ref m41, .int s_atoms, .ref m42]))]) hP hD hS hA [1] (by decide) rfl
            have hz := xz_of hN hS
            refine va_calli (va_runV (As := [.int 45]) (rest := []) ⟨hx, hb, hml, hown, hts⟩ (c_M_is l D ax m0 m1 m2 m3 m4 m5 m6 m7 m8 m9 m10 m11 m12 m13 m14 m15 m16 m17 m18 m19 m20 m21 m22 m23 m24 m25 m26 m27 m28 m29 m30 m31 m32 m33 m34 m35 m36 m37 m38 m39 m40 m41 m42 s_thrown s_taped (nI n) s_outSize (nI (u_356 3)) (nI (u_356 0)) (nI (u_356 1)) 0 s_isProgram s_half s_signs s_stacked (nI v) 0 s_statements s_ifs s_whiles s_variants s_open s_isMade s_conditions s_kept s_tops s_used s_looked s_rows s_firstRow s_isBroken s_atoms (u_356 2) 45 H_434.size (by first | assumption | omega) (by first | assumption | omega)) (xcV (n := 1) hts wd_1319 wd_15 wd_1316 wd_1318 ps_57 rfl rfl (by decide +kernel) ⟨Nat.le_of_ble_eq_true rfl, Nat.le_of_ble_eq_true rfl⟩) (xpV (ci := 11) (q0 := 0) (As := [.int 45]) hPc hK hz hDc rfl rfl) rfl rfl hl1.1 rfl (lv_room (Nat.le_of_ble_eq_true rfl)) d_Model_term_64 ⟨Nat.le_of_ble_eq_true rfl, Nat.le_of_ble_eq_true rfl⟩) hS (fun q _ h => hFc q h) hFc (fun r_439 u_437 t H_438 locs ht hvm hw hB hz1 hk1 hS1 => ?_)
            try dsimp only at hw
            subst hw
            obtain ⟨hP1, hD1⟩ := hB
            rw [ht] at hP1
            have hjn := xw_join3 (wl := [(m1, .inl (ax 0, 400, .inl (fun j => nI (g j)))), (m0, .inr (11, [.int s_thrown, .int s_taped, .ref m1, .int (nI n), .int s_outSize, .ref m2, .int (nI (u_356 2)), .int (nI (u_356 3)), .int (nI (u_356 0)), .int (nI (u_356 1)), .int 0, .ref m3, .ref m4, .ref m5, .int s_isProgram, .int s_half, .ref m6, .ref m7, .ref m8, .ref m9, .ref m10, .ref m11, .ref m12, .ref m13, .ref m14, .ref m15, .ref m16, .ref m17, .ref m18, .ref m19, .ref m20, .int s_signs, .ref m21, .int s_stacked, .ref m22, .int (nI v), .int 0, .int s_statements, .int s_ifs, .int s_whiles, .int s_variants, .int s_open, .ref m23, .int s_isMade, .int s_conditions, .ref m24, .ref m25, .ref m26, .ref m27, .int s_kept, .ref m28, .int s_tops, .ref m29, .int s_used, .ref m30, .ref m31, .int s_looked, .int s_rows, .int s_firstRow, .ref m32, .ref m33, .ref m34, .ref m35, .ref m36, .ref m37, .ref m38, .ref m39, .ref m40, .int s_isBroken, .ref m41, .int s_atoms, .ref m42]))]) hP hD [1] [0] hCs (by decide) (by decide) hk1 hFc hP1 hD1 rfl
            clear hP1 hD1
            clear hPc hDc hFc hCs hz hz1 hk1 ht hvm
            clear hP hD hS
            have hS := hS1
            obtain ⟨hP, hD⟩ := hjn
            clear hS1
            refine lv_istore_n (lv' := [(2, .int (zb ((u_356 2) = 200 + 45))), (0, .ref m0), (1, .int (nI gh))]) hx hb d_Model_term_67 rfl hl1 (by decide) rfl (fun ls hl2 => ?_)
            clear hl1; have hl1 := hl2; clear hl2
            refine lv_aload_n hx hb d_Model_term_68 rfl (lv_at hl1 1 rfl) ?_
            obtain ⟨hPc, hDc, hFc, hCs⟩ := xw_sub3 (wc := [(m0, .inr (11, [.int s_thrown, .int s_taped, .ref m1, .int (nI n), .int s_outSize, .ref m2, .int (nI (u_356 2)), .int (nI (u_356 3)), .int (nI (u_356 0)), .int (nI (u_356 1)), .int 0, .ref m3, .ref m4, .ref m5, .int s_isProgram, .int s_half, .ref m6, .ref m7, .ref m8, .ref m9, .ref m10, .ref m11, .ref m12, .ref m13, .ref m14, .ref m15, .ref m16, .ref m17, .ref m18, .ref m19, .ref m20, .int s_signs, .ref m21, .int s_stacked, .ref m22, .int (nI v), .int 0, .int s_statements, .int s_ifs, .int s_whiles, .int s_variants, .int s_open, .ref m23, .int s_isMade, .int s_conditions, .ref m24, .ref m25, .ref m26, .ref m27, .int s_kept, .ref m28, .int s_tops, .ref m29, .int s_used, .ref m30, .ref m31, .int s_looked, .int s_rows, .int s_firstRow, .ref m32, .ref m33, .ref m34, .ref m35, .ref m36, .ref m37, .ref m38, .ref m39, .ref m40, .int s_isBroken, .ref m41, .int s_atoms, .ref m42])), (m1, .inl (ax 0, 400, .inl (fun j => nI (g j))))]) hP hD hS hA [1, 0] (by decide) rfl
            have hz := xz_of hN hS
            refine va_callv (va_runV (As := []) (rest := []) ⟨hx, hb, hml, hown, hts⟩ (c_M_next l D ax m0 m1 m2 m3 m4 m5 m6 m7 m8 m9 m10 m11 m12 m13 m14 m15 m16 m17 m18 m19 m20 m21 m22 m23 m24 m25 m26 m27 m28 m29 m30 m31 m32 m33 m34 m35 m36 m37 m38 m39 m40 m41 m42 s_thrown s_taped s_outSize (nI (u_356 2)) (nI (u_356 0)) 0 s_isProgram s_half s_signs s_stacked (nI v) 0 s_statements s_ifs s_whiles s_variants s_open s_isMade s_conditions s_kept s_tops s_used s_looked s_rows s_firstRow s_isBroken s_atoms n (u_356 1) (u_356 3) g H_438.size hn (by first | assumption | omega) hg (by first | assumption | omega)) (xcV (n := 0) hts wd_1278 wd_15 wd_1275 wd_1277 ps_51 rfl rfl (by decide +kernel) ⟨Nat.le_of_ble_eq_true rfl, Nat.le_of_ble_eq_true rfl⟩) (xpV (ci := 11) (q0 := 0) (As := []) hPc hK hz hDc rfl rfl) rfl rfl hl1.1 rfl (lv_room (Nat.le_of_ble_eq_true rfl)) d_Model_term_69 ⟨Nat.le_of_ble_eq_true rfl, Nat.le_of_ble_eq_true rfl⟩) hS (fun q _ h => hFc q h) hFc (fun u_440 t H_441 locs ht hvm hw hB hz1 hk1 hS1 => ?_)
            try dsimp only at hw
            obtain ⟨-, -, -, hs_446, hs_447, hs_448, hs_449, hs_450, hs_451, hs_452, hs_453⟩ := hw
            obtain ⟨hP1, hD1⟩ := hB
            rw [ht] at hP1
            have hjn := xw_join3 (wl := [(m0, .inr (11, [.int s_thrown, .int s_taped, .ref m1, .int (nI n), .int s_outSize, .ref m2, .int (nI (u_440 2)), .int (nI (u_440 3)), .int (nI (u_440 0)), .int (nI (u_440 1)), .int 0, .ref m3, .ref m4, .ref m5, .int s_isProgram, .int s_half, .ref m6, .ref m7, .ref m8, .ref m9, .ref m10, .ref m11, .ref m12, .ref m13, .ref m14, .ref m15, .ref m16, .ref m17, .ref m18, .ref m19, .ref m20, .int s_signs, .ref m21, .int s_stacked, .ref m22, .int (nI v), .int 0, .int s_statements, .int s_ifs, .int s_whiles, .int s_variants, .int s_open, .ref m23, .int s_isMade, .int s_conditions, .ref m24, .ref m25, .ref m26, .ref m27, .int s_kept, .ref m28, .int s_tops, .ref m29, .int s_used, .ref m30, .ref m31, .int s_looked, .int s_rows, .int s_firstRow, .ref m32, .ref m33, .ref m34, .ref m35, .ref m36, .ref m37, .ref m38, .ref m39, .ref m40, .int s_isBroken, .ref m41, .int s_atoms, .ref m42])), (m1, .inl (ax 0, 400, .inl (fun j => nI (g j))))]) hP hD [1, 0] [] hCs (by decide) (by decide) hk1 hFc hP1 hD1 rfl
            clear hP1 hD1
            clear hPc hDc hFc hCs hz hz1 hk1 ht hvm
            clear hP hD hS
            have hS := hS1
            obtain ⟨hP, hD⟩ := hjn
            clear hS1
            refine lv_aload_n hx hb d_Model_term_72 rfl (lv_at hl1 1 rfl) ?_
            refine lv_iload_n hx hb d_Model_term_73 rfl (lv_at hl1 0 rfl) ?_
            refine lv_if_eq (tgt := 85) hx hb d_Model_term_74 (by decide) (fun c_454 => ?_) (fun c_454 => ?_)
            · replace c_454 : ¬ ((u_356 2) = 200 + 45) := zb_n c_454
              refine lv_aload_n hx hb d_Model_term_85 rfl (lv_at hl1 1 rfl) ?_
              refine va_get (D := D) (ci := 11) (v := .int (nI (u_440 3))) (C := R_Model) (T := F_Model) (N := 72) hx hb hts i_Model hown hK.1 hP 0 rfl rfl 7 (by decide) (hts _ wd_1043) (fun _ h9 => h9) rfl d_Model_term_86 ?_
              refine va_put (D := D) (ci := 11) (v := .int (nI (u_440 3))) (ty := .int) (C := R_Model) (T := F_Model) (N := 72) hx hb hts i_Model t_Model t_Model_ok n_Model hown hK.1 hP hD hS 0 rfl rfl 36 (by decide) (hts _ wd_1072) (fun _ h9 => h9) rfl (by decide +kernel) rfl rfl (Nat.le_of_ble_eq_true rfl) d_Model_term_89 (fun H_455 locs hP1 hD1 hS1 => ?_)
              clear hP hD hS
              have hS := hS1
              have hW7 : (fun w9 : va_W => va_P D classes w9 H_455 ∧ va_D A w9) [(m0, .inr (11, [.int s_thrown, .int s_taped, .ref m1, .int (nI n), .int s_outSize, .ref m2, .int (nI (u_440 2)), .int (nI (u_440 3)), .int (nI (u_440 0)), .int (nI (u_440 1)), .int 0, .ref m3, .ref m4, .ref m5, .int s_isProgram, .int s_half, .ref m6, .ref m7, .ref m8, .ref m9, .ref m10, .ref m11, .ref m12, .ref m13, .ref m14, .ref m15, .ref m16, .ref m17, .ref m18, .ref m19, .ref m20, .int s_signs, .ref m21, .int s_stacked, .ref m22, .int (nI v), .int (nI (u_440 3)), .int s_statements, .int s_ifs, .int s_whiles, .int s_variants, .int s_open, .ref m23, .int s_isMade, .int s_conditions, .ref m24, .ref m25, .ref m26, .ref m27, .int s_kept, .ref m28, .int s_tops, .ref m29, .int s_used, .ref m30, .ref m31, .int s_looked, .int s_rows, .int s_firstRow, .ref m32, .ref m33, .ref m34, .ref m35, .ref m36, .ref m37, .ref m38, .ref m39, .ref m40, .int s_isBroken, .ref m41, .int s_atoms, .ref m42])), (m1, .inl (ax 0, 400, .inl (fun j => nI (g j))))] := ⟨hP1, hD1⟩
              obtain ⟨hP, hD⟩ := hW7
              clear hP1 hD1 hS1
              refine lv_aload_n hx hb d_Model_term_92 rfl (lv_at hl1 1 rfl) ?_
              refine lv_aload_n hx hb d_Model_term_93 rfl (lv_at hl1 1 rfl) ?_
              refine va_get (D := D) (ci := 11) (v := .int (nI (u_440 2))) (C := R_Model) (T := F_Model) (N := 72) hx hb hts i_Model hown hK.1 hP 0 rfl rfl 6 (by decide) (hts _ wd_1042) (fun _ h9 => h9) rfl d_Model_term_94 ?_
              refine lv_iconst (v := 3) hx hb d_Model_term_97 (by decide) ?_
              refine lv_icmp_ne (tgt := 105) hx hb d_Model_term_98 (by decide) (fun c_456 => ?_) (fun c_456 => ?_)
              · replace c_456 : ¬ u_440 2 = 3 := fun hq9 => c_456 ((nI_eq (a := u_440 2) (b := 3) (by first | exact Nat.lt_of_lt_of_le (by assumption) (by decide) | exact Nat.lt_of_le_of_lt (by assumption) (by decide) | omega) (by decide)).mpr hq9)
                refine lv_iconst (v := 0) hx hb d_Model_term_105 (by decide) ?_
                obtain ⟨hPc, hDc, hFc, hCs⟩ := xw_sub3 (wc := [(m0, .inr (11, [.int s_thrown, .int s_taped, .ref m1, .int (nI n), .int s_outSize, .ref m2, .int (nI (u_440 2)), .int (nI (u_440 3)), .int (nI (u_440 0)), .int (nI (u_440 1)), .int 0, .ref m3, .ref m4, .ref m5, .int s_isProgram, .int s_half, .ref m6, .ref m7, .ref m8, .ref m9, .ref m10, .ref m11, .ref m12, .ref m13, .ref m14, .ref m15, .ref m16, .ref m17, .ref m18, .ref m19, .ref m20, .int s_signs, .ref m21, .int s_stacked, .ref m22, .int (nI v), .int (nI (u_440 3)), .int s_statements, .int s_ifs, .int s_whiles, .int s_variants, .int s_open, .ref m23, .int s_isMade, .int s_conditions, .ref m24, .ref m25, .ref m26, .ref m27, .int s_kept, .ref m28, .int s_tops, .ref m29, .int s_used, .ref m30, .ref m31, .int s_looked, .int s_rows, .int s_firstRow, .ref m32, .ref m33, .ref m34, .ref m35, .ref m36, .ref m37, .ref m38, .ref m39, .ref m40, .int s_isBroken, .ref m41, .int s_atoms, .ref m42]))]) hP hD hS hA [0] (by decide) rfl
                have hz := xz_of hN hS
                refine va_callv (va_runV (As := [.int 0]) (rest := []) ⟨hx, hb, hml, hown, hts⟩ (c_M_must_0 l D ax m0 m1 m2 m3 m4 m5 m6 m7 m8 m9 m10 m11 m12 m13 m14 m15 m16 m17 m18 m19 m20 m21 m22 m23 m24 m25 m26 m27 m28 m29 m30 m31 m32 m33 m34 m35 m36 m37 m38 m39 m40 m41 m42 s_thrown s_taped (nI n) s_outSize (nI (u_440 2)) (nI (u_440 3)) (nI (u_440 0)) (nI (u_440 1)) s_isProgram s_half s_signs s_stacked (nI v) (nI (u_440 3)) s_statements s_ifs s_whiles s_variants s_open s_isMade s_conditions s_kept s_tops s_used s_looked s_rows s_firstRow s_isBroken s_atoms H_455.size) (xcV (n := 1) hts wd_1335 wd_15 wd_1332 wd_1334 ps_61 rfl rfl (by decide +kernel) ⟨Nat.le_of_ble_eq_true rfl, Nat.le_of_ble_eq_true rfl⟩) (xpV (ci := 11) (q0 := 0) (As := [.int 0]) hPc hK hz hDc rfl rfl) rfl rfl hl1.1 rfl (lv_room (Nat.le_of_ble_eq_true rfl)) d_Model_term_106 ⟨Nat.le_of_ble_eq_true rfl, Nat.le_of_ble_eq_true rfl⟩) hS (fun q _ h => hFc q h) hFc (fun u_457 t H_458 locs ht hvm hw hB hz1 hk1 hS1 => ?_)
                try dsimp only at hw
                obtain ⟨hP1, hD1⟩ := hB
                rw [ht] at hP1
                have hjn := xw_join3 (wl := [(m1, .inl (ax 0, 400, .inl (fun j => nI (g j)))), (m0, .inr (11, [.int s_thrown, .int s_taped, .ref m1, .int (nI n), .int s_outSize, .ref m2, .int (nI (u_440 2)), .int (nI (u_440 3)), .int (nI (u_440 0)), .int (nI (u_440 1)), .int 1, .ref m3, .ref m4, .ref m5, .int s_isProgram, .int s_half, .ref m6, .ref m7, .ref m8, .ref m9, .ref m10, .ref m11, .ref m12, .ref m13, .ref m14, .ref m15, .ref m16, .ref m17, .ref m18, .ref m19, .ref m20, .int s_signs, .ref m21, .int s_stacked, .ref m22, .int (nI v), .int (nI (u_440 3)), .int s_statements, .int s_ifs, .int s_whiles, .int s_variants, .int s_open, .ref m23, .int s_isMade, .int s_conditions, .ref m24, .ref m25, .ref m26, .ref m27, .int s_kept, .ref m28, .int s_tops, .ref m29, .int s_used, .ref m30, .ref m31, .int s_looked, .int s_rows, .int s_firstRow, .ref m32, .ref m33, .ref m34, .ref m35, .ref m36, .ref m37, .ref m38, .ref m39, .ref m40, .int s_isBroken, .ref m41, .int s_atoms, .ref m42]))]) hP hD [0] [1] hCs (by decide) (by decide) hk1 hFc hP1 hD1 rfl
                clear hP1 hD1
                clear hPc hDc hFc hCs hz hz1 hk1 ht hvm
                clear hP hD hS
                have hS := hS1
                obtain ⟨hP, hD⟩ := hjn
                clear hS1
                rw [← hQe]
                obtain ⟨hP9, hD9⟩ := xw_sub2 (wc := (fun (u : Nat → Nat) (xnm : Int32) (xsh : Int32) => [(m0, .inr (11, [.int s_thrown, .int s_taped, .ref m1, .int (nI n), .int s_outSize, .ref m2, .int (nI (u 2)), .int (nI (u 3)), .int (nI (u 0)), .int (nI (u 1)), .int (nI (u 4)), .ref m3, .ref m4, .ref m5, .int s_isProgram, .int s_half, .ref m6, .ref m7, .ref m8, .ref m9, .ref m10, .ref m11, .ref m12, .ref m13, .ref m14, .ref m15, .ref m16, .ref m17, .ref m18, .ref m19, .ref m20, .int s_signs, .ref m21, .int s_stacked, .ref m22, .int xnm, .int xsh, .int s_statements, .int s_ifs, .int s_whiles, .int s_variants, .int s_open, .ref m23, .int s_isMade, .int s_conditions, .ref m24, .ref m25, .ref m26, .ref m27, .int s_kept, .ref m28, .int s_tops, .ref m29, .int s_used, .ref m30, .ref m31, .int s_looked, .int s_rows, .int s_firstRow, .ref m32, .ref m33, .ref m34, .ref m35, .ref m36, .ref m37, .ref m38, .ref m39, .ref m40, .int s_isBroken, .ref m41, .int s_atoms, .ref m42])), (m1, .inl (ax 0, 400, .inl (fun j => nI (g j))))]) (ixn [(u_440 0), (u_440 1), (u_440 2), (u_440 3), 1]) (nI v) (nI (u_440 3))) hP hD [1, 0] (by decide) rfl
                have hex0 : nmo (6 + 4 * gh) (nI v) := (by first | exact Or.inl rfl | exact Or.inr ⟨_, by omega, rfl⟩ | assumption)
                have hex1 : imp0 (1) (tmQ (nI v) (nI (u_440 3)) (trmV (kd g n) (nxt g n) (kv g n) gh b)) := (Or.inl rfl)
                have hsp0 : b ≤ (u_440 0) := (by first | assumption | omega)
                have hsp1 : (u_440 0) ≤ (u_440 1) := (by first | assumption | omega)
                have hsp2 : (u_440 1) ≤ n := (by first | assumption | omega)
                have hsp3 : tk0 ((u_440 2)) ((u_440 0)) ((u_440 1)) := (by assumption)
                have hsp4 : (u_440 2) < 10000 := (by first | assumption | omega)
                have hsp5 : (u_440 3) < 20000 := (by first | assumption | omega)
                have hsp6 : tkq g n ((u_440 0)) ((u_440 1)) ((u_440 2)) ((u_440 3)) := (by assumption)
                have hsp7 : 1 ≤ 1 := (by first | assumption | omega)
                have hsp8 : imp0 (1) (b < (u_440 0)) := (Or.inl rfl)
                have hsp9 : trmG (kd g n) (nxt g n) gh b = (1, (u_440 0)) := (by first | exact trm_c hkv (by first | assumption | omega) hs_369 hs_362 (by first | assumption | omega) hs_453 hs_446 (by first | assumption | omega))
                exact W.vret hx hb hr (fun t ht hW => ⟨⟨ixn [(u_440 0), (u_440 1), (u_440 2), (u_440 3), 1], rfl, ⟨hsp0, hsp1, hsp2, hsp3, hsp4, hsp5, hsp6, hsp7, hsp8, hsp9⟩, ⟨nI v, nI (u_440 3), hex0, hex1, by rw [ht]; exact hP9, hD9⟩⟩, hS.F ht⟩) hS.2.2 d_Model_term_109
              · replace c_456 : u_440 2 = 3 := (nI_eq (a := u_440 2) (b := 3) (by first | exact Nat.lt_of_lt_of_le (by assumption) (by decide) | exact Nat.lt_of_le_of_lt (by assumption) (by decide) | omega) (by decide)).mp c_456
                have hlt_460 : u_440 0 < u_440 1 := tk0.lt (by assumption) (by first | assumption | omega)
                refine lv_iconst (v := 1) hx hb d_Model_term_101 (by decide) ?_
                refine lv_goto (tgt := 106) hx hb d_Model_term_102 (by decide) ?_
                obtain ⟨hPc, hDc, hFc, hCs⟩ := xw_sub3 (wc := [(m0, .inr (11, [.int s_thrown, .int s_taped, .ref m1, .int (nI n), .int s_outSize, .ref m2, .int (nI (u_440 2)), .int (nI (u_440 3)), .int (nI (u_440 0)), .int (nI (u_440 1)), .int 0, .ref m3, .ref m4, .ref m5, .int s_isProgram, .int s_half, .ref m6, .ref m7, .ref m8, .ref m9, .ref m10, .ref m11, .ref m12, .ref m13, .ref m14, .ref m15, .ref m16, .ref m17, .ref m18, .ref m19, .ref m20, .int s_signs, .ref m21, .int s_stacked, .ref m22, .int (nI v), .int (nI (u_440 3)), .int s_statements, .int s_ifs, .int s_whiles, .int s_variants, .int s_open, .ref m23, .int s_isMade, .int s_conditions, .ref m24, .ref m25, .ref m26, .ref m27, .int s_kept, .ref m28, .int s_tops, .ref m29, .int s_used, .ref m30, .ref m31, .int s_looked, .int s_rows, .int s_firstRow, .ref m32, .ref m33, .ref m34, .ref m35, .ref m36, .ref m37, .ref m38, .ref m39, .ref m40, .int s_isBroken, .ref m41, .int s_atoms, .ref m42])), (m1, .inl (ax 0, 400, .inl (fun j => nI (g j))))]) hP hD hS hA [0, 1] (by decide) rfl
                have hz := xz_of hN hS
                refine va_callv (va_runV (As := [.int 1]) (rest := []) ⟨hx, hb, hml, hown, hts⟩ (c_M_must_1 l D ax m0 m1 m2 m3 m4 m5 m6 m7 m8 m9 m10 m11 m12 m13 m14 m15 m16 m17 m18 m19 m20 m21 m22 m23 m24 m25 m26 m27 m28 m29 m30 m31 m32 m33 m34 m35 m36 m37 m38 m39 m40 m41 m42 s_thrown s_taped s_outSize (nI (u_440 2)) (nI (u_440 0)) s_isProgram s_half s_signs s_stacked (nI v) (nI (u_440 3)) s_statements s_ifs s_whiles s_variants s_open s_isMade s_conditions s_kept s_tops s_used s_looked s_rows s_firstRow s_isBroken s_atoms n (u_440 1) (u_440 3) g H_455.size hn (by first | assumption | omega) hg (by first | assumption | omega)) (xcV (n := 1) hts wd_1335 wd_15 wd_1332 wd_1334 ps_61 rfl rfl (by decide +kernel) ⟨Nat.le_of_ble_eq_true rfl, Nat.le_of_ble_eq_true rfl⟩) (xpV (ci := 11) (q0 := 0) (As := [.int 1]) hPc hK hz hDc rfl rfl) rfl rfl hl1.1 rfl (lv_room (Nat.le_of_ble_eq_true rfl)) d_Model_term_106 ⟨Nat.le_of_ble_eq_true rfl, Nat.le_of_ble_eq_true rfl⟩) hS (fun q _ h => hFc q h) hFc (fun u_461 t H_462 locs ht hvm hw hB hz1 hk1 hS1 => ?_)
                try dsimp only at hw
                obtain ⟨-, -, -, hs_467, hs_468, hs_469, hs_470, hs_471, hs_472, hs_473, hs_474⟩ := hw
                obtain ⟨hP1, hD1⟩ := hB
                rw [ht] at hP1
                have hjn := xw_join3 (wl := [(m0, .inr (11, [.int s_thrown, .int s_taped, .ref m1, .int (nI n), .int s_outSize, .ref m2, .int (nI (u_461 2)), .int (nI (u_461 3)), .int (nI (u_461 0)), .int (nI (u_461 1)), .int 0, .ref m3, .ref m4, .ref m5, .int s_isProgram, .int s_half, .ref m6, .ref m7, .ref m8, .ref m9, .ref m10, .ref m11, .ref m12, .ref m13, .ref m14, .ref m15, .ref m16, .ref m17, .ref m18, .ref m19, .ref m20, .int s_signs, .ref m21, .int s_stacked, .ref m22, .int (nI v), .int (nI (u_440 3)), .int s_statements, .int s_ifs, .int s_whiles, .int s_variants, .int s_open, .ref m23, .int s_isMade, .int s_conditions, .ref m24, .ref m25, .ref m26, .ref m27, .int s_kept, .ref m28, .int s_tops, .ref m29, .int s_used, .ref m30, .ref m31, .int s_looked, .int s_rows, .int s_firstRow, .ref m32, .ref m33, .ref m34, .ref m35, .ref m36, .ref m37, .ref m38, .ref m39, .ref m40, .int s_isBroken, .ref m41, .int s_atoms, .ref m42])), (m1, .inl (ax 0, 400, .inl (fun j => nI (g j))))]) hP hD [0, 1] [] hCs (by decide) (by decide) hk1 hFc hP1 hD1 rfl
                clear hP1 hD1
                clear hPc hDc hFc hCs hz hz1 hk1 ht hvm
                clear hP hD hS
                have hS := hS1
                obtain ⟨hP, hD⟩ := hjn
                clear hS1
                rw [← hQe]
                obtain ⟨hP9, hD9⟩ := xw_sub2 (wc := (fun (u : Nat → Nat) (xnm : Int32) (xsh : Int32) => [(m0, .inr (11, [.int s_thrown, .int s_taped, .ref m1, .int (nI n), .int s_outSize, .ref m2, .int (nI (u 2)), .int (nI (u 3)), .int (nI (u 0)), .int (nI (u 1)), .int (nI (u 4)), .ref m3, .ref m4, .ref m5, .int s_isProgram, .int s_half, .ref m6, .ref m7, .ref m8, .ref m9, .ref m10, .ref m11, .ref m12, .ref m13, .ref m14, .ref m15, .ref m16, .ref m17, .ref m18, .ref m19, .ref m20, .int s_signs, .ref m21, .int s_stacked, .ref m22, .int xnm, .int xsh, .int s_statements, .int s_ifs, .int s_whiles, .int s_variants, .int s_open, .ref m23, .int s_isMade, .int s_conditions, .ref m24, .ref m25, .ref m26, .ref m27, .int s_kept, .ref m28, .int s_tops, .ref m29, .int s_used, .ref m30, .ref m31, .int s_looked, .int s_rows, .int s_firstRow, .ref m32, .ref m33, .ref m34, .ref m35, .ref m36, .ref m37, .ref m38, .ref m39, .ref m40, .int s_isBroken, .ref m41, .int s_atoms, .ref m42])), (m1, .inl (ax 0, 400, .inl (fun j => nI (g j))))]) (ixn [(u_461 0), (u_461 1), (u_461 2), (u_461 3), 0]) (nI v) (nI (u_440 3))) hP hD [0, 1] (by decide) rfl
                have hex0 : nmo (6 + 4 * gh) (nI v) := (by first | exact Or.inl rfl | exact Or.inr ⟨_, by omega, rfl⟩ | assumption)
                have hex1 : imp0 (0) (tmQ (nI v) (nI (u_440 3)) (trmV (kd g n) (nxt g n) (kv g n) gh b)) := (Or.inr (by first | exact trv_p hkv (by first | assumption | omega) hs_369 hs_362 (by first | assumption | omega) hs_453 hs_446 (by first | assumption | omega) (by first | rfl | assumption | (exfalso; omega)) | exact trv_m hkv (by first | assumption | omega) hs_369 hs_362 (by first | assumption | omega) hs_453 hs_446 (by first | assumption | omega) (by first | rfl | assumption | (exfalso; omega))))
                have hsp0 : b ≤ (u_461 0) := (by first | assumption | omega)
                have hsp1 : (u_461 0) ≤ (u_461 1) := (by first | assumption | omega)
                have hsp2 : (u_461 1) ≤ n := (by first | assumption | omega)
                have hsp3 : tk0 ((u_461 2)) ((u_461 0)) ((u_461 1)) := (by assumption)
                have hsp4 : (u_461 2) < 10000 := (by first | assumption | omega)
                have hsp5 : (u_461 3) < 20000 := (by first | assumption | omega)
                have hsp6 : tkq g n ((u_461 0)) ((u_461 1)) ((u_461 2)) ((u_461 3)) := (by assumption)
                have hsp7 : 0 ≤ 1 := (by first | assumption | omega)
                have hsp8 : imp0 (0) (b < (u_461 0)) := (Or.inr (by first | assumption | omega))
                have hsp9 : trmG (kd g n) (nxt g n) gh b = (0, (u_461 0)) := (by first | exact trm_b hkv (by first | assumption | omega) hs_369 hs_362 (by first | assumption | omega) hs_453 hs_446 (by first | assumption | omega) hs_467)
                exact W.vret hx hb hr (fun t ht hW => ⟨⟨ixn [(u_461 0), (u_461 1), (u_461 2), (u_461 3), 0], rfl, ⟨hsp0, hsp1, hsp2, hsp3, hsp4, hsp5, hsp6, hsp7, hsp8, hsp9⟩, ⟨nI v, nI (u_440 3), hex0, hex1, by rw [ht]; exact hP9, hD9⟩⟩, hS.F ht⟩) hS.2.2 d_Model_term_109
            · replace c_454 : ((u_356 2) = 200 + 45) := zb_y c_454
              refine lv_aload_n hx hb d_Model_term_77 rfl (lv_at hl1 1 rfl) ?_
              refine va_get (D := D) (ci := 11) (v := .int (nI (u_440 3))) (C := R_Model) (T := F_Model) (N := 72) hx hb hts i_Model hown hK.1 hP 0 rfl rfl 7 (by decide) (hts _ wd_1043) (fun _ h9 => h9) rfl d_Model_term_78 ?_
              refine lv_ineg hx hb d_Model_term_81 ?_
              refine lv_topi (fun z_475 ez_475 => ?_)
              refine lv_goto (tgt := 89) hx hb d_Model_term_82 (by decide) ?_
              refine va_put (D := D) (ci := 11) (v := .int z_475) (ty := .int) (C := R_Model) (T := F_Model) (N := 72) hx hb hts i_Model t_Model t_Model_ok n_Model hown hK.1 hP hD hS 0 rfl rfl 36 (by decide) (hts _ wd_1072) (fun _ h9 => h9) rfl (by decide +kernel) rfl rfl (Nat.le_of_ble_eq_true rfl) d_Model_term_89 (fun H_476 locs hP1 hD1 hS1 => ?_)
              clear hP hD hS
              have hS := hS1
              have hW7 : (fun w9 : va_W => va_P D classes w9 H_476 ∧ va_D A w9) [(m0, .inr (11, [.int s_thrown, .int s_taped, .ref m1, .int (nI n), .int s_outSize, .ref m2, .int (nI (u_440 2)), .int (nI (u_440 3)), .int (nI (u_440 0)), .int (nI (u_440 1)), .int 0, .ref m3, .ref m4, .ref m5, .int s_isProgram, .int s_half, .ref m6, .ref m7, .ref m8, .ref m9, .ref m10, .ref m11, .ref m12, .ref m13, .ref m14, .ref m15, .ref m16, .ref m17, .ref m18, .ref m19, .ref m20, .int s_signs, .ref m21, .int s_stacked, .ref m22, .int (nI v), .int z_475, .int s_statements, .int s_ifs, .int s_whiles, .int s_variants, .int s_open, .ref m23, .int s_isMade, .int s_conditions, .ref m24, .ref m25, .ref m26, .ref m27, .int s_kept, .ref m28, .int s_tops, .ref m29, .int s_used, .ref m30, .ref m31, .int s_looked, .int s_rows, .int s_firstRow, .ref m32, .ref m33, .ref m34, .ref m35, .ref m36, .ref m37, .ref m38, .ref m39, .ref m40, .int s_isBroken, .ref m41, .int s_atoms, .ref m42])), (m1, .inl (ax 0, 400, .inl (fun j => nI (g j))))] := ⟨hP1, hD1⟩
              obtain ⟨hP, hD⟩ := hW7
              clear hP1 hD1 hS1
              refine lv_aload_n hx hb d_Model_term_92 rfl (lv_at hl1 1 rfl) ?_
              refine lv_aload_n hx hb d_Model_term_93 rfl (lv_at hl1 1 rfl) ?_
              refine va_get (D := D) (ci := 11) (v := .int (nI (u_440 2))) (C := R_Model) (T := F_Model) (N := 72) hx hb hts i_Model hown hK.1 hP 0 rfl rfl 6 (by decide) (hts _ wd_1042) (fun _ h9 => h9) rfl d_Model_term_94 ?_
              refine lv_iconst (v := 3) hx hb d_Model_term_97 (by decide) ?_
              refine lv_icmp_ne (tgt := 105) hx hb d_Model_term_98 (by decide) (fun c_477 => ?_) (fun c_477 => ?_)
              · replace c_477 : ¬ u_440 2 = 3 := fun hq9 => c_477 ((nI_eq (a := u_440 2) (b := 3) (by first | exact Nat.lt_of_lt_of_le (by assumption) (by decide) | exact Nat.lt_of_le_of_lt (by assumption) (by decide) | omega) (by decide)).mpr hq9)
                refine lv_iconst (v := 0) hx hb d_Model_term_105 (by decide) ?_
                obtain ⟨hPc, hDc, hFc, hCs⟩ := xw_sub3 (wc := [(m0, .inr (11, [.int s_thrown, .int s_taped, .ref m1, .int (nI n), .int s_outSize, .ref m2, .int (nI (u_440 2)), .int (nI (u_440 3)), .int (nI (u_440 0)), .int (nI (u_440 1)), .int 0, .ref m3, .ref m4, .ref m5, .int s_isProgram, .int s_half, .ref m6, .ref m7, .ref m8, .ref m9, .ref m10, .ref m11, .ref m12, .ref m13, .ref m14, .ref m15, .ref m16, .ref m17, .ref m18, .ref m19, .ref m20, .int s_signs, .ref m21, .int s_stacked, .ref m22, .int (nI v), .int z_475, .int s_statements, .int s_ifs, .int s_whiles, .int s_variants, .int s_open, .ref m23, .int s_isMade, .int s_conditions, .ref m24, .ref m25, .ref m26, .ref m27, .int s_kept, .ref m28, .int s_tops, .ref m29, .int s_used, .ref m30, .ref m31, .int s_looked, .int s_rows, .int s_firstRow, .ref m32, .ref m33, .ref m34, .ref m35, .ref m36, .ref m37, .ref m38, .ref m39, .ref m40, .int s_isBroken, .ref m41, .int s_atoms, .ref m42]))]) hP hD hS hA [0] (by decide) rfl
                have hz := xz_of hN hS
                refine va_callv (va_runV (As := [.int 0]) (rest := []) ⟨hx, hb, hml, hown, hts⟩ (c_M_must_0 l D ax m0 m1 m2 m3 m4 m5 m6 m7 m8 m9 m10 m11 m12 m13 m14 m15 m16 m17 m18 m19 m20 m21 m22 m23 m24 m25 m26 m27 m28 m29 m30 m31 m32 m33 m34 m35 m36 m37 m38 m39 m40 m41 m42 s_thrown s_taped (nI n) s_outSize (nI (u_440 2)) (nI (u_440 3)) (nI (u_440 0)) (nI (u_440 1)) s_isProgram s_half s_signs s_stacked (nI v) z_475 s_statements s_ifs s_whiles s_variants s_open s_isMade s_conditions s_kept s_tops s_used s_looked s_rows s_firstRow s_isBroken s_atoms H_476.size) (xcV (n := 1) hts wd_1335 wd_15 wd_1332 wd_1334 ps_61 rfl rfl (by decide +kernel) ⟨Nat.le_of_ble_eq_true rfl, Nat.le_of_ble_eq_true rfl⟩) (xpV (ci := 11) (q0 := 0) (As := [.int 0]) hPc hK hz hDc rfl rfl) rfl rfl hl1.1 rfl (lv_room (Nat.le_of_ble_eq_true rfl)) d_Model_term_106 ⟨Nat.le_of_ble_eq_true rfl, Nat.le_of_ble_eq_true rfl⟩) hS (fun q _ h => hFc q h) hFc (fun u_478 t H_479 locs ht hvm hw hB hz1 hk1 hS1 => ?_)
                try dsimp only at hw
                obtain ⟨hP1, hD1⟩ := hB
                rw [ht] at hP1
                have hjn := xw_join3 (wl := [(m1, .inl (ax 0, 400, .inl (fun j => nI (g j)))), (m0, .inr (11, [.int s_thrown, .int s_taped, .ref m1, .int (nI n), .int s_outSize, .ref m2, .int (nI (u_440 2)), .int (nI (u_440 3)), .int (nI (u_440 0)), .int (nI (u_440 1)), .int 1, .ref m3, .ref m4, .ref m5, .int s_isProgram, .int s_half, .ref m6, .ref m7, .ref m8, .ref m9, .ref m10, .ref m11, .ref m12, .ref m13, .ref m14, .ref m15, .ref m16, .ref m17, .ref m18, .ref m19, .ref m20, .int s_signs, .ref m21, .int s_stacked, .ref m22, .int (nI v), .int z_475, .int s_statements, .int s_ifs, .int s_whiles, .int s_variants, .int s_open, .ref m23, .int s_isMade, .int s_conditions, .ref m24, .ref m25, .ref m26, .ref m27, .int s_kept, .ref m28, .int s_tops, .ref m29, .int s_used, .ref m30, .ref m31, .int s_looked, .int s_rows, .int s_firstRow, .ref m32, .ref m33, .ref m34, .ref m35, .ref m36, .ref m37, .ref m38, .ref m39, .ref m40, .int s_isBroken, .ref m41, .int s_atoms, .ref m42]))]) hP hD [0] [1] hCs (by decide) (by decide) hk1 hFc hP1 hD1 rfl
                clear hP1 hD1
                clear hPc hDc hFc hCs hz hz1 hk1 ht hvm
                clear hP hD hS
                have hS := hS1
                obtain ⟨hP, hD⟩ := hjn
                clear hS1
                rw [← hQe]
                obtain ⟨hP9, hD9⟩ := xw_sub2 (wc := (fun (u : Nat → Nat) (xnm : Int32) (xsh : Int32) => [(m0, .inr (11, [.int s_thrown, .int s_taped, .ref m1, .int (nI n), .int s_outSize, .ref m2, .int (nI (u 2)), .int (nI (u 3)), .int (nI (u 0)), .int (nI (u 1)), .int (nI (u 4)), .ref m3, .ref m4, .ref m5, .int s_isProgram, .int s_half, .ref m6, .ref m7, .ref m8, .ref m9, .ref m10, .ref m11, .ref m12, .ref m13, .ref m14, .ref m15, .ref m16, .ref m17, .ref m18, .ref m19, .ref m20, .int s_signs, .ref m21, .int s_stacked, .ref m22, .int xnm, .int xsh, .int s_statements, .int s_ifs, .int s_whiles, .int s_variants, .int s_open, .ref m23, .int s_isMade, .int s_conditions, .ref m24, .ref m25, .ref m26, .ref m27, .int s_kept, .ref m28, .int s_tops, .ref m29, .int s_used, .ref m30, .ref m31, .int s_looked, .int s_rows, .int s_firstRow, .ref m32, .ref m33, .ref m34, .ref m35, .ref m36, .ref m37, .ref m38, .ref m39, .ref m40, .int s_isBroken, .ref m41, .int s_atoms, .ref m42])), (m1, .inl (ax 0, 400, .inl (fun j => nI (g j))))]) (ixn [(u_440 0), (u_440 1), (u_440 2), (u_440 3), 1]) (nI v) z_475) hP hD [1, 0] (by decide) rfl
                have hex0 : nmo (6 + 4 * gh) (nI v) := (by first | exact Or.inl rfl | exact Or.inr ⟨_, by omega, rfl⟩ | assumption)
                have hex1 : imp0 (1) (tmQ (nI v) z_475 (trmV (kd g n) (nxt g n) (kv g n) gh b)) := (Or.inl rfl)
                have hsp0 : b ≤ (u_440 0) := (by first | assumption | omega)
                have hsp1 : (u_440 0) ≤ (u_440 1) := (by first | assumption | omega)
                have hsp2 : (u_440 1) ≤ n := (by first | assumption | omega)
                have hsp3 : tk0 ((u_440 2)) ((u_440 0)) ((u_440 1)) := (by assumption)
                have hsp4 : (u_440 2) < 10000 := (by first | assumption | omega)
                have hsp5 : (u_440 3) < 20000 := (by first | assumption | omega)
                have hsp6 : tkq g n ((u_440 0)) ((u_440 1)) ((u_440 2)) ((u_440 3)) := (by assumption)
                have hsp7 : 1 ≤ 1 := (by first | assumption | omega)
                have hsp8 : imp0 (1) (b < (u_440 0)) := (Or.inl rfl)
                have hsp9 : trmG (kd g n) (nxt g n) gh b = (1, (u_440 0)) := (by first | exact trm_c hkv (by first | assumption | omega) hs_369 hs_362 (by first | assumption | omega) hs_453 hs_446 (by first | assumption | omega))
                exact W.vret hx hb hr (fun t ht hW => ⟨⟨ixn [(u_440 0), (u_440 1), (u_440 2), (u_440 3), 1], rfl, ⟨hsp0, hsp1, hsp2, hsp3, hsp4, hsp5, hsp6, hsp7, hsp8, hsp9⟩, ⟨nI v, z_475, hex0, hex1, by rw [ht]; exact hP9, hD9⟩⟩, hS.F ht⟩) hS.2.2 d_Model_term_109
              · replace c_477 : u_440 2 = 3 := (nI_eq (a := u_440 2) (b := 3) (by first | exact Nat.lt_of_lt_of_le (by assumption) (by decide) | exact Nat.lt_of_le_of_lt (by assumption) (by decide) | omega) (by decide)).mp c_477
                have hlt_481 : u_440 0 < u_440 1 := tk0.lt (by assumption) (by first | assumption | omega)
                refine lv_iconst (v := 1) hx hb d_Model_term_101 (by decide) ?_
                refine lv_goto (tgt := 106) hx hb d_Model_term_102 (by decide) ?_
                obtain ⟨hPc, hDc, hFc, hCs⟩ := xw_sub3 (wc := [(m0, .inr (11, [.int s_thrown, .int s_taped, .ref m1, .int (nI n), .int s_outSize, .ref m2, .int (nI (u_440 2)), .int (nI (u_440 3)), .int (nI (u_440 0)), .int (nI (u_440 1)), .int 0, .ref m3, .ref m4, .ref m5, .int s_isProgram, .int s_half, .ref m6, .ref m7, .ref m8, .ref m9, .ref m10, .ref m11, .ref m12, .ref m13, .ref m14, .ref m15, .ref m16, .ref m17, .ref m18, .ref m19, .ref m20, .int s_signs, .ref m21, .int s_stacked, .ref m22, .int (nI v), .int z_475, .int s_statements, .int s_ifs, .int s_whiles, .int s_variants, .int s_open, .ref m23, .int s_isMade, .int s_conditions, .ref m24, .ref m25, .ref m26, .ref m27, .int s_kept, .ref m28, .int s_tops, .ref m29, .int s_used, .ref m30, .ref m31, .int s_looked, .int s_rows, .int s_firstRow, .ref m32, .ref m33, .ref m34, .ref m35, .ref m36, .ref m37, .ref m38, .ref m39, .ref m40, .int s_isBroken, .ref m41, .int s_atoms, .ref m42])), (m1, .inl (ax 0, 400, .inl (fun j => nI (g j))))]) hP hD hS hA [0, 1] (by decide) rfl
                have hz := xz_of hN hS
                refine va_callv (va_runV (As := [.int 1]) (rest := []) ⟨hx, hb, hml, hown, hts⟩ (c_M_must_1 l D ax m0 m1 m2 m3 m4 m5 m6 m7 m8 m9 m10 m11 m12 m13 m14 m15 m16 m17 m18 m19 m20 m21 m22 m23 m24 m25 m26 m27 m28 m29 m30 m31 m32 m33 m34 m35 m36 m37 m38 m39 m40 m41 m42 s_thrown s_taped s_outSize (nI (u_440 2)) (nI (u_440 0)) s_isProgram s_half s_signs s_stacked (nI v) z_475 s_statements s_ifs s_whiles s_variants s_open s_isMade s_conditions s_kept s_tops s_used s_looked s_rows s_firstRow s_isBroken s_atoms n (u_440 1) (u_440 3) g H_476.size hn (by first | assumption | omega) hg (by first | assumption | omega)) (xcV (n := 1) hts wd_1335 wd_15 wd_1332 wd_1334 ps_61 rfl rfl (by decide +kernel) ⟨Nat.le_of_ble_eq_true rfl, Nat.le_of_ble_eq_true rfl⟩) (xpV (ci := 11) (q0 := 0) (As := [.int 1]) hPc hK hz hDc rfl rfl) rfl rfl hl1.1 rfl (lv_room (Nat.le_of_ble_eq_true rfl)) d_Model_term_106 ⟨Nat.le_of_ble_eq_true rfl, Nat.le_of_ble_eq_true rfl⟩) hS (fun q _ h => hFc q h) hFc (fun u_482 t H_483 locs ht hvm hw hB hz1 hk1 hS1 => ?_)
                try dsimp only at hw
                obtain ⟨-, -, -, hs_488, hs_489, hs_490, hs_491, hs_492, hs_493, hs_494, hs_495⟩ := hw
                obtain ⟨hP1, hD1⟩ := hB
                rw [ht] at hP1
                have hjn := xw_join3 (wl := [(m0, .inr (11, [.int s_thrown, .int s_taped, .ref m1, .int (nI n), .int s_outSize, .ref m2, .int (nI (u_482 2)), .int (nI (u_482 3)), .int (nI (u_482 0)), .int (nI (u_482 1)), .int 0, .ref m3, .ref m4, .ref m5, .int s_isProgram, .int s_half, .ref m6, .ref m7, .ref m8, .ref m9, .ref m10, .ref m11, .ref m12, .ref m13, .ref m14, .ref m15, .ref m16, .ref m17, .ref m18, .ref m19, .ref m20, .int s_signs, .ref m21, .int s_stacked, .ref m22, .int (nI v), .int z_475, .int s_statements, .int s_ifs, .int s_whiles, .int s_variants, .int s_open, .ref m23, .int s_isMade, .int s_conditions, .ref m24, .ref m25, .ref m26, .ref m27, .int s_kept, .ref m28, .int s_tops, .ref m29, .int s_used, .ref m30, .ref m31, .int s_looked, .int s_rows, .int s_firstRow, .ref m32, .ref m33, .ref m34, .ref m35, .ref m36, .ref m37, .ref m38, .ref m39, .ref m40, .int s_isBroken, .ref m41, .int s_atoms, .ref m42])), (m1, .inl (ax 0, 400, .inl (fun j => nI (g j))))]) hP hD [0, 1] [] hCs (by decide) (by decide) hk1 hFc hP1 hD1 rfl
                clear hP1 hD1
                clear hPc hDc hFc hCs hz hz1 hk1 ht hvm
                clear hP hD hS
                have hS := hS1
                obtain ⟨hP, hD⟩ := hjn
                clear hS1
                rw [← hQe]
                obtain ⟨hP9, hD9⟩ := xw_sub2 (wc := (fun (u : Nat → Nat) (xnm : Int32) (xsh : Int32) => [(m0, .inr (11, [.int s_thrown, .int s_taped, .ref m1, .int (nI n), .int s_outSize, .ref m2, .int (nI (u 2)), .int (nI (u 3)), .int (nI (u 0)), .int (nI (u 1)), .int (nI (u 4)), .ref m3, .ref m4, .ref m5, .int s_isProgram, .int s_half, .ref m6, .ref m7, .ref m8, .ref m9, .ref m10, .ref m11, .ref m12, .ref m13, .ref m14, .ref m15, .ref m16, .ref m17, .ref m18, .ref m19, .ref m20, .int s_signs, .ref m21, .int s_stacked, .ref m22, .int xnm, .int xsh, .int s_statements, .int s_ifs, .int s_whiles, .int s_variants, .int s_open, .ref m23, .int s_isMade, .int s_conditions, .ref m24, .ref m25, .ref m26, .ref m27, .int s_kept, .ref m28, .int s_tops, .ref m29, .int s_used, .ref m30, .ref m31, .int s_looked, .int s_rows, .int s_firstRow, .ref m32, .ref m33, .ref m34, .ref m35, .ref m36, .ref m37, .ref m38, .ref m39, .ref m40, .int s_isBroken, .ref m41, .int s_atoms, .ref m42])), (m1, .inl (ax 0, 400, .inl (fun j => nI (g j))))]) (ixn [(u_482 0), (u_482 1), (u_482 2), (u_482 3), 0]) (nI v) z_475) hP hD [0, 1] (by decide) rfl
                have hex0 : nmo (6 + 4 * gh) (nI v) := (by first | exact Or.inl rfl | exact Or.inr ⟨_, by omega, rfl⟩ | assumption)
                have hex1 : imp0 (0) (tmQ (nI v) z_475 (trmV (kd g n) (nxt g n) (kv g n) gh b)) := (Or.inr (by first | exact trv_p hkv (by first | assumption | omega) hs_369 hs_362 (by first | assumption | omega) hs_453 hs_446 (by first | assumption | omega) (by first | rfl | assumption | (exfalso; omega)) | exact trv_m hkv (by first | assumption | omega) hs_369 hs_362 (by first | assumption | omega) hs_453 hs_446 (by first | assumption | omega) (by first | rfl | assumption | (exfalso; omega))))
                have hsp0 : b ≤ (u_482 0) := (by first | assumption | omega)
                have hsp1 : (u_482 0) ≤ (u_482 1) := (by first | assumption | omega)
                have hsp2 : (u_482 1) ≤ n := (by first | assumption | omega)
                have hsp3 : tk0 ((u_482 2)) ((u_482 0)) ((u_482 1)) := (by assumption)
                have hsp4 : (u_482 2) < 10000 := (by first | assumption | omega)
                have hsp5 : (u_482 3) < 20000 := (by first | assumption | omega)
                have hsp6 : tkq g n ((u_482 0)) ((u_482 1)) ((u_482 2)) ((u_482 3)) := (by assumption)
                have hsp7 : 0 ≤ 1 := (by first | assumption | omega)
                have hsp8 : imp0 (0) (b < (u_482 0)) := (Or.inr (by first | assumption | omega))
                have hsp9 : trmG (kd g n) (nxt g n) gh b = (0, (u_482 0)) := (by first | exact trm_b hkv (by first | assumption | omega) hs_369 hs_362 (by first | assumption | omega) hs_453 hs_446 (by first | assumption | omega) hs_488)
                exact W.vret hx hb hr (fun t ht hW => ⟨⟨ixn [(u_482 0), (u_482 1), (u_482 2), (u_482 3), 0], rfl, ⟨hsp0, hsp1, hsp2, hsp3, hsp4, hsp5, hsp6, hsp7, hsp8, hsp9⟩, ⟨nI v, z_475, hex0, hex1, by rw [ht]; exact hP9, hD9⟩⟩, hS.F ht⟩) hS.2.2 d_Model_term_109
abbrev b_Model_putAtom : ByteArray := prog_13_method_3_code
def y_Model_putAtom : MethodName := ⟨R_Model, "putAtom", "([IIIIIII)V"⟩
theorem d_Model_putAtom_0 : decode b_Model_putAtom 0 = .ok (.aload_n 0, 1) := by decide +kernel
theorem d_Model_putAtom_1 : decode b_Model_putAtom 1 = .ok (.iload_n 1, 1) := by decide +kernel
theorem d_Model_putAtom_2 : decode b_Model_putAtom 2 = .ok (.iconst 0, 1) := by decide +kernel
theorem d_Model_putAtom_3 : decode b_Model_putAtom 3 = .ok (.iastore, 1) := by decide +kernel
theorem d_Model_putAtom_4 : decode b_Model_putAtom 4 = .ok (.aload_n 0, 1) := by decide +kernel
theorem d_Model_putAtom_5 : decode b_Model_putAtom 5 = .ok (.iload_n 1, 1) := by decide +kernel
theorem d_Model_putAtom_6 : decode b_Model_putAtom 6 = .ok (.iconst 1, 1) := by decide +kernel
theorem d_Model_putAtom_7 : decode b_Model_putAtom 7 = .ok (.iadd, 1) := by decide +kernel
theorem d_Model_putAtom_8 : decode b_Model_putAtom 8 = .ok (.iload_n 2, 1) := by decide +kernel
theorem d_Model_putAtom_9 : decode b_Model_putAtom 9 = .ok (.iastore, 1) := by decide +kernel
theorem d_Model_putAtom_10 : decode b_Model_putAtom 10 = .ok (.aload_n 0, 1) := by decide +kernel
theorem d_Model_putAtom_11 : decode b_Model_putAtom 11 = .ok (.iload_n 1, 1) := by decide +kernel
theorem d_Model_putAtom_12 : decode b_Model_putAtom 12 = .ok (.iconst 2, 1) := by decide +kernel
theorem d_Model_putAtom_13 : decode b_Model_putAtom 13 = .ok (.iadd, 1) := by decide +kernel
theorem d_Model_putAtom_14 : decode b_Model_putAtom 14 = .ok (.iload_n 3, 1) := by decide +kernel
theorem d_Model_putAtom_15 : decode b_Model_putAtom 15 = .ok (.iastore, 1) := by decide +kernel
theorem d_Model_putAtom_16 : decode b_Model_putAtom 16 = .ok (.aload_n 0, 1) := by decide +kernel
theorem d_Model_putAtom_17 : decode b_Model_putAtom 17 = .ok (.iload_n 1, 1) := by decide +kernel
theorem d_Model_putAtom_18 : decode b_Model_putAtom 18 = .ok (.iconst 3, 1) := by decide +kernel
theorem d_Model_putAtom_19 : decode b_Model_putAtom 19 = .ok (.iadd, 1) := by decide +kernel
theorem d_Model_putAtom_20 : decode b_Model_putAtom 20 = .ok (.iload 4, 2) := by decide +kernel
theorem d_Model_putAtom_22 : decode b_Model_putAtom 22 = .ok (.iastore, 1) := by decide +kernel
theorem d_Model_putAtom_23 : decode b_Model_putAtom 23 = .ok (.aload_n 0, 1) := by decide +kernel
theorem d_Model_putAtom_24 : decode b_Model_putAtom 24 = .ok (.iload_n 1, 1) := by decide +kernel
theorem d_Model_putAtom_25 : decode b_Model_putAtom 25 = .ok (.iconst 4, 1) := by decide +kernel
theorem d_Model_putAtom_26 : decode b_Model_putAtom 26 = .ok (.iadd, 1) := by decide +kernel
theorem d_Model_putAtom_27 : decode b_Model_putAtom 27 = .ok (.iload 5, 2) := by decide +kernel
theorem d_Model_putAtom_29 : decode b_Model_putAtom 29 = .ok (.iastore, 1) := by decide +kernel
theorem d_Model_putAtom_30 : decode b_Model_putAtom 30 = .ok (.aload_n 0, 1) := by decide +kernel
theorem d_Model_putAtom_31 : decode b_Model_putAtom 31 = .ok (.iload_n 1, 1) := by decide +kernel
theorem d_Model_putAtom_32 : decode b_Model_putAtom 32 = .ok (.iconst 5, 1) := by decide +kernel
theorem d_Model_putAtom_33 : decode b_Model_putAtom 33 = .ok (.iadd, 1) := by decide +kernel
theorem d_Model_putAtom_34 : decode b_Model_putAtom 34 = .ok (.iload 6, 2) := by decide +kernel
theorem d_Model_putAtom_36 : decode b_Model_putAtom 36 = .ok (.iastore, 1) := by decide +kernel
theorem d_Model_putAtom_37 : decode b_Model_putAtom 37 = .ok (.return_, 1) := by decide +kernel
set_option maxHeartbeats 40000000 in
set_option maxRecDepth 100000 in
theorem c_M_putAtom (l : Launch) (D : va_G) (ax : Nat → ClassId) (h0 n o1 : Nat) (f : Nat → Int32) (a1 a2 a3 a4 a5 : Int32) (sz : Nat) (hp1 : o1 + 6 ≤ n) (hn9 : n < 2 ^ 31) : Met l y_Model_putAtom (xws (.code y_Model_putAtom b_Model_putAtom 7 none)) ({ frames := 10, cells := 0, slots := 0, locals := 400 }) (va_Pc [.ref h0, .int (nI o1), .int a1, .int a2, .int a3, .int a4, .int a5] (xo D ax [(h0, .inl (ax 0, n, .inl f))] sz)) ((va_Qv (fun (u : Nat → Nat) => True) (xb D (va_A [(h0, .inl (ax 0, n, .inl f))] sz) (fun u => [(h0, .inl (ax 0, n, .inl (upd (upd (upd (upd (upd (upd f o1 0) (o1 + 1) a1) (o1 + 2) a2) (o1 + 3) a3) (o1 + 4) a4) (o1 + 5) a5)))])) (va_A [(h0, .inl (ax 0, n, .inl f))] sz))) 0 0 (va_A [(h0, .inl (ax 0, n, .inl f))] sz) := by
  refine Met.ofW (cc := b_Model_putAtom) (maxL := 7) (ret := none) (by decide) rfl ?_
  intro p e s m args below meth c s₁ B hml hv
  obtain ⟨rfl, hsz, hP, hK, hD0⟩ := hv
  have hx := B.exec
  have hb := B.bytes
  have hr := B.returns
  have hts := xw_hts B.pre
  have hown : s.vm.findClass R_Model = some m.cls := findClass_of_methodNamed B.named
  have hlocks := B.notSynchronized
  subst hsz
  have hD := hD0.self (sz := s.heap.size)
  have hN := xz_entry hP
  generalize hAe : va_A [(h0, .inl (ax 0, n, .inl f))] s.heap.size = A at hD hN ⊢
  have hA : ∀ q : Nat, s.heap.size ≤ q → A q := fun q h => by rw [← hAe]; exact Or.inr h
  have hS : va_S A s.heap s.heap [] := va_S.rf
  have hl0 := lv_entry ([.ref h0, .int (nI o1), .int a1, .int a2, .int a3, .int a4, .int a5]) (n := 7) (Nat.le_of_ble_eq_true rfl)
  rw [lg_entry_eq]
  generalize (lg_sl ([.ref h0, .int (nI o1), .int a1, .int a2, .int a3, .int a4, .int a5]) ++ List.replicate (7 - (lg_sl ([.ref h0, .int (nI o1), .int a1, .int a2, .int a3, .int a4, .int a5])).length) Slot.unset).toArray = ls at hl0 ⊢
  have hl1 : lv_has ls 7 [(0, .ref h0), (1, .int (nI o1)), (2, .int a1), (3, .int a2), (4, .int a3), (5, .int a4), (6, .int a5)] := hl0
  refine xw_gen (fun Z9 hQe => ?_)
  refine lv_aload_n hx hb d_Model_putAtom_0 rfl (lv_at hl1 0 rfl) ?_
  refine lv_iload_n hx hb d_Model_putAtom_1 rfl (lv_at hl1 1 rfl) ?_
  refine lv_iconst (v := 0) hx hb d_Model_putAtom_2 (by decide) ?_
  refine va_iast hx hb hK.1 hP hD hS 0 0 rfl rfl (vp_in_nI (by first | assumption | omega) (by first | exact Nat.lt_of_lt_of_le (by assumption) (by decide) | exact Nat.lt_of_le_of_lt (by assumption) (by decide) | omega)) d_Model_putAtom_3 (fun H_1 locs hP1 hD1 hS1 => ?_)
  rw [nI_clamp (by first | exact Nat.lt_of_lt_of_le (by assumption) (by decide) | exact Nat.lt_of_le_of_lt (by assumption) (by decide) | omega)] at hP1 hD1
  clear hP hD hS
  have hS := hS1
  have hW7 : (fun w9 : va_W => va_P D classes w9 H_1 ∧ va_D A w9) [(h0, .inl (ax 0, n, .inl (upd f o1 0)))] := ⟨hP1, hD1⟩
  obtain ⟨hP, hD⟩ := hW7
  clear hP1 hD1 hS1
  refine lv_aload_n hx hb d_Model_putAtom_4 rfl (lv_at hl1 0 rfl) ?_
  refine lv_iload_n hx hb d_Model_putAtom_5 rfl (lv_at hl1 1 rfl) ?_
  refine lv_iconst (v := 1) hx hb d_Model_putAtom_6 (by decide) ?_
  refine lv_iadd hx hb d_Model_putAtom_7 ?_
  refine lv_topi (fun z_2 ez_2 => ?_)
  have ez_2 : z_2 = nI (o1 + 1) := ez_2.trans (nI_add o1 1)
  subst ez_2
  refine lv_iload_n hx hb d_Model_putAtom_8 rfl (lv_at hl1 2 rfl) ?_
  refine va_iast hx hb hK.1 hP hD hS 0 0 rfl rfl (vp_in_nI (by first | assumption | omega) (by first | exact Nat.lt_of_lt_of_le (by assumption) (by decide) | exact Nat.lt_of_le_of_lt (by assumption) (by decide) | omega)) d_Model_putAtom_9 (fun H_3 locs hP1 hD1 hS1 => ?_)
  rw [nI_clamp (by first | exact Nat.lt_of_lt_of_le (by assumption) (by decide) | exact Nat.lt_of_le_of_lt (by assumption) (by decide) | omega)] at hP1 hD1
  clear hP hD hS
  have hS := hS1
  have hW7 : (fun w9 : va_W => va_P D classes w9 H_3 ∧ va_D A w9) [(h0, .inl (ax 0, n, .inl (upd (upd f o1 0) (o1 + 1) a1)))] := ⟨hP1, hD1⟩
  obtain ⟨hP, hD⟩ := hW7
  clear hP1 hD1 hS1
  refine lv_aload_n hx hb d_Model_putAtom_10 rfl (lv_at hl1 0 rfl) ?_
  refine lv_iload_n hx hb d_Model_putAtom_11 rfl (lv_at hl1 1 rfl) ?_
  refine lv_iconst (v := 2) hx hb d_Model_putAtom_12 (by decide) ?_
  refine lv_iadd hx hb d_Model_putAtom_13 ?_
  refine lv_topi (fun z_4 ez_4 => ?_)
  have ez_4 : z_4 = nI (o1 + 2) := ez_4.trans (nI_add o1 2)
  subst ez_4
  refine lv_iload_n hx hb d_Model_putAtom_14 rfl (lv_at hl1 3 rfl) ?_
  refine va_iast hx hb hK.1 hP hD hS 0 0 rfl rfl (vp_in_nI (by first | assumption | omega) (by first | exact Nat.lt_of_lt_of_le (by assumption) (by decide) | exact Nat.lt_of_le_of_lt (by assumption) (by decide) | omega)) d_Model_putAtom_15 (fun H_5 locs hP1 hD1 hS1 => ?_)
  rw [nI_clamp (by first | exact Nat.lt_of_lt_of_le (by assumption) (by decide) | exact Nat.lt_of_le_of_lt (by assumption) (by decide) | omega)] at hP1 hD1
  clear hP hD hS
  have hS := hS1
  have hW7 : (fun w9 : va_W => va_P D classes w9 H_5 ∧ va_D A w9) [(h0, .inl (ax 0, n, .inl (upd (upd (upd f o1 0) (o1 + 1) a1) (o1 + 2) a2)))] := ⟨hP1, hD1⟩
  obtain ⟨hP, hD⟩ := hW7
  clear hP1 hD1 hS1
  refine lv_aload_n hx hb d_Model_putAtom_16 rfl (lv_at hl1 0 rfl) ?_
  refine lv_iload_n hx hb d_Model_putAtom_17 rfl (lv_at hl1 1 rfl) ?_
  refine lv_iconst (v := 3) hx hb d_Model_putAtom_18 (by decide) ?_
  refine lv_iadd hx hb d_Model_putAtom_19 ?_
  refine lv_topi (fun z_6 ez_6 => ?_)
  have ez_6 : z_6 = nI (o1 + 3) := ez_6.trans (nI_add o1 3)
  subst ez_6
  refine lv_iload hx hb d_Model_putAtom_20 (lv_at hl1 4 rfl) ?_
  refine va_iast hx hb hK.1 hP hD hS 0 0 rfl rfl (vp_in_nI (by first | assumption | omega) (by first | exact Nat.lt_of_lt_of_le (by assumption) (by decide) | exact Nat.lt_of_le_of_lt (by assumption) (by decide) | omega)) d_Model_putAtom_22 (fun H_7 locs hP1 hD1 hS1 => ?_)
  rw [nI_clamp (by first | exact Nat.lt_of_lt_of_le (by assumption) (by decide) | exact Nat.lt_of_le_of_lt (by assumption) (by decide) | omega)] at hP1 hD1
  clear hP hD hS
  have hS := hS1
  have hW7 : (fun w9 : va_W => va_P D classes w9 H_7 ∧ va_D A w9) [(h0, .inl (ax 0, n, .inl (upd (upd (upd (upd f o1 0) (o1 + 1) a1) (o1 + 2) a2) (o1 + 3) a3)))] := ⟨hP1, hD1⟩
  obtain ⟨hP, hD⟩ := hW7
  clear hP1 hD1 hS1
  refine lv_aload_n hx hb d_Model_putAtom_23 rfl (lv_at hl1 0 rfl) ?_
  refine lv_iload_n hx hb d_Model_putAtom_24 rfl (lv_at hl1 1 rfl) ?_
  refine lv_iconst (v := 4) hx hb d_Model_putAtom_25 (by decide) ?_
  refine lv_iadd hx hb d_Model_putAtom_26 ?_
  refine lv_topi (fun z_8 ez_8 => ?_)
  have ez_8 : z_8 = nI (o1 + 4) := ez_8.trans (nI_add o1 4)
  subst ez_8
  refine lv_iload hx hb d_Model_putAtom_27 (lv_at hl1 5 rfl) ?_
  refine va_iast hx hb hK.1 hP hD hS 0 0 rfl rfl (vp_in_nI (by first | assumption | omega) (by first | exact Nat.lt_of_lt_of_le (by assumption) (by decide) | exact Nat.lt_of_le_of_lt (by assumption) (by decide) | omega)) d_Model_putAtom_29 (fun H_9 locs hP1 hD1 hS1 => ?_)
  rw [nI_clamp (by first | exact Nat.lt_of_lt_of_le (by assumption) (by decide) | exact Nat.lt_of_le_of_lt (by assumption) (by decide) | omega)] at hP1 hD1
  clear hP hD hS
  have hS := hS1
  have hW7 : (fun w9 : va_W => va_P D classes w9 H_9 ∧ va_D A w9) [(h0, .inl (ax 0, n, .inl (upd (upd (upd (upd (upd f o1 0) (o1 + 1) a1) (o1 + 2) a2) (o1 + 3) a3) (o1 + 4) a4)))] := ⟨hP1, hD1⟩
  obtain ⟨hP, hD⟩ := hW7
  clear hP1 hD1 hS1
  refine lv_aload_n hx hb d_Model_putAtom_30 rfl (lv_at hl1 0 rfl) ?_
  refine lv_iload_n hx hb d_Model_putAtom_31 rfl (lv_at hl1 1 rfl) ?_
  refine lv_iconst (v := 5) hx hb d_Model_putAtom_32 (by decide) ?_
  refine lv_iadd hx hb d_Model_putAtom_33 ?_
  refine lv_topi (fun z_10 ez_10 => ?_)
  have ez_10 : z_10 = nI (o1 + 5) := ez_10.trans (nI_add o1 5)
  subst ez_10
  refine lv_iload hx hb d_Model_putAtom_34 (lv_at hl1 6 rfl) ?_
  refine va_iast hx hb hK.1 hP hD hS 0 0 rfl rfl (vp_in_nI (by first | assumption | omega) (by first | exact Nat.lt_of_lt_of_le (by assumption) (by decide) | exact Nat.lt_of_le_of_lt (by assumption) (by decide) | omega)) d_Model_putAtom_36 (fun H_11 locs hP1 hD1 hS1 => ?_)
  rw [nI_clamp (by first | exact Nat.lt_of_lt_of_le (by assumption) (by decide) | exact Nat.lt_of_le_of_lt (by assumption) (by decide) | omega)] at hP1 hD1
  clear hP hD hS
  have hS := hS1
  have hW7 : (fun w9 : va_W => va_P D classes w9 H_11 ∧ va_D A w9) [(h0, .inl (ax 0, n, .inl (upd (upd (upd (upd (upd (upd f o1 0) (o1 + 1) a1) (o1 + 2) a2) (o1 + 3) a3) (o1 + 4) a4) (o1 + 5) a5)))] := ⟨hP1, hD1⟩
  obtain ⟨hP, hD⟩ := hW7
  clear hP1 hD1 hS1
  rw [← hQe]
  obtain ⟨hP9, hD9⟩ := xw_sub2 (wc := (fun u : Nat → Nat => [(h0, .inl (ax 0, n, .inl (upd (upd (upd (upd (upd (upd f o1 0) (o1 + 1) a1) (o1 + 2) a2) (o1 + 3) a3) (o1 + 4) a4) (o1 + 5) a5)))]) (ixn [])) hP hD [0] (by decide) rfl
  exact W.vret hx hb hr (fun t ht hW => ⟨⟨ixn [], rfl, trivial, ⟨by rw [ht]; exact hP9, hD9⟩⟩, hS.F ht⟩) hS.2.2 d_Model_putAtom_37
