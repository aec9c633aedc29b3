theorem ps_60 : Cond.selects "TripleDeskModel" ⟨"TripleDeskModel", "term", "(Z)V"⟩ ⟨"TripleDeskModel", "term", "(Z)V"⟩ ∈ lw_gd := ps_in (q := (⟨"TripleDeskModel", "term", "(Z)V"⟩, 72)) (i := 60) (by decide +kernel)
theorem ps_62 : Cond.selects "TripleDeskModel" ⟨"TripleDeskModel", "way", "()I"⟩ ⟨"TripleDeskModel", "way", "()I"⟩ ∈ lw_gd := ps_in (q := (⟨"TripleDeskModel", "way", "()I"⟩, 72)) (i := 62) (by decide +kernel)
theorem wd_1033 : ((Jvm.Cond.methodLink "TripleDeskModel" (144 : Nat) ({ cls := "TripleDeskModel", name := "putAtom", desc := "([IIIIIII)V" } : Jvm.MethodName))) ∈ lw_gd := lw_gd_in (i := 1033) (by decide +kernel) rfl
theorem wd_1034 : ((Jvm.Cond.static ({ cls := "TripleDeskModel", name := "putAtom", desc := "([IIIIIII)V" } : Jvm.MethodName))) ∈ lw_gd := lw_gd_in (i := 1034) (by decide +kernel) rfl
theorem wd_1035 : ((Jvm.Cond.code ({ cls := "TripleDeskModel", name := "putAtom", desc := "([IIIIIII)V" } : Jvm.MethodName) prog_13_method_3_code (7 : Nat) (Option.none : Option Jvm.ClassFile.FieldType))) ∈ lw_gd := lw_gd_in (i := 1035) (by decide +kernel) rfl
theorem wd_1328 : ((Jvm.Cond.methodLink "TripleDeskModel" (219 : Nat) ({ cls := "TripleDeskModel", name := "term", desc := "(Z)V" } : Jvm.MethodName))) ∈ lw_gd := lw_gd_in (i := 1328) (by decide +kernel) rfl
theorem wd_1330 : ((Jvm.Cond.instanceMethod ({ cls := "TripleDeskModel", name := "term", desc := "(Z)V" } : Jvm.MethodName))) ∈ lw_gd := lw_gd_in (i := 1330) (by decide +kernel) rfl
theorem wd_1331 : ((Jvm.Cond.code ({ cls := "TripleDeskModel", name := "term", desc := "(Z)V" } : Jvm.MethodName) prog_13_method_16_code (3 : Nat) (Option.none : Option Jvm.ClassFile.FieldType))) ∈ lw_gd := lw_gd_in (i := 1331) (by decide +kernel) rfl
theorem wd_1336 : ((Jvm.Cond.methodLink "TripleDeskModel" (222 : Nat) ({ cls := "TripleDeskModel", name := "way", desc := "()I" } : Jvm.MethodName))) ∈ lw_gd := lw_gd_in (i := 1336) (by decide +kernel) rfl
theorem wd_1338 : ((Jvm.Cond.instanceMethod ({ cls := "TripleDeskModel", name := "way", desc := "()I" } : Jvm.MethodName))) ∈ lw_gd := lw_gd_in (i := 1338) (by decide +kernel) rfl
theorem wd_1339 : ((Jvm.Cond.code ({ cls := "TripleDeskModel", name := "way", desc := "()I" } : Jvm.MethodName) prog_13_method_17_code (1 : Nat) (Option.some Jvm.ClassFile.FieldType.int))) ∈ lw_gd := lw_gd_in (i := 1339) (by decide +kernel) rfl
theorem wy_ne {k : Nat} (h : ¬ wyK k = -1) : k ≠ 0 := fun e => h (by rw [e]; rfl)
theorem pa_at {f : Nat → Int32} {o1 : Nat} {a1 a2 a3 a4 a5 : Int32} : (upd (upd (upd (upd (upd (upd f o1 0) (o1 + 1) a1) (o1 + 2) a2) (o1 + 3) a3) (o1 + 4) a4) (o1 + 5) a5) o1 = 0 ∧ (upd (upd (upd (upd (upd (upd f o1 0) (o1 + 1) a1) (o1 + 2) a2) (o1 + 3) a3) (o1 + 4) a4) (o1 + 5) a5) (o1 + 1) = a1 ∧ (upd (upd (upd (upd (upd (upd f o1 0) (o1 + 1) a1) (o1 + 2) a2) (o1 + 3) a3) (o1 + 4) a4) (o1 + 5) a5) (o1 + 4) = a4 := by
  refine ⟨?_, ?_, ?_⟩ <;> simp [upd]
theorem pa_lo {f : Nat → Int32} {o1 j : Nat} {a1 a2 a3 a4 a5 : Int32} (h : j < o1 ∨ o1 + 6 ≤ j) : (upd (upd (upd (upd (upd (upd f o1 0) (o1 + 1) a1) (o1 + 2) a2) (o1 + 3) a3) (o1 + 4) a4) (o1 + 5) a5) j = f j := by
  rw [upd_ne (by omega), upd_ne (by omega), upd_ne (by omega), upd_ne (by omega), upd_ne (by omega), upd_ne (by omega)]
abbrev b_Model_atom : ByteArray := prog_13_method_18_code
def y_Model_atom : MethodName := ⟨R_Model, "atom", "(Z)V"⟩
theorem d_Model_atom_0 : decode b_Model_atom 0 = .ok (.aload_n 0, 1) := by decide +kernel
theorem d_Model_atom_1 : decode b_Model_atom 1 = .ok (.iload_n 1, 1) := by decide +kernel
theorem d_Model_atom_2 : decode b_Model_atom 2 = .ok (.invokevirtual 219, 3) := by decide +kernel
theorem d_Model_atom_5 : decode b_Model_atom 5 = .ok (.aload_n 0, 1) := by decide +kernel
theorem d_Model_atom_6 : decode b_Model_atom 6 = .ok (.getfield 199, 3) := by decide +kernel
theorem d_Model_atom_9 : decode b_Model_atom 9 = .ok (.ifCond .eq 4, 3) := by decide +kernel
theorem d_Model_atom_12 : decode b_Model_atom 12 = .ok (.return_, 1) := by decide +kernel
theorem d_Model_atom_13 : decode b_Model_atom 13 = .ok (.aload_n 0, 1) := by decide +kernel
theorem d_Model_atom_14 : decode b_Model_atom 14 = .ok (.getfield 206, 3) := by decide +kernel
theorem d_Model_atom_17 : decode b_Model_atom 17 = .ok (.istore_n 2, 1) := by decide +kernel
theorem d_Model_atom_18 : decode b_Model_atom 18 = .ok (.aload_n 0, 1) := by decide +kernel
theorem d_Model_atom_19 : decode b_Model_atom 19 = .ok (.getfield 209, 3) := by decide +kernel
theorem d_Model_atom_22 : decode b_Model_atom 22 = .ok (.istore_n 3, 1) := by decide +kernel
theorem d_Model_atom_23 : decode b_Model_atom 23 = .ok (.aload_n 0, 1) := by decide +kernel
theorem d_Model_atom_24 : decode b_Model_atom 24 = .ok (.invokevirtual 222, 3) := by decide +kernel
theorem d_Model_atom_27 : decode b_Model_atom 27 = .ok (.istore 4, 2) := by decide +kernel
theorem d_Model_atom_29 : decode b_Model_atom 29 = .ok (.aload_n 0, 1) := by decide +kernel
theorem d_Model_atom_30 : decode b_Model_atom 30 = .ok (.iload 4, 2) := by decide +kernel
theorem d_Model_atom_32 : decode b_Model_atom 32 = .ok (.iconst (-1), 1) := by decide +kernel
theorem d_Model_atom_33 : decode b_Model_atom 33 = .ok (.if_icmp .eq 7, 3) := by decide +kernel
theorem d_Model_atom_36 : decode b_Model_atom 36 = .ok (.iconst 1, 1) := by decide +kernel
theorem d_Model_atom_37 : decode b_Model_atom 37 = .ok (.goto 4, 3) := by decide +kernel
theorem d_Model_atom_40 : decode b_Model_atom 40 = .ok (.iconst 0, 1) := by decide +kernel
theorem d_Model_atom_41 : decode b_Model_atom 41 = .ok (.invokevirtual 215, 3) := by decide +kernel
theorem d_Model_atom_44 : decode b_Model_atom 44 = .ok (.aload_n 0, 1) := by decide +kernel
theorem d_Model_atom_45 : decode b_Model_atom 45 = .ok (.getfield 199, 3) := by decide +kernel
theorem d_Model_atom_48 : decode b_Model_atom 48 = .ok (.ifCond .ne 44, 3) := by decide +kernel
theorem d_Model_atom_51 : decode b_Model_atom 51 = .ok (.aload_n 0, 1) := by decide +kernel
theorem d_Model_atom_52 : decode b_Model_atom 52 = .ok (.iload_n 1, 1) := by decide +kernel
theorem d_Model_atom_53 : decode b_Model_atom 53 = .ok (.invokevirtual 219, 3) := by decide +kernel
theorem d_Model_atom_56 : decode b_Model_atom 56 = .ok (.aload_n 0, 1) := by decide +kernel
theorem d_Model_atom_57 : decode b_Model_atom 57 = .ok (.getfield 72, 3) := by decide +kernel
theorem d_Model_atom_60 : decode b_Model_atom 60 = .ok (.bipush 6, 2) := by decide +kernel
theorem d_Model_atom_62 : decode b_Model_atom 62 = .ok (.aload_n 0, 1) := by decide +kernel
theorem d_Model_atom_63 : decode b_Model_atom 63 = .ok (.getfield 226, 3) := by decide +kernel
theorem d_Model_atom_66 : decode b_Model_atom 66 = .ok (.imul, 1) := by decide +kernel
theorem d_Model_atom_67 : decode b_Model_atom 67 = .ok (.iload_n 2, 1) := by decide +kernel
theorem d_Model_atom_68 : decode b_Model_atom 68 = .ok (.iload_n 3, 1) := by decide +kernel
theorem d_Model_atom_69 : decode b_Model_atom 69 = .ok (.iload 4, 2) := by decide +kernel
theorem d_Model_atom_71 : decode b_Model_atom 71 = .ok (.aload_n 0, 1) := by decide +kernel
theorem d_Model_atom_72 : decode b_Model_atom 72 = .ok (.getfield 206, 3) := by decide +kernel
theorem d_Model_atom_75 : decode b_Model_atom 75 = .ok (.aload_n 0, 1) := by decide +kernel
theorem d_Model_atom_76 : decode b_Model_atom 76 = .ok (.getfield 209, 3) := by decide +kernel
theorem d_Model_atom_79 : decode b_Model_atom 79 = .ok (.invokestatic 144, 3) := by decide +kernel
theorem d_Model_atom_82 : decode b_Model_atom 82 = .ok (.aload_n 0, 1) := by decide +kernel
theorem d_Model_atom_83 : decode b_Model_atom 83 = .ok (.dup, 1) := by decide +kernel
theorem d_Model_atom_84 : decode b_Model_atom 84 = .ok (.getfield 226, 3) := by decide +kernel
theorem d_Model_atom_87 : decode b_Model_atom 87 = .ok (.iconst 1, 1) := by decide +kernel
theorem d_Model_atom_88 : decode b_Model_atom 88 = .ok (.iadd, 1) := by decide +kernel
theorem d_Model_atom_89 : decode b_Model_atom 89 = .ok (.putfield 226, 3) := by decide +kernel
theorem d_Model_atom_92 : decode b_Model_atom 92 = .ok (.return_, 1) := by decide +kernel
set_option maxHeartbeats 40000000 in
set_option maxRecDepth 100000 in
theorem c_M_atom (l : Launch) (D : va_G) (ax : Nat → ClassId) (m0 m1 m2 m3 m4 m5 m6 m7 m8 m9 m10 m11 m12 m13 m14 m15 m16 m17 m18 m19 m20 m21 m22 m23 m24 m25 m26 m27 m28 m29 m30 m31 m32 m33 m34 m35 m36 m37 m38 m39 m40 m41 m42 : Nat) (s_thrown s_taped s_outSize s_isProgram s_half s_stacked s_name s_shift s_statements s_ifs s_whiles s_variants s_open s_isMade s_conditions s_kept s_tops s_used s_looked s_rows s_firstRow s_isBroken s_atoms : Int32) (n b en k v : Nat) (g : Nat → Nat) (gh q : Nat) (f : Nat → Int32) (sz : Nat) (hn : n ≤ 400) (hg : ∀ j, g j < 256) (hbe : b ≤ en) (hen : en ≤ n) (hk0 : tk0 k b en) (hk : k < 10000) (hv : v < 20000) (hkv : tkq g n b en k v) (hgh : gh ≤ 1) (hq : q < 200) : Met l y_Model_atom (xws (.code y_Model_atom b_Model_atom 5 none)) ({ frames := 60, cells := 0, slots := 0, locals := 2400 }) (va_Pc [.ref m0, .int (nI gh)] (xo D ax [(m0, .inr (11, [.int s_thrown, .int s_taped, .ref m1, .int (nI n), .int s_outSize, .ref m2, .int (nI k), .int (nI v), .int (nI b), .int (nI en), .int 0, .ref m3, .ref m4, .ref m5, .int s_isProgram, .int s_half, .ref m6, .ref m7, .ref m8, .ref m9, .ref m10, .ref m11, .ref m12, .ref m13, .ref m14, .ref m15, .ref m16, .ref m17, .ref m18, .ref m19, .ref m20, .int (nI q), .ref m21, .int s_stacked, .ref m22, .int s_name, .int s_shift, .int s_statements, .int s_ifs, .int s_whiles, .int s_variants, .int s_open, .ref m23, .int s_isMade, .int s_conditions, .ref m24, .ref m25, .ref m26, .ref m27, .int s_kept, .ref m28, .int s_tops, .ref m29, .int s_used, .ref m30, .ref m31, .int s_looked, .int s_rows, .int s_firstRow, .ref m32, .ref m33, .ref m34, .ref m35, .ref m36, .ref m37, .ref m38, .ref m39, .ref m40, .int s_isBroken, .ref m41, .int s_atoms, .ref m42])), (m1, .inl (ax 0, 400, .inl (fun j => nI (g j)))), (m21, .inl (ax 0, 1200, .inl f))] sz)) ((va_Qv (fun (u : Nat → Nat) => (b ≤ u 0 ∧ u 0 ≤ u 1 ∧ u 1 ≤ n ∧ tk0 (u 2) (u 0) (u 1) ∧ u 2 < 10000 ∧ u 3 < 20000 ∧ tkq g n (u 0) (u 1) (u 2) (u 3) ∧ u 4 ≤ 1 ∧ imp0 (u 4) (u 5 = q + 1) ∧ u 5 ≤ q + 1 ∧ imp0 (u 4) (b + 3 ≤ u 0) ∧ atmG (kd g n) (nxt g n) gh b = (u 4, u 0))) (fun (u : Nat → Nat) (t9 : State) => ∃ xnm : Int32, ∃ xsh : Int32, ∃ xF : Nat → Int32, (∀ j, j < 6 * q → xF j = f j) ∧ (imp0 (u 4) ((xF (6 * q) = 0 ∧ nmo (6 + 4 * gh) (xF (6 * q + 1)) ∧ nmo (6 + 4 * gh) (xF (6 * q + 4))))) ∧ (imp0 (u 4) (dec xF (6 * q) = atmV (kd g n) (nxt g n) (kv g n) gh b)) ∧ va_P D classes [(m0, .inr (11, [.int s_thrown, .int s_taped, .ref m1, .int (nI n), .int s_outSize, .ref m2, .int (nI (u 2)), .int (nI (u 3)), .int (nI (u 0)), .int (nI (u 1)), .int (nI (u 4)), .ref m3, .ref m4, .ref m5, .int s_isProgram, .int s_half, .ref m6, .ref m7, .ref m8, .ref m9, .ref m10, .ref m11, .ref m12, .ref m13, .ref m14, .ref m15, .ref m16, .ref m17, .ref m18, .ref m19, .ref m20, .int (nI (u 5)), .ref m21, .int s_stacked, .ref m22, .int xnm, .int xsh, .int s_statements, .int s_ifs, .int s_whiles, .int s_variants, .int s_open, .ref m23, .int s_isMade, .int s_conditions, .ref m24, .ref m25, .ref m26, .ref m27, .int s_kept, .ref m28, .int s_tops, .ref m29, .int s_used, .ref m30, .ref m31, .int s_looked, .int s_rows, .int s_firstRow, .ref m32, .ref m33, .ref m34, .ref m35, .ref m36, .ref m37, .ref m38, .ref m39, .ref m40, .int s_isBroken, .ref m41, .int s_atoms, .ref m42])), (m1, .inl (ax 0, 400, .inl (fun j => nI (g j)))), (m21, .inl (ax 0, 1200, .inl xF))] t9.heap ∧ va_D (va_A [(m0, .inr (11, [.int s_thrown, .int s_taped, .ref m1, .int (nI n), .int s_outSize, .ref m2, .int (nI k), .int (nI v), .int (nI b), .int (nI en), .int 0, .ref m3, .ref m4, .ref m5, .int s_isProgram, .int s_half, .ref m6, .ref m7, .ref m8, .ref m9, .ref m10, .ref m11, .ref m12, .ref m13, .ref m14, .ref m15, .ref m16, .ref m17, .ref m18, .ref m19, .ref m20, .int (nI q), .ref m21, .int s_stacked, .ref m22, .int s_name, .int s_shift, .int s_statements, .int s_ifs, .int s_whiles, .int s_variants, .int s_open, .ref m23, .int s_isMade, .int s_conditions, .ref m24, .ref m25, .ref m26, .ref m27, .int s_kept, .ref m28, .int s_tops, .ref m29, .int s_used, .ref m30, .ref m31, .int s_looked, .int s_rows, .int s_firstRow, .ref m32, .ref m33, .ref m34, .ref m35, .ref m36, .ref m37, .ref m38, .ref m39, .ref m40, .int s_isBroken, .ref m41, .int s_atoms, .ref m42])), (m1, .inl (ax 0, 400, .inl (fun j => nI (g j)))), (m21, .inl (ax 0, 1200, .inl f))] sz) [(m0, .inr (11, [.int s_thrown, .int s_taped, .ref m1, .int (nI n), .int s_outSize, .ref m2, .int (nI (u 2)), .int (nI (u 3)), .int (nI (u 0)), .int (nI (u 1)), .int (nI (u 4)), .ref m3, .ref m4, .ref m5, .int s_isProgram, .int s_half, .ref m6, .ref m7, .ref m8, .ref m9, .ref m10, .ref m11, .ref m12, .ref m13, .ref m14, .ref m15, .ref m16, .ref m17, .ref m18, .ref m19, .ref m20, .int (nI (u 5)), .ref m21, .int s_stacked, .ref m22, .int xnm, .int xsh, .int s_statements, .int s_ifs, .int s_whiles, .int s_variants, .int s_open, .ref m23, .int s_isMade, .int s_conditions, .ref m24, .ref m25, .ref m26, .ref m27, .int s_kept, .ref m28, .int s_tops, .ref m29, .int s_used, .ref m30, .ref m31, .int s_looked, .int s_rows, .int s_firstRow, .ref m32, .ref m33, .ref m34, .ref m35, .ref m36, .ref m37, .ref m38, .ref m39, .ref m40, .int s_isBroken, .ref m41, .int s_atoms, .ref m42])), (m1, .inl (ax 0, 400, .inl (fun j => nI (g j)))), (m21, .inl (ax 0, 1200, .inl xF))]) (va_A [(m0, .inr (11, [.int s_thrown, .int s_taped, .ref m1, .int (nI n), .int s_outSize, .ref m2, .int (nI k), .int (nI v), .int (nI b), .int (nI en), .int 0, .ref m3, .ref m4, .ref m5, .int s_isProgram, .int s_half, .ref m6, .ref m7, .ref m8, .ref m9, .ref m10, .ref m11, .ref m12, .ref m13, .ref m14, .ref m15, .ref m16, .ref m17, .ref m18, .ref m19, .ref m20, .int (nI q), .ref m21, .int s_stacked, .ref m22, .int s_name, .int s_shift, .int s_statements, .int s_ifs, .int s_whiles, .int s_variants, .int s_open, .ref m23, .int s_isMade, .int s_conditions, .ref m24, .ref m25, .ref m26, .ref m27, .int s_kept, .ref m28, .int s_tops, .ref m29, .int s_used, .ref m30, .ref m31, .int s_looked, .int s_rows, .int s_firstRow, .ref m32, .ref m33, .ref m34, .ref m35, .ref m36, .ref m37, .ref m38, .ref m39, .ref m40, .int s_isBroken, .ref m41, .int s_atoms, .ref m42])), (m1, .inl (ax 0, 400, .inl (fun j => nI (g j)))), (m21, .inl (ax 0, 1200, .inl f))] sz))) 0 0 (va_A [(m0, .inr (11, [.int s_thrown, .int s_taped, .ref m1, .int (nI n), .int s_outSize, .ref m2, .int (nI k), .int (nI v), .int (nI b), .int (nI en), .int 0, .ref m3, .ref m4, .ref m5, .int s_isProgram, .int s_half, .ref m6, .ref m7, .ref m8, .ref m9, .ref m10, .ref m11, .ref m12, .ref m13, .ref m14, .ref m15, .ref m16, .ref m17, .ref m18, .ref m19, .ref m20, .int (nI q), .ref m21, .int s_stacked, .ref m22, .int s_name, .int s_shift, .int s_statements, .int s_ifs, .int s_whiles, .int s_variants, .int s_open, .ref m23, .int s_isMade, .int s_conditions, .ref m24, .ref m25, .ref m26, .ref m27, .int s_kept, .ref m28, .int s_tops, .ref m29, .int s_used, .ref m30, .ref m31, .int s_looked, .int s_rows, .int s_firstRow, .ref m32, .ref m33, .ref m34, .ref m35, .ref m36, .ref m37, .ref m38, .ref m39, .ref m40, .int s_isBroken, .ref m41, .int s_atoms, .ref m42])), (m1, .inl (ax 0, 400, .inl (fun j => nI (g j)))), (m21, .inl (ax 0, 1200, .inl f))] sz) := by
  refine Met.ofW (cc := b_Model_atom) (maxL := 5) (ret := none) (by decide) rfl ?_
  intro p e s m args below meth c s₁ B hml hv
  obtain ⟨rfl, hsz, hP, hK, hD0⟩ := hv
  have hx := B.exec
  have hb := B.bytes
  have hr := B.returns
  have hts := xw_hts B.pre
  have hown : s.vm.findClass R_Model = some m.cls := findClass_of_methodNamed B.named
  have hlocks := B.notSynchronized
  subst hsz
  have hD := hD0.self (sz := s.heap.size)
  have hN := xz_entry hP
  generalize hAe : va_A [(m0, .inr (11, [.int s_thrown, .int s_taped, .ref m1, .int (nI n), .int s_outSize, .ref m2, .int (nI k), .int (nI v), .int (nI b), .int (nI en), .int 0, .ref m3, .ref m4, .ref m5, .int s_isProgram, .int s_half, .ref m6, .ref m7, .ref m8, .ref m9, .ref m10, .ref m11, .ref m12, .ref m13, .ref m14, .ref m15, .ref m16, .ref m17, .ref m18, .ref m19, .ref m20, .int (nI q), .ref m21, .int s_stacked, .ref m22, .int s_name, .int s_shift, .int s_statements, .int s_ifs, .int s_whiles, .int s_variants, .int s_open, .ref m23, .int s_isMade, .int s_conditions, .ref m24, .ref m25, .ref m26, .ref m27, .int s_kept, .ref m28, .int s_tops, .ref m29, .int s_used, .ref m30, .ref m31, .int s_looked, .int s_rows, .int s_firstRow, .ref m32, .ref m33, .ref m34, .ref m35, .ref m36, .ref m37, .ref m38, .ref m39, .ref m40, .int s_isBroken, .ref m41, .int s_atoms, .ref m42])), (m1, .inl (ax 0, 400, .inl (fun j => nI (g j)))), (m21, .inl (ax 0, 1200, .inl f))] s.heap.size = A at hD hN ⊢
  have hA : ∀ q : Nat, s.heap.size ≤ q → A q := fun q h => by rw [← hAe]; exact Or.inr h
  have hS : va_S A s.heap s.heap [] := va_S.rf
  have hl0 := lv_entry ([.ref m0, .int (nI gh)]) (n := 5) (Nat.le_of_ble_eq_true rfl)
  rw [lg_entry_eq]
  generalize (lg_sl ([.ref m0, .int (nI gh)]) ++ List.replicate (5 - (lg_sl ([.ref m0, .int (nI gh)])).length) Slot.unset).toArray = ls at hl0 ⊢
  have hl1 : lv_has ls 5 [(0, .ref m0), (1, .int (nI gh))] := hl0
  refine xw_gen (fun Z9 hQe => ?_)
  refine lv_aload_n hx hb d_Model_atom_0 rfl (lv_at hl1 0 rfl) ?_
  refine lv_iload_n hx hb d_Model_atom_1 rfl (lv_at hl1 1 rfl) ?_
  obtain ⟨hPc, hDc, hFc, hCs⟩ := xw_sub3 (wc := [(m0, .inr (11, [.int s_thrown, .int s_taped, .ref m1, .int (nI n), .int s_outSize, .ref m2, .int (nI k), .int (nI v), .int (nI b), .int (nI en), .int 0, .ref m3, .ref m4, .ref m5, .int s_isProgram, .int s_half, .ref m6, .ref m7, .ref m8, .ref m9, .ref m10, .ref m11, .ref m12, .ref m13, .ref m14, .ref m15, .ref m16, .ref m17, .ref m18, .ref m19, .ref m20, .int (nI q), .ref m21, .int s_stacked, .ref m22, .int s_name, .int s_shift, .int s_statements, .int s_ifs, .int s_whiles, .int s_variants, .int s_open, .ref m23, .int s_isMade, .int s_conditions, .ref m24, .ref m25, .ref m26, .ref m27, .int s_kept, .ref m28, .int s_tops, .ref m29, .int s_used, .ref m30, .ref m31, .int s_looked, .int s_rows, .int s_firstRow, .ref m32, .ref m33, .ref m34, .ref m35, .ref m36, .ref m37, .ref m38, .ref m39, .ref m40, .int s_isBroken, .ref m41, .int s_atoms, .ref m42])), (m1, .inl (ax 0, 400, .inl (fun j => nI (g j))))]) hP hD hS hA [0, 1] (by decide) rfl
  have hz := xz_of hN hS
  refine va_callv (va_runV (As := [.int (nI gh)]) (rest := []) ⟨hx, hb, hml, hown, hts⟩ (c_M_term l D ax m0 m1 m2 m3 m4 m5 m6 m7 m8 m9 m10 m11 m12 m13 m14 m15 m16 m17 m18 m19 m20 m21 m22 m23 m24 m25 m26 m27 m28 m29 m30 m31 m32 m33 m34 m35 m36 m37 m38 m39 m40 m41 m42 s_thrown s_taped s_outSize s_isProgram s_half (nI q) s_stacked s_name s_shift s_statements s_ifs s_whiles s_variants s_open s_isMade s_conditions s_kept s_tops s_used s_looked s_rows s_firstRow s_isBroken s_atoms n b en k v g gh s.heap.size hn hg (by first | assumption | omega) (by first | assumption | omega) (by assumption) (by first | assumption | omega) (by first | assumption | omega) (by assumption) hgh) (xcV (n := 1) hts wd_1331 wd_15 wd_1328 wd_1330 ps_60 rfl rfl (by decide +kernel) ⟨Nat.le_of_ble_eq_true rfl, Nat.le_of_ble_eq_true rfl⟩) (xpV (ci := 11) (q0 := 0) (As := [.int (nI gh)]) hPc hK hz hDc rfl rfl) rfl rfl hl1.1 rfl (lv_room (Nat.le_of_ble_eq_true rfl)) d_Model_atom_2 ⟨Nat.le_of_ble_eq_true rfl, Nat.le_of_ble_eq_true rfl⟩) hS (fun q _ h => hFc q h) hFc (fun u_1 t H_2 locs ht hvm hw hB hz1 hk1 hS1 => ?_)
  try dsimp only at hw
  obtain ⟨hs_4, hs_5, hs_6, hs_7, hs_8, hs_9, hs_10, hs_11, hs_12, hs_13⟩ := hw
  obtain ⟨x_14, x_15, hx_16, hx_17, hP1, hD1⟩ := hB
  rw [ht] at hP1
  have hjn := xw_join3 (wl := [(m21, .inl (ax 0, 1200, .inl f)), (m0, .inr (11, [.int s_thrown, .int s_taped, .ref m1, .int (nI n), .int s_outSize, .ref m2, .int (nI (u_1 2)), .int (nI (u_1 3)), .int (nI (u_1 0)), .int (nI (u_1 1)), .int (nI (u_1 4)), .ref m3, .ref m4, .ref m5, .int s_isProgram, .int s_half, .ref m6, .ref m7, .ref m8, .ref m9, .ref m10, .ref m11, .ref m12, .ref m13, .ref m14, .ref m15, .ref m16, .ref m17, .ref m18, .ref m19, .ref m20, .int (nI q), .ref m21, .int s_stacked, .ref m22, .int x_14, .int x_15, .int s_statements, .int s_ifs, .int s_whiles, .int s_variants, .int s_open, .ref m23, .int s_isMade, .int s_conditions, .ref m24, .ref m25, .ref m26, .ref m27, .int s_kept, .ref m28, .int s_tops, .ref m29, .int s_used, .ref m30, .ref m31, .int s_looked, .int s_rows, .int s_firstRow, .ref m32, .ref m33, .ref m34, .ref m35, .ref m36, .ref m37, .ref m38, .ref m39, .ref m40, .int s_isBroken, .ref m41, .int s_atoms, .ref m42])), (m1, .inl (ax 0, 400, .inl (fun j => nI (g j))))]) hP hD [0, 1] [2] hCs (by decide) (by decide) hk1 hFc hP1 hD1 rfl
  clear hP1 hD1
  clear hPc hDc hFc hCs hz hz1 hk1 ht hvm
  clear hP hD hS
  have hS := hS1
  obtain ⟨hP, hD⟩ := hjn
  clear hS1
  by_cases hf_18 : u_1 4 = 1
  · clear hs_12 hx_17
    rw [show u_1 4 = 1 by omega] at hP hD
    have hP7 := hP; have hD7 := hD; clear hP hD
    have hW7 : (fun w9 : va_W => va_P D classes w9 H_2 ∧ va_D A w9) [(m21, .inl (ax 0, 1200, .inl f)), (m0, .inr (11, [.int s_thrown, .int s_taped, .ref m1, .int (nI n), .int s_outSize, .ref m2, .int (nI (u_1 2)), .int (nI (u_1 3)), .int (nI (u_1 0)), .int (nI (u_1 1)), .int 1, .ref m3, .ref m4, .ref m5, .int s_isProgram, .int s_half, .ref m6, .ref m7, .ref m8, .ref m9, .ref m10, .ref m11, .ref m12, .ref m13, .ref m14, .ref m15, .ref m16, .ref m17, .ref m18, .ref m19, .ref m20, .int (nI q), .ref m21, .int s_stacked, .ref m22, .int x_14, .int x_15, .int s_statements, .int s_ifs, .int s_whiles, .int s_variants, .int s_open, .ref m23, .int s_isMade, .int s_conditions, .ref m24, .ref m25, .ref m26, .ref m27, .int s_kept, .ref m28, .int s_tops, .ref m29, .int s_used, .ref m30, .ref m31, .int s_looked, .int s_rows, .int s_firstRow, .ref m32, .ref m33, .ref m34, .ref m35, .ref m36, .ref m37, .ref m38, .ref m39, .ref m40, .int s_isBroken, .ref m41, .int s_atoms, .ref m42])), (m1, .inl (ax 0, 400, .inl (fun j => nI (g j))))] := ⟨hP7, hD7⟩
    obtain ⟨hP, hD⟩ := hW7
    clear hP7 hD7
    refine lv_aload_n hx hb d_Model_atom_5 rfl (lv_at hl1 0 rfl) ?_
    refine va_get (D := D) (ci := 11) (v := .int 1) (C := R_Model) (T := F_Model) (N := 72) hx hb hts i_Model hown hK.1 hP 1 rfl rfl 10 (by decide) (hts _ wd_1046) (fun _ h9 => h9) rfl d_Model_atom_6 ?_
    refine lv_if_eq (tgt := 13) hx hb d_Model_atom_9 (by decide) (fun c_19 => ?_) (fun c_19 => ?_)
    · first | exact absurd c_19 (by decide) | exact absurd (by decide) c_19
    rw [← hQe]
    obtain ⟨hP9, hD9⟩ := xw_sub2 (wc := (fun (u : Nat → Nat) (xnm : Int32) (xsh : Int32) (xF : Nat → Int32) => [(m0, .inr (11, [.int s_thrown, .int s_taped, .ref m1, .int (nI n), .int s_outSize, .ref m2, .int (nI (u 2)), .int (nI (u 3)), .int (nI (u 0)), .int (nI (u 1)), .int (nI (u 4)), .ref m3, .ref m4, .ref m5, .int s_isProgram, .int s_half, .ref m6, .ref m7, .ref m8, .ref m9, .ref m10, .ref m11, .ref m12, .ref m13, .ref m14, .ref m15, .ref m16, .ref m17, .ref m18, .ref m19, .ref m20, .int (nI (u 5)), .ref m21, .int s_stacked, .ref m22, .int xnm, .int xsh, .int s_statements, .int s_ifs, .int s_whiles, .int s_variants, .int s_open, .ref m23, .int s_isMade, .int s_conditions, .ref m24, .ref m25, .ref m26, .ref m27, .int s_kept, .ref m28, .int s_tops, .ref m29, .int s_used, .ref m30, .ref m31, .int s_looked, .int s_rows, .int s_firstRow, .ref m32, .ref m33, .ref m34, .ref m35, .ref m36, .ref m37, .ref m38, .ref m39, .ref m40, .int s_isBroken, .ref m41, .int s_atoms, .ref m42])), (m1, .inl (ax 0, 400, .inl (fun j => nI (g j)))), (m21, .inl (ax 0, 1200, .inl xF))]) (ixn [(u_1 0), (u_1 1), (u_1 2), (u_1 3), 1, q]) x_14 x_15 f) hP hD [1, 2, 0] (by decide) rfl
    have hex0 : ∀ j, j < 6 * q → f j = f j := (by first | exact fun j _ => rfl | exact fun j hj => pa_lo (Or.inl hj))
    have hex1 : imp0 (1) ((f (6 * q) = 0 ∧ nmo (6 + 4 * gh) (f (6 * q + 1)) ∧ nmo (6 + 4 * gh) (f (6 * q + 4)))) := (Or.inl rfl)
    have hex2 : imp0 (1) (dec f (6 * q) = atmV (kd g n) (nxt g n) (kv g n) gh b) := (Or.inl rfl)
    have hsp0 : b ≤ (u_1 0) := (by first | assumption | omega)
    have hsp1 : (u_1 0) ≤ (u_1 1) := (by first | assumption | omega)
    have hsp2 : (u_1 1) ≤ n := (by first | assumption | omega)
    have hsp3 : tk0 ((u_1 2)) ((u_1 0)) ((u_1 1)) := (by assumption)
    have hsp4 : (u_1 2) < 10000 := (by first | assumption | omega)
    have hsp5 : (u_1 3) < 20000 := (by first | assumption | omega)
    have hsp6 : tkq g n ((u_1 0)) ((u_1 1)) ((u_1 2)) ((u_1 3)) := (by assumption)
    have hsp7 : 1 ≤ 1 := (by first | assumption | omega)
    have hsp8 : imp0 (1) (q = q + 1) := (Or.inl rfl)
    have hsp9 : q ≤ q + 1 := (by first | assumption | omega)
    have hsp10 : imp0 (1) (b + 3 ≤ (u_1 0)) := (Or.inl rfl)
    have hsp11 : atmG (kd g n) (nxt g n) gh b = (1, (u_1 0)) := (by first | exact atm_a hs_13 (by first | assumption | omega) | exact atm_b hs_13 (by first | assumption | omega) (fun q9 => (kd_wy hs_10).mp q9 (by assumption)))
    exact W.vret hx hb hr (fun t ht hW => ⟨⟨ixn [(u_1 0), (u_1 1), (u_1 2), (u_1 3), 1, q], rfl, ⟨hsp0, hsp1, hsp2, hsp3, hsp4, hsp5, hsp6, hsp7, hsp8, hsp9, hsp10, hsp11⟩, ⟨x_14, x_15, f, hex0, hex1, hex2, by rw [ht]; exact hP9, hD9⟩⟩, hS.F ht⟩) hS.2.2 d_Model_atom_12
  · replace hs_12 := imp0.go hs_12 hf_18
    replace hx_17 := imp0.go hx_17 hf_18
    rw [show u_1 4 = 0 by omega] at hP hD
    have hP7 := hP; have hD7 := hD; clear hP hD
    have hW7 : (fun w9 : va_W => va_P D classes w9 H_2 ∧ va_D A w9) [(m21, .inl (ax 0, 1200, .inl f)), (m0, .inr (11, [.int s_thrown, .int s_taped, .ref m1, .int (nI n), .int s_outSize, .ref m2, .int (nI (u_1 2)), .int (nI (u_1 3)), .int (nI (u_1 0)), .int (nI (u_1 1)), .int 0, .ref m3, .ref m4, .ref m5, .int s_isProgram, .int s_half, .ref m6, .ref m7, .ref m8, .ref m9, .ref m10, .ref m11, .ref m12, .ref m13, .ref m14, .ref m15, .ref m16, .ref m17, .ref m18, .ref m19, .ref m20, .int (nI q), .ref m21, .int s_stacked, .ref m22, .int x_14, .int x_15, .int s_statements, .int s_ifs, .int s_whiles, .int s_variants, .int s_open, .ref m23, .int s_isMade, .int s_conditions, .ref m24, .ref m25, .ref m26, .ref m27, .int s_kept, .ref m28, .int s_tops, .ref m29, .int s_used, .ref m30, .ref m31, .int s_looked, .int s_rows, .int s_firstRow, .ref m32, .ref m33, .ref m34, .ref m35, .ref m36, .ref m37, .ref m38, .ref m39, .ref m40, .int s_isBroken, .ref m41, .int s_atoms, .ref m42])), (m1, .inl (ax 0, 400, .inl (fun j => nI (g j))))] := ⟨hP7, hD7⟩
    obtain ⟨hP, hD⟩ := hW7
    clear hP7 hD7
    refine lv_aload_n hx hb d_Model_atom_5 rfl (lv_at hl1 0 rfl) ?_
    refine va_get (D := D) (ci := 11) (v := .int 0) (C := R_Model) (T := F_Model) (N := 72) hx hb hts i_Model hown hK.1 hP 1 rfl rfl 10 (by decide) (hts _ wd_1046) (fun _ h9 => h9) rfl d_Model_atom_6 ?_
    refine lv_if_eq (tgt := 13) hx hb d_Model_atom_9 (by decide) (fun c_20 => ?_) (fun c_20 => ?_)
    rotate_left
    · first | exact absurd c_20 (by decide) | exact absurd (by decide) c_20
    refine lv_aload_n hx hb d_Model_atom_13 rfl (lv_at hl1 0 rfl) ?_
    refine va_get (D := D) (ci := 11) (v := .int x_14) (C := R_Model) (T := F_Model) (N := 72) hx hb hts i_Model hown hK.1 hP 1 rfl rfl 35 (by decide) (hts _ wd_1071) (fun _ h9 => h9) rfl d_Model_atom_14 ?_
    refine lv_istore_n (lv' := [(2, .int x_14), (0, .ref m0), (1, .int (nI gh))]) hx hb d_Model_atom_17 rfl hl1 (by decide) rfl (fun ls hl2 => ?_)
    clear hl1; have hl1 := hl2; clear hl2
    refine lv_aload_n hx hb d_Model_atom_18 rfl (lv_at hl1 1 rfl) ?_
    refine va_get (D := D) (ci := 11) (v := .int x_15) (C := R_Model) (T := F_Model) (N := 72) hx hb hts i_Model hown hK.1 hP 1 rfl rfl 36 (by decide) (hts _ wd_1072) (fun _ h9 => h9) rfl d_Model_atom_19 ?_
    refine lv_istore_n (lv' := [(3, .int x_15), (2, .int x_14), (0, .ref m0), (1, .int (nI gh))]) hx hb d_Model_atom_22 rfl hl1 (by decide) rfl (fun ls hl2 => ?_)
    clear hl1; have hl1 := hl2; clear hl2
    refine lv_aload_n hx hb d_Model_atom_23 rfl (lv_at hl1 2 rfl) ?_
    obtain ⟨hPc, hDc, hFc, hCs⟩ := xw_sub3 (wc := [(m0, .inr (11, [.int s_thrown, .int s_taped, .ref m1, .int (nI n), .int s_outSize, .ref m2, .int (nI (u_1 2)), .int (nI (u_1 3)), .int (nI (u_1 0)), .int (nI (u_1 1)), .int 0, .ref m3, .ref m4, .ref m5, .int s_isProgram, .int s_half, .ref m6, .ref m7, .ref m8, .ref m9, .ref m10, .ref m11, .ref m12, .ref m13, .ref m14, .ref m15, .ref m16, .ref m17, .ref m18, .ref m19, .ref m20, .int (nI q), .ref m21, .int s_stacked, .ref m22, .int x_14, .int x_15, .int s_statements, .int s_ifs, .int s_whiles, .int s_variants, .int s_open, .ref m23, .int s_isMade, .int s_conditions, .ref m24, .ref m25, .ref m26, .ref m27, .int s_kept, .ref m28, .int s_tops, .ref m29, .int s_used, .ref m30, .ref m31, .int s_looked, .int s_rows, .int s_firstRow, .ref m32, .ref m33, .ref m34, .ref m35, .ref m36, .ref m37, .ref m38, .ref m39, .ref m40, .int s_isBroken, .ref m41, .int s_atoms, .ref m42]))]) hP hD hS hA [1] (by decide) rfl
    have hz := xz_of hN hS
    refine va_calli (va_runV (As := []) (rest := []) ⟨hx, hb, hml, hown, hts⟩ (c_M_way l D ax m0 m1 m2 m3 m4 m5 m6 m7 m8 m9 m10 m11 m12 m13 m14 m15 m16 m17 m18 m19 m20 m21 m22 m23 m24 m25 m26 m27 m28 m29 m30 m31 m32 m33 m34 m35 m36 m37 m38 m39 m40 m41 m42 s_thrown s_taped (nI n) s_outSize (nI (u_1 3)) (nI (u_1 0)) (nI (u_1 1)) 0 s_isProgram s_half (nI q) s_stacked x_14 x_15 s_statements s_ifs s_whiles s_variants s_open s_isMade s_conditions s_kept s_tops s_used s_looked s_rows s_firstRow s_isBroken s_atoms (u_1 2) H_2.size (by first | assumption | omega)) (xcV (n := 0) hts wd_1339 wd_15 wd_1336 wd_1338 ps_62 rfl rfl (by decide +kernel) ⟨Nat.le_of_ble_eq_true rfl, Nat.le_of_ble_eq_true rfl⟩) (xpV (ci := 11) (q0 := 0) (As := []) hPc hK hz hDc rfl rfl) rfl rfl hl1.1 rfl (lv_room (Nat.le_of_ble_eq_true rfl)) d_Model_atom_24 ⟨Nat.le_of_ble_eq_true rfl, Nat.le_of_ble_eq_true rfl⟩) hS (fun q _ h => hFc q h) hFc (fun r_23 u_21 t H_22 locs ht hvm hw hB hz1 hk1 hS1 => ?_)
    try dsimp only at hw
    subst hw
    obtain ⟨hP1, hD1⟩ := hB
    rw [ht] at hP1
    have hjn := xw_join3 (wl := [(m21, .inl (ax 0, 1200, .inl f)), (m1, .inl (ax 0, 400, .inl (fun j => nI (g j)))), (m0, .inr (11, [.int s_thrown, .int s_taped, .ref m1, .int (nI n), .int s_outSize, .ref m2, .int (nI (u_1 2)), .int (nI (u_1 3)), .int (nI (u_1 0)), .int (nI (u_1 1)), .int 0, .ref m3, .ref m4, .ref m5, .int s_isProgram, .int s_half, .ref m6, .ref m7, .ref m8, .ref m9, .ref m10, .ref m11, .ref m12, .ref m13, .ref m14, .ref m15, .ref m16, .ref m17, .ref m18, .ref m19, .ref m20, .int (nI q), .ref m21, .int s_stacked, .ref m22, .int x_14, .int x_15, .int s_statements, .int s_ifs, .int s_whiles, .int s_variants, .int s_open, .ref m23, .int s_isMade, .int s_conditions, .ref m24, .ref m25, .ref m26, .ref m27, .int s_kept, .ref m28, .int s_tops, .ref m29, .int s_used, .ref m30, .ref m31, .int s_looked, .int s_rows, .int s_firstRow, .ref m32, .ref m33, .ref m34, .ref m35, .ref m36, .ref m37, .ref m38, .ref m39, .ref m40, .int s_isBroken, .ref m41, .int s_atoms, .ref m42]))]) hP hD [1] [0, 2] hCs (by decide) (by decide) hk1 hFc hP1 hD1 rfl
    clear hP1 hD1
    clear hPc hDc hFc hCs hz hz1 hk1 ht hvm
    clear hP hD hS
    have hS := hS1
    obtain ⟨hP, hD⟩ := hjn
    clear hS1
    refine lv_istore (lv' := [(4, .int (wyK (u_1 2))), (3, .int x_15), (2, .int x_14), (0, .ref m0), (1, .int (nI gh))]) hx hb d_Model_atom_27 hl1 (by decide) rfl (fun ls hl2 => ?_)
    clear hl1; have hl1 := hl2; clear hl2
    refine lv_aload_n hx hb d_Model_atom_29 rfl (lv_at hl1 3 rfl) ?_
    refine lv_iload hx hb d_Model_atom_30 (lv_at hl1 0 rfl) ?_
    refine lv_iconst (v := (-1)) hx hb d_Model_atom_32 (by decide) ?_
    refine lv_icmp_eq (tgt := 40) hx hb d_Model_atom_33 (by decide) (fun c_24 => ?_) (fun c_24 => ?_)
    · refine lv_iconst (v := 0) hx hb d_Model_atom_40 (by decide) ?_
      obtain ⟨hPc, hDc, hFc, hCs⟩ := xw_sub3 (wc := [(m0, .inr (11, [.int s_thrown, .int s_taped, .ref m1, .int (nI n), .int s_outSize, .ref m2, .int (nI (u_1 2)), .int (nI (u_1 3)), .int (nI (u_1 0)), .int (nI (u_1 1)), .int 0, .ref m3, .ref m4, .ref m5, .int s_isProgram, .int s_half, .ref m6, .ref m7, .ref m8, .ref m9, .ref m10, .ref m11, .ref m12, .ref m13, .ref m14, .ref m15, .ref m16, .ref m17, .ref m18, .ref m19, .ref m20, .int (nI q), .ref m21, .int s_stacked, .ref m22, .int x_14, .int x_15, .int s_statements, .int s_ifs, .int s_whiles, .int s_variants, .int s_open, .ref m23, .int s_isMade, .int s_conditions, .ref m24, .ref m25, .ref m26, .ref m27, .int s_kept, .ref m28, .int s_tops, .ref m29, .int s_used, .ref m30, .ref m31, .int s_looked, .int s_rows, .int s_firstRow, .ref m32, .ref m33, .ref m34, .ref m35, .ref m36, .ref m37, .ref m38, .ref m39, .ref m40, .int s_isBroken, .ref m41, .int s_atoms, .ref m42]))]) hP hD hS hA [2] (by decide) rfl
      have hz := xz_of hN hS
      refine va_callv (va_runV (As := [.int 0]) (rest := []) ⟨hx, hb, hml, hown, hts⟩ (c_M_must_0 l D ax m0 m1 m2 m3 m4 m5 m6 m7 m8 m9 m10 m11 m12 m13 m14 m15 m16 m17 m18 m19 m20 m21 m22 m23 m24 m25 m26 m27 m28 m29 m30 m31 m32 m33 m34 m35 m36 m37 m38 m39 m40 m41 m42 s_thrown s_taped (nI n) s_outSize (nI (u_1 2)) (nI (u_1 3)) (nI (u_1 0)) (nI (u_1 1)) s_isProgram s_half (nI q) s_stacked x_14 x_15 s_statements s_ifs s_whiles s_variants s_open s_isMade s_conditions s_kept s_tops s_used s_looked s_rows s_firstRow s_isBroken s_atoms H_22.size) (xcV (n := 1) hts wd_1335 wd_15 wd_1332 wd_1334 ps_61 rfl rfl (by decide +kernel) ⟨Nat.le_of_ble_eq_true rfl, Nat.le_of_ble_eq_true rfl⟩) (xpV (ci := 11) (q0 := 0) (As := [.int 0]) hPc hK hz hDc rfl rfl) rfl rfl hl1.1 rfl (lv_room (Nat.le_of_ble_eq_true rfl)) d_Model_atom_41 ⟨Nat.le_of_ble_eq_true rfl, Nat.le_of_ble_eq_true rfl⟩) hS (fun q _ h => hFc q h) hFc (fun u_25 t H_26 locs ht hvm hw hB hz1 hk1 hS1 => ?_)
      try dsimp only at hw
      obtain ⟨hP1, hD1⟩ := hB
      rw [ht] at hP1
      have hjn := xw_join3 (wl := [(m21, .inl (ax 0, 1200, .inl f)), (m1, .inl (ax 0, 400, .inl (fun j => nI (g j)))), (m0, .inr (11, [.int s_thrown, .int s_taped, .ref m1, .int (nI n), .int s_outSize, .ref m2, .int (nI (u_1 2)), .int (nI (u_1 3)), .int (nI (u_1 0)), .int (nI (u_1 1)), .int 1, .ref m3, .ref m4, .ref m5, .int s_isProgram, .int s_half, .ref m6, .ref m7, .ref m8, .ref m9, .ref m10, .ref m11, .ref m12, .ref m13, .ref m14, .ref m15, .ref m16, .ref m17, .ref m18, .ref m19, .ref m20, .int (nI q), .ref m21, .int s_stacked, .ref m22, .int x_14, .int x_15, .int s_statements, .int s_ifs, .int s_whiles, .int s_variants, .int s_open, .ref m23, .int s_isMade, .int s_conditions, .ref m24, .ref m25, .ref m26, .ref m27, .int s_kept, .ref m28, .int s_tops, .ref m29, .int s_used, .ref m30, .ref m31, .int s_looked, .int s_rows, .int s_firstRow, .ref m32, .ref m33, .ref m34, .ref m35, .ref m36, .ref m37, .ref m38, .ref m39, .ref m40, .int s_isBroken, .ref m41, .int s_atoms, .ref m42]))]) hP hD [2] [0, 1] hCs (by decide) (by decide) hk1 hFc hP1 hD1 rfl
      clear hP1 hD1
      clear hPc hDc hFc hCs hz hz1 hk1 ht hvm
      clear hP hD hS
      have hS := hS1
      obtain ⟨hP, hD⟩ := hjn
      clear hS1
      refine lv_aload_n hx hb d_Model_atom_44 rfl (lv_at hl1 3 rfl) ?_
      refine va_get (D := D) (ci := 11) (v := .int 1) (C := R_Model) (T := F_Model) (N := 72) hx hb hts i_Model hown hK.1 hP 2 rfl rfl 10 (by decide) (hts _ wd_1046) (fun _ h9 => h9) rfl d_Model_atom_45 ?_
      refine lv_if_ne (tgt := 92) hx hb d_Model_atom_48 (by decide) (fun c_28 => ?_) (fun c_28 => ?_)
      rotate_left
      · first | exact absurd c_28 (by decide) | exact absurd (by decide) c_28
      rw [← hQe]
      obtain ⟨hP9, hD9⟩ := xw_sub2 (wc := (fun (u : Nat → Nat) (xnm : Int32) (xsh : Int32) (xF : Nat → Int32) => [(m0, .inr (11, [.int s_thrown, .int s_taped, .ref m1, .int (nI n), .int s_outSize, .ref m2, .int (nI (u 2)), .int (nI (u 3)), .int (nI (u 0)), .int (nI (u 1)), .int (nI (u 4)), .ref m3, .ref m4, .ref m5, .int s_isProgram, .int s_half, .ref m6, .ref m7, .ref m8, .ref m9, .ref m10, .ref m11, .ref m12, .ref m13, .ref m14, .ref m15, .ref m16, .ref m17, .ref m18, .ref m19, .ref m20, .int (nI (u 5)), .ref m21, .int s_stacked, .ref m22, .int xnm, .int xsh, .int s_statements, .int s_ifs, .int s_whiles, .int s_variants, .int s_open, .ref m23, .int s_isMade, .int s_conditions, .ref m24, .ref m25, .ref m26, .ref m27, .int s_kept, .ref m28, .int s_tops, .ref m29, .int s_used, .ref m30, .ref m31, .int s_looked, .int s_rows, .int s_firstRow, .ref m32, .ref m33, .ref m34, .ref m35, .ref m36, .ref m37, .ref m38, .ref m39, .ref m40, .int s_isBroken, .ref m41, .int s_atoms, .ref m42])), (m1, .inl (ax 0, 400, .inl (fun j => nI (g j)))), (m21, .inl (ax 0, 1200, .inl xF))]) (ixn [(u_1 0), (u_1 1), (u_1 2), (u_1 3), 1, q]) x_14 x_15 f) hP hD [2, 1, 0] (by decide) rfl
      have hex0 : ∀ j, j < 6 * q → f j = f j := (by first | exact fun j _ => rfl | exact fun j hj => pa_lo (Or.inl hj))
      have hex1 : imp0 (1) ((f (6 * q) = 0 ∧ nmo (6 + 4 * gh) (f (6 * q + 1)) ∧ nmo (6 + 4 * gh) (f (6 * q + 4)))) := (Or.inl rfl)
      have hex2 : imp0 (1) (dec f (6 * q) = atmV (kd g n) (nxt g n) (kv g n) gh b) := (Or.inl rfl)
      have hsp0 : b ≤ (u_1 0) := (by first | assumption | omega)
      have hsp1 : (u_1 0) ≤ (u_1 1) := (by first | assumption | omega)
      have hsp2 : (u_1 1) ≤ n := (by first | assumption | omega)
      have hsp3 : tk0 ((u_1 2)) ((u_1 0)) ((u_1 1)) := (by assumption)
      have hsp4 : (u_1 2) < 10000 := (by first | assumption | omega)
      have hsp5 : (u_1 3) < 20000 := (by first | assumption | omega)
      have hsp6 : tkq g n ((u_1 0)) ((u_1 1)) ((u_1 2)) ((u_1 3)) := (by assumption)
      have hsp7 : 1 ≤ 1 := (by first | assumption | omega)
      have hsp8 : imp0 (1) (q = q + 1) := (Or.inl rfl)
      have hsp9 : q ≤ q + 1 := (by first | assumption | omega)
      have hsp10 : imp0 (1) (b + 3 ≤ (u_1 0)) := (Or.inl rfl)
      have hsp11 : atmG (kd g n) (nxt g n) gh b = (1, (u_1 0)) := (by first | exact atm_a hs_13 (by first | assumption | omega) | exact atm_b hs_13 (by first | assumption | omega) (fun q9 => (kd_wy hs_10).mp q9 (by assumption)))
      exact W.vret hx hb hr (fun t ht hW => ⟨⟨ixn [(u_1 0), (u_1 1), (u_1 2), (u_1 3), 1, q], rfl, ⟨hsp0, hsp1, hsp2, hsp3, hsp4, hsp5, hsp6, hsp7, hsp8, hsp9, hsp10, hsp11⟩, ⟨x_14, x_15, f, hex0, hex1, hex2, by rw [ht]; exact hP9, hD9⟩⟩, hS.F ht⟩) hS.2.2 d_Model_atom_92
    · have hwk := wy_ne (by assumption)
      have hlt_29 : u_1 0 < u_1 1 := tk0.lt (by assumption) (by first | assumption | omega)
      refine lv_iconst (v := 1) hx hb d_Model_atom_36 (by decide) ?_
      refine lv_goto (tgt := 41) hx hb d_Model_atom_37 (by decide) ?_
      obtain ⟨hPc, hDc, hFc, hCs⟩ := xw_sub3 (wc := [(m0, .inr (11, [.int s_thrown, .int s_taped, .ref m1, .int (nI n), .int s_outSize, .ref m2, .int (nI (u_1 2)), .int (nI (u_1 3)), .int (nI (u_1 0)), .int (nI (u_1 1)), .int 0, .ref m3, .ref m4, .ref m5, .int s_isProgram, .int s_half, .ref m6, .ref m7, .ref m8, .ref m9, .ref m10, .ref m11, .ref m12, .ref m13, .ref m14, .ref m15, .ref m16, .ref m17, .ref m18, .ref m19, .ref m20, .int (nI q), .ref m21, .int s_stacked, .ref m22, .int x_14, .int x_15, .int s_statements, .int s_ifs, .int s_whiles, .int s_variants, .int s_open, .ref m23, .int s_isMade, .int s_conditions, .ref m24, .ref m25, .ref m26, .ref m27, .int s_kept, .ref m28, .int s_tops, .ref m29, .int s_used, .ref m30, .ref m31, .int s_looked, .int s_rows, .int s_firstRow, .ref m32, .ref m33, .ref m34, .ref m35, .ref m36, .ref m37, .ref m38, .ref m39, .ref m40, .int s_isBroken, .ref m41, .int s_atoms, .ref m42])), (m1, .inl (ax 0, 400, .inl (fun j => nI (g j))))]) hP hD hS hA [2, 1] (by decide) rfl
      have hz := xz_of hN hS
      refine va_callv (va_runV (As := [.int 1]) (rest := []) ⟨hx, hb, hml, hown, hts⟩ (c_M_must_1 l D ax m0 m1 m2 m3 m4 m5 m6 m7 m8 m9 m10 m11 m12 m13 m14 m15 m16 m17 m18 m19 m20 m21 m22 m23 m24 m25 m26 m27 m28 m29 m30 m31 m32 m33 m34 m35 m36 m37 m38 m39 m40 m41 m42 s_thrown s_taped s_outSize (nI (u_1 2)) (nI (u_1 0)) s_isProgram s_half (nI q) s_stacked x_14 x_15 s_statements s_ifs s_whiles s_variants s_open s_isMade s_conditions s_kept s_tops s_used s_looked s_rows s_firstRow s_isBroken s_atoms n (u_1 1) (u_1 3) g H_22.size hn (by first | assumption | omega) hg (by first | assumption | omega)) (xcV (n := 1) hts wd_1335 wd_15 wd_1332 wd_1334 ps_61 rfl rfl (by decide +kernel) ⟨Nat.le_of_ble_eq_true rfl, Nat.le_of_ble_eq_true rfl⟩) (xpV (ci := 11) (q0 := 0) (As := [.int 1]) hPc hK hz hDc rfl rfl) rfl rfl hl1.1 rfl (lv_room (Nat.le_of_ble_eq_true rfl)) d_Model_atom_41 ⟨Nat.le_of_ble_eq_true rfl, Nat.le_of_ble_eq_true rfl⟩) hS (fun q _ h => hFc q h) hFc (fun u_30 t H_31 locs ht hvm hw hB hz1 hk1 hS1 => ?_)
      try dsimp only at hw
      obtain ⟨-, -, -, hs_36, hs_37, hs_38, hs_39, hs_40, hs_41, hs_42, hs_43⟩ := hw
      obtain ⟨hP1, hD1⟩ := hB
      rw [ht] at hP1
      have hjn := xw_join3 (wl := [(m21, .inl (ax 0, 1200, .inl f)), (m0, .inr (11, [.int s_thrown, .int s_taped, .ref m1, .int (nI n), .int s_outSize, .ref m2, .int (nI (u_30 2)), .int (nI (u_30 3)), .int (nI (u_30 0)), .int (nI (u_30 1)), .int 0, .ref m3, .ref m4, .ref m5, .int s_isProgram, .int s_half, .ref m6, .ref m7, .ref m8, .ref m9, .ref m10, .ref m11, .ref m12, .ref m13, .ref m14, .ref m15, .ref m16, .ref m17, .ref m18, .ref m19, .ref m20, .int (nI q), .ref m21, .int s_stacked, .ref m22, .int x_14, .int x_15, .int s_statements, .int s_ifs, .int s_whiles, .int s_variants, .int s_open, .ref m23, .int s_isMade, .int s_conditions, .ref m24, .ref m25, .ref m26, .ref m27, .int s_kept, .ref m28, .int s_tops, .ref m29, .int s_used, .ref m30, .ref m31, .int s_looked, .int s_rows, .int s_firstRow, .ref m32, .ref m33, .ref m34, .ref m35, .ref m36, .ref m37, .ref m38, .ref m39, .ref m40, .int s_isBroken, .ref m41, .int s_atoms, .ref m42])), (m1, .inl (ax 0, 400, .inl (fun j => nI (g j))))]) hP hD [2, 1] [0] hCs (by decide) (by decide) hk1 hFc hP1 hD1 rfl
      clear hP1 hD1
      clear hPc hDc hFc hCs hz hz1 hk1 ht hvm
      clear hP hD hS
      have hS := hS1
      obtain ⟨hP, hD⟩ := hjn
      clear hS1
      refine lv_aload_n hx hb d_Model_atom_44 rfl (lv_at hl1 3 rfl) ?_
      refine va_get (D := D) (ci := 11) (v := .int 0) (C := R_Model) (T := F_Model) (N := 72) hx hb hts i_Model hown hK.1 hP 1 rfl rfl 10 (by decide) (hts _ wd_1046) (fun _ h9 => h9) rfl d_Model_atom_45 ?_
      refine lv_if_ne (tgt := 92) hx hb d_Model_atom_48 (by decide) (fun c_44 => ?_) (fun c_44 => ?_)
      · first | exact absurd c_44 (by decide) | exact absurd (by decide) c_44
      refine lv_aload_n hx hb d_Model_atom_51 rfl (lv_at hl1 3 rfl) ?_
      refine lv_iload_n hx hb d_Model_atom_52 rfl (lv_at hl1 4 rfl) ?_
      obtain ⟨hPc, hDc, hFc, hCs⟩ := xw_sub3 (wc := [(m0, .inr (11, [.int s_thrown, .int s_taped, .ref m1, .int (nI n), .int s_outSize, .ref m2, .int (nI (u_30 2)), .int (nI (u_30 3)), .int (nI (u_30 0)), .int (nI (u_30 1)), .int 0, .ref m3, .ref m4, .ref m5, .int s_isProgram, .int s_half, .ref m6, .ref m7, .ref m8, .ref m9, .ref m10, .ref m11, .ref m12, .ref m13, .ref m14, .ref m15, .ref m16, .ref m17, .ref m18, .ref m19, .ref m20, .int (nI q), .ref m21, .int s_stacked, .ref m22, .int x_14, .int x_15, .int s_statements, .int s_ifs, .int s_whiles, .int s_variants, .int s_open, .ref m23, .int s_isMade, .int s_conditions, .ref m24, .ref m25, .ref m26, .ref m27, .int s_kept, .ref m28, .int s_tops, .ref m29, .int s_used, .ref m30, .ref m31, .int s_looked, .int s_rows, .int s_firstRow, .ref m32, .ref m33, .ref m34, .ref m35, .ref m36, .ref m37, .ref m38, .ref m39, .ref m40, .int s_isBroken, .ref m41, .int s_atoms, .ref m42])), (m1, .inl (ax 0, 400, .inl (fun j => nI (g j))))]) hP hD hS hA [1, 2] (by decide) rfl
      have hz := xz_of hN hS
      refine va_callv (va_runV (As := [.int (nI gh)]) (rest := []) ⟨hx, hb, hml, hown, hts⟩ (c_M_term l D ax m0 m1 m2 m3 m4 m5 m6 m7 m8 m9 m10 m11 m12 m13 m14 m15 m16 m17 m18 m19 m20 m21 m22 m23 m24 m25 m26 m27 m28 m29 m30 m31 m32 m33 m34 m35 m36 m37 m38 m39 m40 m41 m42 s_thrown s_taped s_outSize s_isProgram s_half (nI q) s_stacked x_14 x_15 s_statements s_ifs s_whiles s_variants s_open s_isMade s_conditions s_kept s_tops s_used s_looked s_rows s_firstRow s_isBroken s_atoms n (u_30 0) (u_30 1) (u_30 2) (u_30 3) g gh H_31.size hn hg (by first | assumption | omega) (by first | assumption | omega) (by assumption) (by first | assumption | omega) (by first | assumption | omega) (by assumption) hgh) (xcV (n := 1) hts wd_1331 wd_15 wd_1328 wd_1330 ps_60 rfl rfl (by decide +kernel) ⟨Nat.le_of_ble_eq_true rfl, Nat.le_of_ble_eq_true rfl⟩) (xpV (ci := 11) (q0 := 0) (As := [.int (nI gh)]) hPc hK hz hDc rfl rfl) rfl rfl hl1.1 rfl (lv_room (Nat.le_of_ble_eq_true rfl)) d_Model_atom_53 ⟨Nat.le_of_ble_eq_true rfl, Nat.le_of_ble_eq_true rfl⟩) hS (fun q _ h => hFc q h) hFc (fun u_45 t H_46 locs ht hvm hw hB hz1 hk1 hS1 => ?_)
      try dsimp only at hw
      obtain ⟨hs_48, hs_49, hs_50, hs_51, hs_52, hs_53, hs_54, hs_55, hs_56, hs_57⟩ := hw
      obtain ⟨x_58, x_59, hx_60, hx_61, hP1, hD1⟩ := hB
      rw [ht] at hP1
      have hjn := xw_join3 (wl := [(m21, .inl (ax 0, 1200, .inl f)), (m0, .inr (11, [.int s_thrown, .int s_taped, .ref m1, .int (nI n), .int s_outSize, .ref m2, .int (nI (u_45 2)), .int (nI (u_45 3)), .int (nI (u_45 0)), .int (nI (u_45 1)), .int (nI (u_45 4)), .ref m3, .ref m4, .ref m5, .int s_isProgram, .int s_half, .ref m6, .ref m7, .ref m8, .ref m9, .ref m10, .ref m11, .ref m12, .ref m13, .ref m14, .ref m15, .ref m16, .ref m17, .ref m18, .ref m19, .ref m20, .int (nI q), .ref m21, .int s_stacked, .ref m22, .int x_58, .int x_59, .int s_statements, .int s_ifs, .int s_whiles, .int s_variants, .int s_open, .ref m23, .int s_isMade, .int s_conditions, .ref m24, .ref m25, .ref m26, .ref m27, .int s_kept, .ref m28, .int s_tops, .ref m29, .int s_used, .ref m30, .ref m31, .int s_looked, .int s_rows, .int s_firstRow, .ref m32, .ref m33, .ref m34, .ref m35, .ref m36, .ref m37, .ref m38, .ref m39, .ref m40, .int s_isBroken, .ref m41, .int s_atoms, .ref m42])), (m1, .inl (ax 0, 400, .inl (fun j => nI (g j))))]) hP hD [1, 2] [0] hCs (by decide) (by decide) hk1 hFc hP1 hD1 rfl
      clear hP1 hD1
      clear hPc hDc hFc hCs hz hz1 hk1 ht hvm
      clear hP hD hS
      have hS := hS1
      obtain ⟨hP, hD⟩ := hjn
      clear hS1
      by_cases hf_62 : u_45 4 = 1
      · clear hs_56 hx_61
        rw [show u_45 4 = 1 by omega] at hP hD
        have hP7 := hP; have hD7 := hD; clear hP hD
        have hW7 : (fun w9 : va_W => va_P D classes w9 H_46 ∧ va_D A w9) [(m21, .inl (ax 0, 1200, .inl f)), (m0, .inr (11, [.int s_thrown, .int s_taped, .ref m1, .int (nI n), .int s_outSize, .ref m2, .int (nI (u_45 2)), .int (nI (u_45 3)), .int (nI (u_45 0)), .int (nI (u_45 1)), .int 1, .ref m3, .ref m4, .ref m5, .int s_isProgram, .int s_half, .ref m6, .ref m7, .ref m8, .ref m9, .ref m10, .ref m11, .ref m12, .ref m13, .ref m14, .ref m15, .ref m16, .ref m17, .ref m18, .ref m19, .ref m20, .int (nI q), .ref m21, .int s_stacked, .ref m22, .int x_58, .int x_59, .int s_statements, .int s_ifs, .int s_whiles, .int s_variants, .int s_open, .ref m23, .int s_isMade, .int s_conditions, .ref m24, .ref m25, .ref m26, .ref m27, .int s_kept, .ref m28, .int s_tops, .ref m29, .int s_used, .ref m30, .ref m31, .int s_looked, .int s_rows, .int s_firstRow, .ref m32, .ref m33, .ref m34, .ref m35, .ref m36, .ref m37, .ref m38, .ref m39, .ref m40, .int s_isBroken, .ref m41, .int s_atoms, .ref m42])), (m1, .inl (ax 0, 400, .inl (fun j => nI (g j))))] := ⟨hP7, hD7⟩
        obtain ⟨hP, hD⟩ := hW7
        clear hP7 hD7
        refine lv_aload_n hx hb d_Model_atom_56 rfl (lv_at hl1 3 rfl) ?_
        refine va_get (D := D) (ci := 11) (v := .ref m21) (C := R_Model) (T := F_Model) (N := 72) hx hb hts i_Model hown hK.1 hP 1 rfl rfl 32 (by decide) (hts _ wd_1068) (fun _ h9 => h9) rfl d_Model_atom_57 ?_
        refine lv_bipush (v := 6) hx hb d_Model_atom_60 (by decide) ?_
        refine lv_aload_n hx hb d_Model_atom_62 rfl (lv_at hl1 3 rfl) ?_
        refine va_get (D := D) (ci := 11) (v := .int (nI q)) (C := R_Model) (T := F_Model) (N := 72) hx hb hts i_Model hown hK.1 hP 1 rfl rfl 31 (by decide) (hts _ wd_1067) (fun _ h9 => h9) rfl d_Model_atom_63 ?_
        refine lv_imul hx hb d_Model_atom_66 ?_
        refine lv_topi (fun z_63 ez_63 => ?_)
        have ez_63 : z_63 = nI (6 * q) := ez_63.trans (pk_mul 6 q)
        subst ez_63
        refine lv_iload_n hx hb d_Model_atom_67 rfl (lv_at hl1 2 rfl) ?_
        refine lv_iload_n hx hb d_Model_atom_68 rfl (lv_at hl1 1 rfl) ?_
        refine lv_iload hx hb d_Model_atom_69 (lv_at hl1 0 rfl) ?_
        refine lv_aload_n hx hb d_Model_atom_71 rfl (lv_at hl1 3 rfl) ?_
        refine va_get (D := D) (ci := 11) (v := .int x_58) (C := R_Model) (T := F_Model) (N := 72) hx hb hts i_Model hown hK.1 hP 1 rfl rfl 35 (by decide) (hts _ wd_1071) (fun _ h9 => h9) rfl d_Model_atom_72 ?_
        refine lv_aload_n hx hb d_Model_atom_75 rfl (lv_at hl1 3 rfl) ?_
        refine va_get (D := D) (ci := 11) (v := .int x_59) (C := R_Model) (T := F_Model) (N := 72) hx hb hts i_Model hown hK.1 hP 1 rfl rfl 36 (by decide) (hts _ wd_1072) (fun _ h9 => h9) rfl d_Model_atom_76 ?_
        obtain ⟨hPc, hDc, hFc, hCs⟩ := xw_sub3 (wc := [(m21, .inl (ax 0, 1200, .inl f))]) hP hD hS hA [0] (by decide) rfl
        have hz := xz_of hN hS
        refine va_callv (va_runS (As := [.ref m21, .int (nI (6 * q)), .int x_14, .int x_15, .int (wyK (u_1 2)), .int x_58, .int x_59]) (rest := []) ⟨hx, hb, hml, hown, hts⟩ (c_M_putAtom l D ax m21 1200 (6 * q) f x_14 x_15 (wyK (u_1 2)) x_58 x_59 H_46.size (by first | assumption | omega) (by first | assumption | omega)) (xcS (n := 7) hts wd_1035 wd_15 wd_1033 wd_1034 rfl rfl (by decide +kernel) ⟨Nat.le_of_ble_eq_true rfl, Nat.le_of_ble_eq_true rfl⟩) (xpS (As := [.ref m21, .int (nI (6 * q)), .int x_14, .int x_15, .int (wyK (u_1 2)), .int x_58, .int x_59]) hPc hK hz hDc) rfl rfl hl1.1 rfl (lv_room (Nat.le_of_ble_eq_true rfl)) d_Model_atom_79 ⟨Nat.le_of_ble_eq_true rfl, Nat.le_of_ble_eq_true rfl⟩) hS (fun q _ h => hFc q h) hFc (fun u_64 t H_65 locs ht hvm hw hB hz1 hk1 hS1 => ?_)
        try dsimp only at hw
        obtain ⟨hP1, hD1⟩ := hB
        rw [ht] at hP1
        have hjn := xw_join3 (wl := [(m0, .inr (11, [.int s_thrown, .int s_taped, .ref m1, .int (nI n), .int s_outSize, .ref m2, .int (nI (u_45 2)), .int (nI (u_45 3)), .int (nI (u_45 0)), .int (nI (u_45 1)), .int 1, .ref m3, .ref m4, .ref m5, .int s_isProgram, .int s_half, .ref m6, .ref m7, .ref m8, .ref m9, .ref m10, .ref m11, .ref m12, .ref m13, .ref m14, .ref m15, .ref m16, .ref m17, .ref m18, .ref m19, .ref m20, .int (nI q), .ref m21, .int s_stacked, .ref m22, .int x_58, .int x_59, .int s_statements, .int s_ifs, .int s_whiles, .int s_variants, .int s_open, .ref m23, .int s_isMade, .int s_conditions, .ref m24, .ref m25, .ref m26, .ref m27, .int s_kept, .ref m28, .int s_tops, .ref m29, .int s_used, .ref m30, .ref m31, .int s_looked, .int s_rows, .int s_firstRow, .ref m32, .ref m33, .ref m34, .ref m35, .ref m36, .ref m37, .ref m38, .ref m39, .ref m40, .int s_isBroken, .ref m41, .int s_atoms, .ref m42])), (m1, .inl (ax 0, 400, .inl (fun j => nI (g j)))), (m21, .inl (ax 0, 1200, .inl (upd (upd (upd (upd (upd (upd f (6 * q) 0) ((6 * q) + 1) x_14) ((6 * q) + 2) x_15) ((6 * q) + 3) (wyK (u_1 2))) ((6 * q) + 4) x_58) ((6 * q) + 5) x_59)))]) hP hD [0] [1, 2] hCs (by decide) (by decide) hk1 hFc hP1 hD1 rfl
        clear hP1 hD1
        clear hPc hDc hFc hCs hz hz1 hk1 ht hvm
        clear hP hD hS
        have hS := hS1
        obtain ⟨hP, hD⟩ := hjn
        clear hS1
        refine lv_aload_n hx hb d_Model_atom_82 rfl (lv_at hl1 3 rfl) ?_
        refine lv_dup hx hb d_Model_atom_83 rfl ?_
        refine va_get (D := D) (ci := 11) (v := .int (nI q)) (C := R_Model) (T := F_Model) (N := 72) hx hb hts i_Model hown hK.1 hP 0 rfl rfl 31 (by decide) (hts _ wd_1067) (fun _ h9 => h9) rfl d_Model_atom_84 ?_
        refine lv_iconst (v := 1) hx hb d_Model_atom_87 (by decide) ?_
        refine lv_iadd hx hb d_Model_atom_88 ?_
        refine lv_topi (fun z_67 ez_67 => ?_)
        have ez_67 : z_67 = nI (q + 1) := ez_67.trans (nI_add q 1)
        subst ez_67
        refine va_put (D := D) (ci := 11) (v := .int (nI (q + 1))) (ty := .int) (C := R_Model) (T := F_Model) (N := 72) hx hb hts i_Model t_Model t_Model_ok n_Model hown hK.1 hP hD hS 0 rfl rfl 31 (by decide) (hts _ wd_1067) (fun _ h9 => h9) rfl (by decide +kernel) rfl rfl (Nat.le_of_ble_eq_true rfl) d_Model_atom_89 (fun H_68 locs hP1 hD1 hS1 => ?_)
        clear hP hD hS
        have hS := hS1
        have hW7 : (fun w9 : va_W => va_P D classes w9 H_68 ∧ va_D A w9) [(m0, .inr (11, [.int s_thrown, .int s_taped, .ref m1, .int (nI n), .int s_outSize, .ref m2, .int (nI (u_45 2)), .int (nI (u_45 3)), .int (nI (u_45 0)), .int (nI (u_45 1)), .int 1, .ref m3, .ref m4, .ref m5, .int s_isProgram, .int s_half, .ref m6, .ref m7, .ref m8, .ref m9, .ref m10, .ref m11, .ref m12, .ref m13, .ref m14, .ref m15, .ref m16, .ref m17, .ref m18, .ref m19, .ref m20, .int (nI (q + 1)), .ref m21, .int s_stacked, .ref m22, .int x_58, .int x_59, .int s_statements, .int s_ifs, .int s_whiles, .int s_variants, .int s_open, .ref m23, .int s_isMade, .int s_conditions, .ref m24, .ref m25, .ref m26, .ref m27, .int s_kept, .ref m28, .int s_tops, .ref m29, .int s_used, .ref m30, .ref m31, .int s_looked, .int s_rows, .int s_firstRow, .ref m32, .ref m33, .ref m34, .ref m35, .ref m36, .ref m37, .ref m38, .ref m39, .ref m40, .int s_isBroken, .ref m41, .int s_atoms, .ref m42])), (m1, .inl (ax 0, 400, .inl (fun j => nI (g j)))), (m21, .inl (ax 0, 1200, .inl (upd (upd (upd (upd (upd (upd f (6 * q) 0) ((6 * q) + 1) x_14) ((6 * q) + 2) x_15) ((6 * q) + 3) (wyK (u_1 2))) ((6 * q) + 4) x_58) ((6 * q) + 5) x_59)))] := ⟨hP1, hD1⟩
        obtain ⟨hP, hD⟩ := hW7
        clear hP1 hD1 hS1
        rw [← hQe]
        obtain ⟨hP9, hD9⟩ := xw_sub2 (wc := (fun (u : Nat → Nat) (xnm : Int32) (xsh : Int32) (xF : Nat → Int32) => [(m0, .inr (11, [.int s_thrown, .int s_taped, .ref m1, .int (nI n), .int s_outSize, .ref m2, .int (nI (u 2)), .int (nI (u 3)), .int (nI (u 0)), .int (nI (u 1)), .int (nI (u 4)), .ref m3, .ref m4, .ref m5, .int s_isProgram, .int s_half, .ref m6, .ref m7, .ref m8, .ref m9, .ref m10, .ref m11, .ref m12, .ref m13, .ref m14, .ref m15, .ref m16, .ref m17, .ref m18, .ref m19, .ref m20, .int (nI (u 5)), .ref m21, .int s_stacked, .ref m22, .int xnm, .int xsh, .int s_statements, .int s_ifs, .int s_whiles, .int s_variants, .int s_open, .ref m23, .int s_isMade, .int s_conditions, .ref m24, .ref m25, .ref m26, .ref m27, .int s_kept, .ref m28, .int s_tops, .ref m29, .int s_used, .ref m30, .ref m31, .int s_looked, .int s_rows, .int s_firstRow, .ref m32, .ref m33, .ref m34, .ref m35, .ref m36, .ref m37, .ref m38, .ref m39, .ref m40, .int s_isBroken, .ref m41, .int s_atoms, .ref m42])), (m1, .inl (ax 0, 400, .inl (fun j => nI (g j)))), (m21, .inl (ax 0, 1200, .inl xF))]) (ixn [(u_45 0), (u_45 1), (u_45 2), (u_45 3), 1, (q + 1)]) x_58 x_59 (upd (upd (upd (upd (upd (upd f (6 * q) 0) ((6 * q) + 1) x_14) ((6 * q) + 2) x_15) ((6 * q) + 3) (wyK (u_1 2))) ((6 * q) + 4) x_58) ((6 * q) + 5) x_59)) hP hD [0, 1, 2] (by decide) rfl
        have hex0 : ∀ j, j < 6 * q → (upd (upd (upd (upd (upd (upd f (6 * q) 0) ((6 * q) + 1) x_14) ((6 * q) + 2) x_15) ((6 * q) + 3) (wyK (u_1 2))) ((6 * q) + 4) x_58) ((6 * q) + 5) x_59) j = f j := (by first | exact fun j _ => rfl | exact fun j hj => pa_lo (Or.inl hj))
        have hex1 : imp0 (1) (((upd (upd (upd (upd (upd (upd f (6 * q) 0) ((6 * q) + 1) x_14) ((6 * q) + 2) x_15) ((6 * q) + 3) (wyK (u_1 2))) ((6 * q) + 4) x_58) ((6 * q) + 5) x_59) (6 * q) = 0 ∧ nmo (6 + 4 * gh) ((upd (upd (upd (upd (upd (upd f (6 * q) 0) ((6 * q) + 1) x_14) ((6 * q) + 2) x_15) ((6 * q) + 3) (wyK (u_1 2))) ((6 * q) + 4) x_58) ((6 * q) + 5) x_59) (6 * q + 1)) ∧ nmo (6 + 4 * gh) ((upd (upd (upd (upd (upd (upd f (6 * q) 0) ((6 * q) + 1) x_14) ((6 * q) + 2) x_15) ((6 * q) + 3) (wyK (u_1 2))) ((6 * q) + 4) x_58) ((6 * q) + 5) x_59) (6 * q + 4)))) := (Or.inl rfl)
        have hex2 : imp0 (1) (dec (upd (upd (upd (upd (upd (upd f (6 * q) 0) ((6 * q) + 1) x_14) ((6 * q) + 2) x_15) ((6 * q) + 3) (wyK (u_1 2))) ((6 * q) + 4) x_58) ((6 * q) + 5) x_59) (6 * q) = atmV (kd g n) (nxt g n) (kv g n) gh b) := (Or.inl rfl)
        have hsp0 : b ≤ (u_45 0) := (by first | assumption | omega)
        have hsp1 : (u_45 0) ≤ (u_45 1) := (by first | assumption | omega)
        have hsp2 : (u_45 1) ≤ n := (by first | assumption | omega)
        have hsp3 : tk0 ((u_45 2)) ((u_45 0)) ((u_45 1)) := (by assumption)
        have hsp4 : (u_45 2) < 10000 := (by first | assumption | omega)
        have hsp5 : (u_45 3) < 20000 := (by first | assumption | omega)
        have hsp6 : tkq g n ((u_45 0)) ((u_45 1)) ((u_45 2)) ((u_45 3)) := (by assumption)
        have hsp7 : 1 ≤ 1 := (by first | assumption | omega)
        have hsp8 : imp0 (1) ((q + 1) = q + 1) := (Or.inl rfl)
        have hsp9 : (q + 1) ≤ q + 1 := (by first | assumption | omega)
        have hsp10 : imp0 (1) (b + 3 ≤ (u_45 0)) := (Or.inl rfl)
        have hsp11 : atmG (kd g n) (nxt g n) gh b = (1, (u_45 0)) := (atm_c hs_13 (by first | assumption | omega) ((kd_wy hs_10).mpr (by assumption)) (by rw [tkq.nx hs_10 hs_36]; exact hs_57) (by first | assumption | omega))
        exact W.vret hx hb hr (fun t ht hW => ⟨⟨ixn [(u_45 0), (u_45 1), (u_45 2), (u_45 3), 1, (q + 1)], rfl, ⟨hsp0, hsp1, hsp2, hsp3, hsp4, hsp5, hsp6, hsp7, hsp8, hsp9, hsp10, hsp11⟩, ⟨x_58, x_59, (upd (upd (upd (upd (upd (upd f (6 * q) 0) ((6 * q) + 1) x_14) ((6 * q) + 2) x_15) ((6 * q) + 3) (wyK (u_1 2))) ((6 * q) + 4) x_58) ((6 * q) + 5) x_59), hex0, hex1, hex2, by rw [ht]; exact hP9, hD9⟩⟩, hS.F ht⟩) hS.2.2 d_Model_atom_92
      · replace hs_56 := imp0.go hs_56 hf_62
        replace hx_61 := imp0.go hx_61 hf_62
        rw [show u_45 4 = 0 by omega] at hP hD
        have hP7 := hP; have hD7 := hD; clear hP hD
        have hW7 : (fun w9 : va_W => va_P D classes w9 H_46 ∧ va_D A w9) [(m21, .inl (ax 0, 1200, .inl f)), (m0, .inr (11, [.int s_thrown, .int s_taped, .ref m1, .int (nI n), .int s_outSize, .ref m2, .int (nI (u_45 2)), .int (nI (u_45 3)), .int (nI (u_45 0)), .int (nI (u_45 1)), .int 0, .ref m3, .ref m4, .ref m5, .int s_isProgram, .int s_half, .ref m6, .ref m7, .ref m8, .ref m9, .ref m10, .ref m11, .ref m12, .ref m13, .ref m14, .ref m15, .ref m16, .ref m17, .ref m18, .ref m19, .ref m20, .int (nI q), .ref m21, .int s_stacked, .ref m22, .int x_58, .int x_59, .int s_statements, .int s_ifs, .int s_whiles, .int s_variants, .int s_open, .ref m23, .int s_isMade, .int s_conditions, .ref m24, .ref m25, .ref m26, .ref m27, .int s_kept, .ref m28, .int s_tops, .ref m29, .int s_used, .ref m30, .ref m31, .int s_looked, .int s_rows, .int s_firstRow, .ref m32, .ref m33, .ref m34, .ref m35, .ref m36, .ref m37, .ref m38, .ref m39, .ref m40, .int s_isBroken, .ref m41, .int s_atoms, .ref m42])), (m1, .inl (ax 0, 400, .inl (fun j => nI (g j))))] := ⟨hP7, hD7⟩
        obtain ⟨hP, hD⟩ := hW7
        clear hP7 hD7
        refine lv_aload_n hx hb d_Model_atom_56 rfl (lv_at hl1 3 rfl) ?_
        refine va_get (D := D) (ci := 11) (v := .ref m21) (C := R_Model) (T := F_Model) (N := 72) hx hb hts i_Model hown hK.1 hP 1 rfl rfl 32 (by decide) (hts _ wd_1068) (fun _ h9 => h9) rfl d_Model_atom_57 ?_
        refine lv_bipush (v := 6) hx hb d_Model_atom_60 (by decide) ?_
        refine lv_aload_n hx hb d_Model_atom_62 rfl (lv_at hl1 3 rfl) ?_
        refine va_get (D := D) (ci := 11) (v := .int (nI q)) (C := R_Model) (T := F_Model) (N := 72) hx hb hts i_Model hown hK.1 hP 1 rfl rfl 31 (by decide) (hts _ wd_1067) (fun _ h9 => h9) rfl d_Model_atom_63 ?_
        refine lv_imul hx hb d_Model_atom_66 ?_
        refine lv_topi (fun z_69 ez_69 => ?_)
        have ez_69 : z_69 = nI (6 * q) := ez_69.trans (pk_mul 6 q)
        subst ez_69
        refine lv_iload_n hx hb d_Model_atom_67 rfl (lv_at hl1 2 rfl) ?_
        refine lv_iload_n hx hb d_Model_atom_68 rfl (lv_at hl1 1 rfl) ?_
        refine lv_iload hx hb d_Model_atom_69 (lv_at hl1 0 rfl) ?_
        refine lv_aload_n hx hb d_Model_atom_71 rfl (lv_at hl1 3 rfl) ?_
        refine va_get (D := D) (ci := 11) (v := .int x_58) (C := R_Model) (T := F_Model) (N := 72) hx hb hts i_Model hown hK.1 hP 1 rfl rfl 35 (by decide) (hts _ wd_1071) (fun _ h9 => h9) rfl d_Model_atom_72 ?_
        refine lv_aload_n hx hb d_Model_atom_75 rfl (lv_at hl1 3 rfl) ?_
        refine va_get (D := D) (ci := 11) (v := .int x_59) (C := R_Model) (T := F_Model) (N := 72) hx hb hts i_Model hown hK.1 hP 1 rfl rfl 36 (by decide) (hts _ wd_1072) (fun _ h9 => h9) rfl d_Model_atom_76 ?_
        obtain ⟨hPc, hDc, hFc, hCs⟩ := xw_sub3 (wc := [(m21, .inl (ax 0, 1200, .inl f))]) hP hD hS hA [0] (by decide) rfl
        have hz := xz_of hN hS
        refine va_callv (va_runS (As := [.ref m21, .int (nI (6 * q)), .int x_14, .int x_15, .int (wyK (u_1 2)), .int x_58, .int x_59]) (rest := []) ⟨hx, hb, hml, hown, hts⟩ (c_M_putAtom l D ax m21 1200 (6 * q) f x_14 x_15 (wyK (u_1 2)) x_58 x_59 H_46.size (by first | assumption | omega) (by first | assumption | omega)) (xcS (n := 7) hts wd_1035 wd_15 wd_1033 wd_1034 rfl rfl (by decide +kernel) ⟨Nat.le_of_ble_eq_true rfl, Nat.le_of_ble_eq_true rfl⟩) (xpS (As := [.ref m21, .int (nI (6 * q)), .int x_14, .int x_15, .int (wyK (u_1 2)), .int x_58, .int x_59]) hPc hK hz hDc) rfl rfl hl1.1 rfl (lv_room (Nat.le_of_ble_eq_true rfl)) d_Model_atom_79 ⟨Nat.le_of_ble_eq_true rfl, Nat.le_of_ble_eq_true rfl⟩) hS (fun q _ h => hFc q h) hFc (fun u_70 t H_71 locs ht hvm hw hB hz1 hk1 hS1 => ?_)
        try dsimp only at hw
        obtain ⟨hP1, hD1⟩ := hB
        rw [ht] at hP1
        have hjn := xw_join3 (wl := [(m0, .inr (11, [.int s_thrown, .int s_taped, .ref m1, .int (nI n), .int s_outSize, .ref m2, .int (nI (u_45 2)), .int (nI (u_45 3)), .int (nI (u_45 0)), .int (nI (u_45 1)), .int 0, .ref m3, .ref m4, .ref m5, .int s_isProgram, .int s_half, .ref m6, .ref m7, .ref m8, .ref m9, .ref m10, .ref m11, .ref m12, .ref m13, .ref m14, .ref m15, .ref m16, .ref m17, .ref m18, .ref m19, .ref m20, .int (nI q), .ref m21, .int s_stacked, .ref m22, .int x_58, .int x_59, .int s_statements, .int s_ifs, .int s_whiles, .int s_variants, .int s_open, .ref m23, .int s_isMade, .int s_conditions, .ref m24, .ref m25, .ref m26, .ref m27, .int s_kept, .ref m28, .int s_tops, .ref m29, .int s_used, .ref m30, .ref m31, .int s_looked, .int s_rows, .int s_firstRow, .ref m32, .ref m33, .ref m34, .ref m35, .ref m36, .ref m37, .ref m38, .ref m39, .ref m40, .int s_isBroken, .ref m41, .int s_atoms, .ref m42])), (m1, .inl (ax 0, 400, .inl (fun j => nI (g j)))), (m21, .inl (ax 0, 1200, .inl (upd (upd (upd (upd (upd (upd f (6 * q) 0) ((6 * q) + 1) x_14) ((6 * q) + 2) x_15) ((6 * q) + 3) (wyK (u_1 2))) ((6 * q) + 4) x_58) ((6 * q) + 5) x_59)))]) hP hD [0] [1, 2] hCs (by decide) (by decide) hk1 hFc hP1 hD1 rfl
        clear hP1 hD1
        clear hPc hDc hFc hCs hz hz1 hk1 ht hvm
        clear hP hD hS
        have hS := hS1
        obtain ⟨hP, hD⟩ := hjn
        clear hS1
        refine lv_aload_n hx hb d_Model_atom_82 rfl (lv_at hl1 3 rfl) ?_
        refine lv_dup hx hb d_Model_atom_83 rfl ?_
        refine va_get (D := D) (ci := 11) (v := .int (nI q)) (C := R_Model) (T := F_Model) (N := 72) hx hb hts i_Model hown hK.1 hP 0 rfl rfl 31 (by decide) (hts _ wd_1067) (fun _ h9 => h9) rfl d_Model_atom_84 ?_
        refine lv_iconst (v := 1) hx hb d_Model_atom_87 (by decide) ?_
        refine lv_iadd hx hb d_Model_atom_88 ?_
        refine lv_topi (fun z_73 ez_73 => ?_)
        have ez_73 : z_73 = nI (q + 1) := ez_73.trans (nI_add q 1)
        subst ez_73
        refine va_put (D := D) (ci := 11) (v := .int (nI (q + 1))) (ty := .int) (C := R_Model) (T := F_Model) (N := 72) hx hb hts i_Model t_Model t_Model_ok n_Model hown hK.1 hP hD hS 0 rfl rfl 31 (by decide) (hts _ wd_1067) (fun _ h9 => h9) rfl (by decide +kernel) rfl rfl (Nat.le_of_ble_eq_true rfl) d_Model_atom_89 (fun H_74 locs hP1 hD1 hS1 => ?_)
        clear hP hD hS
        have hS := hS1
        have hW7 : (fun w9 : va_W => va_P D classes w9 H_74 ∧ va_D A w9) [(m0, .inr (11, [.int s_thrown, .int s_taped, .ref m1, .int (nI n), .int s_outSize, .ref m2, .int (nI (u_45 2)), .int (nI (u_45 3)), .int (nI (u_45 0)), .int (nI (u_45 1)), .int 0, .ref m3, .ref m4, .ref m5, .int s_isProgram, .int s_half, .ref m6, .ref m7, .ref m8, .ref m9, .ref m10, .ref m11, .ref m12, .ref m13, .ref m14, .ref m15, .ref m16, .ref m17, .ref m18, .ref m19, .ref m20, .int (nI (q + 1)), .ref m21, .int s_stacked, .ref m22, .int x_58, .int x_59, .int s_statements, .int s_ifs, .int s_whiles, .int s_variants, .int s_open, .ref m23, .int s_isMade, .int s_conditions, .ref m24, .ref m25, .ref m26, .ref m27, .int s_kept, .ref m28, .int s_tops, .ref m29, .int s_used, .ref m30, .ref m31, .int s_looked, .int s_rows, .int s_firstRow, .ref m32, .ref m33, .ref m34, .ref m35, .ref m36, .ref m37, .ref m38, .ref m39, .ref m40, .int s_isBroken, .ref m41, .int s_atoms, .ref m42])), (m1, .inl (ax 0, 400, .inl (fun j => nI (g j)))), (m21, .inl (ax 0, 1200, .inl (upd (upd (upd (upd (upd (upd f (6 * q) 0) ((6 * q) + 1) x_14) ((6 * q) + 2) x_15) ((6 * q) + 3) (wyK (u_1 2))) ((6 * q) + 4) x_58) ((6 * q) + 5) x_59)))] := ⟨hP1, hD1⟩
        obtain ⟨hP, hD⟩ := hW7
        clear hP1 hD1 hS1
        rw [← hQe]
        obtain ⟨hP9, hD9⟩ := xw_sub2 (wc := (fun (u : Nat → Nat) (xnm : Int32) (xsh : Int32) (xF : Nat → Int32) => [(m0, .inr (11, [.int s_thrown, .int s_taped, .ref m1, .int (nI n), .int s_outSize, .ref m2, .int (nI (u 2)), .int (nI (u 3)), .int (nI (u 0)), .int (nI (u 1)), .int (nI (u 4)), .ref m3, .ref m4, .ref m5, .int s_isProgram, .int s_half, .ref m6, .ref m7, .ref m8, .ref m9, .ref m10, .ref m11, .ref m12, .ref m13, .ref m14, .ref m15, .ref m16, .ref m17, .ref m18, .ref m19, .ref m20, .int (nI (u 5)), .ref m21, .int s_stacked, .ref m22, .int xnm, .int xsh, .int s_statements, .int s_ifs, .int s_whiles, .int s_variants, .int s_open, .ref m23, .int s_isMade, .int s_conditions, .ref m24, .ref m25, .ref m26, .ref m27, .int s_kept, .ref m28, .int s_tops, .ref m29, .int s_used, .ref m30, .ref m31, .int s_looked, .int s_rows, .int s_firstRow, .ref m32, .ref m33, .ref m34, .ref m35, .ref m36, .ref m37, .ref m38, .ref m39, .ref m40, .int s_isBroken, .ref m41, .int s_atoms, .ref m42])), (m1, .inl (ax 0, 400, .inl (fun j => nI (g j)))), (m21, .inl (ax 0, 1200, .inl xF))]) (ixn [(u_45 0), (u_45 1), (u_45 2), (u_45 3), 0, (q + 1)]) x_58 x_59 (upd (upd (upd (upd (upd (upd f (6 * q) 0) ((6 * q) + 1) x_14) ((6 * q) + 2) x_15) ((6 * q) + 3) (wyK (u_1 2))) ((6 * q) + 4) x_58) ((6 * q) + 5) x_59)) hP hD [0, 1, 2] (by decide) rfl
        have hex0 : ∀ j, j < 6 * q → (upd (upd (upd (upd (upd (upd f (6 * q) 0) ((6 * q) + 1) x_14) ((6 * q) + 2) x_15) ((6 * q) + 3) (wyK (u_1 2))) ((6 * q) + 4) x_58) ((6 * q) + 5) x_59) j = f j := (by first | exact fun j _ => rfl | exact fun j hj => pa_lo (Or.inl hj))
        have hex1 : imp0 (0) (((upd (upd (upd (upd (upd (upd f (6 * q) 0) ((6 * q) + 1) x_14) ((6 * q) + 2) x_15) ((6 * q) + 3) (wyK (u_1 2))) ((6 * q) + 4) x_58) ((6 * q) + 5) x_59) (6 * q) = 0 ∧ nmo (6 + 4 * gh) ((upd (upd (upd (upd (upd (upd f (6 * q) 0) ((6 * q) + 1) x_14) ((6 * q) + 2) x_15) ((6 * q) + 3) (wyK (u_1 2))) ((6 * q) + 4) x_58) ((6 * q) + 5) x_59) (6 * q + 1)) ∧ nmo (6 + 4 * gh) ((upd (upd (upd (upd (upd (upd f (6 * q) 0) ((6 * q) + 1) x_14) ((6 * q) + 2) x_15) ((6 * q) + 3) (wyK (u_1 2))) ((6 * q) + 4) x_58) ((6 * q) + 5) x_59) (6 * q + 4)))) := (Or.inr ⟨pa_at.1, by rw [pa_at.2.1]; assumption, by rw [pa_at.2.2]; assumption⟩)
        have hex2 : imp0 (0) (dec (upd (upd (upd (upd (upd (upd f (6 * q) 0) ((6 * q) + 1) x_14) ((6 * q) + 2) x_15) ((6 * q) + 3) (wyK (u_1 2))) ((6 * q) + 4) x_58) ((6 * q) + 5) x_59) (6 * q) = atmV (kd g n) (nxt g n) (kv g n) gh b) := (Or.inr (atv hx_17 hs_13 hs_10 (by assumption) hs_36 hx_61))
        have hsp0 : b ≤ (u_45 0) := (by first | assumption | omega)
        have hsp1 : (u_45 0) ≤ (u_45 1) := (by first | assumption | omega)
        have hsp2 : (u_45 1) ≤ n := (by first | assumption | omega)
        have hsp3 : tk0 ((u_45 2)) ((u_45 0)) ((u_45 1)) := (by assumption)
        have hsp4 : (u_45 2) < 10000 := (by first | assumption | omega)
        have hsp5 : (u_45 3) < 20000 := (by first | assumption | omega)
        have hsp6 : tkq g n ((u_45 0)) ((u_45 1)) ((u_45 2)) ((u_45 3)) := (by assumption)
        have hsp7 : 0 ≤ 1 := (by first | assumption | omega)
        have hsp8 : imp0 (0) ((q + 1) = q + 1) := (Or.inr (by first | assumption | omega))
        have hsp9 : (q + 1) ≤ q + 1 := (by first | assumption | omega)
        have hsp10 : imp0 (0) (b + 3 ≤ (u_45 0)) := (Or.inr (by first | assumption | omega))
        have hsp11 : atmG (kd g n) (nxt g n) gh b = (0, (u_45 0)) := (atm_c hs_13 (by first | assumption | omega) ((kd_wy hs_10).mpr (by assumption)) (by rw [tkq.nx hs_10 hs_36]; exact hs_57) (by first | assumption | omega))
        exact W.vret hx hb hr (fun t ht hW => ⟨⟨ixn [(u_45 0), (u_45 1), (u_45 2), (u_45 3), 0, (q + 1)], rfl, ⟨hsp0, hsp1, hsp2, hsp3, hsp4, hsp5, hsp6, hsp7, hsp8, hsp9, hsp10, hsp11⟩, ⟨x_58, x_59, (upd (upd (upd (upd (upd (upd f (6 * q) 0) ((6 * q) + 1) x_14) ((6 * q) + 2) x_15) ((6 * q) + 3) (wyK (u_1 2))) ((6 * q) + 4) x_58) ((6 * q) + 5) x_59), hex0, hex1, hex2, by rw [ht]; exact hP9, hD9⟩⟩, hS.F ht⟩) hS.2.2 d_Model_atom_92
