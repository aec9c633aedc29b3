theorem wd_1047 : ((Jvm.Cond.fieldLink "TripleDeskModel" (17 : Nat) "TripleDeskModel" "text" "[I")) ∈ lw_gd := lw_gd_in (i := 1047) (by decide +kernel) rfl
theorem wd_1048 : ((Jvm.Cond.fieldLink "TripleDeskModel" (20 : Nat) "TripleDeskModel" "textSize" "[I")) ∈ lw_gd := lw_gd_in (i := 1048) (by decide +kernel) rfl
theorem wd_1049 : ((Jvm.Cond.fieldLink "TripleDeskModel" (23 : Nat) "TripleDeskModel" "now" "[I")) ∈ lw_gd := lw_gd_in (i := 1049) (by decide +kernel) rfl
abbrev b_Model_readText : ByteArray := prog_13_method_27_code
def y_Model_readText : MethodName := ⟨R_Model, "readText", "(I)I"⟩
theorem d_Model_readText_0 : decode b_Model_readText 0 = .ok (.aload_n 0, 1) := by decide +kernel
theorem d_Model_readText_1 : decode b_Model_readText 1 = .ok (.invokevirtual 257, 3) := by decide +kernel
theorem d_Model_readText_4 : decode b_Model_readText 4 = .ok (.aload_n 0, 1) := by decide +kernel
theorem d_Model_readText_5 : decode b_Model_readText 5 = .ok (.iconst 0, 1) := by decide +kernel
theorem d_Model_readText_6 : decode b_Model_readText 6 = .ok (.invokevirtual 260, 3) := by decide +kernel
theorem d_Model_readText_9 : decode b_Model_readText 9 = .ok (.aload_n 0, 1) := by decide +kernel
theorem d_Model_readText_10 : decode b_Model_readText 10 = .ok (.aload_n 0, 1) := by decide +kernel
theorem d_Model_readText_11 : decode b_Model_readText 11 = .ok (.getfield 199, 3) := by decide +kernel
theorem d_Model_readText_14 : decode b_Model_readText 14 = .ok (.ifCond .ne 10, 3) := by decide +kernel
theorem d_Model_readText_17 : decode b_Model_readText 17 = .ok (.aload_n 0, 1) := by decide +kernel
theorem d_Model_readText_18 : decode b_Model_readText 18 = .ok (.getfield 178, 3) := by decide +kernel
theorem d_Model_readText_21 : decode b_Model_readText 21 = .ok (.ifCond .eq 7, 3) := by decide +kernel
theorem d_Model_readText_24 : decode b_Model_readText 24 = .ok (.iconst 1, 1) := by decide +kernel
theorem d_Model_readText_25 : decode b_Model_readText 25 = .ok (.goto 4, 3) := by decide +kernel
theorem d_Model_readText_28 : decode b_Model_readText 28 = .ok (.iconst 0, 1) := by decide +kernel
theorem d_Model_readText_29 : decode b_Model_readText 29 = .ok (.putfield 199, 3) := by decide +kernel
theorem d_Model_readText_32 : decode b_Model_readText 32 = .ok (.aload_n 0, 1) := by decide +kernel
theorem d_Model_readText_33 : decode b_Model_readText 33 = .ok (.getfield 199, 3) := by decide +kernel
theorem d_Model_readText_36 : decode b_Model_readText 36 = .ok (.ifCond .ne 93, 3) := by decide +kernel
theorem d_Model_readText_39 : decode b_Model_readText 39 = .ok (.aload_n 0, 1) := by decide +kernel
theorem d_Model_readText_40 : decode b_Model_readText 40 = .ok (.getfield 23, 3) := by decide +kernel
theorem d_Model_readText_43 : decode b_Model_readText 43 = .ok (.iload_n 1, 1) := by decide +kernel
theorem d_Model_readText_44 : decode b_Model_readText 44 = .ok (.iaload, 1) := by decide +kernel
theorem d_Model_readText_45 : decode b_Model_readText 45 = .ok (.iconst 2, 1) := by decide +kernel
theorem d_Model_readText_46 : decode b_Model_readText 46 = .ok (.irem, 1) := by decide +kernel
theorem d_Model_readText_47 : decode b_Model_readText 47 = .ok (.ifCond .ne 14, 3) := by decide +kernel
theorem d_Model_readText_50 : decode b_Model_readText 50 = .ok (.aload_n 0, 1) := by decide +kernel
theorem d_Model_readText_51 : decode b_Model_readText 51 = .ok (.getfield 23, 3) := by decide +kernel
theorem d_Model_readText_54 : decode b_Model_readText 54 = .ok (.iload_n 1, 1) := by decide +kernel
theorem d_Model_readText_55 : decode b_Model_readText 55 = .ok (.iaload, 1) := by decide +kernel
theorem d_Model_readText_56 : decode b_Model_readText 56 = .ok (.iconst 1, 1) := by decide +kernel
theorem d_Model_readText_57 : decode b_Model_readText 57 = .ok (.iadd, 1) := by decide +kernel
theorem d_Model_readText_58 : decode b_Model_readText 58 = .ok (.goto 11, 3) := by decide +kernel
theorem d_Model_readText_61 : decode b_Model_readText 61 = .ok (.aload_n 0, 1) := by decide +kernel
theorem d_Model_readText_62 : decode b_Model_readText 62 = .ok (.getfield 23, 3) := by decide +kernel
theorem d_Model_readText_65 : decode b_Model_readText 65 = .ok (.iload_n 1, 1) := by decide +kernel
theorem d_Model_readText_66 : decode b_Model_readText 66 = .ok (.iaload, 1) := by decide +kernel
theorem d_Model_readText_67 : decode b_Model_readText 67 = .ok (.iconst 1, 1) := by decide +kernel
theorem d_Model_readText_68 : decode b_Model_readText 68 = .ok (.isub, 1) := by decide +kernel
theorem d_Model_readText_69 : decode b_Model_readText 69 = .ok (.istore_n 2, 1) := by decide +kernel
theorem d_Model_readText_70 : decode b_Model_readText 70 = .ok (.iconst 0, 1) := by decide +kernel
theorem d_Model_readText_71 : decode b_Model_readText 71 = .ok (.istore_n 3, 1) := by decide +kernel
theorem d_Model_readText_72 : decode b_Model_readText 72 = .ok (.iload_n 3, 1) := by decide +kernel
theorem d_Model_readText_73 : decode b_Model_readText 73 = .ok (.bipush 6, 2) := by decide +kernel
theorem d_Model_readText_75 : decode b_Model_readText 75 = .ok (.aload_n 0, 1) := by decide +kernel
theorem d_Model_readText_76 : decode b_Model_readText 76 = .ok (.getfield 226, 3) := by decide +kernel
theorem d_Model_readText_79 : decode b_Model_readText 79 = .ok (.imul, 1) := by decide +kernel
theorem d_Model_readText_80 : decode b_Model_readText 80 = .ok (.if_icmp .ge 27, 3) := by decide +kernel
theorem d_Model_readText_83 : decode b_Model_readText 83 = .ok (.aload_n 0, 1) := by decide +kernel
theorem d_Model_readText_84 : decode b_Model_readText 84 = .ok (.getfield 17, 3) := by decide +kernel
theorem d_Model_readText_87 : decode b_Model_readText 87 = .ok (.sipush 768, 3) := by decide +kernel
theorem d_Model_readText_90 : decode b_Model_readText 90 = .ok (.iload_n 2, 1) := by decide +kernel
theorem d_Model_readText_91 : decode b_Model_readText 91 = .ok (.imul, 1) := by decide +kernel
theorem d_Model_readText_92 : decode b_Model_readText 92 = .ok (.iload_n 3, 1) := by decide +kernel
theorem d_Model_readText_93 : decode b_Model_readText 93 = .ok (.iadd, 1) := by decide +kernel
theorem d_Model_readText_94 : decode b_Model_readText 94 = .ok (.aload_n 0, 1) := by decide +kernel
theorem d_Model_readText_95 : decode b_Model_readText 95 = .ok (.getfield 72, 3) := by decide +kernel
theorem d_Model_readText_98 : decode b_Model_readText 98 = .ok (.iload_n 3, 1) := by decide +kernel
theorem d_Model_readText_99 : decode b_Model_readText 99 = .ok (.iaload, 1) := by decide +kernel
theorem d_Model_readText_100 : decode b_Model_readText 100 = .ok (.iastore, 1) := by decide +kernel
theorem d_Model_readText_101 : decode b_Model_readText 101 = .ok (.iinc 3 1, 3) := by decide +kernel
theorem d_Model_readText_104 : decode b_Model_readText 104 = .ok (.goto (-32), 3) := by decide +kernel
theorem d_Model_readText_107 : decode b_Model_readText 107 = .ok (.aload_n 0, 1) := by decide +kernel
theorem d_Model_readText_108 : decode b_Model_readText 108 = .ok (.getfield 20, 3) := by decide +kernel
theorem d_Model_readText_111 : decode b_Model_readText 111 = .ok (.iload_n 2, 1) := by decide +kernel
theorem d_Model_readText_112 : decode b_Model_readText 112 = .ok (.aload_n 0, 1) := by decide +kernel
theorem d_Model_readText_113 : decode b_Model_readText 113 = .ok (.getfield 226, 3) := by decide +kernel
theorem d_Model_readText_116 : decode b_Model_readText 116 = .ok (.iastore, 1) := by decide +kernel
theorem d_Model_readText_117 : decode b_Model_readText 117 = .ok (.aload_n 0, 1) := by decide +kernel
theorem d_Model_readText_118 : decode b_Model_readText 118 = .ok (.getfield 23, 3) := by decide +kernel
theorem d_Model_readText_121 : decode b_Model_readText 121 = .ok (.iload_n 1, 1) := by decide +kernel
theorem d_Model_readText_122 : decode b_Model_readText 122 = .ok (.iload_n 2, 1) := by decide +kernel
theorem d_Model_readText_123 : decode b_Model_readText 123 = .ok (.iastore, 1) := by decide +kernel
theorem d_Model_readText_124 : decode b_Model_readText 124 = .ok (.aload_n 0, 1) := by decide +kernel
theorem d_Model_readText_125 : decode b_Model_readText 125 = .ok (.iconst 0, 1) := by decide +kernel
theorem d_Model_readText_126 : decode b_Model_readText 126 = .ok (.putfield 263, 3) := by decide +kernel
theorem d_Model_readText_129 : decode b_Model_readText 129 = .ok (.aload_n 0, 1) := by decide +kernel
theorem d_Model_readText_130 : decode b_Model_readText 130 = .ok (.invokevirtual 266, 3) := by decide +kernel
theorem d_Model_readText_133 : decode b_Model_readText 133 = .ok (.ireturn, 1) := by decide +kernel
set_option maxHeartbeats 40000000 in
set_option maxRecDepth 100000 in
theorem c_M_readText (l : Launch) (D : va_G) (ax : Nat → ClassId) (m0 m1 m2 m3 m4 m5 m6 m7 m8 m9 m10 m11 m12 m13 m14 m15 m16 m17 m18 m19 m20 m21 m22 m23 m24 m25 m26 m27 m28 m29 m30 m31 m32 m33 m34 m35 m36 m37 m38 m39 m40 m41 m42 : Nat) (s_thrown s_size s_outSize s_kind s_begin s_end s_failed s_isProgram s_half s_name s_shift s_statements s_ifs s_whiles s_variants s_open s_conditions s_kept s_tops s_used s_looked s_rows s_firstRow s_isBroken : Int32) (n v0 im q0 d0 t0 wh : Nat) (g st nw tz : Nat → Nat) (f tx : Nat → Int32) (sz : Nat) (hn : n ≤ 400) (hg : ∀ j, g j < 256) (hv0 : v0 < 20000) (hst0 : ∀ j, st j < 100) (hwh : wh ≤ 1) (hx0 : txo tx tz nw 0) (hx1 : txo tx tz nw 1) : Met l y_Model_readText (xws (.code y_Model_readText b_Model_readText 4 (some .int))) ({ frames := 90, cells := 0, slots := 0, locals := 3600 }) (va_Pc [.ref m0, .int (nI wh)] (xo D ax [(m0, .inr (11, [.int s_thrown, .int (nI n), .ref m1, .int s_size, .int s_outSize, .ref m2, .int s_kind, .int (nI v0), .int s_begin, .int s_end, .int s_failed, .ref m3, .ref m4, .ref m5, .int s_isProgram, .int s_half, .ref m6, .ref m7, .ref m8, .ref m9, .ref m10, .ref m11, .ref m12, .ref m13, .ref m14, .ref m15, .ref m16, .ref m17, .ref m18, .ref m19, .ref m20, .int (nI q0), .ref m21, .int (nI d0), .ref m22, .int s_name, .int s_shift, .int s_statements, .int s_ifs, .int s_whiles, .int s_variants, .int s_open, .ref m23, .int (nI im), .int s_conditions, .ref m24, .ref m25, .ref m26, .ref m27, .int s_kept, .ref m28, .int s_tops, .ref m29, .int s_used, .ref m30, .ref m31, .int s_looked, .int s_rows, .int s_firstRow, .ref m32, .ref m33, .ref m34, .ref m35, .ref m36, .ref m37, .ref m38, .ref m39, .ref m40, .int s_isBroken, .ref m41, .int (nI t0), .ref m42])), (m1, .inl (ax 0, 400, .inl (fun j => nI (g j)))), (m22, .inl (ax 0, 64, .inl (fun j => nI (st j)))), (m21, .inl (ax 0, 1200, .inl f)), (m5, .inl (ax 0, 2, .inl (fun j => nI (nw j)))), (m4, .inl (ax 0, 4, .inl (fun j => nI (tz j)))), (m3, .inl (ax 0, 3072, .inl tx))] sz)) ((va_Qi (fun (r : Int32) (u : Nat → Nat) => r = nI (u 9) ∧ (u 3 < 20000 ∧ u 8 ≤ im)) (fun (u : Nat → Nat) (t9 : State) => ∃ xst : Nat → Nat, ∃ xnw : Nat → Nat, ∃ xtz : Nat → Nat, ∃ xnm : Int32, ∃ xsh : Int32, ∃ xf : Nat → Int32, ∃ xtx : Nat → Int32, (∀ j, xst j < 100) ∧ (txo xtx xtz xnw 0) ∧ (txo xtx xtz xnw 1) ∧ (ansL g n (u 9) (tls xtx xtz xnw wh)) ∧ (tlk tx xtx tz nw xtz xnw wh (u 9)) ∧ (imz (u 9) (u 8)) ∧ va_P D classes [(m0, .inr (11, [.int s_thrown, .int 0, .ref m1, .int (nI n), .int s_outSize, .ref m2, .int (nI (u 2)), .int (nI (u 3)), .int (nI (u 0)), .int (nI (u 1)), .int (nI (u 4)), .ref m3, .ref m4, .ref m5, .int s_isProgram, .int s_half, .ref m6, .ref m7, .ref m8, .ref m9, .ref m10, .ref m11, .ref m12, .ref m13, .ref m14, .ref m15, .ref m16, .ref m17, .ref m18, .ref m19, .ref m20, .int (nI (u 5)), .ref m21, .int (nI (u 6)), .ref m22, .int xnm, .int xsh, .int s_statements, .int s_ifs, .int s_whiles, .int s_variants, .int s_open, .ref m23, .int (nI (u 8)), .int s_conditions, .ref m24, .ref m25, .ref m26, .ref m27, .int s_kept, .ref m28, .int s_tops, .ref m29, .int s_used, .ref m30, .ref m31, .int s_looked, .int s_rows, .int s_firstRow, .ref m32, .ref m33, .ref m34, .ref m35, .ref m36, .ref m37, .ref m38, .ref m39, .ref m40, .int s_isBroken, .ref m41, .int (nI (u 7)), .ref m42])), (m1, .inl (ax 0, 400, .inl (fun j => nI (g j)))), (m22, .inl (ax 0, 64, .inl (fun j => nI (xst j)))), (m21, .inl (ax 0, 1200, .inl xf)), (m5, .inl (ax 0, 2, .inl (fun j => nI (xnw j)))), (m4, .inl (ax 0, 4, .inl (fun j => nI (xtz j)))), (m3, .inl (ax 0, 3072, .inl xtx))] t9.heap ∧ va_D (va_A [(m0, .inr (11, [.int s_thrown, .int (nI n), .ref m1, .int s_size, .int s_outSize, .ref m2, .int s_kind, .int (nI v0), .int s_begin, .int s_end, .int s_failed, .ref m3, .ref m4, .ref m5, .int s_isProgram, .int s_half, .ref m6, .ref m7, .ref m8, .ref m9, .ref m10, .ref m11, .ref m12, .ref m13, .ref m14, .ref m15, .ref m16, .ref m17, .ref m18, .ref m19, .ref m20, .int (nI q0), .ref m21, .int (nI d0), .ref m22, .int s_name, .int s_shift, .int s_statements, .int s_ifs, .int s_whiles, .int s_variants, .int s_open, .ref m23, .int (nI im), .int s_conditions, .ref m24, .ref m25, .ref m26, .ref m27, .int s_kept, .ref m28, .int s_tops, .ref m29, .int s_used, .ref m30, .ref m31, .int s_looked, .int s_rows, .int s_firstRow, .ref m32, .ref m33, .ref m34, .ref m35, .ref m36, .ref m37, .ref m38, .ref m39, .ref m40, .int s_isBroken, .ref m41, .int (nI t0), .ref m42])), (m1, .inl (ax 0, 400, .inl (fun j => nI (g j)))), (m22, .inl (ax 0, 64, .inl (fun j => nI (st j)))), (m21, .inl (ax 0, 1200, .inl f)), (m5, .inl (ax 0, 2, .inl (fun j => nI (nw j)))), (m4, .inl (ax 0, 4, .inl (fun j => nI (tz j)))), (m3, .inl (ax 0, 3072, .inl tx))] sz) [(m0, .inr (11, [.int s_thrown, .int 0, .ref m1, .int (nI n), .int s_outSize, .ref m2, .int (nI (u 2)), .int (nI (u 3)), .int (nI (u 0)), .int (nI (u 1)), .int (nI (u 4)), .ref m3, .ref m4, .ref m5, .int s_isProgram, .int s_half, .ref m6, .ref m7, .ref m8, .ref m9, .ref m10, .ref m11, .ref m12, .ref m13, .ref m14, .ref m15, .ref m16, .ref m17, .ref m18, .ref m19, .ref m20, .int (nI (u 5)), .ref m21, .int (nI (u 6)), .ref m22, .int xnm, .int xsh, .int s_statements, .int s_ifs, .int s_whiles, .int s_variants, .int s_open, .ref m23, .int (nI (u 8)), .int s_conditions, .ref m24, .ref m25, .ref m26, .ref m27, .int s_kept, .ref m28, .int s_tops, .ref m29, .int s_used, .ref m30, .ref m31, .int s_looked, .int s_rows, .int s_firstRow, .ref m32, .ref m33, .ref m34, .ref m35, .ref m36, .ref m37, .ref m38, .ref m39, .ref m40, .int s_isBroken, .ref m41, .int (nI (u 7)), .ref m42])), (m1, .inl (ax 0, 400, .inl (fun j => nI (g j)))), (m22, .inl (ax 0, 64, .inl (fun j => nI (xst j)))), (m21, .inl (ax 0, 1200, .inl xf)), (m5, .inl (ax 0, 2, .inl (fun j => nI (xnw j)))), (m4, .inl (ax 0, 4, .inl (fun j => nI (xtz j)))), (m3, .inl (ax 0, 3072, .inl xtx))]) (va_A [(m0, .inr (11, [.int s_thrown, .int (nI n), .ref m1, .int s_size, .int s_outSize, .ref m2, .int s_kind, .int (nI v0), .int s_begin, .int s_end, .int s_failed, .ref m3, .ref m4, .ref m5, .int s_isProgram, .int s_half, .ref m6, .ref m7, .ref m8, .ref m9, .ref m10, .ref m11, .ref m12, .ref m13, .ref m14, .ref m15, .ref m16, .ref m17, .ref m18, .ref m19, .ref m20, .int (nI q0), .ref m21, .int (nI d0), .ref m22, .int s_name, .int s_shift, .int s_statements, .int s_ifs, .int s_whiles, .int s_variants, .int s_open, .ref m23, .int (nI im), .int s_conditions, .ref m24, .ref m25, .ref m26, .ref m27, .int s_kept, .ref m28, .int s_tops, .ref m29, .int s_used, .ref m30, .ref m31, .int s_looked, .int s_rows, .int s_firstRow, .ref m32, .ref m33, .ref m34, .ref m35, .ref m36, .ref m37, .ref m38, .ref m39, .ref m40, .int s_isBroken, .ref m41, .int (nI t0), .ref m42])), (m1, .inl (ax 0, 400, .inl (fun j => nI (g j)))), (m22, .inl (ax 0, 64, .inl (fun j => nI (st j)))), (m21, .inl (ax 0, 1200, .inl f)), (m5, .inl (ax 0, 2, .inl (fun j => nI (nw j)))), (m4, .inl (ax 0, 4, .inl (fun j => nI (tz j)))), (m3, .inl (ax 0, 3072, .inl tx))] sz))) 0 0 (va_A [(m0, .inr (11, [.int s_thrown, .int (nI n), .ref m1, .int s_size, .int s_outSize, .ref m2, .int s_kind, .int (nI v0), .int s_begin, .int s_end, .int s_failed, .ref m3, .ref m4, .ref m5, .int s_isProgram, .int s_half, .ref m6, .ref m7, .ref m8, .ref m9, .ref m10, .ref m11, .ref m12, .ref m13, .ref m14, .ref m15, .ref m16, .ref m17, .ref m18, .ref m19, .ref m20, .int (nI q0), .ref m21, .int (nI d0), .ref m22, .int s_name, .int s_shift, .int s_statements, .int s_ifs, .int s_whiles, .int s_variants, .int s_open, .ref m23, .int (nI im), .int s_conditions, .ref m24, .ref m25, .ref m26, .ref m27, .int s_kept, .ref m28, .int s_tops, .ref m29, .int s_used, .ref m30, .ref m31, .int s_looked, .int s_rows, .int s_firstRow, .ref m32, .ref m33, .ref m34, .ref m35, .ref m36, .ref m37, .ref m38, .ref m39, .ref m40, .int s_isBroken, .ref m41, .int (nI t0), .ref m42])), (m1, .inl (ax 0, 400, .inl (fun j => nI (g j)))), (m22, .inl (ax 0, 64, .inl (fun j => nI (st j)))), (m21, .inl (ax 0, 1200, .inl f)), (m5, .inl (ax 0, 2, .inl (fun j => nI (nw j)))), (m4, .inl (ax 0, 4, .inl (fun j => nI (tz j)))), (m3, .inl (ax 0, 3072, .inl tx))] sz) := by
  refine Met.ofW (cc := b_Model_readText) (maxL := 4) (ret := (some .int)) (by decide) rfl ?_
  intro p e s m args below meth c s₁ B hml hv
  obtain ⟨rfl, hsz, hP, hK, hD0⟩ := hv
  have hx := B.exec
  have hb := B.bytes
  have hr := B.returns
  have hts := xw_hts B.pre
  have hown : s.vm.findClass R_Model = some m.cls := findClass_of_methodNamed B.named
  have hlocks := B.notSynchronized
  subst hsz
  have hD := hD0.self (sz := s.heap.size)
  have hN := xz_entry hP
  generalize hAe : va_A [(m0, .inr (11, [.int s_thrown, .int (nI n), .ref m1, .int s_size, .int s_outSize, .ref m2, .int s_kind, .int (nI v0), .int s_begin, .int s_end, .int s_failed, .ref m3, .ref m4, .ref m5, .int s_isProgram, .int s_half, .ref m6, .ref m7, .ref m8, .ref m9, .ref m10, .ref m11, .ref m12, .ref m13, .ref m14, .ref m15, .ref m16, .ref m17, .ref m18, .ref m19, .ref m20, .int (nI q0), .ref m21, .int (nI d0), .ref m22, .int s_name, .int s_shift, .int s_statements, .int s_ifs, .int s_whiles, .int s_variants, .int s_open, .ref m23, .int (nI im), .int s_conditions, .ref m24, .ref m25, .ref m26, .ref m27, .int s_kept, .ref m28, .int s_tops, .ref m29, .int s_used, .ref m30, .ref m31, .int s_looked, .int s_rows, .int s_firstRow, .ref m32, .ref m33, .ref m34, .ref m35, .ref m36, .ref m37, .ref m38, .ref m39, .ref m40, .int s_isBroken, .ref m41, .int (nI t0), .ref m42])), (m1, .inl (ax 0, 400, .inl (fun j => nI (g j)))), (m22, .inl (ax 0, 64, .inl (fun j => nI (st j)))), (m21, .inl (ax 0, 1200, .inl f)), (m5, .inl (ax 0, 2, .inl (fun j => nI (nw j)))), (m4, .inl (ax 0, 4, .inl (fun j => nI (tz j)))), (m3, .inl (ax 0, 3072, .inl tx))] s.heap.size = A at hD hN ⊢
  have hA : ∀ q : Nat, s.heap.size ≤ q → A q := fun q h => by rw [← hAe]; exact Or.inr h
  have hS : va_S A s.heap s.heap [] := va_S.rf
  have hl0 := lv_entry ([.ref m0, .int (nI wh)]) (n := 4) (Nat.le_of_ble_eq_true rfl)
  rw [lg_entry_eq]
  generalize (lg_sl ([.ref m0, .int (nI wh)]) ++ List.replicate (4 - (lg_sl ([.ref m0, .int (nI wh)])).length) Slot.unset).toArray = ls at hl0 ⊢
  have hl1 : lv_has ls 4 [(0, .ref m0), (1, .int (nI wh))] := hl0
  refine xw_gen (fun Z9 hQe => ?_)
  refine lv_aload_n hx hb d_Model_readText_0 rfl (lv_at hl1 0 rfl) ?_
  obtain ⟨hPc, hDc, hFc, hCs⟩ := xw_sub3 (wc := [(m0, .inr (11, [.int s_thrown, .int (nI n), .ref m1, .int s_size, .int s_outSize, .ref m2, .int s_kind, .int (nI v0), .int s_begin, .int s_end, .int s_failed, .ref m3, .ref m4, .ref m5, .int s_isProgram, .int s_half, .ref m6, .ref m7, .ref m8, .ref m9, .ref m10, .ref m11, .ref m12, .ref m13, .ref m14, .ref m15, .ref m16, .ref m17, .ref m18, .ref m19, .ref m20, .int (nI q0), .ref m21, .int (nI d0), .ref m22, .int s_name, .int s_shift, .int s_statements, .int s_ifs, .int s_whiles, .int s_variants, .int s_open, .ref m23, .int (nI im), .int s_conditions, .ref m24, .ref m25, .ref m26, .ref m27, .int s_kept, .ref m28, .int s_tops, .ref m29, .int s_used, .ref m30, .ref m31, .int s_looked, .int s_rows, .int s_firstRow, .ref m32, .ref m33, .ref m34, .ref m35, .ref m36, .ref m37, .ref m38, .ref m39, .ref m40, .int s_isBroken, .ref m41, .int (nI t0), .ref m42])), (m1, .inl (ax 0, 400, .inl (fun j => nI (g j))))]) hP hD hS hA [0, 1] (by decide) rfl
  have hz := xz_of hN hS
  refine va_callv (va_runV (As := []) (rest := []) ⟨hx, hb, hml, hown, hts⟩ (c_M_startReading l D ax m0 m1 m2 m3 m4 m5 m6 m7 m8 m9 m10 m11 m12 m13 m14 m15 m16 m17 m18 m19 m20 m21 m22 m23 m24 m25 m26 m27 m28 m29 m30 m31 m32 m33 m34 m35 m36 m37 m38 m39 m40 m41 m42 s_thrown s_size s_outSize s_kind s_begin s_end s_failed s_isProgram s_half (nI q0) (nI d0) s_name s_shift s_statements s_ifs s_whiles s_variants s_open (nI im) s_conditions s_kept s_tops s_used s_looked s_rows s_firstRow s_isBroken (nI t0) n v0 g s.heap.size hn hg hv0) (xcV (n := 0) hts wd_1274 wd_15 wd_1271 wd_1273 ps_50 rfl rfl (by decide +kernel) ⟨Nat.le_of_ble_eq_true rfl, Nat.le_of_ble_eq_true rfl⟩) (xpV (ci := 11) (q0 := 0) (As := []) hPc hK hz hDc rfl rfl) rfl rfl hl1.1 rfl (lv_room (Nat.le_of_ble_eq_true rfl)) d_Model_readText_1 ⟨Nat.le_of_ble_eq_true rfl, Nat.le_of_ble_eq_true rfl⟩) hS (fun q _ h => hFc q h) hFc (fun u_1 t H_2 locs ht hvm hw hB hz1 hk1 hS1 => ?_)
  try dsimp only at hw
  obtain ⟨-, -, -, hs_7, hs_8, hs_9, hs_10, hs_11, hs_12, hs_13, hs_14⟩ := hw
  obtain ⟨hP1, hD1⟩ := hB
  rw [ht] at hP1
  have hjn := xw_join3 (wl := [(m22, .inl (ax 0, 64, .inl (fun j => nI (st j)))), (m21, .inl (ax 0, 1200, .inl f)), (m5, .inl (ax 0, 2, .inl (fun j => nI (nw j)))), (m4, .inl (ax 0, 4, .inl (fun j => nI (tz j)))), (m3, .inl (ax 0, 3072, .inl tx)), (m0, .inr (11, [.int s_thrown, .int 0, .ref m1, .int (nI n), .int s_outSize, .ref m2, .int (nI (u_1 2)), .int (nI (u_1 3)), .int (nI (u_1 0)), .int (nI (u_1 1)), .int 0, .ref m3, .ref m4, .ref m5, .int s_isProgram, .int s_half, .ref m6, .ref m7, .ref m8, .ref m9, .ref m10, .ref m11, .ref m12, .ref m13, .ref m14, .ref m15, .ref m16, .ref m17, .ref m18, .ref m19, .ref m20, .int (nI q0), .ref m21, .int (nI d0), .ref m22, .int s_name, .int s_shift, .int s_statements, .int s_ifs, .int s_whiles, .int s_variants, .int s_open, .ref m23, .int (nI im), .int s_conditions, .ref m24, .ref m25, .ref m26, .ref m27, .int s_kept, .ref m28, .int s_tops, .ref m29, .int s_used, .ref m30, .ref m31, .int s_looked, .int s_rows, .int s_firstRow, .ref m32, .ref m33, .ref m34, .ref m35, .ref m36, .ref m37, .ref m38, .ref m39, .ref m40, .int s_isBroken, .ref m41, .int (nI t0), .ref m42])), (m1, .inl (ax 0, 400, .inl (fun j => nI (g j))))]) hP hD [0, 1] [2, 3, 4, 5, 6] hCs (by decide) (by decide) hk1 hFc hP1 hD1 rfl
  clear hP1 hD1
  clear hPc hDc hFc hCs hz hz1 hk1 ht hvm
  clear hP hD hS
  have hS := hS1
  obtain ⟨hP, hD⟩ := hjn
  clear hS1
  refine lv_aload_n hx hb d_Model_readText_4 rfl (lv_at hl1 0 rfl) ?_
  refine lv_iconst (v := 0) hx hb d_Model_readText_5 (by decide) ?_
  obtain ⟨hPc, hDc, hFc, hCs⟩ := xw_sub3 (wc := [(m0, .inr (11, [.int s_thrown, .int 0, .ref m1, .int (nI n), .int s_outSize, .ref m2, .int (nI (u_1 2)), .int (nI (u_1 3)), .int (nI (u_1 0)), .int (nI (u_1 1)), .int 0, .ref m3, .ref m4, .ref m5, .int s_isProgram, .int s_half, .ref m6, .ref m7, .ref m8, .ref m9, .ref m10, .ref m11, .ref m12, .ref m13, .ref m14, .ref m15, .ref m16, .ref m17, .ref m18, .ref m19, .ref m20, .int (nI q0), .ref m21, .int (nI d0), .ref m22, .int s_name, .int s_shift, .int s_statements, .int s_ifs, .int s_whiles, .int s_variants, .int s_open, .ref m23, .int (nI im), .int s_conditions, .ref m24, .ref m25, .ref m26, .ref m27, .int s_kept, .ref m28, .int s_tops, .ref m29, .int s_used, .ref m30, .ref m31, .int s_looked, .int s_rows, .int s_firstRow, .ref m32, .ref m33, .ref m34, .ref m35, .ref m36, .ref m37, .ref m38, .ref m39, .ref m40, .int s_isBroken, .ref m41, .int (nI t0), .ref m42])), (m1, .inl (ax 0, 400, .inl (fun j => nI (g j)))), (m22, .inl (ax 0, 64, .inl (fun j => nI (st j)))), (m21, .inl (ax 0, 1200, .inl f))]) hP hD hS hA [5, 6, 0, 1] (by decide) rfl
  have hz := xz_of hN hS
  refine va_callv (va_runV (As := [.int 0]) (rest := []) ⟨hx, hb, hml, hown, hts⟩ (c_M_condition l D ax m0 m1 m2 m3 m4 m5 m6 m7 m8 m9 m10 m11 m12 m13 m14 m15 m16 m17 m18 m19 m20 m21 m22 m23 m24 m25 m26 m27 m28 m29 m30 m31 m32 m33 m34 m35 m36 m37 m38 m39 m40 m41 m42 s_thrown 0 s_outSize s_isProgram s_half (nI q0) (nI d0) s_name s_shift s_statements s_ifs s_whiles s_variants s_open (nI im) s_conditions s_kept s_tops s_used s_looked s_rows s_firstRow s_isBroken (nI t0) n (u_1 0) (u_1 1) (u_1 2) (u_1 3) g 0 st f H_2.size hn hg (by first | assumption | omega) (by first | assumption | omega) (by assumption) (by first | assumption | omega) (by first | assumption | omega) (by assumption) (by first | assumption | omega) (by assumption)) (xcV (n := 1) hts wd_1311 wd_15 wd_1308 wd_1310 ps_55 rfl rfl (by decide +kernel) ⟨Nat.le_of_ble_eq_true rfl, Nat.le_of_ble_eq_true rfl⟩) (xpV (ci := 11) (q0 := 0) (As := [.int 0]) hPc hK hz hDc rfl rfl) rfl rfl hl1.1 rfl (lv_room (Nat.le_of_ble_eq_true rfl)) d_Model_readText_6 ⟨Nat.le_of_ble_eq_true rfl, Nat.le_of_ble_eq_true rfl⟩) hS (fun q _ h => hFc q h) hFc (fun u_15 t H_16 locs ht hvm hw hB hz1 hk1 hS1 => ?_)
  try dsimp only at hw
  obtain ⟨hs_18, hs_19, hs_20, hs_21, hs_22, hs_23, hs_24, hs_25, hs_26, hs_27, hs_28⟩ := hw
  obtain ⟨x_29, x_30, x_31, x_32, hx_33, hx_34, hx_35, hP1, hD1⟩ := hB
  rw [ht] at hP1
  have hjn := xw_join3 (wl := [(m5, .inl (ax 0, 2, .inl (fun j => nI (nw j)))), (m4, .inl (ax 0, 4, .inl (fun j => nI (tz j)))), (m3, .inl (ax 0, 3072, .inl tx)), (m0, .inr (11, [.int s_thrown, .int 0, .ref m1, .int (nI n), .int s_outSize, .ref m2, .int (nI (u_15 2)), .int (nI (u_15 3)), .int (nI (u_15 0)), .int (nI (u_15 1)), .int (nI (u_15 4)), .ref m3, .ref m4, .ref m5, .int s_isProgram, .int s_half, .ref m6, .ref m7, .ref m8, .ref m9, .ref m10, .ref m11, .ref m12, .ref m13, .ref m14, .ref m15, .ref m16, .ref m17, .ref m18, .ref m19, .ref m20, .int (nI (u_15 5)), .ref m21, .int (nI (u_15 6)), .ref m22, .int x_30, .int x_31, .int s_statements, .int s_ifs, .int s_whiles, .int s_variants, .int s_open, .ref m23, .int (nI im), .int s_conditions, .ref m24, .ref m25, .ref m26, .ref m27, .int s_kept, .ref m28, .int s_tops, .ref m29, .int s_used, .ref m30, .ref m31, .int s_looked, .int s_rows, .int s_firstRow, .ref m32, .ref m33, .ref m34, .ref m35, .ref m36, .ref m37, .ref m38, .ref m39, .ref m40, .int s_isBroken, .ref m41, .int (nI (u_15 7)), .ref m42])), (m1, .inl (ax 0, 400, .inl (fun j => nI (g j)))), (m22, .inl (ax 0, 64, .inl (fun j => nI (x_29 j)))), (m21, .inl (ax 0, 1200, .inl x_32))]) hP hD [5, 6, 0, 1] [2, 3, 4] hCs (by decide) (by decide) hk1 hFc hP1 hD1 rfl
  clear hP1 hD1
  clear hPc hDc hFc hCs hz hz1 hk1 ht hvm
  clear hP hD hS
  have hS := hS1
  obtain ⟨hP, hD⟩ := hjn
  clear hS1
  by_cases hf_36 : u_15 4 = 1
  · clear hs_26 hs_27 hs_28 hx_34
    rw [show u_15 4 = 1 by omega] at hP hD
    have hP7 := hP; have hD7 := hD; clear hP hD
    have hW7 : (fun w9 : va_W => va_P D classes w9 H_16 ∧ va_D A w9) [(m5, .inl (ax 0, 2, .inl (fun j => nI (nw j)))), (m4, .inl (ax 0, 4, .inl (fun j => nI (tz j)))), (m3, .inl (ax 0, 3072, .inl tx)), (m0, .inr (11, [.int s_thrown, .int 0, .ref m1, .int (nI n), .int s_outSize, .ref m2, .int (nI (u_15 2)), .int (nI (u_15 3)), .int (nI (u_15 0)), .int (nI (u_15 1)), .int 1, .ref m3, .ref m4, .ref m5, .int s_isProgram, .int s_half, .ref m6, .ref m7, .ref m8, .ref m9, .ref m10, .ref m11, .ref m12, .ref m13, .ref m14, .ref m15, .ref m16, .ref m17, .ref m18, .ref m19, .ref m20, .int (nI (u_15 5)), .ref m21, .int (nI (u_15 6)), .ref m22, .int x_30, .int x_31, .int s_statements, .int s_ifs, .int s_whiles, .int s_variants, .int s_open, .ref m23, .int (nI im), .int s_conditions, .ref m24, .ref m25, .ref m26, .ref m27, .int s_kept, .ref m28, .int s_tops, .ref m29, .int s_used, .ref m30, .ref m31, .int s_looked, .int s_rows, .int s_firstRow, .ref m32, .ref m33, .ref m34, .ref m35, .ref m36, .ref m37, .ref m38, .ref m39, .ref m40, .int s_isBroken, .ref m41, .int (nI (u_15 7)), .ref m42])), (m1, .inl (ax 0, 400, .inl (fun j => nI (g j)))), (m22, .inl (ax 0, 64, .inl (fun j => nI (x_29 j)))), (m21, .inl (ax 0, 1200, .inl x_32))] := ⟨hP7, hD7⟩
    obtain ⟨hP, hD⟩ := hW7
    clear hP7 hD7
    refine lv_aload_n hx hb d_Model_readText_9 rfl (lv_at hl1 0 rfl) ?_
    refine lv_aload_n hx hb d_Model_readText_10 rfl (lv_at hl1 0 rfl) ?_
    refine va_get (D := D) (ci := 11) (v := .int 1) (C := R_Model) (T := F_Model) (N := 72) hx hb hts i_Model hown hK.1 hP 3 rfl rfl 10 (by decide) (hts _ wd_1046) (fun _ h9 => h9) rfl d_Model_readText_11 ?_
    refine lv_if_ne (tgt := 24) hx hb d_Model_readText_14 (by decide) (fun c_37 => ?_) (fun c_37 => ?_)
    rotate_left
    · first | exact absurd c_37 (by decide) | exact absurd (by decide) c_37
    refine lv_iconst (v := 1) hx hb d_Model_readText_24 (by decide) ?_
    refine lv_goto (tgt := 29) hx hb d_Model_readText_25 (by decide) ?_
    refine va_put (D := D) (ci := 11) (v := .int 1) (ty := .boolean) (C := R_Model) (T := F_Model) (N := 72) hx hb hts i_Model t_Model t_Model_ok n_Model hown hK.1 hP hD hS 3 rfl rfl 10 (by decide) (hts _ wd_1046) (fun _ h9 => h9) rfl (by decide +kernel) rfl rfl (Nat.le_of_ble_eq_true rfl) d_Model_readText_29 (fun H_38 locs hP1 hD1 hS1 => ?_)
    clear hP hD hS
    have hS := hS1
    have hW7 : (fun w9 : va_W => va_P D classes w9 H_38 ∧ va_D A w9) [(m5, .inl (ax 0, 2, .inl (fun j => nI (nw j)))), (m4, .inl (ax 0, 4, .inl (fun j => nI (tz j)))), (m3, .inl (ax 0, 3072, .inl tx)), (m0, .inr (11, [.int s_thrown, .int 0, .ref m1, .int (nI n), .int s_outSize, .ref m2, .int (nI (u_15 2)), .int (nI (u_15 3)), .int (nI (u_15 0)), .int (nI (u_15 1)), .int 1, .ref m3, .ref m4, .ref m5, .int s_isProgram, .int s_half, .ref m6, .ref m7, .ref m8, .ref m9, .ref m10, .ref m11, .ref m12, .ref m13, .ref m14, .ref m15, .ref m16, .ref m17, .ref m18, .ref m19, .ref m20, .int (nI (u_15 5)), .ref m21, .int (nI (u_15 6)), .ref m22, .int x_30, .int x_31, .int s_statements, .int s_ifs, .int s_whiles, .int s_variants, .int s_open, .ref m23, .int (nI im), .int s_conditions, .ref m24, .ref m25, .ref m26, .ref m27, .int s_kept, .ref m28, .int s_tops, .ref m29, .int s_used, .ref m30, .ref m31, .int s_looked, .int s_rows, .int s_firstRow, .ref m32, .ref m33, .ref m34, .ref m35, .ref m36, .ref m37, .ref m38, .ref m39, .ref m40, .int s_isBroken, .ref m41, .int (nI (u_15 7)), .ref m42])), (m1, .inl (ax 0, 400, .inl (fun j => nI (g j)))), (m22, .inl (ax 0, 64, .inl (fun j => nI (x_29 j)))), (m21, .inl (ax 0, 1200, .inl x_32))] := ⟨hP1, hD1⟩
    obtain ⟨hP, hD⟩ := hW7
    clear hP1 hD1 hS1
    refine lv_aload_n hx hb d_Model_readText_32 rfl (lv_at hl1 0 rfl) ?_
    refine va_get (D := D) (ci := 11) (v := .int 1) (C := R_Model) (T := F_Model) (N := 72) hx hb hts i_Model hown hK.1 hP 3 rfl rfl 10 (by decide) (hts _ wd_1046) (fun _ h9 => h9) rfl d_Model_readText_33 ?_
    refine lv_if_ne (tgt := 129) hx hb d_Model_readText_36 (by decide) (fun c_39 => ?_) (fun c_39 => ?_)
    rotate_left
    · first | exact absurd c_39 (by decide) | exact absurd (by decide) c_39
    refine lv_aload_n hx hb d_Model_readText_129 rfl (lv_at hl1 0 rfl) ?_
    obtain ⟨hPc, hDc, hFc, hCs⟩ := xw_sub3 (wc := [(m0, .inr (11, [.int s_thrown, .int 0, .ref m1, .int (nI n), .int s_outSize, .ref m2, .int (nI (u_15 2)), .int (nI (u_15 3)), .int (nI (u_15 0)), .int (nI (u_15 1)), .int 1, .ref m3, .ref m4, .ref m5, .int s_isProgram, .int s_half, .ref m6, .ref m7, .ref m8, .ref m9, .ref m10, .ref m11, .ref m12, .ref m13, .ref m14, .ref m15, .ref m16, .ref m17, .ref m18, .ref m19, .ref m20, .int (nI (u_15 5)), .ref m21, .int (nI (u_15 6)), .ref m22, .int x_30, .int x_31, .int s_statements, .int s_ifs, .int s_whiles, .int s_variants, .int s_open, .ref m23, .int (nI im), .int s_conditions, .ref m24, .ref m25, .ref m26, .ref m27, .int s_kept, .ref m28, .int s_tops, .ref m29, .int s_used, .ref m30, .ref m31, .int s_looked, .int s_rows, .int s_firstRow, .ref m32, .ref m33, .ref m34, .ref m35, .ref m36, .ref m37, .ref m38, .ref m39, .ref m40, .int s_isBroken, .ref m41, .int (nI (u_15 7)), .ref m42]))]) hP hD hS hA [3] (by decide) rfl
    have hz := xz_of hN hS
    refine va_calli (va_runV (As := []) (rest := []) ⟨hx, hb, hml, hown, hts⟩ (c_M_fault_1 l D ax m0 m1 m2 m3 m4 m5 m6 m7 m8 m9 m10 m11 m12 m13 m14 m15 m16 m17 m18 m19 m20 m21 m22 m23 m24 m25 m26 m27 m28 m29 m30 m31 m32 m33 m34 m35 m36 m37 m38 m39 m40 m41 m42 s_thrown 0 (nI n) s_outSize (nI (u_15 2)) (nI (u_15 3)) (nI (u_15 1)) s_isProgram s_half (nI (u_15 5)) (nI (u_15 6)) x_30 x_31 s_statements s_ifs s_whiles s_variants s_open (nI im) s_conditions s_kept s_tops s_used s_looked s_rows s_firstRow s_isBroken (nI (u_15 7)) (u_15 0) H_38.size ) (xcV (n := 0) hts wd_1359 wd_15 wd_1356 wd_1358 ps_67 rfl rfl (by decide +kernel) ⟨Nat.le_of_ble_eq_true rfl, Nat.le_of_ble_eq_true rfl⟩) (xpV (ci := 11) (q0 := 0) (As := []) hPc hK hz hDc rfl rfl) rfl rfl hl1.1 rfl (lv_room (Nat.le_of_ble_eq_true rfl)) d_Model_readText_130 ⟨Nat.le_of_ble_eq_true rfl, Nat.le_of_ble_eq_true rfl⟩) hS (fun q _ h => hFc q h) hFc (fun r_42 u_40 t H_41 locs ht hvm hw hB hz1 hk1 hS1 => ?_)
    try dsimp only at hw
    subst hw
    obtain ⟨hP1, hD1⟩ := hB
    rw [ht] at hP1
    have hjn := xw_join3 (wl := [(m5, .inl (ax 0, 2, .inl (fun j => nI (nw j)))), (m4, .inl (ax 0, 4, .inl (fun j => nI (tz j)))), (m3, .inl (ax 0, 3072, .inl tx)), (m1, .inl (ax 0, 400, .inl (fun j => nI (g j)))), (m22, .inl (ax 0, 64, .inl (fun j => nI (x_29 j)))), (m21, .inl (ax 0, 1200, .inl x_32)), (m0, .inr (11, [.int s_thrown, .int 0, .ref m1, .int (nI n), .int s_outSize, .ref m2, .int (nI (u_15 2)), .int (nI (u_15 3)), .int (nI (u_15 0)), .int (nI (u_15 1)), .int 1, .ref m3, .ref m4, .ref m5, .int s_isProgram, .int s_half, .ref m6, .ref m7, .ref m8, .ref m9, .ref m10, .ref m11, .ref m12, .ref m13, .ref m14, .ref m15, .ref m16, .ref m17, .ref m18, .ref m19, .ref m20, .int (nI (u_15 5)), .ref m21, .int (nI (u_15 6)), .ref m22, .int x_30, .int x_31, .int s_statements, .int s_ifs, .int s_whiles, .int s_variants, .int s_open, .ref m23, .int (nI im), .int s_conditions, .ref m24, .ref m25, .ref m26, .ref m27, .int s_kept, .ref m28, .int s_tops, .ref m29, .int s_used, .ref m30, .ref m31, .int s_looked, .int s_rows, .int s_firstRow, .ref m32, .ref m33, .ref m34, .ref m35, .ref m36, .ref m37, .ref m38, .ref m39, .ref m40, .int s_isBroken, .ref m41, .int (nI (u_15 7)), .ref m42]))]) hP hD [3] [0, 1, 2, 4, 5, 6] hCs (by decide) (by decide) hk1 hFc hP1 hD1 rfl
    clear hP1 hD1
    clear hPc hDc hFc hCs hz hz1 hk1 ht hvm
    clear hP hD hS
    have hS := hS1
    obtain ⟨hP, hD⟩ := hjn
    clear hS1
    rw [← hQe]
    obtain ⟨hP9, hD9⟩ := xw_sub2 (wc := (fun (u : Nat → Nat) (xst : Nat → Nat) (xnw : Nat → Nat) (xtz : Nat → Nat) (xnm : Int32) (xsh : Int32) (xf : Nat → Int32) (xtx : Nat → Int32) => [(m0, .inr (11, [.int s_thrown, .int 0, .ref m1, .int (nI n), .int s_outSize, .ref m2, .int (nI (u 2)), .int (nI (u 3)), .int (nI (u 0)), .int (nI (u 1)), .int (nI (u 4)), .ref m3, .ref m4, .ref m5, .int s_isProgram, .int s_half, .ref m6, .ref m7, .ref m8, .ref m9, .ref m10, .ref m11, .ref m12, .ref m13, .ref m14, .ref m15, .ref m16, .ref m17, .ref m18, .ref m19, .ref m20, .int (nI (u 5)), .ref m21, .int (nI (u 6)), .ref m22, .int xnm, .int xsh, .int s_statements, .int s_ifs, .int s_whiles, .int s_variants, .int s_open, .ref m23, .int (nI (u 8)), .int s_conditions, .ref m24, .ref m25, .ref m26, .ref m27, .int s_kept, .ref m28, .int s_tops, .ref m29, .int s_used, .ref m30, .ref m31, .int s_looked, .int s_rows, .int s_firstRow, .ref m32, .ref m33, .ref m34, .ref m35, .ref m36, .ref m37, .ref m38, .ref m39, .ref m40, .int s_isBroken, .ref m41, .int (nI (u 7)), .ref m42])), (m1, .inl (ax 0, 400, .inl (fun j => nI (g j)))), (m22, .inl (ax 0, 64, .inl (fun j => nI (xst j)))), (m21, .inl (ax 0, 1200, .inl xf)), (m5, .inl (ax 0, 2, .inl (fun j => nI (xnw j)))), (m4, .inl (ax 0, 4, .inl (fun j => nI (xtz j)))), (m3, .inl (ax 0, 3072, .inl xtx))]) (ixn [(u_15 0), (u_15 1), (u_15 2), (u_15 3), 1, (u_15 5), (u_15 6), (u_15 7), im, ((u_15 0) + 1)]) x_29 nw tz x_30 x_31 x_32 tx) hP hD [6, 3, 4, 5, 0, 1, 2] (by decide) rfl
    have hex0 : ∀ j, x_29 j < 100 := (by assumption)
    have hex1 : txo tx tz nw 0 := (by assumption)
    have hex2 : txo tx tz nw 1 := (by assumption)
    have hex3 : ansL g n (((u_15 0) + 1)) (tls tx tz nw wh) := (by first | exact anl_x hs_7 hx_35 (by first | assumption | omega) | exact anl_e hs_7 hx_35 (by first | assumption | omega) hs_24 (by first | assumption | omega))
    have hex4 : tlk tx tx tz nw tz nw wh (((u_15 0) + 1)) := tlk.rf
    have hex5 : imz (((u_15 0) + 1)) (im) := (fun q => by first | rfl | omega)
    have hsp0 : (u_15 3) < 20000 := (by first | assumption | omega)
    have hsp1 : im ≤ im := (by first | assumption | omega)
    exact W.iret (v := nI ((u_15 0) + 1)) hx hb hr (fun t ht hW => ⟨⟨nI ((u_15 0) + 1), ixn [(u_15 0), (u_15 1), (u_15 2), (u_15 3), 1, (u_15 5), (u_15 6), (u_15 7), im, ((u_15 0) + 1)], rfl, ⟨rfl, ⟨hsp0, hsp1⟩⟩, ⟨x_29, nw, tz, x_30, x_31, x_32, tx, hex0, hex1, hex2, hex3, hex4, hex5, by rw [ht]; exact hP9, hD9⟩⟩, hS.F ht⟩) hS.2.2 d_Model_readText_133
  · replace hs_26 := imp0.go hs_26 hf_36
    replace hs_27 := imp0.go hs_27 hf_36
    replace hs_28 := imp0.go hs_28 hf_36
    replace hx_34 := imp0.go hx_34 hf_36
    rw [show u_15 4 = 0 by omega] at hP hD
    have hP7 := hP; have hD7 := hD; clear hP hD
    have hW7 : (fun w9 : va_W => va_P D classes w9 H_16 ∧ va_D A w9) [(m5, .inl (ax 0, 2, .inl (fun j => nI (nw j)))), (m4, .inl (ax 0, 4, .inl (fun j => nI (tz j)))), (m3, .inl (ax 0, 3072, .inl tx)), (m0, .inr (11, [.int s_thrown, .int 0, .ref m1, .int (nI n), .int s_outSize, .ref m2, .int (nI (u_15 2)), .int (nI (u_15 3)), .int (nI (u_15 0)), .int (nI (u_15 1)), .int 0, .ref m3, .ref m4, .ref m5, .int s_isProgram, .int s_half, .ref m6, .ref m7, .ref m8, .ref m9, .ref m10, .ref m11, .ref m12, .ref m13, .ref m14, .ref m15, .ref m16, .ref m17, .ref m18, .ref m19, .ref m20, .int (nI (u_15 5)), .ref m21, .int (nI (u_15 6)), .ref m22, .int x_30, .int x_31, .int s_statements, .int s_ifs, .int s_whiles, .int s_variants, .int s_open, .ref m23, .int (nI im), .int s_conditions, .ref m24, .ref m25, .ref m26, .ref m27, .int s_kept, .ref m28, .int s_tops, .ref m29, .int s_used, .ref m30, .ref m31, .int s_looked, .int s_rows, .int s_firstRow, .ref m32, .ref m33, .ref m34, .ref m35, .ref m36, .ref m37, .ref m38, .ref m39, .ref m40, .int s_isBroken, .ref m41, .int (nI (u_15 7)), .ref m42])), (m1, .inl (ax 0, 400, .inl (fun j => nI (g j)))), (m22, .inl (ax 0, 64, .inl (fun j => nI (x_29 j)))), (m21, .inl (ax 0, 1200, .inl x_32))] := ⟨hP7, hD7⟩
    obtain ⟨hP, hD⟩ := hW7
    clear hP7 hD7
    refine lv_aload_n hx hb d_Model_readText_9 rfl (lv_at hl1 0 rfl) ?_
    refine lv_aload_n hx hb d_Model_readText_10 rfl (lv_at hl1 0 rfl) ?_
    refine va_get (D := D) (ci := 11) (v := .int 0) (C := R_Model) (T := F_Model) (N := 72) hx hb hts i_Model hown hK.1 hP 3 rfl rfl 10 (by decide) (hts _ wd_1046) (fun _ h9 => h9) rfl d_Model_readText_11 ?_
    refine lv_if_ne (tgt := 24) hx hb d_Model_readText_14 (by decide) (fun c_43 => ?_) (fun c_43 => ?_)
    · first | exact absurd c_43 (by decide) | exact absurd (by decide) c_43
    refine lv_aload_n hx hb d_Model_readText_17 rfl (lv_at hl1 0 rfl) ?_
    refine va_get (D := D) (ci := 11) (v := .int (nI (u_15 2))) (C := R_Model) (T := F_Model) (N := 72) hx hb hts i_Model hown hK.1 hP 3 rfl rfl 6 (by decide) (hts _ wd_1042) (fun _ h9 => h9) rfl d_Model_readText_18 ?_
    refine lv_if_eq (tgt := 28) hx hb d_Model_readText_21 (by decide) (fun c_44 => ?_) (fun c_44 => ?_)
    · replace c_44 : u_15 2 = 0 := (nI_eq (a := u_15 2) (b := 0) (by first | exact Nat.lt_of_lt_of_le (by assumption) (by decide) | exact Nat.lt_of_le_of_lt (by assumption) (by decide) | omega) (by decide)).mp c_44
      refine lv_iconst (v := 0) hx hb d_Model_readText_28 (by decide) ?_
      refine va_put (D := D) (ci := 11) (v := .int 0) (ty := .boolean) (C := R_Model) (T := F_Model) (N := 72) hx hb hts i_Model t_Model t_Model_ok n_Model hown hK.1 hP hD hS 3 rfl rfl 10 (by decide) (hts _ wd_1046) (fun _ h9 => h9) rfl (by decide +kernel) rfl rfl (Nat.le_of_ble_eq_true rfl) d_Model_readText_29 (fun H_45 locs hP1 hD1 hS1 => ?_)
      clear hP hD hS
      have hS := hS1
      have hW7 : (fun w9 : va_W => va_P D classes w9 H_45 ∧ va_D A w9) [(m5, .inl (ax 0, 2, .inl (fun j => nI (nw j)))), (m4, .inl (ax 0, 4, .inl (fun j => nI (tz j)))), (m3, .inl (ax 0, 3072, .inl tx)), (m0, .inr (11, [.int s_thrown, .int 0, .ref m1, .int (nI n), .int s_outSize, .ref m2, .int (nI (u_15 2)), .int (nI (u_15 3)), .int (nI (u_15 0)), .int (nI (u_15 1)), .int 0, .ref m3, .ref m4, .ref m5, .int s_isProgram, .int s_half, .ref m6, .ref m7, .ref m8, .ref m9, .ref m10, .ref m11, .ref m12, .ref m13, .ref m14, .ref m15, .ref m16, .ref m17, .ref m18, .ref m19, .ref m20, .int (nI (u_15 5)), .ref m21, .int (nI (u_15 6)), .ref m22, .int x_30, .int x_31, .int s_statements, .int s_ifs, .int s_whiles, .int s_variants, .int s_open, .ref m23, .int (nI im), .int s_conditions, .ref m24, .ref m25, .ref m26, .ref m27, .int s_kept, .ref m28, .int s_tops, .ref m29, .int s_used, .ref m30, .ref m31, .int s_looked, .int s_rows, .int s_firstRow, .ref m32, .ref m33, .ref m34, .ref m35, .ref m36, .ref m37, .ref m38, .ref m39, .ref m40, .int s_isBroken, .ref m41, .int (nI (u_15 7)), .ref m42])), (m1, .inl (ax 0, 400, .inl (fun j => nI (g j)))), (m22, .inl (ax 0, 64, .inl (fun j => nI (x_29 j)))), (m21, .inl (ax 0, 1200, .inl x_32))] := ⟨hP1, hD1⟩
      obtain ⟨hP, hD⟩ := hW7
      clear hP1 hD1 hS1
      refine lv_aload_n hx hb d_Model_readText_32 rfl (lv_at hl1 0 rfl) ?_
      refine va_get (D := D) (ci := 11) (v := .int 0) (C := R_Model) (T := F_Model) (N := 72) hx hb hts i_Model hown hK.1 hP 3 rfl rfl 10 (by decide) (hts _ wd_1046) (fun _ h9 => h9) rfl d_Model_readText_33 ?_
      refine lv_if_ne (tgt := 129) hx hb d_Model_readText_36 (by decide) (fun c_46 => ?_) (fun c_46 => ?_)
      · first | exact absurd c_46 (by decide) | exact absurd (by decide) c_46
      have hnw : 2 * wh ≤ nw wh ∧ nw wh ≤ 2 * wh + 1 := by rcases Nat.eq_or_lt_of_le hwh with e | e; (first | (subst e; exact ⟨hx1.1, hx1.2.1⟩) | skip); (have e2 : wh = 0 := by omega); subst e2; exact ⟨hx0.1, hx0.2.1⟩
      refine lv_aload_n hx hb d_Model_readText_39 rfl (lv_at hl1 0 rfl) ?_
      refine va_get (D := D) (ci := 11) (v := .ref m5) (C := R_Model) (T := F_Model) (N := 72) hx hb hts i_Model hown hK.1 hP 3 rfl rfl 13 (by decide) (hts _ wd_1049) (fun _ h9 => h9) rfl d_Model_readText_40 ?_
      refine lv_iload_n hx hb d_Model_readText_43 rfl (lv_at hl1 1 rfl) ?_
      refine va_iald hx hb hK.1 hP 0 0 rfl rfl (vp_in_nI (by first | assumption | omega) (by decide)) d_Model_readText_44 ?_
      refine W.eq (g2 := F0 m 45 ls [.int (nI (nw wh))]) (by rw [nI_clamp (by first | exact Nat.lt_of_lt_of_le (by assumption) (by decide) | exact Nat.lt_of_le_of_lt (by assumption) (by decide) | omega)]) ?_
      refine lv_iconst (v := 2) hx hb d_Model_readText_45 (by decide) ?_
      refine lv_irem hx hb d_Model_readText_46 (by decide) ?_
      refine lv_topi (fun z_47 ez_47 => ?_)
      have ez_47 : z_47 = nI ((nw wh) % 2) := ez_47.trans (pk_rem (a := nw wh) (d := 2) (by first | assumption | omega) (by first | assumption | omega) (by first | assumption | omega))
      subst ez_47
      refine lv_if_ne (tgt := 61) hx hb d_Model_readText_47 (by decide) (fun c_48 => ?_) (fun c_48 => ?_)
      · replace c_48 : ¬ (nw wh) % 2 = 0 := fun hq9 => c_48 ((nI_eq (a := (nw wh) % 2) (b := 0) (by first | exact Nat.lt_of_lt_of_le (by assumption) (by decide) | exact Nat.lt_of_le_of_lt (by assumption) (by decide) | omega) (by decide)).mpr hq9)
        refine lv_aload_n hx hb d_Model_readText_61 rfl (lv_at hl1 0 rfl) ?_
        refine va_get (D := D) (ci := 11) (v := .ref m5) (C := R_Model) (T := F_Model) (N := 72) hx hb hts i_Model hown hK.1 hP 3 rfl rfl 13 (by decide) (hts _ wd_1049) (fun _ h9 => h9) rfl d_Model_readText_62 ?_
        refine lv_iload_n hx hb d_Model_readText_65 rfl (lv_at hl1 1 rfl) ?_
        refine va_iald hx hb hK.1 hP 0 0 rfl rfl (vp_in_nI (by first | assumption | omega) (by decide)) d_Model_readText_66 ?_
        refine W.eq (g2 := F0 m 67 ls [.int (nI (nw wh))]) (by rw [nI_clamp (by first | exact Nat.lt_of_lt_of_le (by assumption) (by decide) | exact Nat.lt_of_le_of_lt (by assumption) (by decide) | omega)]) ?_
        refine lv_iconst (v := 1) hx hb d_Model_readText_67 (by decide) ?_
        refine lv_isub hx hb d_Model_readText_68 ?_
        refine lv_topi (fun z_49 ez_49 => ?_)
        have ez_49 : z_49 = nI (nw wh - 1) := ez_49.trans (pk_sub (a := nw wh) (b := 1) (by first | assumption | omega))
        subst ez_49
        refine lv_istore_n (lv' := [(2, .int (nI (nw wh - 1))), (0, .ref m0), (1, .int (nI wh))]) hx hb d_Model_readText_69 rfl hl1 (by decide) rfl (fun ls hl2 => ?_)
        clear hl1; have hl1 := hl2; clear hl2
        refine lv_iconst (v := 0) hx hb d_Model_readText_70 (by decide) ?_
        refine lv_istore_n (lv' := [(3, .int 0), (2, .int (nI (nw wh - 1))), (0, .ref m0), (1, .int (nI wh))]) hx hb d_Model_readText_71 rfl hl1 (by decide) rfl (fun ls hl2 => ?_)
        clear hl1; have hl1 := hl2; clear hl2
        have ho1 : 2 * wh ≤ nw wh - 1 := by omega
        have ho2 : nw wh - 1 ≤ 2 * wh + 1 := by omega
        suffices key_50 : ∀ (k : Nat) (i1 : Nat), 6 * (u_15 5) - i1 < k → i1 ≤ 6 * (u_15 5) → ∀ (H : Heap) (locs : List Loc) (ls : Array Slot), va_P D classes [(m5, .inl (ax 0, 2, .inl (fun j => nI (nw j)))), (m4, .inl (ax 0, 4, .inl (fun j => nI (tz j)))), (m3, .inl (ax 0, 3072, .inl (cpf tx x_32 (768 * (nw wh - 1)) i1))), (m0, .inr (11, [.int s_thrown, .int 0, .ref m1, .int (nI n), .int s_outSize, .ref m2, .int (nI (u_15 2)), .int (nI (u_15 3)), .int (nI (u_15 0)), .int (nI (u_15 1)), .int 0, .ref m3, .ref m4, .ref m5, .int s_isProgram, .int s_half, .ref m6, .ref m7, .ref m8, .ref m9, .ref m10, .ref m11, .ref m12, .ref m13, .ref m14, .ref m15, .ref m16, .ref m17, .ref m18, .ref m19, .ref m20, .int (nI (u_15 5)), .ref m21, .int (nI (u_15 6)), .ref m22, .int x_30, .int x_31, .int s_statements, .int s_ifs, .int s_whiles, .int s_variants, .int s_open, .ref m23, .int (nI im), .int s_conditions, .ref m24, .ref m25, .ref m26, .ref m27, .int s_kept, .ref m28, .int s_tops, .ref m29, .int s_used, .ref m30, .ref m31, .int s_looked, .int s_rows, .int s_firstRow, .ref m32, .ref m33, .ref m34, .ref m35, .ref m36, .ref m37, .ref m38, .ref m39, .ref m40, .int s_isBroken, .ref m41, .int (nI (u_15 7)), .ref m42])), (m1, .inl (ax 0, 400, .inl (fun j => nI (g j)))), (m22, .inl (ax 0, 64, .inl (fun j => nI (x_29 j)))), (m21, .inl (ax 0, 1200, .inl x_32))] H → va_D A [(m5, .inl (ax 0, 2, .inl (fun j => nI (nw j)))), (m4, .inl (ax 0, 4, .inl (fun j => nI (tz j)))), (m3, .inl (ax 0, 3072, .inl (cpf tx x_32 (768 * (nw wh - 1)) i1))), (m0, .inr (11, [.int s_thrown, .int 0, .ref m1, .int (nI n), .int s_outSize, .ref m2, .int (nI (u_15 2)), .int (nI (u_15 3)), .int (nI (u_15 0)), .int (nI (u_15 1)), .int 0, .ref m3, .ref m4, .ref m5, .int s_isProgram, .int s_half, .ref m6, .ref m7, .ref m8, .ref m9, .ref m10, .ref m11, .ref m12, .ref m13, .ref m14, .ref m15, .ref m16, .ref m17, .ref m18, .ref m19, .ref m20, .int (nI (u_15 5)), .ref m21, .int (nI (u_15 6)), .ref m22, .int x_30, .int x_31, .int s_statements, .int s_ifs, .int s_whiles, .int s_variants, .int s_open, .ref m23, .int (nI im), .int s_conditions, .ref m24, .ref m25, .ref m26, .ref m27, .int s_kept, .ref m28, .int s_tops, .ref m29, .int s_used, .ref m30, .ref m31, .int s_looked, .int s_rows, .int s_firstRow, .ref m32, .ref m33, .ref m34, .ref m35, .ref m36, .ref m37, .ref m38, .ref m39, .ref m40, .int s_isBroken, .ref m41, .int (nI (u_15 7)), .ref m42])), (m1, .inl (ax 0, 400, .inl (fun j => nI (g j)))), (m22, .inl (ax 0, 64, .inl (fun j => nI (x_29 j)))), (m21, .inl (ax 0, 1200, .inl x_32))] → va_S A s.heap H locs → lv_has ls 4 [(0, .ref m0), (1, .int (nI wh)), (2, .int (nI (nw wh - 1))), (3, .int (nI i1))] → W p l e (headSpec (xws (.code y_Model_readText b_Model_readText 4 (some .int))) ({ frames := 90, cells := 0, slots := 0, locals := 3600 })).room s m ([.ref m0, .int (nI wh)] : List Value).toArray below meth c H locs 0 0 Z9 (F0 m 72 ls []) from key_50 (6 * (u_15 5) - 0 + 1) 0 (Nat.lt_succ_self _) (by first | assumption | omega) _ _ _ (by rw [cpf_0]; exact hP) (by rw [cpf_0]; exact hD) hS (lv_sub hl1 [2, 3, 1, 0] rfl)
        intro k_51
        induction k_51 with
        | zero =>
          intro i1 hk_53
          exact absurd hk_53 (Nat.not_lt_zero _)
        | succ k_51 ih_52 =>
          clear hP hD hS hl1
          intro i1 hk_53 hi1 H locs ls hP hD hS hl1
          refine lv_iload_n hx hb d_Model_readText_72 rfl (lv_at hl1 3 rfl) ?_
          refine lv_bipush (v := 6) hx hb d_Model_readText_73 (by decide) ?_
          refine lv_aload_n hx hb d_Model_readText_75 rfl (lv_at hl1 0 rfl) ?_
          refine va_get (D := D) (ci := 11) (v := .int (nI (u_15 5))) (C := R_Model) (T := F_Model) (N := 72) hx hb hts i_Model hown hK.1 hP 3 rfl rfl 31 (by decide) (hts _ wd_1067) (fun _ h9 => h9) rfl d_Model_readText_76 ?_
          refine lv_imul hx hb d_Model_readText_79 ?_
          refine lv_topi (fun z_54 ez_54 => ?_)
          have ez_54 : z_54 = nI (6 * (u_15 5)) := ez_54.trans (pk_mul 6 (u_15 5))
          subst ez_54
          refine lv_icmp_ge (tgt := 107) hx hb d_Model_readText_80 (by decide) (fun c_55 => ?_) (fun c_55 => ?_)
          · replace c_55 : 6 * (u_15 5) ≤ i1 := (nI_leI (a := 6 * (u_15 5)) (b := i1) (by first | exact Nat.lt_of_lt_of_le (by assumption) (by decide) | exact Nat.lt_of_le_of_lt (by assumption) (by decide) | omega) (by first | exact Nat.lt_of_lt_of_le (by assumption) (by decide) | exact Nat.lt_of_le_of_lt (by assumption) (by decide) | omega)).mp c_55
            rw [show i1 = 6 * (u_15 5) by omega] at hP hD
            have hP7 := hP; have hD7 := hD; clear hP hD
            have hW7 : (fun w9 : va_W => va_P D classes w9 H ∧ va_D A w9) [(m5, .inl (ax 0, 2, .inl (fun j => nI (nw j)))), (m4, .inl (ax 0, 4, .inl (fun j => nI (tz j)))), (m3, .inl (ax 0, 3072, .inl (cpf tx x_32 (768 * (nw wh - 1)) (6 * (u_15 5))))), (m0, .inr (11, [.int s_thrown, .int 0, .ref m1, .int (nI n), .int s_outSize, .ref m2, .int (nI (u_15 2)), .int (nI (u_15 3)), .int (nI (u_15 0)), .int (nI (u_15 1)), .int 0, .ref m3, .ref m4, .ref m5, .int s_isProgram, .int s_half, .ref m6, .ref m7, .ref m8, .ref m9, .ref m10, .ref m11, .ref m12, .ref m13, .ref m14, .ref m15, .ref m16, .ref m17, .ref m18, .ref m19, .ref m20, .int (nI (u_15 5)), .ref m21, .int (nI (u_15 6)), .ref m22, .int x_30, .int x_31, .int s_statements, .int s_ifs, .int s_whiles, .int s_variants, .int s_open, .ref m23, .int (nI im), .int s_conditions, .ref m24, .ref m25, .ref m26, .ref m27, .int s_kept, .ref m28, .int s_tops, .ref m29, .int s_used, .ref m30, .ref m31, .int s_looked, .int s_rows, .int s_firstRow, .ref m32, .ref m33, .ref m34, .ref m35, .ref m36, .ref m37, .ref m38, .ref m39, .ref m40, .int s_isBroken, .ref m41, .int (nI (u_15 7)), .ref m42])), (m1, .inl (ax 0, 400, .inl (fun j => nI (g j)))), (m22, .inl (ax 0, 64, .inl (fun j => nI (x_29 j)))), (m21, .inl (ax 0, 1200, .inl x_32))] := ⟨hP7, hD7⟩
            obtain ⟨hP, hD⟩ := hW7
            clear hP7 hD7
            refine lv_aload_n hx hb d_Model_readText_107 rfl (lv_at hl1 0 rfl) ?_
            refine va_get (D := D) (ci := 11) (v := .ref m4) (C := R_Model) (T := F_Model) (N := 72) hx hb hts i_Model hown hK.1 hP 3 rfl rfl 12 (by decide) (hts _ wd_1048) (fun _ h9 => h9) rfl d_Model_readText_108 ?_
            refine lv_iload_n hx hb d_Model_readText_111 rfl (lv_at hl1 2 rfl) ?_
            refine lv_aload_n hx hb d_Model_readText_112 rfl (lv_at hl1 0 rfl) ?_
            refine va_get (D := D) (ci := 11) (v := .int (nI (u_15 5))) (C := R_Model) (T := F_Model) (N := 72) hx hb hts i_Model hown hK.1 hP 3 rfl rfl 31 (by decide) (hts _ wd_1067) (fun _ h9 => h9) rfl d_Model_readText_113 ?_
            refine va_iast hx hb hK.1 hP hD hS 1 0 rfl rfl (vp_in_nI (by first | assumption | omega) (by decide)) d_Model_readText_116 (fun H_56 locs hP1 hD1 hS1 => ?_)
            rw [nI_clamp (by first | exact Nat.lt_of_lt_of_le (by assumption) (by decide) | exact Nat.lt_of_le_of_lt (by assumption) (by decide) | omega)] at hP1 hD1
            rw [xf_sup tz (nw wh - 1) (u_15 5)] at hP1 hD1
            clear hP hD hS
            have hS := hS1
            have hW7 : (fun w9 : va_W => va_P D classes w9 H_56 ∧ va_D A w9) [(m5, .inl (ax 0, 2, .inl (fun j => nI (nw j)))), (m4, .inl (ax 0, 4, .inl (fun j => nI (sup tz (nw wh - 1) (u_15 5) j)))), (m3, .inl (ax 0, 3072, .inl (cpf tx x_32 (768 * (nw wh - 1)) (6 * (u_15 5))))), (m0, .inr (11, [.int s_thrown, .int 0, .ref m1, .int (nI n), .int s_outSize, .ref m2, .int (nI (u_15 2)), .int (nI (u_15 3)), .int (nI (u_15 0)), .int (nI (u_15 1)), .int 0, .ref m3, .ref m4, .ref m5, .int s_isProgram, .int s_half, .ref m6, .ref m7, .ref m8, .ref m9, .ref m10, .ref m11, .ref m12, .ref m13, .ref m14, .ref m15, .ref m16, .ref m17, .ref m18, .ref m19, .ref m20, .int (nI (u_15 5)), .ref m21, .int (nI (u_15 6)), .ref m22, .int x_30, .int x_31, .int s_statements, .int s_ifs, .int s_whiles, .int s_variants, .int s_open, .ref m23, .int (nI im), .int s_conditions, .ref m24, .ref m25, .ref m26, .ref m27, .int s_kept, .ref m28, .int s_tops, .ref m29, .int s_used, .ref m30, .ref m31, .int s_looked, .int s_rows, .int s_firstRow, .ref m32, .ref m33, .ref m34, .ref m35, .ref m36, .ref m37, .ref m38, .ref m39, .ref m40, .int s_isBroken, .ref m41, .int (nI (u_15 7)), .ref m42])), (m1, .inl (ax 0, 400, .inl (fun j => nI (g j)))), (m22, .inl (ax 0, 64, .inl (fun j => nI (x_29 j)))), (m21, .inl (ax 0, 1200, .inl x_32))] := ⟨hP1, hD1⟩
            obtain ⟨hP, hD⟩ := hW7
            clear hP1 hD1 hS1
            refine lv_aload_n hx hb d_Model_readText_117 rfl (lv_at hl1 0 rfl) ?_
            refine va_get (D := D) (ci := 11) (v := .ref m5) (C := R_Model) (T := F_Model) (N := 72) hx hb hts i_Model hown hK.1 hP 3 rfl rfl 13 (by decide) (hts _ wd_1049) (fun _ h9 => h9) rfl d_Model_readText_118 ?_
            refine lv_iload_n hx hb d_Model_readText_121 rfl (lv_at hl1 1 rfl) ?_
            refine lv_iload_n hx hb d_Model_readText_122 rfl (lv_at hl1 2 rfl) ?_
            refine va_iast hx hb hK.1 hP hD hS 0 0 rfl rfl (vp_in_nI (by first | assumption | omega) (by decide)) d_Model_readText_123 (fun H_57 locs hP1 hD1 hS1 => ?_)
            rw [nI_clamp (by first | exact Nat.lt_of_lt_of_le (by assumption) (by decide) | exact Nat.lt_of_le_of_lt (by assumption) (by decide) | omega)] at hP1 hD1
            rw [xf_sup nw wh (nw wh - 1)] at hP1 hD1
            clear hP hD hS
            have hS := hS1
            have hW7 : (fun w9 : va_W => va_P D classes w9 H_57 ∧ va_D A w9) [(m5, .inl (ax 0, 2, .inl (fun j => nI (sup nw wh (nw wh - 1) j)))), (m4, .inl (ax 0, 4, .inl (fun j => nI (sup tz (nw wh - 1) (u_15 5) j)))), (m3, .inl (ax 0, 3072, .inl (cpf tx x_32 (768 * (nw wh - 1)) (6 * (u_15 5))))), (m0, .inr (11, [.int s_thrown, .int 0, .ref m1, .int (nI n), .int s_outSize, .ref m2, .int (nI (u_15 2)), .int (nI (u_15 3)), .int (nI (u_15 0)), .int (nI (u_15 1)), .int 0, .ref m3, .ref m4, .ref m5, .int s_isProgram, .int s_half, .ref m6, .ref m7, .ref m8, .ref m9, .ref m10, .ref m11, .ref m12, .ref m13, .ref m14, .ref m15, .ref m16, .ref m17, .ref m18, .ref m19, .ref m20, .int (nI (u_15 5)), .ref m21, .int (nI (u_15 6)), .ref m22, .int x_30, .int x_31, .int s_statements, .int s_ifs, .int s_whiles, .int s_variants, .int s_open, .ref m23, .int (nI im), .int s_conditions, .ref m24, .ref m25, .ref m26, .ref m27, .int s_kept, .ref m28, .int s_tops, .ref m29, .int s_used, .ref m30, .ref m31, .int s_looked, .int s_rows, .int s_firstRow, .ref m32, .ref m33, .ref m34, .ref m35, .ref m36, .ref m37, .ref m38, .ref m39, .ref m40, .int s_isBroken, .ref m41, .int (nI (u_15 7)), .ref m42])), (m1, .inl (ax 0, 400, .inl (fun j => nI (g j)))), (m22, .inl (ax 0, 64, .inl (fun j => nI (x_29 j)))), (m21, .inl (ax 0, 1200, .inl x_32))] := ⟨hP1, hD1⟩
            obtain ⟨hP, hD⟩ := hW7
            clear hP1 hD1 hS1
            refine lv_aload_n hx hb d_Model_readText_124 rfl (lv_at hl1 0 rfl) ?_
            refine lv_iconst (v := 0) hx hb d_Model_readText_125 (by decide) ?_
            refine va_put (D := D) (ci := 11) (v := .int 0) (ty := .boolean) (C := R_Model) (T := F_Model) (N := 72) hx hb hts i_Model t_Model t_Model_ok n_Model hown hK.1 hP hD hS 3 rfl rfl 43 (by decide) (hts _ wd_1079) (fun _ h9 => h9) rfl (by decide +kernel) rfl rfl (Nat.le_of_ble_eq_true rfl) d_Model_readText_126 (fun H_58 locs hP1 hD1 hS1 => ?_)
            clear hP hD hS
            have hS := hS1
            have hW7 : (fun w9 : va_W => va_P D classes w9 H_58 ∧ va_D A w9) [(m5, .inl (ax 0, 2, .inl (fun j => nI (sup nw wh (nw wh - 1) j)))), (m4, .inl (ax 0, 4, .inl (fun j => nI (sup tz (nw wh - 1) (u_15 5) j)))), (m3, .inl (ax 0, 3072, .inl (cpf tx x_32 (768 * (nw wh - 1)) (6 * (u_15 5))))), (m0, .inr (11, [.int s_thrown, .int 0, .ref m1, .int (nI n), .int s_outSize, .ref m2, .int (nI (u_15 2)), .int (nI (u_15 3)), .int (nI (u_15 0)), .int (nI (u_15 1)), .int 0, .ref m3, .ref m4, .ref m5, .int s_isProgram, .int s_half, .ref m6, .ref m7, .ref m8, .ref m9, .ref m10, .ref m11, .ref m12, .ref m13, .ref m14, .ref m15, .ref m16, .ref m17, .ref m18, .ref m19, .ref m20, .int (nI (u_15 5)), .ref m21, .int (nI (u_15 6)), .ref m22, .int x_30, .int x_31, .int s_statements, .int s_ifs, .int s_whiles, .int s_variants, .int s_open, .ref m23, .int 0, .int s_conditions, .ref m24, .ref m25, .ref m26, .ref m27, .int s_kept, .ref m28, .int s_tops, .ref m29, .int s_used, .ref m30, .ref m31, .int s_looked, .int s_rows, .int s_firstRow, .ref m32, .ref m33, .ref m34, .ref m35, .ref m36, .ref m37, .ref m38, .ref m39, .ref m40, .int s_isBroken, .ref m41, .int (nI (u_15 7)), .ref m42])), (m1, .inl (ax 0, 400, .inl (fun j => nI (g j)))), (m22, .inl (ax 0, 64, .inl (fun j => nI (x_29 j)))), (m21, .inl (ax 0, 1200, .inl x_32))] := ⟨hP1, hD1⟩
            obtain ⟨hP, hD⟩ := hW7
            clear hP1 hD1 hS1
            refine lv_aload_n hx hb d_Model_readText_129 rfl (lv_at hl1 0 rfl) ?_
            obtain ⟨hPc, hDc, hFc, hCs⟩ := xw_sub3 (wc := [(m0, .inr (11, [.int s_thrown, .int 0, .ref m1, .int (nI n), .int s_outSize, .ref m2, .int (nI (u_15 2)), .int (nI (u_15 3)), .int (nI (u_15 0)), .int (nI (u_15 1)), .int 0, .ref m3, .ref m4, .ref m5, .int s_isProgram, .int s_half, .ref m6, .ref m7, .ref m8, .ref m9, .ref m10, .ref m11, .ref m12, .ref m13, .ref m14, .ref m15, .ref m16, .ref m17, .ref m18, .ref m19, .ref m20, .int (nI (u_15 5)), .ref m21, .int (nI (u_15 6)), .ref m22, .int x_30, .int x_31, .int s_statements, .int s_ifs, .int s_whiles, .int s_variants, .int s_open, .ref m23, .int 0, .int s_conditions, .ref m24, .ref m25, .ref m26, .ref m27, .int s_kept, .ref m28, .int s_tops, .ref m29, .int s_used, .ref m30, .ref m31, .int s_looked, .int s_rows, .int s_firstRow, .ref m32, .ref m33, .ref m34, .ref m35, .ref m36, .ref m37, .ref m38, .ref m39, .ref m40, .int s_isBroken, .ref m41, .int (nI (u_15 7)), .ref m42]))]) hP hD hS hA [3] (by decide) rfl
            have hz := xz_of hN hS
            refine va_calli (va_runV (As := []) (rest := []) ⟨hx, hb, hml, hown, hts⟩ (c_M_fault_0 l D ax m0 m1 m2 m3 m4 m5 m6 m7 m8 m9 m10 m11 m12 m13 m14 m15 m16 m17 m18 m19 m20 m21 m22 m23 m24 m25 m26 m27 m28 m29 m30 m31 m32 m33 m34 m35 m36 m37 m38 m39 m40 m41 m42 s_thrown 0 (nI n) s_outSize (nI (u_15 2)) (nI (u_15 3)) (nI (u_15 1)) s_isProgram s_half (nI (u_15 5)) (nI (u_15 6)) x_30 x_31 s_statements s_ifs s_whiles s_variants s_open 0 s_conditions s_kept s_tops s_used s_looked s_rows s_firstRow s_isBroken (nI (u_15 7)) (u_15 0) H_58.size ) (xcV (n := 0) hts wd_1359 wd_15 wd_1356 wd_1358 ps_67 rfl rfl (by decide +kernel) ⟨Nat.le_of_ble_eq_true rfl, Nat.le_of_ble_eq_true rfl⟩) (xpV (ci := 11) (q0 := 0) (As := []) hPc hK hz hDc rfl rfl) rfl rfl hl1.1 rfl (lv_room (Nat.le_of_ble_eq_true rfl)) d_Model_readText_130 ⟨Nat.le_of_ble_eq_true rfl, Nat.le_of_ble_eq_true rfl⟩) hS (fun q _ h => hFc q h) hFc (fun r_61 u_59 t H_60 locs ht hvm hw hB hz1 hk1 hS1 => ?_)
            try dsimp only at hw
            subst hw
            obtain ⟨hP1, hD1⟩ := hB
            rw [ht] at hP1
            have hjn := xw_join3 (wl := [(m5, .inl (ax 0, 2, .inl (fun j => nI (sup nw wh (nw wh - 1) j)))), (m4, .inl (ax 0, 4, .inl (fun j => nI (sup tz (nw wh - 1) (u_15 5) j)))), (m3, .inl (ax 0, 3072, .inl (cpf tx x_32 (768 * (nw wh - 1)) (6 * (u_15 5))))), (m1, .inl (ax 0, 400, .inl (fun j => nI (g j)))), (m22, .inl (ax 0, 64, .inl (fun j => nI (x_29 j)))), (m21, .inl (ax 0, 1200, .inl x_32)), (m0, .inr (11, [.int s_thrown, .int 0, .ref m1, .int (nI n), .int s_outSize, .ref m2, .int (nI (u_15 2)), .int (nI (u_15 3)), .int (nI (u_15 0)), .int (nI (u_15 1)), .int 0, .ref m3, .ref m4, .ref m5, .int s_isProgram, .int s_half, .ref m6, .ref m7, .ref m8, .ref m9, .ref m10, .ref m11, .ref m12, .ref m13, .ref m14, .ref m15, .ref m16, .ref m17, .ref m18, .ref m19, .ref m20, .int (nI (u_15 5)), .ref m21, .int (nI (u_15 6)), .ref m22, .int x_30, .int x_31, .int s_statements, .int s_ifs, .int s_whiles, .int s_variants, .int s_open, .ref m23, .int 0, .int s_conditions, .ref m24, .ref m25, .ref m26, .ref m27, .int s_kept, .ref m28, .int s_tops, .ref m29, .int s_used, .ref m30, .ref m31, .int s_looked, .int s_rows, .int s_firstRow, .ref m32, .ref m33, .ref m34, .ref m35, .ref m36, .ref m37, .ref m38, .ref m39, .ref m40, .int s_isBroken, .ref m41, .int (nI (u_15 7)), .ref m42]))]) hP hD [3] [0, 1, 2, 4, 5, 6] hCs (by decide) (by decide) hk1 hFc hP1 hD1 rfl
            clear hP1 hD1
            clear hPc hDc hFc hCs hz hz1 hk1 ht hvm
            clear hP hD hS
            have hS := hS1
            obtain ⟨hP, hD⟩ := hjn
            clear hS1
            rw [← hQe]
            obtain ⟨hP9, hD9⟩ := xw_sub2 (wc := (fun (u : Nat → Nat) (xst : Nat → Nat) (xnw : Nat → Nat) (xtz : Nat → Nat) (xnm : Int32) (xsh : Int32) (xf : Nat → Int32) (xtx : Nat → Int32) => [(m0, .inr (11, [.int s_thrown, .int 0, .ref m1, .int (nI n), .int s_outSize, .ref m2, .int (nI (u 2)), .int (nI (u 3)), .int (nI (u 0)), .int (nI (u 1)), .int (nI (u 4)), .ref m3, .ref m4, .ref m5, .int s_isProgram, .int s_half, .ref m6, .ref m7, .ref m8, .ref m9, .ref m10, .ref m11, .ref m12, .ref m13, .ref m14, .ref m15, .ref m16, .ref m17, .ref m18, .ref m19, .ref m20, .int (nI (u 5)), .ref m21, .int (nI (u 6)), .ref m22, .int xnm, .int xsh, .int s_statements, .int s_ifs, .int s_whiles, .int s_variants, .int s_open, .ref m23, .int (nI (u 8)), .int s_conditions, .ref m24, .ref m25, .ref m26, .ref m27, .int s_kept, .ref m28, .int s_tops, .ref m29, .int s_used, .ref m30, .ref m31, .int s_looked, .int s_rows, .int s_firstRow, .ref m32, .ref m33, .ref m34, .ref m35, .ref m36, .ref m37, .ref m38, .ref m39, .ref m40, .int s_isBroken, .ref m41, .int (nI (u 7)), .ref m42])), (m1, .inl (ax 0, 400, .inl (fun j => nI (g j)))), (m22, .inl (ax 0, 64, .inl (fun j => nI (xst j)))), (m21, .inl (ax 0, 1200, .inl xf)), (m5, .inl (ax 0, 2, .inl (fun j => nI (xnw j)))), (m4, .inl (ax 0, 4, .inl (fun j => nI (xtz j)))), (m3, .inl (ax 0, 3072, .inl xtx))]) (ixn [(u_15 0), (u_15 1), (u_15 2), (u_15 3), 0, (u_15 5), (u_15 6), (u_15 7), 0, 0]) x_29 (sup nw wh (nw wh - 1)) (sup tz (nw wh - 1) (u_15 5)) x_30 x_31 x_32 (cpf tx x_32 (768 * (nw wh - 1)) (6 * (u_15 5)))) hP hD [6, 3, 4, 5, 0, 1, 2] (by decide) rfl
            have hex0 : ∀ j, x_29 j < 100 := (by assumption)
            have hex1 : txo (cpf tx x_32 (768 * (nw wh - 1)) (6 * (u_15 5))) (sup tz (nw wh - 1) (u_15 5)) (sup nw wh (nw wh - 1)) 0 := (by rcases Nat.eq_or_lt_of_le hwh with e | e; (first | (subst e; exact txo_old hx0 ho1 ho2 (by first | assumption | omega) (by first | assumption | omega)) | skip); (have e2 : wh = 0 := by omega); subst e2; exact txo_new ho1 ho2 (by first | assumption | omega) hx_34.1 hx_34.2)
            have hex2 : txo (cpf tx x_32 (768 * (nw wh - 1)) (6 * (u_15 5))) (sup tz (nw wh - 1) (u_15 5)) (sup nw wh (nw wh - 1)) 1 := (by rcases Nat.eq_or_lt_of_le hwh with e | e; (first | (subst e; exact txo_new ho1 ho2 (by first | assumption | omega) hx_34.1 hx_34.2) | skip); (have e2 : wh = 0 := by omega); subst e2; exact txo_old hx1 ho1 ho2 (by first | assumption | omega) (by first | assumption | omega))
            have hex3 : ansL g n (0) (tls (cpf tx x_32 (768 * (nw wh - 1)) (6 * (u_15 5))) (sup tz (nw wh - 1) (u_15 5)) (sup nw wh (nw wh - 1)) wh) := (anl_n hs_7 hx_35 (by first | assumption | omega) hs_24 (by first | assumption | omega) tls_new)
            have hex4 : tlk tx (cpf tx x_32 (768 * (nw wh - 1)) (6 * (u_15 5))) tz nw (sup tz (nw wh - 1) (u_15 5)) (sup nw wh (nw wh - 1)) wh (0) := (tlk_new hx0 hx1 ho1 ho2 (by first | assumption | omega))
            have hex5 : imz (0) (0) := (fun q => by first | rfl | omega)
            have hsp0 : (u_15 3) < 20000 := (by first | assumption | omega)
            have hsp1 : 0 ≤ im := (by first | assumption | omega)
            exact W.iret (v := 0) hx hb hr (fun t ht hW => ⟨⟨0, ixn [(u_15 0), (u_15 1), (u_15 2), (u_15 3), 0, (u_15 5), (u_15 6), (u_15 7), 0, 0], rfl, ⟨rfl, ⟨hsp0, hsp1⟩⟩, ⟨x_29, sup nw wh (nw wh - 1), sup tz (nw wh - 1) (u_15 5), x_30, x_31, x_32, (cpf tx x_32 (768 * (nw wh - 1)) (6 * (u_15 5))), hex0, hex1, hex2, hex3, hex4, hex5, by rw [ht]; exact hP9, hD9⟩⟩, hS.F ht⟩) hS.2.2 d_Model_readText_133
          · replace c_55 : ¬ 6 * (u_15 5) ≤ i1 := fun hq9 => c_55 ((nI_leI (a := 6 * (u_15 5)) (b := i1) (by first | exact Nat.lt_of_lt_of_le (by assumption) (by decide) | exact Nat.lt_of_le_of_lt (by assumption) (by decide) | omega) (by first | exact Nat.lt_of_lt_of_le (by assumption) (by decide) | exact Nat.lt_of_le_of_lt (by assumption) (by decide) | omega)).mpr hq9)
            refine lv_aload_n hx hb d_Model_readText_83 rfl (lv_at hl1 0 rfl) ?_
            refine va_get (D := D) (ci := 11) (v := .ref m3) (C := R_Model) (T := F_Model) (N := 72) hx hb hts i_Model hown hK.1 hP 3 rfl rfl 11 (by decide) (hts _ wd_1047) (fun _ h9 => h9) rfl d_Model_readText_84 ?_
            refine lv_sipush (v := 768) hx hb d_Model_readText_87 (by decide) ?_
            refine lv_iload_n hx hb d_Model_readText_90 rfl (lv_at hl1 2 rfl) ?_
            refine lv_imul hx hb d_Model_readText_91 ?_
            refine lv_topi (fun z_62 ez_62 => ?_)
            have ez_62 : z_62 = nI (768 * (nw wh - 1)) := ez_62.trans (pk_mul 768 (nw wh - 1))
            subst ez_62
            refine lv_iload_n hx hb d_Model_readText_92 rfl (lv_at hl1 3 rfl) ?_
            refine lv_iadd hx hb d_Model_readText_93 ?_
            refine lv_topi (fun z_63 ez_63 => ?_)
            have ez_63 : z_63 = nI (768 * (nw wh - 1) + i1) := ez_63.trans (nI_add (768 * (nw wh - 1)) i1)
            subst ez_63
            refine lv_aload_n hx hb d_Model_readText_94 rfl (lv_at hl1 0 rfl) ?_
            refine va_get (D := D) (ci := 11) (v := .ref m21) (C := R_Model) (T := F_Model) (N := 72) hx hb hts i_Model hown hK.1 hP 3 rfl rfl 32 (by decide) (hts _ wd_1068) (fun _ h9 => h9) rfl d_Model_readText_95 ?_
            refine lv_iload_n hx hb d_Model_readText_98 rfl (lv_at hl1 3 rfl) ?_
            refine va_iald hx hb hK.1 hP 6 0 rfl rfl (vp_in_nI (by first | assumption | omega) (by decide)) d_Model_readText_99 ?_
            refine W.eq (g2 := F0 m 100 ls [.int (x_32 i1), .int (nI (768 * (nw wh - 1) + i1)), .ref m3]) (by rw [nI_clamp (by first | exact Nat.lt_of_lt_of_le (by assumption) (by decide) | exact Nat.lt_of_le_of_lt (by assumption) (by decide) | omega)]) ?_
            refine va_iast hx hb hK.1 hP hD hS 2 0 rfl rfl (vp_in_nI (by first | assumption | omega) (by decide)) d_Model_readText_100 (fun H_64 locs hP1 hD1 hS1 => ?_)
            rw [nI_clamp (by first | exact Nat.lt_of_lt_of_le (by assumption) (by decide) | exact Nat.lt_of_le_of_lt (by assumption) (by decide) | omega)] at hP1 hD1
            clear hP hD hS
            have hS := hS1
            have hW7 : (fun w9 : va_W => va_P D classes w9 H_64 ∧ va_D A w9) [(m5, .inl (ax 0, 2, .inl (fun j => nI (nw j)))), (m4, .inl (ax 0, 4, .inl (fun j => nI (tz j)))), (m3, .inl (ax 0, 3072, .inl (upd (cpf tx x_32 (768 * (nw wh - 1)) i1) (768 * (nw wh - 1) + i1) (x_32 i1)))), (m0, .inr (11, [.int s_thrown, .int 0, .ref m1, .int (nI n), .int s_outSize, .ref m2, .int (nI (u_15 2)), .int (nI (u_15 3)), .int (nI (u_15 0)), .int (nI (u_15 1)), .int 0, .ref m3, .ref m4, .ref m5, .int s_isProgram, .int s_half, .ref m6, .ref m7, .ref m8, .ref m9, .ref m10, .ref m11, .ref m12, .ref m13, .ref m14, .ref m15, .ref m16, .ref m17, .ref m18, .ref m19, .ref m20, .int (nI (u_15 5)), .ref m21, .int (nI (u_15 6)), .ref m22, .int x_30, .int x_31, .int s_statements, .int s_ifs, .int s_whiles, .int s_variants, .int s_open, .ref m23, .int (nI im), .int s_conditions, .ref m24, .ref m25, .ref m26, .ref m27, .int s_kept, .ref m28, .int s_tops, .ref m29, .int s_used, .ref m30, .ref m31, .int s_looked, .int s_rows, .int s_firstRow, .ref m32, .ref m33, .ref m34, .ref m35, .ref m36, .ref m37, .ref m38, .ref m39, .ref m40, .int s_isBroken, .ref m41, .int (nI (u_15 7)), .ref m42])), (m1, .inl (ax 0, 400, .inl (fun j => nI (g j)))), (m22, .inl (ax 0, 64, .inl (fun j => nI (x_29 j)))), (m21, .inl (ax 0, 1200, .inl x_32))] := ⟨hP1, hD1⟩
            obtain ⟨hP, hD⟩ := hW7
            clear hP1 hD1 hS1
            refine lv_iinc (v := nI (i1 + 1)) (lv' := [(3, .int (nI (i1 + 1))), (0, .ref m0), (1, .int (nI wh)), (2, .int (nI (nw wh - 1)))]) hx hb d_Model_readText_101 hl1 (k := 3) rfl (nI_add i1 1) (by decide) rfl (fun ls hl2 => ?_)
            clear hl1; have hl1 := hl2; clear hl2
            refine lv_goto (tgt := 72) hx hb d_Model_readText_104 (by decide) ?_
            rw [cpf_upd tx x_32 (768 * (nw wh - 1)) i1] at hP hD
            exact ih_52 (i1 + 1) (by first | assumption | omega) (by first | assumption | omega) _ _ _ (hP.sub [0, 1, 2, 3, 4, 5, 6] rfl) (hD.sub [0, 1, 2, 3, 4, 5, 6] (by decide) rfl) hS (lv_sub hl1 [1, 2, 3, 0] rfl)
      · replace c_48 : (nw wh) % 2 = 0 := (nI_eq (a := (nw wh) % 2) (b := 0) (by first | exact Nat.lt_of_lt_of_le (by assumption) (by decide) | exact Nat.lt_of_le_of_lt (by assumption) (by decide) | omega) (by decide)).mp c_48
        refine lv_aload_n hx hb d_Model_readText_50 rfl (lv_at hl1 0 rfl) ?_
        refine va_get (D := D) (ci := 11) (v := .ref m5) (C := R_Model) (T := F_Model) (N := 72) hx hb hts i_Model hown hK.1 hP 3 rfl rfl 13 (by decide) (hts _ wd_1049) (fun _ h9 => h9) rfl d_Model_readText_51 ?_
        refine lv_iload_n hx hb d_Model_readText_54 rfl (lv_at hl1 1 rfl) ?_
        refine va_iald hx hb hK.1 hP 0 0 rfl rfl (vp_in_nI (by first | assumption | omega) (by decide)) d_Model_readText_55 ?_
        refine W.eq (g2 := F0 m 56 ls [.int (nI (nw wh))]) (by rw [nI_clamp (by first | exact Nat.lt_of_lt_of_le (by assumption) (by decide) | exact Nat.lt_of_le_of_lt (by assumption) (by decide) | omega)]) ?_
        refine lv_iconst (v := 1) hx hb d_Model_readText_56 (by decide) ?_
        refine lv_iadd hx hb d_Model_readText_57 ?_
        refine lv_topi (fun z_65 ez_65 => ?_)
        have ez_65 : z_65 = nI (nw wh + 1) := ez_65.trans (nI_add (nw wh) 1)
        subst ez_65
        refine lv_goto (tgt := 69) hx hb d_Model_readText_58 (by decide) ?_
        refine lv_istore_n (lv' := [(2, .int (nI (nw wh + 1))), (0, .ref m0), (1, .int (nI wh))]) hx hb d_Model_readText_69 rfl hl1 (by decide) rfl (fun ls hl2 => ?_)
        clear hl1; have hl1 := hl2; clear hl2
        refine lv_iconst (v := 0) hx hb d_Model_readText_70 (by decide) ?_
        refine lv_istore_n (lv' := [(3, .int 0), (2, .int (nI (nw wh + 1))), (0, .ref m0), (1, .int (nI wh))]) hx hb d_Model_readText_71 rfl hl1 (by decide) rfl (fun ls hl2 => ?_)
        clear hl1; have hl1 := hl2; clear hl2
        have ho1 : 2 * wh ≤ nw wh + 1 := by omega
        have ho2 : nw wh + 1 ≤ 2 * wh + 1 := by omega
        suffices key_66 : ∀ (k : Nat) (i1 : Nat), 6 * (u_15 5) - i1 < k → i1 ≤ 6 * (u_15 5) → ∀ (H : Heap) (locs : List Loc) (ls : Array Slot), va_P D classes [(m5, .inl (ax 0, 2, .inl (fun j => nI (nw j)))), (m4, .inl (ax 0, 4, .inl (fun j => nI (tz j)))), (m3, .inl (ax 0, 3072, .inl (cpf tx x_32 (768 * (nw wh + 1)) i1))), (m0, .inr (11, [.int s_thrown, .int 0, .ref m1, .int (nI n), .int s_outSize, .ref m2, .int (nI (u_15 2)), .int (nI (u_15 3)), .int (nI (u_15 0)), .int (nI (u_15 1)), .int 0, .ref m3, .ref m4, .ref m5, .int s_isProgram, .int s_half, .ref m6, .ref m7, .ref m8, .ref m9, .ref m10, .ref m11, .ref m12, .ref m13, .ref m14, .ref m15, .ref m16, .ref m17, .ref m18, .ref m19, .ref m20, .int (nI (u_15 5)), .ref m21, .int (nI (u_15 6)), .ref m22, .int x_30, .int x_31, .int s_statements, .int s_ifs, .int s_whiles, .int s_variants, .int s_open, .ref m23, .int (nI im), .int s_conditions, .ref m24, .ref m25, .ref m26, .ref m27, .int s_kept, .ref m28, .int s_tops, .ref m29, .int s_used, .ref m30, .ref m31, .int s_looked, .int s_rows, .int s_firstRow, .ref m32, .ref m33, .ref m34, .ref m35, .ref m36, .ref m37, .ref m38, .ref m39, .ref m40, .int s_isBroken, .ref m41, .int (nI (u_15 7)), .ref m42])), (m1, .inl (ax 0, 400, .inl (fun j => nI (g j)))), (m22, .inl (ax 0, 64, .inl (fun j => nI (x_29 j)))), (m21, .inl (ax 0, 1200, .inl x_32))] H → va_D A [(m5, .inl (ax 0, 2, .inl (fun j => nI (nw j)))), (m4, .inl (ax 0, 4, .inl (fun j => nI (tz j)))), (m3, .inl (ax 0, 3072, .inl (cpf tx x_32 (768 * (nw wh + 1)) i1))), (m0, .inr (11, [.int s_thrown, .int 0, .ref m1, .int (nI n), .int s_outSize, .ref m2, .int (nI (u_15 2)), .int (nI (u_15 3)), .int (nI (u_15 0)), .int (nI (u_15 1)), .int 0, .ref m3, .ref m4, .ref m5, .int s_isProgram, .int s_half, .ref m6, .ref m7, .ref m8, .ref m9, .ref m10, .ref m11, .ref m12, .ref m13, .ref m14, .ref m15, .ref m16, .ref m17, .ref m18, .ref m19, .ref m20, .int (nI (u_15 5)), .ref m21, .int (nI (u_15 6)), .ref m22, .int x_30, .int x_31, .int s_statements, .int s_ifs, .int s_whiles, .int s_variants, .int s_open, .ref m23, .int (nI im), .int s_conditions, .ref m24, .ref m25, .ref m26, .ref m27, .int s_kept, .ref m28, .int s_tops, .ref m29, .int s_used, .ref m30, .ref m31, .int s_looked, .int s_rows, .int s_firstRow, .ref m32, .ref m33, .ref m34, .ref m35, .ref m36, .ref m37, .ref m38, .ref m39, .ref m40, .int s_isBroken, .ref m41, .int (nI (u_15 7)), .ref m42])), (m1, .inl (ax 0, 400, .inl (fun j => nI (g j)))), (m22, .inl (ax 0, 64, .inl (fun j => nI (x_29 j)))), (m21, .inl (ax 0, 1200, .inl x_32))] → va_S A s.heap H locs → lv_has ls 4 [(0, .ref m0), (1, .int (nI wh)), (2, .int (nI (nw wh + 1))), (3, .int (nI i1))] → W p l e (headSpec (xws (.code y_Model_readText b_Model_readText 4 (some .int))) ({ frames := 90, cells := 0, slots := 0, locals := 3600 })).room s m ([.ref m0, .int (nI wh)] : List Value).toArray below meth c H locs 0 0 Z9 (F0 m 72 ls []) from key_66 (6 * (u_15 5) - 0 + 1) 0 (Nat.lt_succ_self _) (by first | assumption | omega) _ _ _ (by rw [cpf_0]; exact hP) (by rw [cpf_0]; exact hD) hS (lv_sub hl1 [2, 3, 1, 0] rfl)
        intro k_67
        induction k_67 with
        | zero =>
          intro i1 hk_69
          exact absurd hk_69 (Nat.not_lt_zero _)
        | succ k_67 ih_68 =>
          clear hP hD hS hl1
          intro i1 hk_69 hi1 H locs ls hP hD hS hl1
          refine lv_iload_n hx hb d_Model_readText_72 rfl (lv_at hl1 3 rfl) ?_
          refine lv_bipush (v := 6) hx hb d_Model_readText_73 (by decide) ?_
          refine lv_aload_n hx hb d_Model_readText_75 rfl (lv_at hl1 0 rfl) ?_
          refine va_get (D := D) (ci := 11) (v := .int (nI (u_15 5))) (C := R_Model) (T := F_Model) (N := 72) hx hb hts i_Model hown hK.1 hP 3 rfl rfl 31 (by decide) (hts _ wd_1067) (fun _ h9 => h9) rfl d_Model_readText_76 ?_
          refine lv_imul hx hb d_Model_readText_79 ?_
          refine lv_topi (fun z_70 ez_70 => ?_)
          have ez_70 : z_70 = nI (6 * (u_15 5)) := ez_70.trans (pk_mul 6 (u_15 5))
          subst ez_70
          refine lv_icmp_ge (tgt := 107) hx hb d_Model_readText_80 (by decide) (fun c_71 => ?_) (fun c_71 => ?_)
          · replace c_71 : 6 * (u_15 5) ≤ i1 := (nI_leI (a := 6 * (u_15 5)) (b := i1) (by first | exact Nat.lt_of_lt_of_le (by assumption) (by decide) | exact Nat.lt_of_le_of_lt (by assumption) (by decide) | omega) (by first | exact Nat.lt_of_lt_of_le (by assumption) (by decide) | exact Nat.lt_of_le_of_lt (by assumption) (by decide) | omega)).mp c_71
            rw [show i1 = 6 * (u_15 5) by omega] at hP hD
            have hP7 := hP; have hD7 := hD; clear hP hD
            have hW7 : (fun w9 : va_W => va_P D classes w9 H ∧ va_D A w9) [(m5, .inl (ax 0, 2, .inl (fun j => nI (nw j)))), (m4, .inl (ax 0, 4, .inl (fun j => nI (tz j)))), (m3, .inl (ax 0, 3072, .inl (cpf tx x_32 (768 * (nw wh + 1)) (6 * (u_15 5))))), (m0, .inr (11, [.int s_thrown, .int 0, .ref m1, .int (nI n), .int s_outSize, .ref m2, .int (nI (u_15 2)), .int (nI (u_15 3)), .int (nI (u_15 0)), .int (nI (u_15 1)), .int 0, .ref m3, .ref m4, .ref m5, .int s_isProgram, .int s_half, .ref m6, .ref m7, .ref m8, .ref m9, .ref m10, .ref m11, .ref m12, .ref m13, .ref m14, .ref m15, .ref m16, .ref m17, .ref m18, .ref m19, .ref m20, .int (nI (u_15 5)), .ref m21, .int (nI (u_15 6)), .ref m22, .int x_30, .int x_31, .int s_statements, .int s_ifs, .int s_whiles, .int s_variants, .int s_open, .ref m23, .int (nI im), .int s_conditions, .ref m24, .ref m25, .ref m26, .ref m27, .int s_kept, .ref m28, .int s_tops, .ref m29, .int s_used, .ref m30, .ref m31, .int s_looked, .int s_rows, .int s_firstRow, .ref m32, .ref m33, .ref m34, .ref m35, .ref m36, .ref m37, .ref m38, .ref m39, .ref m40, .int s_isBroken, .ref m41, .int (nI (u_15 7)), .ref m42])), (m1, .inl (ax 0, 400, .inl (fun j => nI (g j)))), (m22, .inl (ax 0, 64, .inl (fun j => nI (x_29 j)))), (m21, .inl (ax 0, 1200, .inl x_32))] := ⟨hP7, hD7⟩
            obtain ⟨hP, hD⟩ := hW7
            clear hP7 hD7
            refine lv_aload_n hx hb d_Model_readText_107 rfl (lv_at hl1 0 rfl) ?_
            refine va_get (D := D) (ci := 11) (v := .ref m4) (C := R_Model) (T := F_Model) (N := 72) hx hb hts i_Model hown hK.1 hP 3 rfl rfl 12 (by decide) (hts _ wd_1048) (fun _ h9 => h9) rfl d_Model_readText_108 ?_
            refine lv_iload_n hx hb d_Model_readText_111 rfl (lv_at hl1 2 rfl) ?_
            refine lv_aload_n hx hb d_Model_readText_112 rfl (lv_at hl1 0 rfl) ?_
            refine va_get (D := D) (ci := 11) (v := .int (nI (u_15 5))) (C := R_Model) (T := F_Model) (N := 72) hx hb hts i_Model hown hK.1 hP 3 rfl rfl 31 (by decide) (hts _ wd_1067) (fun _ h9 => h9) rfl d_Model_readText_113 ?_
            refine va_iast hx hb hK.1 hP hD hS 1 0 rfl rfl (vp_in_nI (by first | assumption | omega) (by decide)) d_Model_readText_116 (fun H_72 locs hP1 hD1 hS1 => ?_)
            rw [nI_clamp (by first | exact Nat.lt_of_lt_of_le (by assumption) (by decide) | exact Nat.lt_of_le_of_lt (by assumption) (by decide) | omega)] at hP1 hD1
            rw [xf_sup tz (nw wh + 1) (u_15 5)] at hP1 hD1
            clear hP hD hS
            have hS := hS1
            have hW7 : (fun w9 : va_W => va_P D classes w9 H_72 ∧ va_D A w9) [(m5, .inl (ax 0, 2, .inl (fun j => nI (nw j)))), (m4, .inl (ax 0, 4, .inl (fun j => nI (sup tz (nw wh + 1) (u_15 5) j)))), (m3, .inl (ax 0, 3072, .inl (cpf tx x_32 (768 * (nw wh + 1)) (6 * (u_15 5))))), (m0, .inr (11, [.int s_thrown, .int 0, .ref m1, .int (nI n), .int s_outSize, .ref m2, .int (nI (u_15 2)), .int (nI (u_15 3)), .int (nI (u_15 0)), .int (nI (u_15 1)), .int 0, .ref m3, .ref m4, .ref m5, .int s_isProgram, .int s_half, .ref m6, .ref m7, .ref m8, .ref m9, .ref m10, .ref m11, .ref m12, .ref m13, .ref m14, .ref m15, .ref m16, .ref m17, .ref m18, .ref m19, .ref m20, .int (nI (u_15 5)), .ref m21, .int (nI (u_15 6)), .ref m22, .int x_30, .int x_31, .int s_statements, .int s_ifs, .int s_whiles, .int s_variants, .int s_open, .ref m23, .int (nI im), .int s_conditions, .ref m24, .ref m25, .ref m26, .ref m27, .int s_kept, .ref m28, .int s_tops, .ref m29, .int s_used, .ref m30, .ref m31, .int s_looked, .int s_rows, .int s_firstRow, .ref m32, .ref m33, .ref m34, .ref m35, .ref m36, .ref m37, .ref m38, .ref m39, .ref m40, .int s_isBroken, .ref m41, .int (nI (u_15 7)), .ref m42])), (m1, .inl (ax 0, 400, .inl (fun j => nI (g j)))), (m22, .inl (ax 0, 64, .inl (fun j => nI (x_29 j)))), (m21, .inl (ax 0, 1200, .inl x_32))] := ⟨hP1, hD1⟩
            obtain ⟨hP, hD⟩ := hW7
            clear hP1 hD1 hS1
            refine lv_aload_n hx hb d_Model_readText_117 rfl (lv_at hl1 0 rfl) ?_
            refine va_get (D := D) (ci := 11) (v := .ref m5) (C := R_Model) (T := F_Model) (N := 72) hx hb hts i_Model hown hK.1 hP 3 rfl rfl 13 (by decide) (hts _ wd_1049) (fun _ h9 => h9) rfl d_Model_readText_118 ?_
            refine lv_iload_n hx hb d_Model_readText_121 rfl (lv_at hl1 1 rfl) ?_
            refine lv_iload_n hx hb d_Model_readText_122 rfl (lv_at hl1 2 rfl) ?_
            refine va_iast hx hb hK.1 hP hD hS 0 0 rfl rfl (vp_in_nI (by first | assumption | omega) (by decide)) d_Model_readText_123 (fun H_73 locs hP1 hD1 hS1 => ?_)
            rw [nI_clamp (by first | exact Nat.lt_of_lt_of_le (by assumption) (by decide) | exact Nat.lt_of_le_of_lt (by assumption) (by decide) | omega)] at hP1 hD1
            rw [xf_sup nw wh (nw wh + 1)] at hP1 hD1
            clear hP hD hS
            have hS := hS1
            have hW7 : (fun w9 : va_W => va_P D classes w9 H_73 ∧ va_D A w9) [(m5, .inl (ax 0, 2, .inl (fun j => nI (sup nw wh (nw wh + 1) j)))), (m4, .inl (ax 0, 4, .inl (fun j => nI (sup tz (nw wh + 1) (u_15 5) j)))), (m3, .inl (ax 0, 3072, .inl (cpf tx x_32 (768 * (nw wh + 1)) (6 * (u_15 5))))), (m0, .inr (11, [.int s_thrown, .int 0, .ref m1, .int (nI n), .int s_outSize, .ref m2, .int (nI (u_15 2)), .int (nI (u_15 3)), .int (nI (u_15 0)), .int (nI (u_15 1)), .int 0, .ref m3, .ref m4, .ref m5, .int s_isProgram, .int s_half, .ref m6, .ref m7, .ref m8, .ref m9, .ref m10, .ref m11, .ref m12, .ref m13, .ref m14, .ref m15, .ref m16, .ref m17, .ref m18, .ref m19, .ref m20, .int (nI (u_15 5)), .ref m21, .int (nI (u_15 6)), .ref m22, .int x_30, .int x_31, .int s_statements, .int s_ifs, .int s_whiles, .int s_variants, .int s_open, .ref m23, .int (nI im), .int s_conditions, .ref m24, .ref m25, .ref m26, .ref m27, .int s_kept, .ref m28, .int s_tops, .ref m29, .int s_used, .ref m30, .ref m31, .int s_looked, .int s_rows, .int s_firstRow, .ref m32, .ref m33, .ref m34, .ref m35, .ref m36, .ref m37, .ref m38, .ref m39, .ref m40, .int s_isBroken, .ref m41, .int (nI (u_15 7)), .ref m42])), (m1, .inl (ax 0, 400, .inl (fun j => nI (g j)))), (m22, .inl (ax 0, 64, .inl (fun j => nI (x_29 j)))), (m21, .inl (ax 0, 1200, .inl x_32))] := ⟨hP1, hD1⟩
            obtain ⟨hP, hD⟩ := hW7
            clear hP1 hD1 hS1
            refine lv_aload_n hx hb d_Model_readText_124 rfl (lv_at hl1 0 rfl) ?_
            refine lv_iconst (v := 0) hx hb d_Model_readText_125 (by decide) ?_
            refine va_put (D := D) (ci := 11) (v := .int 0) (ty := .boolean) (C := R_Model) (T := F_Model) (N := 72) hx hb hts i_Model t_Model t_Model_ok n_Model hown hK.1 hP hD hS 3 rfl rfl 43 (by decide) (hts _ wd_1079) (fun _ h9 => h9) rfl (by decide +kernel) rfl rfl (Nat.le_of_ble_eq_true rfl) d_Model_readText_126 (fun H_74 locs hP1 hD1 hS1 => ?_)
            clear hP hD hS
            have hS := hS1
            have hW7 : (fun w9 : va_W => va_P D classes w9 H_74 ∧ va_D A w9) [(m5, .inl (ax 0, 2, .inl (fun j => nI (sup nw wh (nw wh + 1) j)))), (m4, .inl (ax 0, 4, .inl (fun j => nI (sup tz (nw wh + 1) (u_15 5) j)))), (m3, .inl (ax 0, 3072, .inl (cpf tx x_32 (768 * (nw wh + 1)) (6 * (u_15 5))))), (m0, .inr (11, [.int s_thrown, .int 0, .ref m1, .int (nI n), .int s_outSize, .ref m2, .int (nI (u_15 2)), .int (nI (u_15 3)), .int (nI (u_15 0)), .int (nI (u_15 1)), .int 0, .ref m3, .ref m4, .ref m5, .int s_isProgram, .int s_half, .ref m6, .ref m7, .ref m8, .ref m9, .ref m10, .ref m11, .ref m12, .ref m13, .ref m14, .ref m15, .ref m16, .ref m17, .ref m18, .ref m19, .ref m20, .int (nI (u_15 5)), .ref m21, .int (nI (u_15 6)), .ref m22, .int x_30, .int x_31, .int s_statements, .int s_ifs, .int s_whiles, .int s_variants, .int s_open, .ref m23, .int 0, .int s_conditions, .ref m24, .ref m25, .ref m26, .ref m27, .int s_kept, .ref m28, .int s_tops, .ref m29, .int s_used, .ref m30, .ref m31, .int s_looked, .int s_rows, .int s_firstRow, .ref m32, .ref m33, .ref m34, .ref m35, .ref m36, .ref m37, .ref m38, .ref m39, .ref m40, .int s_isBroken, .ref m41, .int (nI (u_15 7)), .ref m42])), (m1, .inl (ax 0, 400, .inl (fun j => nI (g j)))), (m22, .inl (ax 0, 64, .inl (fun j => nI (x_29 j)))), (m21, .inl (ax 0, 1200, .inl x_32))] := ⟨hP1, hD1⟩
            obtain ⟨hP, hD⟩ := hW7
            clear hP1 hD1 hS1
            refine lv_aload_n hx hb d_Model_readText_129 rfl (lv_at hl1 0 rfl) ?_
            obtain ⟨hPc, hDc, hFc, hCs⟩ := xw_sub3 (wc := [(m0, .inr (11, [.int s_thrown, .int 0, .ref m1, .int (nI n), .int s_outSize, .ref m2, .int (nI (u_15 2)), .int (nI (u_15 3)), .int (nI (u_15 0)), .int (nI (u_15 1)), .int 0, .ref m3, .ref m4, .ref m5, .int s_isProgram, .int s_half, .ref m6, .ref m7, .ref m8, .ref m9, .ref m10, .ref m11, .ref m12, .ref m13, .ref m14, .ref m15, .ref m16, .ref m17, .ref m18, .ref m19, .ref m20, .int (nI (u_15 5)), .ref m21, .int (nI (u_15 6)), .ref m22, .int x_30, .int x_31, .int s_statements, .int s_ifs, .int s_whiles, .int s_variants, .int s_open, .ref m23, .int 0, .int s_conditions, .ref m24, .ref m25, .ref m26, .ref m27, .int s_kept, .ref m28, .int s_tops, .ref m29, .int s_used, .ref m30, .ref m31, .int s_looked, .int s_rows, .int s_firstRow, .ref m32, .ref m33, .ref m34, .ref m35, .ref m36, .ref m37, .ref m38, .ref m39, .ref m40, .int s_isBroken, .ref m41, .int (nI (u_15 7)), .ref m42]))]) hP hD hS hA [3] (by decide) rfl
            have hz := xz_of hN hS
            refine va_calli (va_runV (As := []) (rest := []) ⟨hx, hb, hml, hown, hts⟩ (c_M_fault_0 l D ax m0 m1 m2 m3 m4 m5 m6 m7 m8 m9 m10 m11 m12 m13 m14 m15 m16 m17 m18 m19 m20 m21 m22 m23 m24 m25 m26 m27 m28 m29 m30 m31 m32 m33 m34 m35 m36 m37 m38 m39 m40 m41 m42 s_thrown 0 (nI n) s_outSize (nI (u_15 2)) (nI (u_15 3)) (nI (u_15 1)) s_isProgram s_half (nI (u_15 5)) (nI (u_15 6)) x_30 x_31 s_statements s_ifs s_whiles s_variants s_open 0 s_conditions s_kept s_tops s_used s_looked s_rows s_firstRow s_isBroken (nI (u_15 7)) (u_15 0) H_74.size ) (xcV (n := 0) hts wd_1359 wd_15 wd_1356 wd_1358 ps_67 rfl rfl (by decide +kernel) ⟨Nat.le_of_ble_eq_true rfl, Nat.le_of_ble_eq_true rfl⟩) (xpV (ci := 11) (q0 := 0) (As := []) hPc hK hz hDc rfl rfl) rfl rfl hl1.1 rfl (lv_room (Nat.le_of_ble_eq_true rfl)) d_Model_readText_130 ⟨Nat.le_of_ble_eq_true rfl, Nat.le_of_ble_eq_true rfl⟩) hS (fun q _ h => hFc q h) hFc (fun r_77 u_75 t H_76 locs ht hvm hw hB hz1 hk1 hS1 => ?_)
            try dsimp only at hw
            subst hw
            obtain ⟨hP1, hD1⟩ := hB
            rw [ht] at hP1
            have hjn := xw_join3 (wl := [(m5, .inl (ax 0, 2, .inl (fun j => nI (sup nw wh (nw wh + 1) j)))), (m4, .inl (ax 0, 4, .inl (fun j => nI (sup tz (nw wh + 1) (u_15 5) j)))), (m3, .inl (ax 0, 3072, .inl (cpf tx x_32 (768 * (nw wh + 1)) (6 * (u_15 5))))), (m1, .inl (ax 0, 400, .inl (fun j => nI (g j)))), (m22, .inl (ax 0, 64, .inl (fun j => nI (x_29 j)))), (m21, .inl (ax 0, 1200, .inl x_32)), (m0, .inr (11, [.int s_thrown, .int 0, .ref m1, .int (nI n), .int s_outSize, .ref m2, .int (nI (u_15 2)), .int (nI (u_15 3)), .int (nI (u_15 0)), .int (nI (u_15 1)), .int 0, .ref m3, .ref m4, .ref m5, .int s_isProgram, .int s_half, .ref m6, .ref m7, .ref m8, .ref m9, .ref m10, .ref m11, .ref m12, .ref m13, .ref m14, .ref m15, .ref m16, .ref m17, .ref m18, .ref m19, .ref m20, .int (nI (u_15 5)), .ref m21, .int (nI (u_15 6)), .ref m22, .int x_30, .int x_31, .int s_statements, .int s_ifs, .int s_whiles, .int s_variants, .int s_open, .ref m23, .int 0, .int s_conditions, .ref m24, .ref m25, .ref m26, .ref m27, .int s_kept, .ref m28, .int s_tops, .ref m29, .int s_used, .ref m30, .ref m31, .int s_looked, .int s_rows, .int s_firstRow, .ref m32, .ref m33, .ref m34, .ref m35, .ref m36, .ref m37, .ref m38, .ref m39, .ref m40, .int s_isBroken, .ref m41, .int (nI (u_15 7)), .ref m42]))]) hP hD [3] [0, 1, 2, 4, 5, 6] hCs (by decide) (by decide) hk1 hFc hP1 hD1 rfl
            clear hP1 hD1
            clear hPc hDc hFc hCs hz hz1 hk1 ht hvm
            clear hP hD hS
            have hS := hS1
            obtain ⟨hP, hD⟩ := hjn
            clear hS1
            rw [← hQe]
            obtain ⟨hP9, hD9⟩ := xw_sub2 (wc := (fun (u : Nat → Nat) (xst : Nat → Nat) (xnw : Nat → Nat) (xtz : Nat → Nat) (xnm : Int32) (xsh : Int32) (xf : Nat → Int32) (xtx : Nat → Int32) => [(m0, .inr (11, [.int s_thrown, .int 0, .ref m1, .int (nI n), .int s_outSize, .ref m2, .int (nI (u 2)), .int (nI (u 3)), .int (nI (u 0)), .int (nI (u 1)), .int (nI (u 4)), .ref m3, .ref m4, .ref m5, .int s_isProgram, .int s_half, .ref m6, .ref m7, .ref m8, .ref m9, .ref m10, .ref m11, .ref m12, .ref m13, .ref m14, .ref m15, .ref m16, .ref m17, .ref m18, .ref m19, .ref m20, .int (nI (u 5)), .ref m21, .int (nI (u 6)), .ref m22, .int xnm, .int xsh, .int s_statements, .int s_ifs, .int s_whiles, .int s_variants, .int s_open, .ref m23, .int (nI (u 8)), .int s_conditions, .ref m24, .ref m25, .ref m26, .ref m27, .int s_kept, .ref m28, .int s_tops, .ref m29, .int s_used, .ref m30, .ref m31, .int s_looked, .int s_rows, .int s_firstRow, .ref m32, .ref m33, .ref m34, .ref m35, .ref m36, .ref m37, .ref m38, .ref m39, .ref m40, .int s_isBroken, .ref m41, .int (nI (u 7)), .ref m42])), (m1, .inl (ax 0, 400, .inl (fun j => nI (g j)))), (m22, .inl (ax 0, 64, .inl (fun j => nI (xst j)))), (m21, .inl (ax 0, 1200, .inl xf)), (m5, .inl (ax 0, 2, .inl (fun j => nI (xnw j)))), (m4, .inl (ax 0, 4, .inl (fun j => nI (xtz j)))), (m3, .inl (ax 0, 3072, .inl xtx))]) (ixn [(u_15 0), (u_15 1), (u_15 2), (u_15 3), 0, (u_15 5), (u_15 6), (u_15 7), 0, 0]) x_29 (sup nw wh (nw wh + 1)) (sup tz (nw wh + 1) (u_15 5)) x_30 x_31 x_32 (cpf tx x_32 (768 * (nw wh + 1)) (6 * (u_15 5)))) hP hD [6, 3, 4, 5, 0, 1, 2] (by decide) rfl
            have hex0 : ∀ j, x_29 j < 100 := (by assumption)
            have hex1 : txo (cpf tx x_32 (768 * (nw wh + 1)) (6 * (u_15 5))) (sup tz (nw wh + 1) (u_15 5)) (sup nw wh (nw wh + 1)) 0 := (by rcases Nat.eq_or_lt_of_le hwh with e | e; (first | (subst e; exact txo_old hx0 ho1 ho2 (by first | assumption | omega) (by first | assumption | omega)) | skip); (have e2 : wh = 0 := by omega); subst e2; exact txo_new ho1 ho2 (by first | assumption | omega) hx_34.1 hx_34.2)
            have hex2 : txo (cpf tx x_32 (768 * (nw wh + 1)) (6 * (u_15 5))) (sup tz (nw wh + 1) (u_15 5)) (sup nw wh (nw wh + 1)) 1 := (by rcases Nat.eq_or_lt_of_le hwh with e | e; (first | (subst e; exact txo_new ho1 ho2 (by first | assumption | omega) hx_34.1 hx_34.2) | skip); (have e2 : wh = 0 := by omega); subst e2; exact txo_old hx1 ho1 ho2 (by first | assumption | omega) (by first | assumption | omega))
            have hex3 : ansL g n (0) (tls (cpf tx x_32 (768 * (nw wh + 1)) (6 * (u_15 5))) (sup tz (nw wh + 1) (u_15 5)) (sup nw wh (nw wh + 1)) wh) := (anl_n hs_7 hx_35 (by first | assumption | omega) hs_24 (by first | assumption | omega) tls_new)
            have hex4 : tlk tx (cpf tx x_32 (768 * (nw wh + 1)) (6 * (u_15 5))) tz nw (sup tz (nw wh + 1) (u_15 5)) (sup nw wh (nw wh + 1)) wh (0) := (tlk_new hx0 hx1 ho1 ho2 (by first | assumption | omega))
            have hex5 : imz (0) (0) := (fun q => by first | rfl | omega)
            have hsp0 : (u_15 3) < 20000 := (by first | assumption | omega)
            have hsp1 : 0 ≤ im := (by first | assumption | omega)
            exact W.iret (v := 0) hx hb hr (fun t ht hW => ⟨⟨0, ixn [(u_15 0), (u_15 1), (u_15 2), (u_15 3), 0, (u_15 5), (u_15 6), (u_15 7), 0, 0], rfl, ⟨rfl, ⟨hsp0, hsp1⟩⟩, ⟨x_29, sup nw wh (nw wh + 1), sup tz (nw wh + 1) (u_15 5), x_30, x_31, x_32, (cpf tx x_32 (768 * (nw wh + 1)) (6 * (u_15 5))), hex0, hex1, hex2, hex3, hex4, hex5, by rw [ht]; exact hP9, hD9⟩⟩, hS.F ht⟩) hS.2.2 d_Model_readText_133
          · replace c_71 : ¬ 6 * (u_15 5) ≤ i1 := fun hq9 => c_71 ((nI_leI (a := 6 * (u_15 5)) (b := i1) (by first | exact Nat.lt_of_lt_of_le (by assumption) (by decide) | exact Nat.lt_of_le_of_lt (by assumption) (by decide) | omega) (by first | exact Nat.lt_of_lt_of_le (by assumption) (by decide) | exact Nat.lt_of_le_of_lt (by assumption) (by decide) | omega)).mpr hq9)
            refine lv_aload_n hx hb d_Model_readText_83 rfl (lv_at hl1 0 rfl) ?_
            refine va_get (D := D) (ci := 11) (v := .ref m3) (C := R_Model) (T := F_Model) (N := 72) hx hb hts i_Model hown hK.1 hP 3 rfl rfl 11 (by decide) (hts _ wd_1047) (fun _ h9 => h9) rfl d_Model_readText_84 ?_
            refine lv_sipush (v := 768) hx hb d_Model_readText_87 (by decide) ?_
            refine lv_iload_n hx hb d_Model_readText_90 rfl (lv_at hl1 2 rfl) ?_
            refine lv_imul hx hb d_Model_readText_91 ?_
            refine lv_topi (fun z_78 ez_78 => ?_)
            have ez_78 : z_78 = nI (768 * (nw wh + 1)) := ez_78.trans (pk_mul 768 (nw wh + 1))
            subst ez_78
            refine lv_iload_n hx hb d_Model_readText_92 rfl (lv_at hl1 3 rfl) ?_
            refine lv_iadd hx hb d_Model_readText_93 ?_
            refine lv_topi (fun z_79 ez_79 => ?_)
            have ez_79 : z_79 = nI (768 * (nw wh + 1) + i1) := ez_79.trans (nI_add (768 * (nw wh + 1)) i1)
            subst ez_79
            refine lv_aload_n hx hb d_Model_readText_94 rfl (lv_at hl1 0 rfl) ?_
            refine va_get (D := D) (ci := 11) (v := .ref m21) (C := R_Model) (T := F_Model) (N := 72) hx hb hts i_Model hown hK.1 hP 3 rfl rfl 32 (by decide) (hts _ wd_1068) (fun _ h9 => h9) rfl d_Model_readText_95 ?_
            refine lv_iload_n hx hb d_Model_readText_98 rfl (lv_at hl1 3 rfl) ?_
            refine va_iald hx hb hK.1 hP 6 0 rfl rfl (vp_in_nI (by first | assumption | omega) (by decide)) d_Model_readText_99 ?_
            refine W.eq (g2 := F0 m 100 ls [.int (x_32 i1), .int (nI (768 * (nw wh + 1) + i1)), .ref m3]) (by rw [nI_clamp (by first | exact Nat.lt_of_lt_of_le (by assumption) (by decide) | exact Nat.lt_of_le_of_lt (by assumption) (by decide) | omega)]) ?_
            refine va_iast hx hb hK.1 hP hD hS 2 0 rfl rfl (vp_in_nI (by first | assumption | omega) (by decide)) d_Model_readText_100 (fun H_80 locs hP1 hD1 hS1 => ?_)
            rw [nI_clamp (by first | exact Nat.lt_of_lt_of_le (by assumption) (by decide) | exact Nat.lt_of_le_of_lt (by assumption) (by decide) | omega)] at hP1 hD1
            clear hP hD hS
            have hS := hS1
            have hW7 : (fun w9 : va_W => va_P D classes w9 H_80 ∧ va_D A w9) [(m5, .inl (ax 0, 2, .inl (fun j => nI (nw j)))), (m4, .inl (ax 0, 4, .inl (fun j => nI (tz j)))), (m3, .inl (ax 0, 3072, .inl (upd (cpf tx x_32 (768 * (nw wh + 1)) i1) (768 * (nw wh + 1) + i1) (x_32 i1)))), (m0, .inr (11, [.int s_thrown, .int 0, .ref m1, .int (nI n), .int s_outSize, .ref m2, .int (nI (u_15 2)), .int (nI (u_15 3)), .int (nI (u_15 0)), .int (nI (u_15 1)), .int 0, .ref m3, .ref m4, .ref m5, .int s_isProgram, .int s_half, .ref m6, .ref m7, .ref m8, .ref m9, .ref m10, .ref m11, .ref m12, .ref m13, .ref m14, .ref m15, .ref m16, .ref m17, .ref m18, .ref m19, .ref m20, .int (nI (u_15 5)), .ref m21, .int (nI (u_15 6)), .ref m22, .int x_30, .int x_31, .int s_statements, .int s_ifs, .int s_whiles, .int s_variants, .int s_open, .ref m23, .int (nI im), .int s_conditions, .ref m24, .ref m25, .ref m26, .ref m27, .int s_kept, .ref m28, .int s_tops, .ref m29, .int s_used, .ref m30, .ref m31, .int s_looked, .int s_rows, .int s_firstRow, .ref m32, .ref m33, .ref m34, .ref m35, .ref m36, .ref m37, .ref m38, .ref m39, .ref m40, .int s_isBroken, .ref m41, .int (nI (u_15 7)), .ref m42])), (m1, .inl (ax 0, 400, .inl (fun j => nI (g j)))), (m22, .inl (ax 0, 64, .inl (fun j => nI (x_29 j)))), (m21, .inl (ax 0, 1200, .inl x_32))] := ⟨hP1, hD1⟩
            obtain ⟨hP, hD⟩ := hW7
            clear hP1 hD1 hS1
            refine lv_iinc (v := nI (i1 + 1)) (lv' := [(3, .int (nI (i1 + 1))), (0, .ref m0), (1, .int (nI wh)), (2, .int (nI (nw wh + 1)))]) hx hb d_Model_readText_101 hl1 (k := 3) rfl (nI_add i1 1) (by decide) rfl (fun ls hl2 => ?_)
            clear hl1; have hl1 := hl2; clear hl2
            refine lv_goto (tgt := 72) hx hb d_Model_readText_104 (by decide) ?_
            rw [cpf_upd tx x_32 (768 * (nw wh + 1)) i1] at hP hD
            exact ih_68 (i1 + 1) (by first | assumption | omega) (by first | assumption | omega) _ _ _ (hP.sub [0, 1, 2, 3, 4, 5, 6] rfl) (hD.sub [0, 1, 2, 3, 4, 5, 6] (by decide) rfl) hS (lv_sub hl1 [1, 2, 3, 0] rfl)
    · replace c_44 : ¬ u_15 2 = 0 := fun hq9 => c_44 ((nI_eq (a := u_15 2) (b := 0) (by first | exact Nat.lt_of_lt_of_le (by assumption) (by decide) | exact Nat.lt_of_le_of_lt (by assumption) (by decide) | omega) (by decide)).mpr hq9)
      refine lv_iconst (v := 1) hx hb d_Model_readText_24 (by decide) ?_
      refine lv_goto (tgt := 29) hx hb d_Model_readText_25 (by decide) ?_
      refine va_put (D := D) (ci := 11) (v := .int 1) (ty := .boolean) (C := R_Model) (T := F_Model) (N := 72) hx hb hts i_Model t_Model t_Model_ok n_Model hown hK.1 hP hD hS 3 rfl rfl 10 (by decide) (hts _ wd_1046) (fun _ h9 => h9) rfl (by decide +kernel) rfl rfl (Nat.le_of_ble_eq_true rfl) d_Model_readText_29 (fun H_81 locs hP1 hD1 hS1 => ?_)
      clear hP hD hS
      have hS := hS1
      have hW7 : (fun w9 : va_W => va_P D classes w9 H_81 ∧ va_D A w9) [(m5, .inl (ax 0, 2, .inl (fun j => nI (nw j)))), (m4, .inl (ax 0, 4, .inl (fun j => nI (tz j)))), (m3, .inl (ax 0, 3072, .inl tx)), (m0, .inr (11, [.int s_thrown, .int 0, .ref m1, .int (nI n), .int s_outSize, .ref m2, .int (nI (u_15 2)), .int (nI (u_15 3)), .int (nI (u_15 0)), .int (nI (u_15 1)), .int 1, .ref m3, .ref m4, .ref m5, .int s_isProgram, .int s_half, .ref m6, .ref m7, .ref m8, .ref m9, .ref m10, .ref m11, .ref m12, .ref m13, .ref m14, .ref m15, .ref m16, .ref m17, .ref m18, .ref m19, .ref m20, .int (nI (u_15 5)), .ref m21, .int (nI (u_15 6)), .ref m22, .int x_30, .int x_31, .int s_statements, .int s_ifs, .int s_whiles, .int s_variants, .int s_open, .ref m23, .int (nI im), .int s_conditions, .ref m24, .ref m25, .ref m26, .ref m27, .int s_kept, .ref m28, .int s_tops, .ref m29, .int s_used, .ref m30, .ref m31, .int s_looked, .int s_rows, .int s_firstRow, .ref m32, .ref m33, .ref m34, .ref m35, .ref m36, .ref m37, .ref m38, .ref m39, .ref m40, .int s_isBroken, .ref m41, .int (nI (u_15 7)), .ref m42])), (m1, .inl (ax 0, 400, .inl (fun j => nI (g j)))), (m22, .inl (ax 0, 64, .inl (fun j => nI (x_29 j)))), (m21, .inl (ax 0, 1200, .inl x_32))] := ⟨hP1, hD1⟩
      obtain ⟨hP, hD⟩ := hW7
      clear hP1 hD1 hS1
      refine lv_aload_n hx hb d_Model_readText_32 rfl (lv_at hl1 0 rfl) ?_
      refine va_get (D := D) (ci := 11) (v := .int 1) (C := R_Model) (T := F_Model) (N := 72) hx hb hts i_Model hown hK.1 hP 3 rfl rfl 10 (by decide) (hts _ wd_1046) (fun _ h9 => h9) rfl d_Model_readText_33 ?_
      refine lv_if_ne (tgt := 129) hx hb d_Model_readText_36 (by decide) (fun c_82 => ?_) (fun c_82 => ?_)
      rotate_left
      · first | exact absurd c_82 (by decide) | exact absurd (by decide) c_82
      refine lv_aload_n hx hb d_Model_readText_129 rfl (lv_at hl1 0 rfl) ?_
      obtain ⟨hPc, hDc, hFc, hCs⟩ := xw_sub3 (wc := [(m0, .inr (11, [.int s_thrown, .int 0, .ref m1, .int (nI n), .int s_outSize, .ref m2, .int (nI (u_15 2)), .int (nI (u_15 3)), .int (nI (u_15 0)), .int (nI (u_15 1)), .int 1, .ref m3, .ref m4, .ref m5, .int s_isProgram, .int s_half, .ref m6, .ref m7, .ref m8, .ref m9, .ref m10, .ref m11, .ref m12, .ref m13, .ref m14, .ref m15, .ref m16, .ref m17, .ref m18, .ref m19, .ref m20, .int (nI (u_15 5)), .ref m21, .int (nI (u_15 6)), .ref m22, .int x_30, .int x_31, .int s_statements, .int s_ifs, .int s_whiles, .int s_variants, .int s_open, .ref m23, .int (nI im), .int s_conditions, .ref m24, .ref m25, .ref m26, .ref m27, .int s_kept, .ref m28, .int s_tops, .ref m29, .int s_used, .ref m30, .ref m31, .int s_looked, .int s_rows, .int s_firstRow, .ref m32, .ref m33, .ref m34, .ref m35, .ref m36, .ref m37, .ref m38, .ref m39, .ref m40, .int s_isBroken, .ref m41, .int (nI (u_15 7)), .ref m42]))]) hP hD hS hA [3] (by decide) rfl
      have hz := xz_of hN hS
      refine va_calli (va_runV (As := []) (rest := []) ⟨hx, hb, hml, hown, hts⟩ (c_M_fault_1 l D ax m0 m1 m2 m3 m4 m5 m6 m7 m8 m9 m10 m11 m12 m13 m14 m15 m16 m17 m18 m19 m20 m21 m22 m23 m24 m25 m26 m27 m28 m29 m30 m31 m32 m33 m34 m35 m36 m37 m38 m39 m40 m41 m42 s_thrown 0 (nI n) s_outSize (nI (u_15 2)) (nI (u_15 3)) (nI (u_15 1)) s_isProgram s_half (nI (u_15 5)) (nI (u_15 6)) x_30 x_31 s_statements s_ifs s_whiles s_variants s_open (nI im) s_conditions s_kept s_tops s_used s_looked s_rows s_firstRow s_isBroken (nI (u_15 7)) (u_15 0) H_81.size ) (xcV (n := 0) hts wd_1359 wd_15 wd_1356 wd_1358 ps_67 rfl rfl (by decide +kernel) ⟨Nat.le_of_ble_eq_true rfl, Nat.le_of_ble_eq_true rfl⟩) (xpV (ci := 11) (q0 := 0) (As := []) hPc hK hz hDc rfl rfl) rfl rfl hl1.1 rfl (lv_room (Nat.le_of_ble_eq_true rfl)) d_Model_readText_130 ⟨Nat.le_of_ble_eq_true rfl, Nat.le_of_ble_eq_true rfl⟩) hS (fun q _ h => hFc q h) hFc (fun r_85 u_83 t H_84 locs ht hvm hw hB hz1 hk1 hS1 => ?_)
      try dsimp only at hw
      subst hw
      obtain ⟨hP1, hD1⟩ := hB
      rw [ht] at hP1
      have hjn := xw_join3 (wl := [(m5, .inl (ax 0, 2, .inl (fun j => nI (nw j)))), (m4, .inl (ax 0, 4, .inl (fun j => nI (tz j)))), (m3, .inl (ax 0, 3072, .inl tx)), (m1, .inl (ax 0, 400, .inl (fun j => nI (g j)))), (m22, .inl (ax 0, 64, .inl (fun j => nI (x_29 j)))), (m21, .inl (ax 0, 1200, .inl x_32)), (m0, .inr (11, [.int s_thrown, .int 0, .ref m1, .int (nI n), .int s_outSize, .ref m2, .int (nI (u_15 2)), .int (nI (u_15 3)), .int (nI (u_15 0)), .int (nI (u_15 1)), .int 1, .ref m3, .ref m4, .ref m5, .int s_isProgram, .int s_half, .ref m6, .ref m7, .ref m8, .ref m9, .ref m10, .ref m11, .ref m12, .ref m13, .ref m14, .ref m15, .ref m16, .ref m17, .ref m18, .ref m19, .ref m20, .int (nI (u_15 5)), .ref m21, .int (nI (u_15 6)), .ref m22, .int x_30, .int x_31, .int s_statements, .int s_ifs, .int s_whiles, .int s_variants, .int s_open, .ref m23, .int (nI im), .int s_conditions, .ref m24, .ref m25, .ref m26, .ref m27, .int s_kept, .ref m28, .int s_tops, .ref m29, .int s_used, .ref m30, .ref m31, .int s_looked, .int s_rows, .int s_firstRow, .ref m32, .ref m33, .ref m34, .ref m35, .ref m36, .ref m37, .ref m38, .ref m39, .ref m40, .int s_isBroken, .ref m41, .int (nI (u_15 7)), .ref m42]))]) hP hD [3] [0, 1, 2, 4, 5, 6] hCs (by decide) (by decide) hk1 hFc hP1 hD1 rfl
      clear hP1 hD1
      clear hPc hDc hFc hCs hz hz1 hk1 ht hvm
      clear hP hD hS
      have hS := hS1
      obtain ⟨hP, hD⟩ := hjn
      clear hS1
      rw [← hQe]
      obtain ⟨hP9, hD9⟩ := xw_sub2 (wc := (fun (u : Nat → Nat) (xst : Nat → Nat) (xnw : Nat → Nat) (xtz : Nat → Nat) (xnm : Int32) (xsh : Int32) (xf : Nat → Int32) (xtx : Nat → Int32) => [(m0, .inr (11, [.int s_thrown, .int 0, .ref m1, .int (nI n), .int s_outSize, .ref m2, .int (nI (u 2)), .int (nI (u 3)), .int (nI (u 0)), .int (nI (u 1)), .int (nI (u 4)), .ref m3, .ref m4, .ref m5, .int s_isProgram, .int s_half, .ref m6, .ref m7, .ref m8, .ref m9, .ref m10, .ref m11, .ref m12, .ref m13, .ref m14, .ref m15, .ref m16, .ref m17, .ref m18, .ref m19, .ref m20, .int (nI (u 5)), .ref m21, .int (nI (u 6)), .ref m22, .int xnm, .int xsh, .int s_statements, .int s_ifs, .int s_whiles, .int s_variants, .int s_open, .ref m23, .int (nI (u 8)), .int s_conditions, .ref m24, .ref m25, .ref m26, .ref m27, .int s_kept, .ref m28, .int s_tops, .ref m29, .int s_used, .ref m30, .ref m31, .int s_looked, .int s_rows, .int s_firstRow, .ref m32, .ref m33, .ref m34, .ref m35, .ref m36, .ref m37, .ref m38, .ref m39, .ref m40, .int s_isBroken, .ref m41, .int (nI (u 7)), .ref m42])), (m1, .inl (ax 0, 400, .inl (fun j => nI (g j)))), (m22, .inl (ax 0, 64, .inl (fun j => nI (xst j)))), (m21, .inl (ax 0, 1200, .inl xf)), (m5, .inl (ax 0, 2, .inl (fun j => nI (xnw j)))), (m4, .inl (ax 0, 4, .inl (fun j => nI (xtz j)))), (m3, .inl (ax 0, 3072, .inl xtx))]) (ixn [(u_15 0), (u_15 1), (u_15 2), (u_15 3), 1, (u_15 5), (u_15 6), (u_15 7), im, ((u_15 0) + 1)]) x_29 nw tz x_30 x_31 x_32 tx) hP hD [6, 3, 4, 5, 0, 1, 2] (by decide) rfl
      have hex0 : ∀ j, x_29 j < 100 := (by assumption)
      have hex1 : txo tx tz nw 0 := (by assumption)
      have hex2 : txo tx tz nw 1 := (by assumption)
      have hex3 : ansL g n (((u_15 0) + 1)) (tls tx tz nw wh) := (by first | exact anl_x hs_7 hx_35 (by first | assumption | omega) | exact anl_e hs_7 hx_35 (by first | assumption | omega) hs_24 (by first | assumption | omega))
      have hex4 : tlk tx tx tz nw tz nw wh (((u_15 0) + 1)) := tlk.rf
      have hex5 : imz (((u_15 0) + 1)) (im) := (fun q => by first | rfl | omega)
      have hsp0 : (u_15 3) < 20000 := (by first | assumption | omega)
      have hsp1 : im ≤ im := (by first | assumption | omega)
      exact W.iret (v := nI ((u_15 0) + 1)) hx hb hr (fun t ht hW => ⟨⟨nI ((u_15 0) + 1), ixn [(u_15 0), (u_15 1), (u_15 2), (u_15 3), 1, (u_15 5), (u_15 6), (u_15 7), im, ((u_15 0) + 1)], rfl, ⟨rfl, ⟨hsp0, hsp1⟩⟩, ⟨x_29, nw, tz, x_30, x_31, x_32, tx, hex0, hex1, hex2, hex3, hex4, hex5, by rw [ht]; exact hP9, hD9⟩⟩, hS.F ht⟩) hS.2.2 d_Model_readText_133
