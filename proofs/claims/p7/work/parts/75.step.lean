def stp (r i l1 w1 : Nat) : Prop := r = 4294967295 ∨ r = i + 1 ∨ (r = l1 + 1 ∧ (w1 = 2 ∨ w1 = 5))
abbrev b_Model_step : ByteArray := prog_13_method_89_code
def y_Model_step : MethodName := ⟨R_Model, "step", "(I)I"⟩
theorem d_Model_step_0 : decode b_Model_step 0 = .ok (.aload_n 0, 1) := by decide +kernel
theorem d_Model_step_1 : decode b_Model_step 1 = .ok (.getfield 29, 3) := by decide +kernel
theorem d_Model_step_4 : decode b_Model_step 4 = .ok (.iload_n 1, 1) := by decide +kernel
theorem d_Model_step_5 : decode b_Model_step 5 = .ok (.iaload, 1) := by decide +kernel
theorem d_Model_step_6 : decode b_Model_step 6 = .ok (.ifCond .ne 33, 3) := by decide +kernel
theorem d_Model_step_9 : decode b_Model_step 9 = .ok (.aload_n 0, 1) := by decide +kernel
theorem d_Model_step_10 : decode b_Model_step 10 = .ok (.getfield 137, 3) := by decide +kernel
theorem d_Model_step_13 : decode b_Model_step 13 = .ok (.aload_n 0, 1) := by decide +kernel
theorem d_Model_step_14 : decode b_Model_step 14 = .ok (.getfield 35, 3) := by decide +kernel
theorem d_Model_step_17 : decode b_Model_step 17 = .ok (.iload_n 1, 1) := by decide +kernel
theorem d_Model_step_18 : decode b_Model_step 18 = .ok (.iaload, 1) := by decide +kernel
theorem d_Model_step_19 : decode b_Model_step 19 = .ok (.aload_n 0, 1) := by decide +kernel
theorem d_Model_step_20 : decode b_Model_step 20 = .ok (.aload_n 0, 1) := by decide +kernel
theorem d_Model_step_21 : decode b_Model_step 21 = .ok (.getfield 38, 3) := by decide +kernel
theorem d_Model_step_24 : decode b_Model_step 24 = .ok (.iload_n 1, 1) := by decide +kernel
theorem d_Model_step_25 : decode b_Model_step 25 = .ok (.iaload, 1) := by decide +kernel
theorem d_Model_step_26 : decode b_Model_step 26 = .ok (.aload_n 0, 1) := by decide +kernel
theorem d_Model_step_27 : decode b_Model_step 27 = .ok (.getfield 41, 3) := by decide +kernel
theorem d_Model_step_30 : decode b_Model_step 30 = .ok (.iload_n 1, 1) := by decide +kernel
theorem d_Model_step_31 : decode b_Model_step 31 = .ok (.iaload, 1) := by decide +kernel
theorem d_Model_step_32 : decode b_Model_step 32 = .ok (.invokevirtual 467, 3) := by decide +kernel
theorem d_Model_step_35 : decode b_Model_step 35 = .ok (.lastore, 1) := by decide +kernel
theorem d_Model_step_36 : decode b_Model_step 36 = .ok (.goto 97, 3) := by decide +kernel
theorem d_Model_step_39 : decode b_Model_step 39 = .ok (.aload_n 0, 1) := by decide +kernel
theorem d_Model_step_40 : decode b_Model_step 40 = .ok (.getfield 29, 3) := by decide +kernel
theorem d_Model_step_43 : decode b_Model_step 43 = .ok (.iload_n 1, 1) := by decide +kernel
theorem d_Model_step_44 : decode b_Model_step 44 = .ok (.iaload, 1) := by decide +kernel
theorem d_Model_step_45 : decode b_Model_step 45 = .ok (.iconst 2, 1) := by decide +kernel
theorem d_Model_step_46 : decode b_Model_step 46 = .ok (.if_icmp .eq 13, 3) := by decide +kernel
theorem d_Model_step_49 : decode b_Model_step 49 = .ok (.aload_n 0, 1) := by decide +kernel
theorem d_Model_step_50 : decode b_Model_step 50 = .ok (.getfield 29, 3) := by decide +kernel
theorem d_Model_step_53 : decode b_Model_step 53 = .ok (.iload_n 1, 1) := by decide +kernel
theorem d_Model_step_54 : decode b_Model_step 54 = .ok (.iaload, 1) := by decide +kernel
theorem d_Model_step_55 : decode b_Model_step 55 = .ok (.iconst 5, 1) := by decide +kernel
theorem d_Model_step_56 : decode b_Model_step 56 = .ok (.if_icmp .ne 41, 3) := by decide +kernel
theorem d_Model_step_59 : decode b_Model_step 59 = .ok (.aload_n 0, 1) := by decide +kernel
theorem d_Model_step_60 : decode b_Model_step 60 = .ok (.aload_n 0, 1) := by decide +kernel
theorem d_Model_step_61 : decode b_Model_step 61 = .ok (.getfield 66, 3) := by decide +kernel
theorem d_Model_step_64 : decode b_Model_step 64 = .ok (.aload_n 0, 1) := by decide +kernel
theorem d_Model_step_65 : decode b_Model_step 65 = .ok (.getfield 44, 3) := by decide +kernel
theorem d_Model_step_68 : decode b_Model_step 68 = .ok (.iload_n 1, 1) := by decide +kernel
theorem d_Model_step_69 : decode b_Model_step 69 = .ok (.iaload, 1) := by decide +kernel
theorem d_Model_step_70 : decode b_Model_step 70 = .ok (.aload_n 0, 1) := by decide +kernel
theorem d_Model_step_71 : decode b_Model_step 71 = .ok (.getfield 47, 3) := by decide +kernel
theorem d_Model_step_74 : decode b_Model_step 74 = .ok (.iload_n 1, 1) := by decide +kernel
theorem d_Model_step_75 : decode b_Model_step 75 = .ok (.iaload, 1) := by decide +kernel
theorem d_Model_step_76 : decode b_Model_step 76 = .ok (.invokevirtual 475, 3) := by decide +kernel
theorem d_Model_step_79 : decode b_Model_step 79 = .ok (.ifCond .eq 9, 3) := by decide +kernel
theorem d_Model_step_82 : decode b_Model_step 82 = .ok (.iload_n 1, 1) := by decide +kernel
theorem d_Model_step_83 : decode b_Model_step 83 = .ok (.iconst 1, 1) := by decide +kernel
theorem d_Model_step_84 : decode b_Model_step 84 = .ok (.iadd, 1) := by decide +kernel
theorem d_Model_step_85 : decode b_Model_step 85 = .ok (.goto 11, 3) := by decide +kernel
theorem d_Model_step_88 : decode b_Model_step 88 = .ok (.aload_n 0, 1) := by decide +kernel
theorem d_Model_step_89 : decode b_Model_step 89 = .ok (.getfield 63, 3) := by decide +kernel
theorem d_Model_step_92 : decode b_Model_step 92 = .ok (.iload_n 1, 1) := by decide +kernel
theorem d_Model_step_93 : decode b_Model_step 93 = .ok (.iaload, 1) := by decide +kernel
theorem d_Model_step_94 : decode b_Model_step 94 = .ok (.iconst 1, 1) := by decide +kernel
theorem d_Model_step_95 : decode b_Model_step 95 = .ok (.iadd, 1) := by decide +kernel
theorem d_Model_step_96 : decode b_Model_step 96 = .ok (.ireturn, 1) := by decide +kernel
theorem d_Model_step_97 : decode b_Model_step 97 = .ok (.aload_n 0, 1) := by decide +kernel
theorem d_Model_step_98 : decode b_Model_step 98 = .ok (.getfield 29, 3) := by decide +kernel
theorem d_Model_step_101 : decode b_Model_step 101 = .ok (.iload_n 1, 1) := by decide +kernel
theorem d_Model_step_102 : decode b_Model_step 102 = .ok (.iaload, 1) := by decide +kernel
theorem d_Model_step_103 : decode b_Model_step 103 = .ok (.bipush 7, 2) := by decide +kernel
theorem d_Model_step_105 : decode b_Model_step 105 = .ok (.if_icmp .ne 28, 3) := by decide +kernel
theorem d_Model_step_108 : decode b_Model_step 108 = .ok (.aload_n 0, 1) := by decide +kernel
theorem d_Model_step_109 : decode b_Model_step 109 = .ok (.aload_n 0, 1) := by decide +kernel
theorem d_Model_step_110 : decode b_Model_step 110 = .ok (.getfield 66, 3) := by decide +kernel
theorem d_Model_step_113 : decode b_Model_step 113 = .ok (.aload_n 0, 1) := by decide +kernel
theorem d_Model_step_114 : decode b_Model_step 114 = .ok (.getfield 44, 3) := by decide +kernel
theorem d_Model_step_117 : decode b_Model_step 117 = .ok (.iload_n 1, 1) := by decide +kernel
theorem d_Model_step_118 : decode b_Model_step 118 = .ok (.iaload, 1) := by decide +kernel
theorem d_Model_step_119 : decode b_Model_step 119 = .ok (.aload_n 0, 1) := by decide +kernel
theorem d_Model_step_120 : decode b_Model_step 120 = .ok (.getfield 47, 3) := by decide +kernel
theorem d_Model_step_123 : decode b_Model_step 123 = .ok (.iload_n 1, 1) := by decide +kernel
theorem d_Model_step_124 : decode b_Model_step 124 = .ok (.iaload, 1) := by decide +kernel
theorem d_Model_step_125 : decode b_Model_step 125 = .ok (.invokevirtual 475, 3) := by decide +kernel
theorem d_Model_step_128 : decode b_Model_step 128 = .ok (.ifCond .ne 5, 3) := by decide +kernel
theorem d_Model_step_131 : decode b_Model_step 131 = .ok (.iconst (-1), 1) := by decide +kernel
theorem d_Model_step_132 : decode b_Model_step 132 = .ok (.ireturn, 1) := by decide +kernel
theorem d_Model_step_133 : decode b_Model_step 133 = .ok (.iload_n 1, 1) := by decide +kernel
theorem d_Model_step_134 : decode b_Model_step 134 = .ok (.iconst 1, 1) := by decide +kernel
theorem d_Model_step_135 : decode b_Model_step 135 = .ok (.iadd, 1) := by decide +kernel
theorem d_Model_step_136 : decode b_Model_step 136 = .ok (.ireturn, 1) := by decide +kernel
set_option maxHeartbeats 40000000 in
set_option maxRecDepth 100000 in
theorem c_M_step (l : Launch) (D : va_G) (ax : Nat → ClassId) (m0 m1 m2 m3 m4 m5 m6 m7 m8 m9 m10 m11 m12 m13 m14 m15 m16 m17 m18 m19 m20 m21 m22 m23 m24 m25 m26 m27 m28 m29 m30 m31 m32 m33 m34 m35 m36 m37 m38 m39 m40 m41 m42 : Nat) (s_thrown s_taped s_size s_outSize s_kind s_value s_begin s_end s_failed s_isProgram s_half s_signs s_stacked s_name s_shift s_statements s_ifs s_whiles s_variants s_open s_isMade s_conditions s_kept s_tops s_used s_looked s_rows s_firstRow s_isBroken s_atoms : Int32) (ix o P : Nat) (op lk fi fs tg se ss gs tr : Nat → Nat) (tn tm pl vr : Nat → Int32) (vs : Nat → Int64) (sz : Nat) (hix : ix < 80) (hi : iok o P op fi fs se ss tg gs tn vr pl ix) (hP5 : P ≤ 500) (ho : o ≤ 1) (hlk : op ix = 2 ∨ op ix = 5 → lk ix < 80) (htr : ∀ j, tr j ≤ 1) : Met l y_Model_step (xws (.code y_Model_step b_Model_step 2 (some .int))) ({ frames := 50, cells := 0, slots := 0, locals := 2000 }) (va_Pc [.ref m0, .int (nI ix)] (xo D ax [(m0, .inr (11, [.int s_thrown, .int s_taped, .ref m1, .int s_size, .int s_outSize, .ref m2, .int s_kind, .int s_value, .int s_begin, .int s_end, .int s_failed, .ref m3, .ref m4, .ref m5, .int s_isProgram, .int s_half, .ref m6, .ref m7, .ref m8, .ref m9, .ref m10, .ref m11, .ref m12, .ref m13, .ref m14, .ref m15, .ref m16, .ref m17, .ref m18, .ref m19, .ref m20, .int s_signs, .ref m21, .int s_stacked, .ref m22, .int s_name, .int s_shift, .int s_statements, .int s_ifs, .int s_whiles, .int s_variants, .int s_open, .ref m23, .int s_isMade, .int s_conditions, .ref m24, .ref m25, .ref m26, .ref m27, .int s_kept, .ref m28, .int s_tops, .ref m29, .int s_used, .ref m30, .ref m31, .int s_looked, .int s_rows, .int s_firstRow, .ref m32, .ref m33, .ref m34, .ref m35, .ref m36, .ref m37, .ref m38, .ref m39, .ref m40, .int s_isBroken, .ref m41, .int s_atoms, .ref m42])), (m41, .inl (ax 4, 6, .inr (.inl vs))), (m42, .inl (ax 3, 256, .inl (fun j => nI (tr j)))), (m7, .inl (ax 0, 80, .inl (fun j => nI (op j)))), (m9, .inl (ax 0, 80, .inl (fun j => nI (tg j)))), (m10, .inl (ax 0, 80, .inl tn)), (m11, .inl (ax 0, 80, .inl tm)), (m19, .inl (ax 0, 6000, .inl pl)), (m12, .inl (ax 0, 80, .inl (fun j => nI (fi j)))), (m13, .inl (ax 0, 80, .inl (fun j => nI (fs j)))), (m18, .inl (ax 0, 80, .inl (fun j => nI (lk j))))] sz)) ((va_Qi (fun (r : Int32) (u : Nat → Nat) => r = nI (u 0) ∧ (stp (u 0) ix (lk ix) (op ix))) (fun (u : Nat → Nat) (t9 : State) => ∃ xtr : Nat → Nat, ∃ xvs : Nat → Int64, (∀ j, xtr j ≤ 1) ∧ va_P D classes [(m0, .inr (11, [.int s_thrown, .int s_taped, .ref m1, .int s_size, .int s_outSize, .ref m2, .int s_kind, .int s_value, .int s_begin, .int s_end, .int s_failed, .ref m3, .ref m4, .ref m5, .int s_isProgram, .int s_half, .ref m6, .ref m7, .ref m8, .ref m9, .ref m10, .ref m11, .ref m12, .ref m13, .ref m14, .ref m15, .ref m16, .ref m17, .ref m18, .ref m19, .ref m20, .int s_signs, .ref m21, .int s_stacked, .ref m22, .int s_name, .int s_shift, .int s_statements, .int s_ifs, .int s_whiles, .int s_variants, .int s_open, .ref m23, .int s_isMade, .int s_conditions, .ref m24, .ref m25, .ref m26, .ref m27, .int s_kept, .ref m28, .int s_tops, .ref m29, .int s_used, .ref m30, .ref m31, .int s_looked, .int s_rows, .int s_firstRow, .ref m32, .ref m33, .ref m34, .ref m35, .ref m36, .ref m37, .ref m38, .ref m39, .ref m40, .int s_isBroken, .ref m41, .int s_atoms, .ref m42])), (m41, .inl (ax 4, 6, .inr (.inl xvs))), (m42, .inl (ax 3, 256, .inl (fun j => nI (xtr j)))), (m7, .inl (ax 0, 80, .inl (fun j => nI (op j)))), (m9, .inl (ax 0, 80, .inl (fun j => nI (tg j)))), (m10, .inl (ax 0, 80, .inl tn)), (m11, .inl (ax 0, 80, .inl tm)), (m19, .inl (ax 0, 6000, .inl pl)), (m12, .inl (ax 0, 80, .inl (fun j => nI (fi j)))), (m13, .inl (ax 0, 80, .inl (fun j => nI (fs j)))), (m18, .inl (ax 0, 80, .inl (fun j => nI (lk j))))] t9.heap ∧ va_D (va_A [(m0, .inr (11, [.int s_thrown, .int s_taped, .ref m1, .int s_size, .int s_outSize, .ref m2, .int s_kind, .int s_value, .int s_begin, .int s_end, .int s_failed, .ref m3, .ref m4, .ref m5, .int s_isProgram, .int s_half, .ref m6, .ref m7, .ref m8, .ref m9, .ref m10, .ref m11, .ref m12, .ref m13, .ref m14, .ref m15, .ref m16, .ref m17, .ref m18, .ref m19, .ref m20, .int s_signs, .ref m21, .int s_stacked, .ref m22, .int s_name, .int s_shift, .int s_statements, .int s_ifs, .int s_whiles, .int s_variants, .int s_open, .ref m23, .int s_isMade, .int s_conditions, .ref m24, .ref m25, .ref m26, .ref m27, .int s_kept, .ref m28, .int s_tops, .ref m29, .int s_used, .ref m30, .ref m31, .int s_looked, .int s_rows, .int s_firstRow, .ref m32, .ref m33, .ref m34, .ref m35, .ref m36, .ref m37, .ref m38, .ref m39, .ref m40, .int s_isBroken, .ref m41, .int s_atoms, .ref m42])), (m41, .inl (ax 4, 6, .inr (.inl vs))), (m42, .inl (ax 3, 256, .inl (fun j => nI (tr j)))), (m7, .inl (ax 0, 80, .inl (fun j => nI (op j)))), (m9, .inl (ax 0, 80, .inl (fun j => nI (tg j)))), (m10, .inl (ax 0, 80, .inl tn)), (m11, .inl (ax 0, 80, .inl tm)), (m19, .inl (ax 0, 6000, .inl pl)), (m12, .inl (ax 0, 80, .inl (fun j => nI (fi j)))), (m13, .inl (ax 0, 80, .inl (fun j => nI (fs j)))), (m18, .inl (ax 0, 80, .inl (fun j => nI (lk j))))] sz) [(m0, .inr (11, [.int s_thrown, .int s_taped, .ref m1, .int s_size, .int s_outSize, .ref m2, .int s_kind, .int s_value, .int s_begin, .int s_end, .int s_failed, .ref m3, .ref m4, .ref m5, .int s_isProgram, .int s_half, .ref m6, .ref m7, .ref m8, .ref m9, .ref m10, .ref m11, .ref m12, .ref m13, .ref m14, .ref m15, .ref m16, .ref m17, .ref m18, .ref m19, .ref m20, .int s_signs, .ref m21, .int s_stacked, .ref m22, .int s_name, .int s_shift, .int s_statements, .int s_ifs, .int s_whiles, .int s_variants, .int s_open, .ref m23, .int s_isMade, .int s_conditions, .ref m24, .ref m25, .ref m26, .ref m27, .int s_kept, .ref m28, .int s_tops, .ref m29, .int s_used, .ref m30, .ref m31, .int s_looked, .int s_rows, .int s_firstRow, .ref m32, .ref m33, .ref m34, .ref m35, .ref m36, .ref m37, .ref m38, .ref m39, .ref m40, .int s_isBroken, .ref m41, .int s_atoms, .ref m42])), (m41, .inl (ax 4, 6, .inr (.inl xvs))), (m42, .inl (ax 3, 256, .inl (fun j => nI (xtr j)))), (m7, .inl (ax 0, 80, .inl (fun j => nI (op j)))), (m9, .inl (ax 0, 80, .inl (fun j => nI (tg j)))), (m10, .inl (ax 0, 80, .inl tn)), (m11, .inl (ax 0, 80, .inl tm)), (m19, .inl (ax 0, 6000, .inl pl)), (m12, .inl (ax 0, 80, .inl (fun j => nI (fi j)))), (m13, .inl (ax 0, 80, .inl (fun j => nI (fs j)))), (m18, .inl (ax 0, 80, .inl (fun j => nI (lk j))))]) (va_A [(m0, .inr (11, [.int s_thrown, .int s_taped, .ref m1, .int s_size, .int s_outSize, .ref m2, .int s_kind, .int s_value, .int s_begin, .int s_end, .int s_failed, .ref m3, .ref m4, .ref m5, .int s_isProgram, .int s_half, .ref m6, .ref m7, .ref m8, .ref m9, .ref m10, .ref m11, .ref m12, .ref m13, .ref m14, .ref m15, .ref m16, .ref m17, .ref m18, .ref m19, .ref m20, .int s_signs, .ref m21, .int s_stacked, .ref m22, .int s_name, .int s_shift, .int s_statements, .int s_ifs, .int s_whiles, .int s_variants, .int s_open, .ref m23, .int s_isMade, .int s_conditions, .ref m24, .ref m25, .ref m26, .ref m27, .int s_kept, .ref m28, .int s_tops, .ref m29, .int s_used, .ref m30, .ref m31, .int s_looked, .int s_rows, .int s_firstRow, .ref m32, .ref m33, .ref m34, .ref m35, .ref m36, .ref m37, .ref m38, .ref m39, .ref m40, .int s_isBroken, .ref m41, .int s_atoms, .ref m42])), (m41, .inl (ax 4, 6, .inr (.inl vs))), (m42, .inl (ax 3, 256, .inl (fun j => nI (tr j)))), (m7, .inl (ax 0, 80, .inl (fun j => nI (op j)))), (m9, .inl (ax 0, 80, .inl (fun j => nI (tg j)))), (m10, .inl (ax 0, 80, .inl tn)), (m11, .inl (ax 0, 80, .inl tm)), (m19, .inl (ax 0, 6000, .inl pl)), (m12, .inl (ax 0, 80, .inl (fun j => nI (fi j)))), (m13, .inl (ax 0, 80, .inl (fun j => nI (fs j)))), (m18, .inl (ax 0, 80, .inl (fun j => nI (lk j))))] sz))) 0 0 (va_A [(m0, .inr (11, [.int s_thrown, .int s_taped, .ref m1, .int s_size, .int s_outSize, .ref m2, .int s_kind, .int s_value, .int s_begin, .int s_end, .int s_failed, .ref m3, .ref m4, .ref m5, .int s_isProgram, .int s_half, .ref m6, .ref m7, .ref m8, .ref m9, .ref m10, .ref m11, .ref m12, .ref m13, .ref m14, .ref m15, .ref m16, .ref m17, .ref m18, .ref m19, .ref m20, .int s_signs, .ref m21, .int s_stacked, .ref m22, .int s_name, .int s_shift, .int s_statements, .int s_ifs, .int s_whiles, .int s_variants, .int s_open, .ref m23, .int s_isMade, .int s_conditions, .ref m24, .ref m25, .ref m26, .ref m27, .int s_kept, .ref m28, .int s_tops, .ref m29, .int s_used, .ref m30, .ref m31, .int s_looked, .int s_rows, .int s_firstRow, .ref m32, .ref m33, .ref m34, .ref m35, .ref m36, .ref m37, .ref m38, .ref m39, .ref m40, .int s_isBroken, .ref m41, .int s_atoms, .ref m42])), (m41, .inl (ax 4, 6, .inr (.inl vs))), (m42, .inl (ax 3, 256, .inl (fun j => nI (tr j)))), (m7, .inl (ax 0, 80, .inl (fun j => nI (op j)))), (m9, .inl (ax 0, 80, .inl (fun j => nI (tg j)))), (m10, .inl (ax 0, 80, .inl tn)), (m11, .inl (ax 0, 80, .inl tm)), (m19, .inl (ax 0, 6000, .inl pl)), (m12, .inl (ax 0, 80, .inl (fun j => nI (fi j)))), (m13, .inl (ax 0, 80, .inl (fun j => nI (fs j)))), (m18, .inl (ax 0, 80, .inl (fun j => nI (lk j))))] sz) := by
  refine Met.ofW (cc := b_Model_step) (maxL := 2) (ret := (some .int)) (by decide) rfl ?_
  intro p e s m args below meth c s₁ B hml hv
  obtain ⟨rfl, hsz, hP, hK, hD0⟩ := hv
  have hx := B.exec
  have hb := B.bytes
  have hr := B.returns
  have hts := xw_hts B.pre
  have hown : s.vm.findClass R_Model = some m.cls := findClass_of_methodNamed B.named
  have hlocks := B.notSynchronized
  subst hsz
  have hD := hD0.self (sz := s.heap.size)
  have hN := xz_entry hP
  generalize hAe : va_A [(m0, .inr (11, [.int s_thrown, .int s_taped, .ref m1, .int s_size, .int s_outSize, .ref m2, .int s_kind, .int s_value, .int s_begin, .int s_end, .int s_failed, .ref m3, .ref m4, .ref m5, .int s_isProgram, .int s_half, .ref m6, .ref m7, .ref m8, .ref m9, .ref m10, .ref m11, .ref m12, .ref m13, .ref m14, .ref m15, .ref m16, .ref m17, .ref m18, .ref m19, .ref m20, .int s_signs, .ref m21, .int s_stacked, .ref m22, .int s_name, .int s_shift, .int s_statements, .int s_ifs, .int s_whiles, .int s_variants, .int s_open, .ref m23, .int s_isMade, .int s_conditions, .ref m24, .ref m25, .ref m26, .ref m27, .int s_kept, .ref m28, .int s_tops, .ref m29, .int s_used, .ref m30, .ref m31, .int s_looked, .int s_rows, .int s_firstRow, .ref m32, .ref m33, .ref m34, .ref m35, .ref m36, .ref m37, .ref m38, .ref m39, .ref m40, .int s_isBroken, .ref m41, .int s_atoms, .ref m42])), (m41, .inl (ax 4, 6, .inr (.inl vs))), (m42, .inl (ax 3, 256, .inl (fun j => nI (tr j)))), (m7, .inl (ax 0, 80, .inl (fun j => nI (op j)))), (m9, .inl (ax 0, 80, .inl (fun j => nI (tg j)))), (m10, .inl (ax 0, 80, .inl tn)), (m11, .inl (ax 0, 80, .inl tm)), (m19, .inl (ax 0, 6000, .inl pl)), (m12, .inl (ax 0, 80, .inl (fun j => nI (fi j)))), (m13, .inl (ax 0, 80, .inl (fun j => nI (fs j)))), (m18, .inl (ax 0, 80, .inl (fun j => nI (lk j))))] s.heap.size = A at hD hN ⊢
  have hA : ∀ q : Nat, s.heap.size ≤ q → A q := fun q h => by rw [← hAe]; exact Or.inr h
  have hS : va_S A s.heap s.heap [] := va_S.rf
  have hl0 := lv_entry ([.ref m0, .int (nI ix)]) (n := 2) (Nat.le_of_ble_eq_true rfl)
  rw [lg_entry_eq]
  generalize (lg_sl ([.ref m0, .int (nI ix)]) ++ List.replicate (2 - (lg_sl ([.ref m0, .int (nI ix)])).length) Slot.unset).toArray = ls at hl0 ⊢
  have hl1 : lv_has ls 2 [(0, .ref m0), (1, .int (nI ix))] := hl0
  refine xw_gen (fun Z9 hQe => ?_)
  have hop := hi.1
  refine lv_aload_n hx hb d_Model_step_0 rfl (lv_at hl1 0 rfl) ?_
  refine va_get (D := D) (ci := 11) (v := .ref m7) (C := R_Model) (T := F_Model) (N := 72) hx hb hts i_Model hown hK.1 hP 0 rfl rfl 17 (by decide) (hts _ wd_1053) (fun _ h9 => h9) rfl d_Model_step_1 ?_
  refine lv_iload_n hx hb d_Model_step_4 rfl (lv_at hl1 1 rfl) ?_
  refine va_iald hx hb hK.1 hP 3 0 rfl rfl (vp_in_nI (by first | assumption | omega) (by decide)) d_Model_step_5 ?_
  refine W.eq (g2 := F0 m 6 ls [.int (nI (op ix))]) (by rw [nI_clamp (by first | exact Nat.lt_of_lt_of_le (by assumption) (by decide) | exact Nat.lt_of_le_of_lt (by assumption) (by decide) | omega)]) ?_
  refine lv_if_ne (tgt := 39) hx hb d_Model_step_6 (by decide) (fun c_1 => ?_) (fun c_1 => ?_)
  · replace c_1 : ¬ op ix = 0 := fun hq9 => c_1 ((nI_eq (a := op ix) (b := 0) (by first | exact Nat.lt_of_lt_of_le (by assumption) (by decide) | exact Nat.lt_of_le_of_lt (by assumption) (by decide) | omega) (by decide)).mpr hq9)
    refine lv_aload_n hx hb d_Model_step_39 rfl (lv_at hl1 0 rfl) ?_
    refine va_get (D := D) (ci := 11) (v := .ref m7) (C := R_Model) (T := F_Model) (N := 72) hx hb hts i_Model hown hK.1 hP 0 rfl rfl 17 (by decide) (hts _ wd_1053) (fun _ h9 => h9) rfl d_Model_step_40 ?_
    refine lv_iload_n hx hb d_Model_step_43 rfl (lv_at hl1 1 rfl) ?_
    refine va_iald hx hb hK.1 hP 3 0 rfl rfl (vp_in_nI (by first | assumption | omega) (by decide)) d_Model_step_44 ?_
    refine W.eq (g2 := F0 m 45 ls [.int (nI (op ix))]) (by rw [nI_clamp (by first | exact Nat.lt_of_lt_of_le (by assumption) (by decide) | exact Nat.lt_of_le_of_lt (by assumption) (by decide) | omega)]) ?_
    refine lv_iconst (v := 2) hx hb d_Model_step_45 (by decide) ?_
    refine lv_icmp_eq (tgt := 59) hx hb d_Model_step_46 (by decide) (fun c_2 => ?_) (fun c_2 => ?_)
    · replace c_2 : op ix = 2 := (nI_eq (a := op ix) (b := 2) (by first | exact Nat.lt_of_lt_of_le (by assumption) (by decide) | exact Nat.lt_of_le_of_lt (by assumption) (by decide) | omega) (by decide)).mp c_2
      obtain ⟨a9, ea9, ha9, hw9, hh9, h96⟩ := hi.2.1 (by first | assumption | omega)
      refine lv_aload_n hx hb d_Model_step_59 rfl (lv_at hl1 0 rfl) ?_
      refine lv_aload_n hx hb d_Model_step_60 rfl (lv_at hl1 0 rfl) ?_
      refine va_get (D := D) (ci := 11) (v := .ref m19) (C := R_Model) (T := F_Model) (N := 72) hx hb hts i_Model hown hK.1 hP 0 rfl rfl 29 (by decide) (hts _ wd_1065) (fun _ h9 => h9) rfl d_Model_step_61 ?_
      refine lv_aload_n hx hb d_Model_step_64 rfl (lv_at hl1 0 rfl) ?_
      refine va_get (D := D) (ci := 11) (v := .ref m12) (C := R_Model) (T := F_Model) (N := 72) hx hb hts i_Model hown hK.1 hP 0 rfl rfl 22 (by decide) (hts _ wd_1058) (fun _ h9 => h9) rfl d_Model_step_65 ?_
      refine lv_iload_n hx hb d_Model_step_68 rfl (lv_at hl1 1 rfl) ?_
      refine va_iald hx hb hK.1 hP 8 0 rfl rfl (vp_in_nI (by first | assumption | omega) (by decide)) d_Model_step_69 ?_
      refine W.eq (g2 := F0 m 70 ls [.int (nI (fi ix)), .ref m19, .ref m0]) (by rw [nI_clamp (by first | exact Nat.lt_of_lt_of_le (by assumption) (by decide) | exact Nat.lt_of_le_of_lt (by assumption) (by decide) | omega)]) ?_
      refine lv_aload_n hx hb d_Model_step_70 rfl (lv_at hl1 0 rfl) ?_
      refine va_get (D := D) (ci := 11) (v := .ref m13) (C := R_Model) (T := F_Model) (N := 72) hx hb hts i_Model hown hK.1 hP 0 rfl rfl 23 (by decide) (hts _ wd_1059) (fun _ h9 => h9) rfl d_Model_step_71 ?_
      refine lv_iload_n hx hb d_Model_step_74 rfl (lv_at hl1 1 rfl) ?_
      refine va_iald hx hb hK.1 hP 9 0 rfl rfl (vp_in_nI (by first | assumption | omega) (by decide)) d_Model_step_75 ?_
      refine W.eq (g2 := F0 m 76 ls [.int (nI (fs ix)), .int (nI (fi ix)), .ref m19, .ref m0]) (by rw [nI_clamp (by first | exact Nat.lt_of_lt_of_le (by assumption) (by decide) | exact Nat.lt_of_le_of_lt (by assumption) (by decide) | omega)]) ?_
      obtain ⟨hPc, hDc, hFc, hCs⟩ := xw_sub3 (wc := [(m0, .inr (11, [.int s_thrown, .int s_taped, .ref m1, .int s_size, .int s_outSize, .ref m2, .int s_kind, .int s_value, .int s_begin, .int s_end, .int s_failed, .ref m3, .ref m4, .ref m5, .int s_isProgram, .int s_half, .ref m6, .ref m7, .ref m8, .ref m9, .ref m10, .ref m11, .ref m12, .ref m13, .ref m14, .ref m15, .ref m16, .ref m17, .ref m18, .ref m19, .ref m20, .int s_signs, .ref m21, .int s_stacked, .ref m22, .int s_name, .int s_shift, .int s_statements, .int s_ifs, .int s_whiles, .int s_variants, .int s_open, .ref m23, .int s_isMade, .int s_conditions, .ref m24, .ref m25, .ref m26, .ref m27, .int s_kept, .ref m28, .int s_tops, .ref m29, .int s_used, .ref m30, .ref m31, .int s_looked, .int s_rows, .int s_firstRow, .ref m32, .ref m33, .ref m34, .ref m35, .ref m36, .ref m37, .ref m38, .ref m39, .ref m40, .int s_isBroken, .ref m41, .int s_atoms, .ref m42])), (m41, .inl (ax 4, 6, .inr (.inl vs))), (m42, .inl (ax 3, 256, .inl (fun j => nI (tr j)))), (m19, .inl (ax 0, 6000, .inl pl))]) hP hD hS hA [0, 1, 2, 7] (by decide) rfl
      have hz := xz_of hN hS
      refine va_calli (va_runV (As := [.ref m19, .int (nI (fi ix)), .int (nI (fs ix))]) (rest := []) ⟨hx, hb, hml, hown, hts⟩ (c_M_isTrue l D ax m0 m1 m2 m3 m4 m5 m6 m7 m8 m9 m10 m11 m12 m13 m14 m15 m16 m17 m18 m19 m20 m21 m22 m23 m24 m25 m26 m27 m28 m29 m30 m31 m32 m33 m34 m35 m36 m37 m38 m39 m40 m41 m42 s_thrown s_taped s_size s_outSize s_kind s_value s_begin s_end s_failed s_isProgram s_half s_signs s_stacked s_name s_shift s_statements s_ifs s_whiles s_variants s_open s_isMade s_conditions s_kept s_tops s_used s_looked s_rows s_firstRow s_isBroken s_atoms m19 6000 (fi ix) (fs ix) tr pl vs s.heap.size hw9 hh9 (by first | assumption | omega) (by first | assumption | omega) (by first | assumption | omega) htr) (xcV (n := 3) hts wd_1596 wd_15 wd_1593 wd_1595 ps_113 rfl rfl (by decide +kernel) ⟨Nat.le_of_ble_eq_true rfl, Nat.le_of_ble_eq_true rfl⟩) (xpV (ci := 11) (q0 := 0) (As := [.ref m19, .int (nI (fi ix)), .int (nI (fs ix))]) hPc hK hz hDc rfl rfl) rfl rfl hl1.1 rfl (lv_room (Nat.le_of_ble_eq_true rfl)) d_Model_step_76 ⟨Nat.le_of_ble_eq_true rfl, Nat.le_of_ble_eq_true rfl⟩) hS (fun q _ h => hFc q h) hFc (fun r_5 u_3 t H_4 locs ht hvm hw hB hz1 hk1 hS1 => ?_)
      try dsimp only at hw
      obtain ⟨hw, hs_6⟩ := hw
      subst hw
      obtain ⟨x_7, hx_8, hP1, hD1⟩ := hB
      rw [ht] at hP1
      have hjn := xw_join3 (wl := [(m7, .inl (ax 0, 80, .inl (fun j => nI (op j)))), (m9, .inl (ax 0, 80, .inl (fun j => nI (tg j)))), (m10, .inl (ax 0, 80, .inl tn)), (m11, .inl (ax 0, 80, .inl tm)), (m12, .inl (ax 0, 80, .inl (fun j => nI (fi j)))), (m13, .inl (ax 0, 80, .inl (fun j => nI (fs j)))), (m18, .inl (ax 0, 80, .inl (fun j => nI (lk j)))), (m0, .inr (11, [.int s_thrown, .int s_taped, .ref m1, .int s_size, .int s_outSize, .ref m2, .int s_kind, .int s_value, .int s_begin, .int s_end, .int s_failed, .ref m3, .ref m4, .ref m5, .int s_isProgram, .int s_half, .ref m6, .ref m7, .ref m8, .ref m9, .ref m10, .ref m11, .ref m12, .ref m13, .ref m14, .ref m15, .ref m16, .ref m17, .ref m18, .ref m19, .ref m20, .int s_signs, .ref m21, .int s_stacked, .ref m22, .int s_name, .int s_shift, .int s_statements, .int s_ifs, .int s_whiles, .int s_variants, .int s_open, .ref m23, .int s_isMade, .int s_conditions, .ref m24, .ref m25, .ref m26, .ref m27, .int s_kept, .ref m28, .int s_tops, .ref m29, .int s_used, .ref m30, .ref m31, .int s_looked, .int s_rows, .int s_firstRow, .ref m32, .ref m33, .ref m34, .ref m35, .ref m36, .ref m37, .ref m38, .ref m39, .ref m40, .int s_isBroken, .ref m41, .int s_atoms, .ref m42])), (m41, .inl (ax 4, 6, .inr (.inl vs))), (m42, .inl (ax 3, 256, .inl (fun j => nI (x_7 j)))), (m19, .inl (ax 0, 6000, .inl pl))]) hP hD [0, 1, 2, 7] [3, 4, 5, 6, 8, 9, 10] hCs (by decide) (by decide) hk1 hFc hP1 hD1 rfl
      clear hP1 hD1
      clear hPc hDc hFc hCs hz hz1 hk1 ht hvm
      clear hP hD hS
      have hS := hS1
      obtain ⟨hP, hD⟩ := hjn
      clear hS1
      refine lv_if_eq (tgt := 88) hx hb d_Model_step_79 (by decide) (fun c_9 => ?_) (fun c_9 => ?_)
      · replace c_9 : u_3 0 = 0 := (nI_eq (a := u_3 0) (b := 0) (by first | exact Nat.lt_of_lt_of_le (by assumption) (by decide) | exact Nat.lt_of_le_of_lt (by assumption) (by decide) | omega) (by decide)).mp c_9
        have hlk2 := hlk (by first | assumption | omega)
        refine lv_aload_n hx hb d_Model_step_88 rfl (lv_at hl1 0 rfl) ?_
        refine va_get (D := D) (ci := 11) (v := .ref m18) (C := R_Model) (T := F_Model) (N := 72) hx hb hts i_Model hown hK.1 hP 7 rfl rfl 28 (by decide) (hts _ wd_1064) (fun _ h9 => h9) rfl d_Model_step_89 ?_
        refine lv_iload_n hx hb d_Model_step_92 rfl (lv_at hl1 1 rfl) ?_
        refine va_iald hx hb hK.1 hP 6 0 rfl rfl (vp_in_nI (by first | assumption | omega) (by decide)) d_Model_step_93 ?_
        refine W.eq (g2 := F0 m 94 ls [.int (nI (lk ix))]) (by rw [nI_clamp (by first | exact Nat.lt_of_lt_of_le (by assumption) (by decide) | exact Nat.lt_of_le_of_lt (by assumption) (by decide) | omega)]) ?_
        refine lv_iconst (v := 1) hx hb d_Model_step_94 (by decide) ?_
        refine lv_iadd hx hb d_Model_step_95 ?_
        refine lv_topi (fun z_10 ez_10 => ?_)
        have ez_10 : z_10 = nI (lk ix + 1) := ez_10.trans (nI_add (lk ix) 1)
        subst ez_10
        rw [← hQe]
        obtain ⟨hP9, hD9⟩ := xw_sub2 (wc := (fun (u : Nat → Nat) (xtr : Nat → Nat) (xvs : Nat → Int64) => [(m0, .inr (11, [.int s_thrown, .int s_taped, .ref m1, .int s_size, .int s_outSize, .ref m2, .int s_kind, .int s_value, .int s_begin, .int s_end, .int s_failed, .ref m3, .ref m4, .ref m5, .int s_isProgram, .int s_half, .ref m6, .ref m7, .ref m8, .ref m9, .ref m10, .ref m11, .ref m12, .ref m13, .ref m14, .ref m15, .ref m16, .ref m17, .ref m18, .ref m19, .ref m20, .int s_signs, .ref m21, .int s_stacked, .ref m22, .int s_name, .int s_shift, .int s_statements, .int s_ifs, .int s_whiles, .int s_variants, .int s_open, .ref m23, .int s_isMade, .int s_conditions, .ref m24, .ref m25, .ref m26, .ref m27, .int s_kept, .ref m28, .int s_tops, .ref m29, .int s_used, .ref m30, .ref m31, .int s_looked, .int s_rows, .int s_firstRow, .ref m32, .ref m33, .ref m34, .ref m35, .ref m36, .ref m37, .ref m38, .ref m39, .ref m40, .int s_isBroken, .ref m41, .int s_atoms, .ref m42])), (m41, .inl (ax 4, 6, .inr (.inl xvs))), (m42, .inl (ax 3, 256, .inl (fun j => nI (xtr j)))), (m7, .inl (ax 0, 80, .inl (fun j => nI (op j)))), (m9, .inl (ax 0, 80, .inl (fun j => nI (tg j)))), (m10, .inl (ax 0, 80, .inl tn)), (m11, .inl (ax 0, 80, .inl tm)), (m19, .inl (ax 0, 6000, .inl pl)), (m12, .inl (ax 0, 80, .inl (fun j => nI (fi j)))), (m13, .inl (ax 0, 80, .inl (fun j => nI (fs j)))), (m18, .inl (ax 0, 80, .inl (fun j => nI (lk j))))]) (ixn [(lk ix + 1)]) x_7 vs) hP hD [7, 8, 9, 0, 1, 2, 3, 10, 4, 5, 6] (by decide) rfl
        have hex0 : ∀ j, x_7 j ≤ 1 := (by assumption)
        have hsp0 : stp ((lk ix + 1)) ix (lk ix) (op ix) := (by unfold stp; omega)
        exact W.iret (v := nI (lk ix + 1)) hx hb hr (fun t ht hW => ⟨⟨nI (lk ix + 1), ixn [(lk ix + 1)], rfl, ⟨rfl, hsp0⟩, ⟨x_7, vs, hex0, by rw [ht]; exact hP9, hD9⟩⟩, hS.F ht⟩) hS.2.2 d_Model_step_96
      · replace c_9 : ¬ u_3 0 = 0 := fun hq9 => c_9 ((nI_eq (a := u_3 0) (b := 0) (by first | exact Nat.lt_of_lt_of_le (by assumption) (by decide) | exact Nat.lt_of_le_of_lt (by assumption) (by decide) | omega) (by decide)).mpr hq9)
        refine lv_iload_n hx hb d_Model_step_82 rfl (lv_at hl1 1 rfl) ?_
        refine lv_iconst (v := 1) hx hb d_Model_step_83 (by decide) ?_
        refine lv_iadd hx hb d_Model_step_84 ?_
        refine lv_topi (fun z_11 ez_11 => ?_)
        have ez_11 : z_11 = nI (ix + 1) := ez_11.trans (nI_add ix 1)
        subst ez_11
        refine lv_goto (tgt := 96) hx hb d_Model_step_85 (by decide) ?_
        rw [← hQe]
        obtain ⟨hP9, hD9⟩ := xw_sub2 (wc := (fun (u : Nat → Nat) (xtr : Nat → Nat) (xvs : Nat → Int64) => [(m0, .inr (11, [.int s_thrown, .int s_taped, .ref m1, .int s_size, .int s_outSize, .ref m2, .int s_kind, .int s_value, .int s_begin, .int s_end, .int s_failed, .ref m3, .ref m4, .ref m5, .int s_isProgram, .int s_half, .ref m6, .ref m7, .ref m8, .ref m9, .ref m10, .ref m11, .ref m12, .ref m13, .ref m14, .ref m15, .ref m16, .ref m17, .ref m18, .ref m19, .ref m20, .int s_signs, .ref m21, .int s_stacked, .ref m22, .int s_name, .int s_shift, .int s_statements, .int s_ifs, .int s_whiles, .int s_variants, .int s_open, .ref m23, .int s_isMade, .int s_conditions, .ref m24, .ref m25, .ref m26, .ref m27, .int s_kept, .ref m28, .int s_tops, .ref m29, .int s_used, .ref m30, .ref m31, .int s_looked, .int s_rows, .int s_firstRow, .ref m32, .ref m33, .ref m34, .ref m35, .ref m36, .ref m37, .ref m38, .ref m39, .ref m40, .int s_isBroken, .ref m41, .int s_atoms, .ref m42])), (m41, .inl (ax 4, 6, .inr (.inl xvs))), (m42, .inl (ax 3, 256, .inl (fun j => nI (xtr j)))), (m7, .inl (ax 0, 80, .inl (fun j => nI (op j)))), (m9, .inl (ax 0, 80, .inl (fun j => nI (tg j)))), (m10, .inl (ax 0, 80, .inl tn)), (m11, .inl (ax 0, 80, .inl tm)), (m19, .inl (ax 0, 6000, .inl pl)), (m12, .inl (ax 0, 80, .inl (fun j => nI (fi j)))), (m13, .inl (ax 0, 80, .inl (fun j => nI (fs j)))), (m18, .inl (ax 0, 80, .inl (fun j => nI (lk j))))]) (ixn [(ix + 1)]) x_7 vs) hP hD [7, 8, 9, 0, 1, 2, 3, 10, 4, 5, 6] (by decide) rfl
        have hex0 : ∀ j, x_7 j ≤ 1 := (by assumption)
        have hsp0 : stp ((ix + 1)) ix (lk ix) (op ix) := (by unfold stp; omega)
        exact W.iret (v := nI (ix + 1)) hx hb hr (fun t ht hW => ⟨⟨nI (ix + 1), ixn [(ix + 1)], rfl, ⟨rfl, hsp0⟩, ⟨x_7, vs, hex0, by rw [ht]; exact hP9, hD9⟩⟩, hS.F ht⟩) hS.2.2 d_Model_step_96
    · replace c_2 : ¬ op ix = 2 := fun hq9 => c_2 ((nI_eq (a := op ix) (b := 2) (by first | exact Nat.lt_of_lt_of_le (by assumption) (by decide) | exact Nat.lt_of_le_of_lt (by assumption) (by decide) | omega) (by decide)).mpr hq9)
      refine lv_aload_n hx hb d_Model_step_49 rfl (lv_at hl1 0 rfl) ?_
      refine va_get (D := D) (ci := 11) (v := .ref m7) (C := R_Model) (T := F_Model) (N := 72) hx hb hts i_Model hown hK.1 hP 0 rfl rfl 17 (by decide) (hts _ wd_1053) (fun _ h9 => h9) rfl d_Model_step_50 ?_
      refine lv_iload_n hx hb d_Model_step_53 rfl (lv_at hl1 1 rfl) ?_
      refine va_iald hx hb hK.1 hP 3 0 rfl rfl (vp_in_nI (by first | assumption | omega) (by decide)) d_Model_step_54 ?_
      refine W.eq (g2 := F0 m 55 ls [.int (nI (op ix))]) (by rw [nI_clamp (by first | exact Nat.lt_of_lt_of_le (by assumption) (by decide) | exact Nat.lt_of_le_of_lt (by assumption) (by decide) | omega)]) ?_
      refine lv_iconst (v := 5) hx hb d_Model_step_55 (by decide) ?_
      refine lv_icmp_ne (tgt := 97) hx hb d_Model_step_56 (by decide) (fun c_12 => ?_) (fun c_12 => ?_)
      · replace c_12 : ¬ op ix = 5 := fun hq9 => c_12 ((nI_eq (a := op ix) (b := 5) (by first | exact Nat.lt_of_lt_of_le (by assumption) (by decide) | exact Nat.lt_of_le_of_lt (by assumption) (by decide) | omega) (by decide)).mpr hq9)
        refine lv_aload_n hx hb d_Model_step_97 rfl (lv_at hl1 0 rfl) ?_
        refine va_get (D := D) (ci := 11) (v := .ref m7) (C := R_Model) (T := F_Model) (N := 72) hx hb hts i_Model hown hK.1 hP 0 rfl rfl 17 (by decide) (hts _ wd_1053) (fun _ h9 => h9) rfl d_Model_step_98 ?_
        refine lv_iload_n hx hb d_Model_step_101 rfl (lv_at hl1 1 rfl) ?_
        refine va_iald hx hb hK.1 hP 3 0 rfl rfl (vp_in_nI (by first | assumption | omega) (by decide)) d_Model_step_102 ?_
        refine W.eq (g2 := F0 m 103 ls [.int (nI (op ix))]) (by rw [nI_clamp (by first | exact Nat.lt_of_lt_of_le (by assumption) (by decide) | exact Nat.lt_of_le_of_lt (by assumption) (by decide) | omega)]) ?_
        refine lv_bipush (v := 7) hx hb d_Model_step_103 (by decide) ?_
        refine lv_icmp_ne (tgt := 133) hx hb d_Model_step_105 (by decide) (fun c_13 => ?_) (fun c_13 => ?_)
        · replace c_13 : ¬ op ix = 7 := fun hq9 => c_13 ((nI_eq (a := op ix) (b := 7) (by first | exact Nat.lt_of_lt_of_le (by assumption) (by decide) | exact Nat.lt_of_le_of_lt (by assumption) (by decide) | omega) (by decide)).mpr hq9)
          refine lv_iload_n hx hb d_Model_step_133 rfl (lv_at hl1 1 rfl) ?_
          refine lv_iconst (v := 1) hx hb d_Model_step_134 (by decide) ?_
          refine lv_iadd hx hb d_Model_step_135 ?_
          refine lv_topi (fun z_14 ez_14 => ?_)
          have ez_14 : z_14 = nI (ix + 1) := ez_14.trans (nI_add ix 1)
          subst ez_14
          rw [← hQe]
          obtain ⟨hP9, hD9⟩ := xw_sub2 (wc := (fun (u : Nat → Nat) (xtr : Nat → Nat) (xvs : Nat → Int64) => [(m0, .inr (11, [.int s_thrown, .int s_taped, .ref m1, .int s_size, .int s_outSize, .ref m2, .int s_kind, .int s_value, .int s_begin, .int s_end, .int s_failed, .ref m3, .ref m4, .ref m5, .int s_isProgram, .int s_half, .ref m6, .ref m7, .ref m8, .ref m9, .ref m10, .ref m11, .ref m12, .ref m13, .ref m14, .ref m15, .ref m16, .ref m17, .ref m18, .ref m19, .ref m20, .int s_signs, .ref m21, .int s_stacked, .ref m22, .int s_name, .int s_shift, .int s_statements, .int s_ifs, .int s_whiles, .int s_variants, .int s_open, .ref m23, .int s_isMade, .int s_conditions, .ref m24, .ref m25, .ref m26, .ref m27, .int s_kept, .ref m28, .int s_tops, .ref m29, .int s_used, .ref m30, .ref m31, .int s_looked, .int s_rows, .int s_firstRow, .ref m32, .ref m33, .ref m34, .ref m35, .ref m36, .ref m37, .ref m38, .ref m39, .ref m40, .int s_isBroken, .ref m41, .int s_atoms, .ref m42])), (m41, .inl (ax 4, 6, .inr (.inl xvs))), (m42, .inl (ax 3, 256, .inl (fun j => nI (xtr j)))), (m7, .inl (ax 0, 80, .inl (fun j => nI (op j)))), (m9, .inl (ax 0, 80, .inl (fun j => nI (tg j)))), (m10, .inl (ax 0, 80, .inl tn)), (m11, .inl (ax 0, 80, .inl tm)), (m19, .inl (ax 0, 6000, .inl pl)), (m12, .inl (ax 0, 80, .inl (fun j => nI (fi j)))), (m13, .inl (ax 0, 80, .inl (fun j => nI (fs j)))), (m18, .inl (ax 0, 80, .inl (fun j => nI (lk j))))]) (ixn [(ix + 1)]) tr vs) hP hD [0, 1, 2, 3, 4, 5, 6, 7, 8, 9, 10] (by decide) rfl
          have hex0 : ∀ j, tr j ≤ 1 := (by assumption)
          have hsp0 : stp ((ix + 1)) ix (lk ix) (op ix) := (by unfold stp; omega)
          exact W.iret (v := nI (ix + 1)) hx hb hr (fun t ht hW => ⟨⟨nI (ix + 1), ixn [(ix + 1)], rfl, ⟨rfl, hsp0⟩, ⟨tr, vs, hex0, by rw [ht]; exact hP9, hD9⟩⟩, hS.F ht⟩) hS.2.2 d_Model_step_136
        · replace c_13 : op ix = 7 := (nI_eq (a := op ix) (b := 7) (by first | exact Nat.lt_of_lt_of_le (by assumption) (by decide) | exact Nat.lt_of_le_of_lt (by assumption) (by decide) | omega) (by decide)).mp c_13
          obtain ⟨a9, ea9, ha9, hw9, hh9, h96⟩ := hi.2.1 (by first | assumption | omega)
          refine lv_aload_n hx hb d_Model_step_108 rfl (lv_at hl1 0 rfl) ?_
          refine lv_aload_n hx hb d_Model_step_109 rfl (lv_at hl1 0 rfl) ?_
          refine va_get (D := D) (ci := 11) (v := .ref m19) (C := R_Model) (T := F_Model) (N := 72) hx hb hts i_Model hown hK.1 hP 0 rfl rfl 29 (by decide) (hts _ wd_1065) (fun _ h9 => h9) rfl d_Model_step_110 ?_
          refine lv_aload_n hx hb d_Model_step_113 rfl (lv_at hl1 0 rfl) ?_
          refine va_get (D := D) (ci := 11) (v := .ref m12) (C := R_Model) (T := F_Model) (N := 72) hx hb hts i_Model hown hK.1 hP 0 rfl rfl 22 (by decide) (hts _ wd_1058) (fun _ h9 => h9) rfl d_Model_step_114 ?_
          refine lv_iload_n hx hb d_Model_step_117 rfl (lv_at hl1 1 rfl) ?_
          refine va_iald hx hb hK.1 hP 8 0 rfl rfl (vp_in_nI (by first | assumption | omega) (by decide)) d_Model_step_118 ?_
          refine W.eq (g2 := F0 m 119 ls [.int (nI (fi ix)), .ref m19, .ref m0]) (by rw [nI_clamp (by first | exact Nat.lt_of_lt_of_le (by assumption) (by decide) | exact Nat.lt_of_le_of_lt (by assumption) (by decide) | omega)]) ?_
          refine lv_aload_n hx hb d_Model_step_119 rfl (lv_at hl1 0 rfl) ?_
          refine va_get (D := D) (ci := 11) (v := .ref m13) (C := R_Model) (T := F_Model) (N := 72) hx hb hts i_Model hown hK.1 hP 0 rfl rfl 23 (by decide) (hts _ wd_1059) (fun _ h9 => h9) rfl d_Model_step_120 ?_
          refine lv_iload_n hx hb d_Model_step_123 rfl (lv_at hl1 1 rfl) ?_
          refine va_iald hx hb hK.1 hP 9 0 rfl rfl (vp_in_nI (by first | assumption | omega) (by decide)) d_Model_step_124 ?_
          refine W.eq (g2 := F0 m 125 ls [.int (nI (fs ix)), .int (nI (fi ix)), .ref m19, .ref m0]) (by rw [nI_clamp (by first | exact Nat.lt_of_lt_of_le (by assumption) (by decide) | exact Nat.lt_of_le_of_lt (by assumption) (by decide) | omega)]) ?_
          obtain ⟨hPc, hDc, hFc, hCs⟩ := xw_sub3 (wc := [(m0, .inr (11, [.int s_thrown, .int s_taped, .ref m1, .int s_size, .int s_outSize, .ref m2, .int s_kind, .int s_value, .int s_begin, .int s_end, .int s_failed, .ref m3, .ref m4, .ref m5, .int s_isProgram, .int s_half, .ref m6, .ref m7, .ref m8, .ref m9, .ref m10, .ref m11, .ref m12, .ref m13, .ref m14, .ref m15, .ref m16, .ref m17, .ref m18, .ref m19, .ref m20, .int s_signs, .ref m21, .int s_stacked, .ref m22, .int s_name, .int s_shift, .int s_statements, .int s_ifs, .int s_whiles, .int s_variants, .int s_open, .ref m23, .int s_isMade, .int s_conditions, .ref m24, .ref m25, .ref m26, .ref m27, .int s_kept, .ref m28, .int s_tops, .ref m29, .int s_used, .ref m30, .ref m31, .int s_looked, .int s_rows, .int s_firstRow, .ref m32, .ref m33, .ref m34, .ref m35, .ref m36, .ref m37, .ref m38, .ref m39, .ref m40, .int s_isBroken, .ref m41, .int s_atoms, .ref m42])), (m41, .inl (ax 4, 6, .inr (.inl vs))), (m42, .inl (ax 3, 256, .inl (fun j => nI (tr j)))), (m19, .inl (ax 0, 6000, .inl pl))]) hP hD hS hA [0, 1, 2, 7] (by decide) rfl
          have hz := xz_of hN hS
          refine va_calli (va_runV (As := [.ref m19, .int (nI (fi ix)), .int (nI (fs ix))]) (rest := []) ⟨hx, hb, hml, hown, hts⟩ (c_M_isTrue l D ax m0 m1 m2 m3 m4 m5 m6 m7 m8 m9 m10 m11 m12 m13 m14 m15 m16 m17 m18 m19 m20 m21 m22 m23 m24 m25 m26 m27 m28 m29 m30 m31 m32 m33 m34 m35 m36 m37 m38 m39 m40 m41 m42 s_thrown s_taped s_size s_outSize s_kind s_value s_begin s_end s_failed s_isProgram s_half s_signs s_stacked s_name s_shift s_statements s_ifs s_whiles s_variants s_open s_isMade s_conditions s_kept s_tops s_used s_looked s_rows s_firstRow s_isBroken s_atoms m19 6000 (fi ix) (fs ix) tr pl vs s.heap.size hw9 hh9 (by first | assumption | omega) (by first | assumption | omega) (by first | assumption | omega) htr) (xcV (n := 3) hts wd_1596 wd_15 wd_1593 wd_1595 ps_113 rfl rfl (by decide +kernel) ⟨Nat.le_of_ble_eq_true rfl, Nat.le_of_ble_eq_true rfl⟩) (xpV (ci := 11) (q0 := 0) (As := [.ref m19, .int (nI (fi ix)), .int (nI (fs ix))]) hPc hK hz hDc rfl rfl) rfl rfl hl1.1 rfl (lv_room (Nat.le_of_ble_eq_true rfl)) d_Model_step_125 ⟨Nat.le_of_ble_eq_true rfl, Nat.le_of_ble_eq_true rfl⟩) hS (fun q _ h => hFc q h) hFc (fun r_17 u_15 t H_16 locs ht hvm hw hB hz1 hk1 hS1 => ?_)
          try dsimp only at hw
          obtain ⟨hw, hs_18⟩ := hw
          subst hw
          obtain ⟨x_19, hx_20, hP1, hD1⟩ := hB
          rw [ht] at hP1
          have hjn := xw_join3 (wl := [(m7, .inl (ax 0, 80, .inl (fun j => nI (op j)))), (m9, .inl (ax 0, 80, .inl (fun j => nI (tg j)))), (m10, .inl (ax 0, 80, .inl tn)), (m11, .inl (ax 0, 80, .inl tm)), (m12, .inl (ax 0, 80, .inl (fun j => nI (fi j)))), (m13, .inl (ax 0, 80, .inl (fun j => nI (fs j)))), (m18, .inl (ax 0, 80, .inl (fun j => nI (lk j)))), (m0, .inr (11, [.int s_thrown, .int s_taped, .ref m1, .int s_size, .int s_outSize, .ref m2, .int s_kind, .int s_value, .int s_begin, .int s_end, .int s_failed, .ref m3, .ref m4, .ref m5, .int s_isProgram, .int s_half, .ref m6, .ref m7, .ref m8, .ref m9, .ref m10, .ref m11, .ref m12, .ref m13, .ref m14, .ref m15, .ref m16, .ref m17, .ref m18, .ref m19, .ref m20, .int s_signs, .ref m21, .int s_stacked, .ref m22, .int s_name, .int s_shift, .int s_statements, .int s_ifs, .int s_whiles, .int s_variants, .int s_open, .ref m23, .int s_isMade, .int s_conditions, .ref m24, .ref m25, .ref m26, .ref m27, .int s_kept, .ref m28, .int s_tops, .ref m29, .int s_used, .ref m30, .ref m31, .int s_looked, .int s_rows, .int s_firstRow, .ref m32, .ref m33, .ref m34, .ref m35, .ref m36, .ref m37, .ref m38, .ref m39, .ref m40, .int s_isBroken, .ref m41, .int s_atoms, .ref m42])), (m41, .inl (ax 4, 6, .inr (.inl vs))), (m42, .inl (ax 3, 256, .inl (fun j => nI (x_19 j)))), (m19, .inl (ax 0, 6000, .inl pl))]) hP hD [0, 1, 2, 7] [3, 4, 5, 6, 8, 9, 10] hCs (by decide) (by decide) hk1 hFc hP1 hD1 rfl
          clear hP1 hD1
          clear hPc hDc hFc hCs hz hz1 hk1 ht hvm
          clear hP hD hS
          have hS := hS1
          obtain ⟨hP, hD⟩ := hjn
          clear hS1
          refine lv_if_ne (tgt := 133) hx hb d_Model_step_128 (by decide) (fun c_21 => ?_) (fun c_21 => ?_)
          · replace c_21 : ¬ u_15 0 = 0 := fun hq9 => c_21 ((nI_eq (a := u_15 0) (b := 0) (by first | exact Nat.lt_of_lt_of_le (by assumption) (by decide) | exact Nat.lt_of_le_of_lt (by assumption) (by decide) | omega) (by decide)).mpr hq9)
            refine lv_iload_n hx hb d_Model_step_133 rfl (lv_at hl1 1 rfl) ?_
            refine lv_iconst (v := 1) hx hb d_Model_step_134 (by decide) ?_
            refine lv_iadd hx hb d_Model_step_135 ?_
            refine lv_topi (fun z_22 ez_22 => ?_)
            have ez_22 : z_22 = nI (ix + 1) := ez_22.trans (nI_add ix 1)
            subst ez_22
            rw [← hQe]
            obtain ⟨hP9, hD9⟩ := xw_sub2 (wc := (fun (u : Nat → Nat) (xtr : Nat → Nat) (xvs : Nat → Int64) => [(m0, .inr (11, [.int s_thrown, .int s_taped, .ref m1, .int s_size, .int s_outSize, .ref m2, .int s_kind, .int s_value, .int s_begin, .int s_end, .int s_failed, .ref m3, .ref m4, .ref m5, .int s_isProgram, .int s_half, .ref m6, .ref m7, .ref m8, .ref m9, .ref m10, .ref m11, .ref m12, .ref m13, .ref m14, .ref m15, .ref m16, .ref m17, .ref m18, .ref m19, .ref m20, .int s_signs, .ref m21, .int s_stacked, .ref m22, .int s_name, .int s_shift, .int s_statements, .int s_ifs, .int s_whiles, .int s_variants, .int s_open, .ref m23, .int s_isMade, .int s_conditions, .ref m24, .ref m25, .ref m26, .ref m27, .int s_kept, .ref m28, .int s_tops, .ref m29, .int s_used, .ref m30, .ref m31, .int s_looked, .int s_rows, .int s_firstRow, .ref m32, .ref m33, .ref m34, .ref m35, .ref m36, .ref m37, .ref m38, .ref m39, .ref m40, .int s_isBroken, .ref m41, .int s_atoms, .ref m42])), (m41, .inl (ax 4, 6, .inr (.inl xvs))), (m42, .inl (ax 3, 256, .inl (fun j => nI (xtr j)))), (m7, .inl (ax 0, 80, .inl (fun j => nI (op j)))), (m9, .inl (ax 0, 80, .inl (fun j => nI (tg j)))), (m10, .inl (ax 0, 80, .inl tn)), (m11, .inl (ax 0, 80, .inl tm)), (m19, .inl (ax 0, 6000, .inl pl)), (m12, .inl (ax 0, 80, .inl (fun j => nI (fi j)))), (m13, .inl (ax 0, 80, .inl (fun j => nI (fs j)))), (m18, .inl (ax 0, 80, .inl (fun j => nI (lk j))))]) (ixn [(ix + 1)]) x_19 vs) hP hD [7, 8, 9, 0, 1, 2, 3, 10, 4, 5, 6] (by decide) rfl
            have hex0 : ∀ j, x_19 j ≤ 1 := (by assumption)
            have hsp0 : stp ((ix + 1)) ix (lk ix) (op ix) := (by unfold stp; omega)
            exact W.iret (v := nI (ix + 1)) hx hb hr (fun t ht hW => ⟨⟨nI (ix + 1), ixn [(ix + 1)], rfl, ⟨rfl, hsp0⟩, ⟨x_19, vs, hex0, by rw [ht]; exact hP9, hD9⟩⟩, hS.F ht⟩) hS.2.2 d_Model_step_136
          · replace c_21 : u_15 0 = 0 := (nI_eq (a := u_15 0) (b := 0) (by first | exact Nat.lt_of_lt_of_le (by assumption) (by decide) | exact Nat.lt_of_le_of_lt (by assumption) (by decide) | omega) (by decide)).mp c_21
            refine lv_iconst (v := (-1)) hx hb d_Model_step_131 (by decide) ?_
            rw [← hQe]
            obtain ⟨hP9, hD9⟩ := xw_sub2 (wc := (fun (u : Nat → Nat) (xtr : Nat → Nat) (xvs : Nat → Int64) => [(m0, .inr (11, [.int s_thrown, .int s_taped, .ref m1, .int s_size, .int s_outSize, .ref m2, .int s_kind, .int s_value, .int s_begin, .int s_end, .int s_failed, .ref m3, .ref m4, .ref m5, .int s_isProgram, .int s_half, .ref m6, .ref m7, .ref m8, .ref m9, .ref m10, .ref m11, .ref m12, .ref m13, .ref m14, .ref m15, .ref m16, .ref m17, .ref m18, .ref m19, .ref m20, .int s_signs, .ref m21, .int s_stacked, .ref m22, .int s_name, .int s_shift, .int s_statements, .int s_ifs, .int s_whiles, .int s_variants, .int s_open, .ref m23, .int s_isMade, .int s_conditions, .ref m24, .ref m25, .ref m26, .ref m27, .int s_kept, .ref m28, .int s_tops, .ref m29, .int s_used, .ref m30, .ref m31, .int s_looked, .int s_rows, .int s_firstRow, .ref m32, .ref m33, .ref m34, .ref m35, .ref m36, .ref m37, .ref m38, .ref m39, .ref m40, .int s_isBroken, .ref m41, .int s_atoms, .ref m42])), (m41, .inl (ax 4, 6, .inr (.inl xvs))), (m42, .inl (ax 3, 256, .inl (fun j => nI (xtr j)))), (m7, .inl (ax 0, 80, .inl (fun j => nI (op j)))), (m9, .inl (ax 0, 80, .inl (fun j => nI (tg j)))), (m10, .inl (ax 0, 80, .inl tn)), (m11, .inl (ax 0, 80, .inl tm)), (m19, .inl (ax 0, 6000, .inl pl)), (m12, .inl (ax 0, 80, .inl (fun j => nI (fi j)))), (m13, .inl (ax 0, 80, .inl (fun j => nI (fs j)))), (m18, .inl (ax 0, 80, .inl (fun j => nI (lk j))))]) (ixn [4294967295]) x_19 vs) hP hD [7, 8, 9, 0, 1, 2, 3, 10, 4, 5, 6] (by decide) rfl
            have hex0 : ∀ j, x_19 j ≤ 1 := (by assumption)
            have hsp0 : stp (4294967295) ix (lk ix) (op ix) := (by unfold stp; omega)
            exact W.iret (v := (-1)) hx hb hr (fun t ht hW => ⟨⟨(-1), ixn [4294967295], rfl, ⟨rfl, hsp0⟩, ⟨x_19, vs, hex0, by rw [ht]; exact hP9, hD9⟩⟩, hS.F ht⟩) hS.2.2 d_Model_step_132
      · replace c_12 : op ix = 5 := (nI_eq (a := op ix) (b := 5) (by first | exact Nat.lt_of_lt_of_le (by assumption) (by decide) | exact Nat.lt_of_le_of_lt (by assumption) (by decide) | omega) (by decide)).mp c_12
        obtain ⟨a9, ea9, ha9, hw9, hh9, h96⟩ := hi.2.1 (by first | assumption | omega)
        refine lv_aload_n hx hb d_Model_step_59 rfl (lv_at hl1 0 rfl) ?_
        refine lv_aload_n hx hb d_Model_step_60 rfl (lv_at hl1 0 rfl) ?_
        refine va_get (D := D) (ci := 11) (v := .ref m19) (C := R_Model) (T := F_Model) (N := 72) hx hb hts i_Model hown hK.1 hP 0 rfl rfl 29 (by decide) (hts _ wd_1065) (fun _ h9 => h9) rfl d_Model_step_61 ?_
        refine lv_aload_n hx hb d_Model_step_64 rfl (lv_at hl1 0 rfl) ?_
        refine va_get (D := D) (ci := 11) (v := .ref m12) (C := R_Model) (T := F_Model) (N := 72) hx hb hts i_Model hown hK.1 hP 0 rfl rfl 22 (by decide) (hts _ wd_1058) (fun _ h9 => h9) rfl d_Model_step_65 ?_
        refine lv_iload_n hx hb d_Model_step_68 rfl (lv_at hl1 1 rfl) ?_
        refine va_iald hx hb hK.1 hP 8 0 rfl rfl (vp_in_nI (by first | assumption | omega) (by decide)) d_Model_step_69 ?_
        refine W.eq (g2 := F0 m 70 ls [.int (nI (fi ix)), .ref m19, .ref m0]) (by rw [nI_clamp (by first | exact Nat.lt_of_lt_of_le (by assumption) (by decide) | exact Nat.lt_of_le_of_lt (by assumption) (by decide) | omega)]) ?_
        refine lv_aload_n hx hb d_Model_step_70 rfl (lv_at hl1 0 rfl) ?_
        refine va_get (D := D) (ci := 11) (v := .ref m13) (C := R_Model) (T := F_Model) (N := 72) hx hb hts i_Model hown hK.1 hP 0 rfl rfl 23 (by decide) (hts _ wd_1059) (fun _ h9 => h9) rfl d_Model_step_71 ?_
        refine lv_iload_n hx hb d_Model_step_74 rfl (lv_at hl1 1 rfl) ?_
        refine va_iald hx hb hK.1 hP 9 0 rfl rfl (vp_in_nI (by first | assumption | omega) (by decide)) d_Model_step_75 ?_
        refine W.eq (g2 := F0 m 76 ls [.int (nI (fs ix)), .int (nI (fi ix)), .ref m19, .ref m0]) (by rw [nI_clamp (by first | exact Nat.lt_of_lt_of_le (by assumption) (by decide) | exact Nat.lt_of_le_of_lt (by assumption) (by decide) | omega)]) ?_
        obtain ⟨hPc, hDc, hFc, hCs⟩ := xw_sub3 (wc := [(m0, .inr (11, [.int s_thrown, .int s_taped, .ref m1, .int s_size, .int s_outSize, .ref m2, .int s_kind, .int s_value, .int s_begin, .int s_end, .int s_failed, .ref m3, .ref m4, .ref m5, .int s_isProgram, .int s_half, .ref m6, .ref m7, .ref m8, .ref m9, .ref m10, .ref m11, .ref m12, .ref m13, .ref m14, .ref m15, .ref m16, .ref m17, .ref m18, .ref m19, .ref m20, .int s_signs, .ref m21, .int s_stacked, .ref m22, .int s_name, .int s_shift, .int s_statements, .int s_ifs, .int s_whiles, .int s_variants, .int s_open, .ref m23, .int s_isMade, .int s_conditions, .ref m24, .ref m25, .ref m26, .ref m27, .int s_kept, .ref m28, .int s_tops, .ref m29, .int s_used, .ref m30, .ref m31, .int s_looked, .int s_rows, .int s_firstRow, .ref m32, .ref m33, .ref m34, .ref m35, .ref m36, .ref m37, .ref m38, .ref m39, .ref m40, .int s_isBroken, .ref m41, .int s_atoms, .ref m42])), (m41, .inl (ax 4, 6, .inr (.inl vs))), (m42, .inl (ax 3, 256, .inl (fun j => nI (tr j)))), (m19, .inl (ax 0, 6000, .inl pl))]) hP hD hS hA [0, 1, 2, 7] (by decide) rfl
        have hz := xz_of hN hS
        refine va_calli (va_runV (As := [.ref m19, .int (nI (fi ix)), .int (nI (fs ix))]) (rest := []) ⟨hx, hb, hml, hown, hts⟩ (c_M_isTrue l D ax m0 m1 m2 m3 m4 m5 m6 m7 m8 m9 m10 m11 m12 m13 m14 m15 m16 m17 m18 m19 m20 m21 m22 m23 m24 m25 m26 m27 m28 m29 m30 m31 m32 m33 m34 m35 m36 m37 m38 m39 m40 m41 m42 s_thrown s_taped s_size s_outSize s_kind s_value s_begin s_end s_failed s_isProgram s_half s_signs s_stacked s_name s_shift s_statements s_ifs s_whiles s_variants s_open s_isMade s_conditions s_kept s_tops s_used s_looked s_rows s_firstRow s_isBroken s_atoms m19 6000 (fi ix) (fs ix) tr pl vs s.heap.size hw9 hh9 (by first | assumption | omega) (by first | assumption | omega) (by first | assumption | omega) htr) (xcV (n := 3) hts wd_1596 wd_15 wd_1593 wd_1595 ps_113 rfl rfl (by decide +kernel) ⟨Nat.le_of_ble_eq_true rfl, Nat.le_of_ble_eq_true rfl⟩) (xpV (ci := 11) (q0 := 0) (As := [.ref m19, .int (nI (fi ix)), .int (nI (fs ix))]) hPc hK hz hDc rfl rfl) rfl rfl hl1.1 rfl (lv_room (Nat.le_of_ble_eq_true rfl)) d_Model_step_76 ⟨Nat.le_of_ble_eq_true rfl, Nat.le_of_ble_eq_true rfl⟩) hS (fun q _ h => hFc q h) hFc (fun r_25 u_23 t H_24 locs ht hvm hw hB hz1 hk1 hS1 => ?_)
        try dsimp only at hw
        obtain ⟨hw, hs_26⟩ := hw
        subst hw
        obtain ⟨x_27, hx_28, hP1, hD1⟩ := hB
        rw [ht] at hP1
        have hjn := xw_join3 (wl := [(m7, .inl (ax 0, 80, .inl (fun j => nI (op j)))), (m9, .inl (ax 0, 80, .inl (fun j => nI (tg j)))), (m10, .inl (ax 0, 80, .inl tn)), (m11, .inl (ax 0, 80, .inl tm)), (m12, .inl (ax 0, 80, .inl (fun j => nI (fi j)))), (m13, .inl (ax 0, 80, .inl (fun j => nI (fs j)))), (m18, .inl (ax 0, 80, .inl (fun j => nI (lk j)))), (m0, .inr (11, [.int s_thrown, .int s_taped, .ref m1, .int s_size, .int s_outSize, .ref m2, .int s_kind, .int s_value, .int s_begin, .int s_end, .int s_failed, .ref m3, .ref m4, .ref m5, .int s_isProgram, .int s_half, .ref m6, .ref m7, .ref m8, .ref m9, .ref m10, .ref m11, .ref m12, .ref m13, .ref m14, .ref m15, .ref m16, .ref m17, .ref m18, .ref m19, .ref m20, .int s_signs, .ref m21, .int s_stacked, .ref m22, .int s_name, .int s_shift, .int s_statements, .int s_ifs, .int s_whiles, .int s_variants, .int s_open, .ref m23, .int s_isMade, .int s_conditions, .ref m24, .ref m25, .ref m26, .ref m27, .int s_kept, .ref m28, .int s_tops, .ref m29, .int s_used, .ref m30, .ref m31, .int s_looked, .int s_rows, .int s_firstRow, .ref m32, .ref m33, .ref m34, .ref m35, .ref m36, .ref m37, .ref m38, .ref m39, .ref m40, .int s_isBroken, .ref m41, .int s_atoms, .ref m42])), (m41, .inl (ax 4, 6, .inr (.inl vs))), (m42, .inl (ax 3, 256, .inl (fun j => nI (x_27 j)))), (m19, .inl (ax 0, 6000, .inl pl))]) hP hD [0, 1, 2, 7] [3, 4, 5, 6, 8, 9, 10] hCs (by decide) (by decide) hk1 hFc hP1 hD1 rfl
        clear hP1 hD1
        clear hPc hDc hFc hCs hz hz1 hk1 ht hvm
        clear hP hD hS
        have hS := hS1
        obtain ⟨hP, hD⟩ := hjn
        clear hS1
        refine lv_if_eq (tgt := 88) hx hb d_Model_step_79 (by decide) (fun c_29 => ?_) (fun c_29 => ?_)
        · replace c_29 : u_23 0 = 0 := (nI_eq (a := u_23 0) (b := 0) (by first | exact Nat.lt_of_lt_of_le (by assumption) (by decide) | exact Nat.lt_of_le_of_lt (by assumption) (by decide) | omega) (by decide)).mp c_29
          have hlk2 := hlk (by first | assumption | omega)
          refine lv_aload_n hx hb d_Model_step_88 rfl (lv_at hl1 0 rfl) ?_
          refine va_get (D := D) (ci := 11) (v := .ref m18) (C := R_Model) (T := F_Model) (N := 72) hx hb hts i_Model hown hK.1 hP 7 rfl rfl 28 (by decide) (hts _ wd_1064) (fun _ h9 => h9) rfl d_Model_step_89 ?_
          refine lv_iload_n hx hb d_Model_step_92 rfl (lv_at hl1 1 rfl) ?_
          refine va_iald hx hb hK.1 hP 6 0 rfl rfl (vp_in_nI (by first | assumption | omega) (by decide)) d_Model_step_93 ?_
          refine W.eq (g2 := F0 m 94 ls [.int (nI (lk ix))]) (by rw [nI_clamp (by first | exact Nat.lt_of_lt_of_le (by assumption) (by decide) | exact Nat.lt_of_le_of_lt (by assumption) (by decide) | omega)]) ?_
          refine lv_iconst (v := 1) hx hb d_Model_step_94 (by decide) ?_
          refine lv_iadd hx hb d_Model_step_95 ?_
          refine lv_topi (fun z_30 ez_30 => ?_)
          have ez_30 : z_30 = nI (lk ix + 1) := ez_30.trans (nI_add (lk ix) 1)
          subst ez_30
          rw [← hQe]
          obtain ⟨hP9, hD9⟩ := xw_sub2 (wc := (fun (u : Nat → Nat) (xtr : Nat → Nat) (xvs : Nat → Int64) => [(m0, .inr (11, [.int s_thrown, .int s_taped, .ref m1, .int s_size, .int s_outSize, .ref m2, .int s_kind, .int s_value, .int s_begin, .int s_end, .int s_failed, .ref m3, .ref m4, .ref m5, .int s_isProgram, .int s_half, .ref m6, .ref m7, .ref m8, .ref m9, .ref m10, .ref m11, .ref m12, .ref m13, .ref m14, .ref m15, .ref m16, .ref m17, .ref m18, .ref m19, .ref m20, .int s_signs, .ref m21, .int s_stacked, .ref m22, .int s_name, .int s_shift, .int s_statements, .int s_ifs, .int s_whiles, .int s_variants, .int s_open, .ref m23, .int s_isMade, .int s_conditions, .ref m24, .ref m25, .ref m26, .ref m27, .int s_kept, .ref m28, .int s_tops, .ref m29, .int s_used, .ref m30, .ref m31, .int s_looked, .int s_rows, .int s_firstRow, .ref m32, .ref m33, .ref m34, .ref m35, .ref m36, .ref m37, .ref m38, .ref m39, .ref m40, .int s_isBroken, .ref m41, .int s_atoms, .ref m42])), (m41, .inl (ax 4, 6, .inr (.inl xvs))), (m42, .inl (ax 3, 256, .inl (fun j => nI (xtr j)))), (m7, .inl (ax 0, 80, .inl (fun j => nI (op j)))), (m9, .inl (ax 0, 80, .inl (fun j => nI (tg j)))), (m10, .inl (ax 0, 80, .inl tn)), (m11, .inl (ax 0, 80, .inl tm)), (m19, .inl (ax 0, 6000, .inl pl)), (m12, .inl (ax 0, 80, .inl (fun j => nI (fi j)))), (m13, .inl (ax 0, 80, .inl (fun j => nI (fs j)))), (m18, .inl (ax 0, 80, .inl (fun j => nI (lk j))))]) (ixn [(lk ix + 1)]) x_27 vs) hP hD [7, 8, 9, 0, 1, 2, 3, 10, 4, 5, 6] (by decide) rfl
          have hex0 : ∀ j, x_27 j ≤ 1 := (by assumption)
          have hsp0 : stp ((lk ix + 1)) ix (lk ix) (op ix) := (by unfold stp; omega)
          exact W.iret (v := nI (lk ix + 1)) hx hb hr (fun t ht hW => ⟨⟨nI (lk ix + 1), ixn [(lk ix + 1)], rfl, ⟨rfl, hsp0⟩, ⟨x_27, vs, hex0, by rw [ht]; exact hP9, hD9⟩⟩, hS.F ht⟩) hS.2.2 d_Model_step_96
        · replace c_29 : ¬ u_23 0 = 0 := fun hq9 => c_29 ((nI_eq (a := u_23 0) (b := 0) (by first | exact Nat.lt_of_lt_of_le (by assumption) (by decide) | exact Nat.lt_of_le_of_lt (by assumption) (by decide) | omega) (by decide)).mpr hq9)
          refine lv_iload_n hx hb d_Model_step_82 rfl (lv_at hl1 1 rfl) ?_
          refine lv_iconst (v := 1) hx hb d_Model_step_83 (by decide) ?_
          refine lv_iadd hx hb d_Model_step_84 ?_
          refine lv_topi (fun z_31 ez_31 => ?_)
          have ez_31 : z_31 = nI (ix + 1) := ez_31.trans (nI_add ix 1)
          subst ez_31
          refine lv_goto (tgt := 96) hx hb d_Model_step_85 (by decide) ?_
          rw [← hQe]
          obtain ⟨hP9, hD9⟩ := xw_sub2 (wc := (fun (u : Nat → Nat) (xtr : Nat → Nat) (xvs : Nat → Int64) => [(m0, .inr (11, [.int s_thrown, .int s_taped, .ref m1, .int s_size, .int s_outSize, .ref m2, .int s_kind, .int s_value, .int s_begin, .int s_end, .int s_failed, .ref m3, .ref m4, .ref m5, .int s_isProgram, .int s_half, .ref m6, .ref m7, .ref m8, .ref m9, .ref m10, .ref m11, .ref m12, .ref m13, .ref m14, .ref m15, .ref m16, .ref m17, .ref m18, .ref m19, .ref m20, .int s_signs, .ref m21, .int s_stacked, .ref m22, .int s_name, .int s_shift, .int s_statements, .int s_ifs, .int s_whiles, .int s_variants, .int s_open, .ref m23, .int s_isMade, .int s_conditions, .ref m24, .ref m25, .ref m26, .ref m27, .int s_kept, .ref m28, .int s_tops, .ref m29, .int s_used, .ref m30, .ref m31, .int s_looked, .int s_rows, .int s_firstRow, .ref m32, .ref m33, .ref m34, .ref m35, .ref m36, .ref m37, .ref m38, .ref m39, .ref m40, .int s_isBroken, .ref m41, .int s_atoms, .ref m42])), (m41, .inl (ax 4, 6, .inr (.inl xvs))), (m42, .inl (ax 3, 256, .inl (fun j => nI (xtr j)))), (m7, .inl (ax 0, 80, .inl (fun j => nI (op j)))), (m9, .inl (ax 0, 80, .inl (fun j => nI (tg j)))), (m10, .inl (ax 0, 80, .inl tn)), (m11, .inl (ax 0, 80, .inl tm)), (m19, .inl (ax 0, 6000, .inl pl)), (m12, .inl (ax 0, 80, .inl (fun j => nI (fi j)))), (m13, .inl (ax 0, 80, .inl (fun j => nI (fs j)))), (m18, .inl (ax 0, 80, .inl (fun j => nI (lk j))))]) (ixn [(ix + 1)]) x_27 vs) hP hD [7, 8, 9, 0, 1, 2, 3, 10, 4, 5, 6] (by decide) rfl
          have hex0 : ∀ j, x_27 j ≤ 1 := (by assumption)
          have hsp0 : stp ((ix + 1)) ix (lk ix) (op ix) := (by unfold stp; omega)
          exact W.iret (v := nI (ix + 1)) hx hb hr (fun t ht hW => ⟨⟨nI (ix + 1), ixn [(ix + 1)], rfl, ⟨rfl, hsp0⟩, ⟨x_27, vs, hex0, by rw [ht]; exact hP9, hD9⟩⟩, hS.F ht⟩) hS.2.2 d_Model_step_96
  · replace c_1 : op ix = 0 := (nI_eq (a := op ix) (b := 0) (by first | exact Nat.lt_of_lt_of_le (by assumption) (by decide) | exact Nat.lt_of_le_of_lt (by assumption) (by decide) | omega) (by decide)).mp c_1
    obtain ⟨hnm, htg⟩ := hi.2.2.2.2 (by first | assumption | omega)
    refine lv_aload_n hx hb d_Model_step_9 rfl (lv_at hl1 0 rfl) ?_
    refine va_get (D := D) (ci := 11) (v := .ref m41) (C := R_Model) (T := F_Model) (N := 72) hx hb hts i_Model hown hK.1 hP 0 rfl rfl 69 (by decide) (hts _ wd_1105) (fun _ h9 => h9) rfl d_Model_step_10 ?_
    refine lv_aload_n hx hb d_Model_step_13 rfl (lv_at hl1 0 rfl) ?_
    refine va_get (D := D) (ci := 11) (v := .ref m9) (C := R_Model) (T := F_Model) (N := 72) hx hb hts i_Model hown hK.1 hP 0 rfl rfl 19 (by decide) (hts _ wd_1055) (fun _ h9 => h9) rfl d_Model_step_14 ?_
    refine lv_iload_n hx hb d_Model_step_17 rfl (lv_at hl1 1 rfl) ?_
    refine va_iald hx hb hK.1 hP 4 0 rfl rfl (vp_in_nI (by first | assumption | omega) (by decide)) d_Model_step_18 ?_
    refine W.eq (g2 := F0 m 19 ls [.int (nI (tg ix)), .ref m41]) (by rw [nI_clamp (by first | exact Nat.lt_of_lt_of_le (by assumption) (by decide) | exact Nat.lt_of_le_of_lt (by assumption) (by decide) | omega)]) ?_
    refine lv_aload_n hx hb d_Model_step_19 rfl (lv_at hl1 0 rfl) ?_
    refine lv_aload_n hx hb d_Model_step_20 rfl (lv_at hl1 0 rfl) ?_
    refine va_get (D := D) (ci := 11) (v := .ref m10) (C := R_Model) (T := F_Model) (N := 72) hx hb hts i_Model hown hK.1 hP 0 rfl rfl 20 (by decide) (hts _ wd_1056) (fun _ h9 => h9) rfl d_Model_step_21 ?_
    refine lv_iload_n hx hb d_Model_step_24 rfl (lv_at hl1 1 rfl) ?_
    refine va_iald hx hb hK.1 hP 5 0 rfl rfl (vp_in_nI (by first | assumption | omega) (by decide)) d_Model_step_25 ?_
    refine W.eq (g2 := F0 m 26 ls [.int (tn ix), .ref m0, .int (nI (tg ix)), .ref m41]) (by rw [nI_clamp (by first | exact Nat.lt_of_lt_of_le (by assumption) (by decide) | exact Nat.lt_of_le_of_lt (by assumption) (by decide) | omega)]) ?_
    refine lv_aload_n hx hb d_Model_step_26 rfl (lv_at hl1 0 rfl) ?_
    refine va_get (D := D) (ci := 11) (v := .ref m11) (C := R_Model) (T := F_Model) (N := 72) hx hb hts i_Model hown hK.1 hP 0 rfl rfl 21 (by decide) (hts _ wd_1057) (fun _ h9 => h9) rfl d_Model_step_27 ?_
    refine lv_iload_n hx hb d_Model_step_30 rfl (lv_at hl1 1 rfl) ?_
    refine va_iald hx hb hK.1 hP 6 0 rfl rfl (vp_in_nI (by first | assumption | omega) (by decide)) d_Model_step_31 ?_
    refine W.eq (g2 := F0 m 32 ls [.int (tm ix), .int (tn ix), .ref m0, .int (nI (tg ix)), .ref m41]) (by rw [nI_clamp (by first | exact Nat.lt_of_lt_of_le (by assumption) (by decide) | exact Nat.lt_of_le_of_lt (by assumption) (by decide) | omega)]) ?_
    rcases hnm with ey1 | ⟨y1, hy1, ey1⟩
    · refine W.eq (g2 := F0 m 32 ls [.int (tm ix), .int (-1), .ref m0, .int (nI (tg ix)), .ref m41]) (by rw [ey1]) ?_
      obtain ⟨hPc, hDc, hFc, hCs⟩ := xw_sub3 (wc := [(m0, .inr (11, [.int s_thrown, .int s_taped, .ref m1, .int s_size, .int s_outSize, .ref m2, .int s_kind, .int s_value, .int s_begin, .int s_end, .int s_failed, .ref m3, .ref m4, .ref m5, .int s_isProgram, .int s_half, .ref m6, .ref m7, .ref m8, .ref m9, .ref m10, .ref m11, .ref m12, .ref m13, .ref m14, .ref m15, .ref m16, .ref m17, .ref m18, .ref m19, .ref m20, .int s_signs, .ref m21, .int s_stacked, .ref m22, .int s_name, .int s_shift, .int s_statements, .int s_ifs, .int s_whiles, .int s_variants, .int s_open, .ref m23, .int s_isMade, .int s_conditions, .ref m24, .ref m25, .ref m26, .ref m27, .int s_kept, .ref m28, .int s_tops, .ref m29, .int s_used, .ref m30, .ref m31, .int s_looked, .int s_rows, .int s_firstRow, .ref m32, .ref m33, .ref m34, .ref m35, .ref m36, .ref m37, .ref m38, .ref m39, .ref m40, .int s_isBroken, .ref m41, .int s_atoms, .ref m42]))]) hP hD hS hA [0] (by decide) rfl
      have hz := xz_of hN hS
      refine va_calll (va_runV (As := [.int (-1), .int (tm ix)]) (rest := [.int (nI (tg ix)), .ref m41]) ⟨hx, hb, hml, hown, hts⟩ (c_M_termOf_no l D ax m0 m1 m2 m3 m4 m5 m6 m7 m8 m9 m10 m11 m12 m13 m14 m15 m16 m17 m18 m19 m20 m21 m22 m23 m24 m25 m26 m27 m28 m29 m30 m31 m32 m33 m34 m35 m36 m37 m38 m39 m40 m41 m42 s_thrown s_taped s_size s_outSize s_kind s_value s_begin s_end s_failed s_isProgram s_half s_signs s_stacked s_name s_shift s_statements s_ifs s_whiles s_variants s_open s_isMade s_conditions s_kept s_tops s_used s_looked s_rows s_firstRow s_isBroken s_atoms (tm ix) s.heap.size) (xcV (n := 2) hts wd_1592 wd_15 wd_1589 wd_1591 ps_112 rfl rfl (by decide +kernel) ⟨Nat.le_of_ble_eq_true rfl, Nat.le_of_ble_eq_true rfl⟩) (xpV (ci := 11) (q0 := 0) (As := [.int (-1), .int (tm ix)]) hPc hK hz hDc rfl rfl) rfl rfl hl1.1 rfl (lv_room (Nat.le_of_ble_eq_true rfl)) d_Model_step_32 ⟨Nat.le_of_ble_eq_true rfl, Nat.le_of_ble_eq_true rfl⟩) hS (fun q _ h => hFc q h) hFc (fun r_34 u_32 t H_33 locs ht hvm hw hB hz1 hk1 hS1 => ?_)
      try dsimp only at hw
      subst hw
      obtain ⟨hP1, hD1⟩ := hB
      rw [ht] at hP1
      have hjn := xw_join3 (wl := [(m41, .inl (ax 4, 6, .inr (.inl vs))), (m42, .inl (ax 3, 256, .inl (fun j => nI (tr j)))), (m7, .inl (ax 0, 80, .inl (fun j => nI (op j)))), (m9, .inl (ax 0, 80, .inl (fun j => nI (tg j)))), (m10, .inl (ax 0, 80, .inl tn)), (m11, .inl (ax 0, 80, .inl tm)), (m19, .inl (ax 0, 6000, .inl pl)), (m12, .inl (ax 0, 80, .inl (fun j => nI (fi j)))), (m13, .inl (ax 0, 80, .inl (fun j => nI (fs j)))), (m18, .inl (ax 0, 80, .inl (fun j => nI (lk j)))), (m0, .inr (11, [.int s_thrown, .int s_taped, .ref m1, .int s_size, .int s_outSize, .ref m2, .int s_kind, .int s_value, .int s_begin, .int s_end, .int s_failed, .ref m3, .ref m4, .ref m5, .int s_isProgram, .int s_half, .ref m6, .ref m7, .ref m8, .ref m9, .ref m10, .ref m11, .ref m12, .ref m13, .ref m14, .ref m15, .ref m16, .ref m17, .ref m18, .ref m19, .ref m20, .int s_signs, .ref m21, .int s_stacked, .ref m22, .int s_name, .int s_shift, .int s_statements, .int s_ifs, .int s_whiles, .int s_variants, .int s_open, .ref m23, .int s_isMade, .int s_conditions, .ref m24, .ref m25, .ref m26, .ref m27, .int s_kept, .ref m28, .int s_tops, .ref m29, .int s_used, .ref m30, .ref m31, .int s_looked, .int s_rows, .int s_firstRow, .ref m32, .ref m33, .ref m34, .ref m35, .ref m36, .ref m37, .ref m38, .ref m39, .ref m40, .int s_isBroken, .ref m41, .int s_atoms, .ref m42]))]) hP hD [0] [1, 2, 3, 4, 5, 6, 7, 8, 9, 10] hCs (by decide) (by decide) hk1 hFc hP1 hD1 rfl
      clear hP1 hD1
      clear hPc hDc hFc hCs hz hz1 hk1 ht hvm
      clear hP hD hS
      have hS := hS1
      obtain ⟨hP, hD⟩ := hjn
      clear hS1
      refine va_last hx hb hK.1 hP hD hS 0 4 rfl rfl (vp_in_nI (by first | assumption | omega) (by decide)) d_Model_step_35 (fun H_35 locs hP1 hD1 hS1 => ?_)
      rw [nI_clamp (by first | exact Nat.lt_of_lt_of_le (by assumption) (by decide) | exact Nat.lt_of_le_of_lt (by assumption) (by decide) | omega)] at hP1 hD1
      clear hP hD hS
      have hS := hS1
      have hW7 : (fun w9 : va_W => va_P D classes w9 H_35 ∧ va_D A w9) [(m41, .inl (ax 4, 6, .inr (.inl (vp_updL vs (tg ix) ((tm ix).toInt64))))), (m42, .inl (ax 3, 256, .inl (fun j => nI (tr j)))), (m7, .inl (ax 0, 80, .inl (fun j => nI (op j)))), (m9, .inl (ax 0, 80, .inl (fun j => nI (tg j)))), (m10, .inl (ax 0, 80, .inl tn)), (m11, .inl (ax 0, 80, .inl tm)), (m19, .inl (ax 0, 6000, .inl pl)), (m12, .inl (ax 0, 80, .inl (fun j => nI (fi j)))), (m13, .inl (ax 0, 80, .inl (fun j => nI (fs j)))), (m18, .inl (ax 0, 80, .inl (fun j => nI (lk j)))), (m0, .inr (11, [.int s_thrown, .int s_taped, .ref m1, .int s_size, .int s_outSize, .ref m2, .int s_kind, .int s_value, .int s_begin, .int s_end, .int s_failed, .ref m3, .ref m4, .ref m5, .int s_isProgram, .int s_half, .ref m6, .ref m7, .ref m8, .ref m9, .ref m10, .ref m11, .ref m12, .ref m13, .ref m14, .ref m15, .ref m16, .ref m17, .ref m18, .ref m19, .ref m20, .int s_signs, .ref m21, .int s_stacked, .ref m22, .int s_name, .int s_shift, .int s_statements, .int s_ifs, .int s_whiles, .int s_variants, .int s_open, .ref m23, .int s_isMade, .int s_conditions, .ref m24, .ref m25, .ref m26, .ref m27, .int s_kept, .ref m28, .int s_tops, .ref m29, .int s_used, .ref m30, .ref m31, .int s_looked, .int s_rows, .int s_firstRow, .ref m32, .ref m33, .ref m34, .ref m35, .ref m36, .ref m37, .ref m38, .ref m39, .ref m40, .int s_isBroken, .ref m41, .int s_atoms, .ref m42]))] := ⟨hP1, hD1⟩
      obtain ⟨hP, hD⟩ := hW7
      clear hP1 hD1 hS1
      refine lv_goto (tgt := 133) hx hb d_Model_step_36 (by decide) ?_
      refine lv_iload_n hx hb d_Model_step_133 rfl (lv_at hl1 1 rfl) ?_
      refine lv_iconst (v := 1) hx hb d_Model_step_134 (by decide) ?_
      refine lv_iadd hx hb d_Model_step_135 ?_
      refine lv_topi (fun z_36 ez_36 => ?_)
      have ez_36 : z_36 = nI (ix + 1) := ez_36.trans (nI_add ix 1)
      subst ez_36
      rw [← hQe]
      obtain ⟨hP9, hD9⟩ := xw_sub2 (wc := (fun (u : Nat → Nat) (xtr : Nat → Nat) (xvs : Nat → Int64) => [(m0, .inr (11, [.int s_thrown, .int s_taped, .ref m1, .int s_size, .int s_outSize, .ref m2, .int s_kind, .int s_value, .int s_begin, .int s_end, .int s_failed, .ref m3, .ref m4, .ref m5, .int s_isProgram, .int s_half, .ref m6, .ref m7, .ref m8, .ref m9, .ref m10, .ref m11, .ref m12, .ref m13, .ref m14, .ref m15, .ref m16, .ref m17, .ref m18, .ref m19, .ref m20, .int s_signs, .ref m21, .int s_stacked, .ref m22, .int s_name, .int s_shift, .int s_statements, .int s_ifs, .int s_whiles, .int s_variants, .int s_open, .ref m23, .int s_isMade, .int s_conditions, .ref m24, .ref m25, .ref m26, .ref m27, .int s_kept, .ref m28, .int s_tops, .ref m29, .int s_used, .ref m30, .ref m31, .int s_looked, .int s_rows, .int s_firstRow, .ref m32, .ref m33, .ref m34, .ref m35, .ref m36, .ref m37, .ref m38, .ref m39, .ref m40, .int s_isBroken, .ref m41, .int s_atoms, .ref m42])), (m41, .inl (ax 4, 6, .inr (.inl xvs))), (m42, .inl (ax 3, 256, .inl (fun j => nI (xtr j)))), (m7, .inl (ax 0, 80, .inl (fun j => nI (op j)))), (m9, .inl (ax 0, 80, .inl (fun j => nI (tg j)))), (m10, .inl (ax 0, 80, .inl tn)), (m11, .inl (ax 0, 80, .inl tm)), (m19, .inl (ax 0, 6000, .inl pl)), (m12, .inl (ax 0, 80, .inl (fun j => nI (fi j)))), (m13, .inl (ax 0, 80, .inl (fun j => nI (fs j)))), (m18, .inl (ax 0, 80, .inl (fun j => nI (lk j))))]) (ixn [(ix + 1)]) tr (vp_updL vs (tg ix) ((tm ix).toInt64))) hP hD [10, 0, 1, 2, 3, 4, 5, 6, 7, 8, 9] (by decide) rfl
      have hex0 : ∀ j, tr j ≤ 1 := (by assumption)
      have hsp0 : stp ((ix + 1)) ix (lk ix) (op ix) := (by unfold stp; omega)
      exact W.iret (v := nI (ix + 1)) hx hb hr (fun t ht hW => ⟨⟨nI (ix + 1), ixn [(ix + 1)], rfl, ⟨rfl, hsp0⟩, ⟨tr, (vp_updL vs (tg ix) ((tm ix).toInt64)), hex0, by rw [ht]; exact hP9, hD9⟩⟩, hS.F ht⟩) hS.2.2 d_Model_step_136
    · refine W.eq (g2 := F0 m 32 ls [.int (tm ix), .int (nI y1), .ref m0, .int (nI (tg ix)), .ref m41]) (by rw [ey1]) ?_
      obtain ⟨hPc, hDc, hFc, hCs⟩ := xw_sub3 (wc := [(m0, .inr (11, [.int s_thrown, .int s_taped, .ref m1, .int s_size, .int s_outSize, .ref m2, .int s_kind, .int s_value, .int s_begin, .int s_end, .int s_failed, .ref m3, .ref m4, .ref m5, .int s_isProgram, .int s_half, .ref m6, .ref m7, .ref m8, .ref m9, .ref m10, .ref m11, .ref m12, .ref m13, .ref m14, .ref m15, .ref m16, .ref m17, .ref m18, .ref m19, .ref m20, .int s_signs, .ref m21, .int s_stacked, .ref m22, .int s_name, .int s_shift, .int s_statements, .int s_ifs, .int s_whiles, .int s_variants, .int s_open, .ref m23, .int s_isMade, .int s_conditions, .ref m24, .ref m25, .ref m26, .ref m27, .int s_kept, .ref m28, .int s_tops, .ref m29, .int s_used, .ref m30, .ref m31, .int s_looked, .int s_rows, .int s_firstRow, .ref m32, .ref m33, .ref m34, .ref m35, .ref m36, .ref m37, .ref m38, .ref m39, .ref m40, .int s_isBroken, .ref m41, .int s_atoms, .ref m42])), (m41, .inl (ax 4, 6, .inr (.inl vs)))]) hP hD hS hA [0, 1] (by decide) rfl
      have hz := xz_of hN hS
      refine va_calll (va_runV (As := [.int (nI y1), .int (tm ix)]) (rest := [.int (nI (tg ix)), .ref m41]) ⟨hx, hb, hml, hown, hts⟩ (c_M_termOf_ok l D ax m0 m1 m2 m3 m4 m5 m6 m7 m8 m9 m10 m11 m12 m13 m14 m15 m16 m17 m18 m19 m20 m21 m22 m23 m24 m25 m26 m27 m28 m29 m30 m31 m32 m33 m34 m35 m36 m37 m38 m39 m40 m41 m42 s_thrown s_taped s_size s_outSize s_kind s_value s_begin s_end s_failed s_isProgram s_half s_signs s_stacked s_name s_shift s_statements s_ifs s_whiles s_variants s_open s_isMade s_conditions s_kept s_tops s_used s_looked s_rows s_firstRow s_isBroken s_atoms y1 (tm ix) vs s.heap.size (by first | assumption | omega)) (xcV (n := 2) hts wd_1592 wd_15 wd_1589 wd_1591 ps_112 rfl rfl (by decide +kernel) ⟨Nat.le_of_ble_eq_true rfl, Nat.le_of_ble_eq_true rfl⟩) (xpV (ci := 11) (q0 := 0) (As := [.int (nI y1), .int (tm ix)]) hPc hK hz hDc rfl rfl) rfl rfl hl1.1 rfl (lv_room (Nat.le_of_ble_eq_true rfl)) d_Model_step_32 ⟨Nat.le_of_ble_eq_true rfl, Nat.le_of_ble_eq_true rfl⟩) hS (fun q _ h => hFc q h) hFc (fun r_39 u_37 t H_38 locs ht hvm hw hB hz1 hk1 hS1 => ?_)
      try dsimp only at hw
      subst hw
      obtain ⟨hP1, hD1⟩ := hB
      rw [ht] at hP1
      have hjn := xw_join3 (wl := [(m42, .inl (ax 3, 256, .inl (fun j => nI (tr j)))), (m7, .inl (ax 0, 80, .inl (fun j => nI (op j)))), (m9, .inl (ax 0, 80, .inl (fun j => nI (tg j)))), (m10, .inl (ax 0, 80, .inl tn)), (m11, .inl (ax 0, 80, .inl tm)), (m19, .inl (ax 0, 6000, .inl pl)), (m12, .inl (ax 0, 80, .inl (fun j => nI (fi j)))), (m13, .inl (ax 0, 80, .inl (fun j => nI (fs j)))), (m18, .inl (ax 0, 80, .inl (fun j => nI (lk j)))), (m0, .inr (11, [.int s_thrown, .int s_taped, .ref m1, .int s_size, .int s_outSize, .ref m2, .int s_kind, .int s_value, .int s_begin, .int s_end, .int s_failed, .ref m3, .ref m4, .ref m5, .int s_isProgram, .int s_half, .ref m6, .ref m7, .ref m8, .ref m9, .ref m10, .ref m11, .ref m12, .ref m13, .ref m14, .ref m15, .ref m16, .ref m17, .ref m18, .ref m19, .ref m20, .int s_signs, .ref m21, .int s_stacked, .ref m22, .int s_name, .int s_shift, .int s_statements, .int s_ifs, .int s_whiles, .int s_variants, .int s_open, .ref m23, .int s_isMade, .int s_conditions, .ref m24, .ref m25, .ref m26, .ref m27, .int s_kept, .ref m28, .int s_tops, .ref m29, .int s_used, .ref m30, .ref m31, .int s_looked, .int s_rows, .int s_firstRow, .ref m32, .ref m33, .ref m34, .ref m35, .ref m36, .ref m37, .ref m38, .ref m39, .ref m40, .int s_isBroken, .ref m41, .int s_atoms, .ref m42])), (m41, .inl (ax 4, 6, .inr (.inl vs)))]) hP hD [0, 1] [2, 3, 4, 5, 6, 7, 8, 9, 10] hCs (by decide) (by decide) hk1 hFc hP1 hD1 rfl
      clear hP1 hD1
      clear hPc hDc hFc hCs hz hz1 hk1 ht hvm
      clear hP hD hS
      have hS := hS1
      obtain ⟨hP, hD⟩ := hjn
      clear hS1
      refine va_last hx hb hK.1 hP hD hS 10 4 rfl rfl (vp_in_nI (by first | assumption | omega) (by decide)) d_Model_step_35 (fun H_40 locs hP1 hD1 hS1 => ?_)
      rw [nI_clamp (by first | exact Nat.lt_of_lt_of_le (by assumption) (by decide) | exact Nat.lt_of_le_of_lt (by assumption) (by decide) | omega)] at hP1 hD1
      clear hP hD hS
      have hS := hS1
      have hW7 : (fun w9 : va_W => va_P D classes w9 H_40 ∧ va_D A w9) [(m42, .inl (ax 3, 256, .inl (fun j => nI (tr j)))), (m7, .inl (ax 0, 80, .inl (fun j => nI (op j)))), (m9, .inl (ax 0, 80, .inl (fun j => nI (tg j)))), (m10, .inl (ax 0, 80, .inl tn)), (m11, .inl (ax 0, 80, .inl tm)), (m19, .inl (ax 0, 6000, .inl pl)), (m12, .inl (ax 0, 80, .inl (fun j => nI (fi j)))), (m13, .inl (ax 0, 80, .inl (fun j => nI (fs j)))), (m18, .inl (ax 0, 80, .inl (fun j => nI (lk j)))), (m0, .inr (11, [.int s_thrown, .int s_taped, .ref m1, .int s_size, .int s_outSize, .ref m2, .int s_kind, .int s_value, .int s_begin, .int s_end, .int s_failed, .ref m3, .ref m4, .ref m5, .int s_isProgram, .int s_half, .ref m6, .ref m7, .ref m8, .ref m9, .ref m10, .ref m11, .ref m12, .ref m13, .ref m14, .ref m15, .ref m16, .ref m17, .ref m18, .ref m19, .ref m20, .int s_signs, .ref m21, .int s_stacked, .ref m22, .int s_name, .int s_shift, .int s_statements, .int s_ifs, .int s_whiles, .int s_variants, .int s_open, .ref m23, .int s_isMade, .int s_conditions, .ref m24, .ref m25, .ref m26, .ref m27, .int s_kept, .ref m28, .int s_tops, .ref m29, .int s_used, .ref m30, .ref m31, .int s_looked, .int s_rows, .int s_firstRow, .ref m32, .ref m33, .ref m34, .ref m35, .ref m36, .ref m37, .ref m38, .ref m39, .ref m40, .int s_isBroken, .ref m41, .int s_atoms, .ref m42])), (m41, .inl (ax 4, 6, .inr (.inl (vp_updL vs (tg ix) (vs y1 + (tm ix).toInt64)))))] := ⟨hP1, hD1⟩
      obtain ⟨hP, hD⟩ := hW7
      clear hP1 hD1 hS1
      refine lv_goto (tgt := 133) hx hb d_Model_step_36 (by decide) ?_
      refine lv_iload_n hx hb d_Model_step_133 rfl (lv_at hl1 1 rfl) ?_
      refine lv_iconst (v := 1) hx hb d_Model_step_134 (by decide) ?_
      refine lv_iadd hx hb d_Model_step_135 ?_
      refine lv_topi (fun z_41 ez_41 => ?_)
      have ez_41 : z_41 = nI (ix + 1) := ez_41.trans (nI_add ix 1)
      subst ez_41
      rw [← hQe]
      obtain ⟨hP9, hD9⟩ := xw_sub2 (wc := (fun (u : Nat → Nat) (xtr : Nat → Nat) (xvs : Nat → Int64) => [(m0, .inr (11, [.int s_thrown, .int s_taped, .ref m1, .int s_size, .int s_outSize, .ref m2, .int s_kind, .int s_value, .int s_begin, .int s_end, .int s_failed, .ref m3, .ref m4, .ref m5, .int s_isProgram, .int s_half, .ref m6, .ref m7, .ref m8, .ref m9, .ref m10, .ref m11, .ref m12, .ref m13, .ref m14, .ref m15, .ref m16, .ref m17, .ref m18, .ref m19, .ref m20, .int s_signs, .ref m21, .int s_stacked, .ref m22, .int s_name, .int s_shift, .int s_statements, .int s_ifs, .int s_whiles, .int s_variants, .int s_open, .ref m23, .int s_isMade, .int s_conditions, .ref m24, .ref m25, .ref m26, .ref m27, .int s_kept, .ref m28, .int s_tops, .ref m29, .int s_used, .ref m30, .ref m31, .int s_looked, .int s_rows, .int s_firstRow, .ref m32, .ref m33, .ref m34, .ref m35, .ref m36, .ref m37, .ref m38, .ref m39, .ref m40, .int s_isBroken, .ref m41, .int s_atoms, .ref m42])), (m41, .inl (ax 4, 6, .inr (.inl xvs))), (m42, .inl (ax 3, 256, .inl (fun j => nI (xtr j)))), (m7, .inl (ax 0, 80, .inl (fun j => nI (op j)))), (m9, .inl (ax 0, 80, .inl (fun j => nI (tg j)))), (m10, .inl (ax 0, 80, .inl tn)), (m11, .inl (ax 0, 80, .inl tm)), (m19, .inl (ax 0, 6000, .inl pl)), (m12, .inl (ax 0, 80, .inl (fun j => nI (fi j)))), (m13, .inl (ax 0, 80, .inl (fun j => nI (fs j)))), (m18, .inl (ax 0, 80, .inl (fun j => nI (lk j))))]) (ixn [(ix + 1)]) tr (vp_updL vs (tg ix) (vs y1 + (tm ix).toInt64))) hP hD [9, 10, 0, 1, 2, 3, 4, 5, 6, 7, 8] (by decide) rfl
      have hex0 : ∀ j, tr j ≤ 1 := (by assumption)
      have hsp0 : stp ((ix + 1)) ix (lk ix) (op ix) := (by unfold stp; omega)
      exact W.iret (v := nI (ix + 1)) hx hb hr (fun t ht hW => ⟨⟨nI (ix + 1), ixn [(ix + 1)], rfl, ⟨rfl, hsp0⟩, ⟨tr, (vp_updL vs (tg ix) (vs y1 + (tm ix).toInt64)), hex0, by rw [ht]; exact hP9, hD9⟩⟩, hS.F ht⟩) hS.2.2 d_Model_step_136
