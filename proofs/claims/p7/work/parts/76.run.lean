theorem ps_111 : Cond.selects "TripleDeskModel" ⟨"TripleDeskModel", "step", "(I)I"⟩ ⟨"TripleDeskModel", "step", "(I)I"⟩ ∈ lw_gd := ps_in (q := (⟨"TripleDeskModel", "step", "(I)I"⟩, 72)) (i := 111) (by decide +kernel)
theorem wd_1585 : ((Jvm.Cond.methodLink "TripleDeskModel" (479 : Nat) ({ cls := "TripleDeskModel", name := "step", desc := "(I)I" } : Jvm.MethodName))) ∈ lw_gd := lw_gd_in (i := 1585) (by decide +kernel) rfl
theorem wd_1587 : ((Jvm.Cond.instanceMethod ({ cls := "TripleDeskModel", name := "step", desc := "(I)I" } : Jvm.MethodName))) ∈ lw_gd := lw_gd_in (i := 1587) (by decide +kernel) rfl
theorem wd_1588 : ((Jvm.Cond.code ({ cls := "TripleDeskModel", name := "step", desc := "(I)I" } : Jvm.MethodName) prog_13_method_89_code (2 : Nat) (Option.some Jvm.ClassFile.FieldType.int))) ∈ lw_gd := lw_gd_in (i := 1588) (by decide +kernel) rfl
abbrev b_Model_run : ByteArray := prog_13_method_90_code
def y_Model_run : MethodName := ⟨R_Model, "run", "(I)I"⟩
theorem d_Model_run_0 : decode b_Model_run 0 = .ok (.aload_n 0, 1) := by decide +kernel
theorem d_Model_run_1 : decode b_Model_run 1 = .ok (.aload_n 0, 1) := by decide +kernel
theorem d_Model_run_2 : decode b_Model_run 2 = .ok (.getfield 317, 3) := by decide +kernel
theorem d_Model_run_5 : decode b_Model_run 5 = .ok (.ifCond .ne 7, 3) := by decide +kernel
theorem d_Model_run_8 : decode b_Model_run 8 = .ok (.iconst 1, 1) := by decide +kernel
theorem d_Model_run_9 : decode b_Model_run 9 = .ok (.goto 19, 3) := by decide +kernel
theorem d_Model_run_12 : decode b_Model_run 12 = .ok (.iload_n 1, 1) := by decide +kernel
theorem d_Model_run_13 : decode b_Model_run 13 = .ok (.ifCond .lt 10, 3) := by decide +kernel
theorem d_Model_run_16 : decode b_Model_run 16 = .ok (.iload_n 1, 1) := by decide +kernel
theorem d_Model_run_17 : decode b_Model_run 17 = .ok (.sipush 2000, 3) := by decide +kernel
theorem d_Model_run_20 : decode b_Model_run 20 = .ok (.if_icmp .le 7, 3) := by decide +kernel
theorem d_Model_run_23 : decode b_Model_run 23 = .ok (.iconst 2, 1) := by decide +kernel
theorem d_Model_run_24 : decode b_Model_run 24 = .ok (.goto 4, 3) := by decide +kernel
theorem d_Model_run_27 : decode b_Model_run 27 = .ok (.iconst 0, 1) := by decide +kernel
theorem d_Model_run_28 : decode b_Model_run 28 = .ok (.putfield 148, 3) := by decide +kernel
theorem d_Model_run_31 : decode b_Model_run 31 = .ok (.bipush 40, 2) := by decide +kernel
theorem d_Model_run_33 : decode b_Model_run 33 = .ok (.aload_n 0, 1) := by decide +kernel
theorem d_Model_run_34 : decode b_Model_run 34 = .ok (.getfield 272, 3) := by decide +kernel
theorem d_Model_run_37 : decode b_Model_run 37 = .ok (.imul, 1) := by decide +kernel
theorem d_Model_run_38 : decode b_Model_run 38 = .ok (.istore_n 2, 1) := by decide +kernel
theorem d_Model_run_39 : decode b_Model_run 39 = .ok (.iconst 0, 1) := by decide +kernel
theorem d_Model_run_40 : decode b_Model_run 40 = .ok (.istore_n 3, 1) := by decide +kernel
theorem d_Model_run_41 : decode b_Model_run 41 = .ok (.aload_n 0, 1) := by decide +kernel
theorem d_Model_run_42 : decode b_Model_run 42 = .ok (.getfield 148, 3) := by decide +kernel
theorem d_Model_run_45 : decode b_Model_run 45 = .ok (.ifCond .ne 124, 3) := by decide +kernel
theorem d_Model_run_48 : decode b_Model_run 48 = .ok (.iload_n 2, 1) := by decide +kernel
theorem d_Model_run_49 : decode b_Model_run 49 = .ok (.bipush 40, 2) := by decide +kernel
theorem d_Model_run_51 : decode b_Model_run 51 = .ok (.aload_n 0, 1) := by decide +kernel
theorem d_Model_run_52 : decode b_Model_run 52 = .ok (.getfield 272, 3) := by decide +kernel
theorem d_Model_run_55 : decode b_Model_run 55 = .ok (.imul, 1) := by decide +kernel
theorem d_Model_run_56 : decode b_Model_run 56 = .ok (.aload_n 0, 1) := by decide +kernel
theorem d_Model_run_57 : decode b_Model_run 57 = .ok (.getfield 26, 3) := by decide +kernel
theorem d_Model_run_60 : decode b_Model_run 60 = .ok (.aload_n 0, 1) := by decide +kernel
theorem d_Model_run_61 : decode b_Model_run 61 = .ok (.getfield 272, 3) := by decide +kernel
theorem d_Model_run_64 : decode b_Model_run 64 = .ok (.iaload, 1) := by decide +kernel
theorem d_Model_run_65 : decode b_Model_run 65 = .ok (.iadd, 1) := by decide +kernel
theorem d_Model_run_66 : decode b_Model_run 66 = .ok (.if_icmp .ge 103, 3) := by decide +kernel
theorem d_Model_run_69 : decode b_Model_run 69 = .ok (.aload_n 0, 1) := by decide +kernel
theorem d_Model_run_70 : decode b_Model_run 70 = .ok (.getfield 29, 3) := by decide +kernel
theorem d_Model_run_73 : decode b_Model_run 73 = .ok (.iload_n 2, 1) := by decide +kernel
theorem d_Model_run_74 : decode b_Model_run 74 = .ok (.iaload, 1) := by decide +kernel
theorem d_Model_run_75 : decode b_Model_run 75 = .ok (.iconst 3, 1) := by decide +kernel
theorem d_Model_run_76 : decode b_Model_run 76 = .ok (.if_icmp .eq 24, 3) := by decide +kernel
theorem d_Model_run_79 : decode b_Model_run 79 = .ok (.aload_n 0, 1) := by decide +kernel
theorem d_Model_run_80 : decode b_Model_run 80 = .ok (.getfield 29, 3) := by decide +kernel
theorem d_Model_run_83 : decode b_Model_run 83 = .ok (.iload_n 2, 1) := by decide +kernel
theorem d_Model_run_84 : decode b_Model_run 84 = .ok (.iaload, 1) := by decide +kernel
theorem d_Model_run_85 : decode b_Model_run 85 = .ok (.iconst 4, 1) := by decide +kernel
theorem d_Model_run_86 : decode b_Model_run 86 = .ok (.if_icmp .eq 14, 3) := by decide +kernel
theorem d_Model_run_89 : decode b_Model_run 89 = .ok (.aload_n 0, 1) := by decide +kernel
theorem d_Model_run_90 : decode b_Model_run 90 = .ok (.getfield 29, 3) := by decide +kernel
theorem d_Model_run_93 : decode b_Model_run 93 = .ok (.iload_n 2, 1) := by decide +kernel
theorem d_Model_run_94 : decode b_Model_run 94 = .ok (.iaload, 1) := by decide +kernel
theorem d_Model_run_95 : decode b_Model_run 95 = .ok (.bipush 6, 2) := by decide +kernel
theorem d_Model_run_97 : decode b_Model_run 97 = .ok (.if_icmp .ne 50, 3) := by decide +kernel
theorem d_Model_run_100 : decode b_Model_run 100 = .ok (.aload_n 0, 1) := by decide +kernel
theorem d_Model_run_101 : decode b_Model_run 101 = .ok (.getfield 29, 3) := by decide +kernel
theorem d_Model_run_104 : decode b_Model_run 104 = .ok (.iload_n 2, 1) := by decide +kernel
theorem d_Model_run_105 : decode b_Model_run 105 = .ok (.iaload, 1) := by decide +kernel
theorem d_Model_run_106 : decode b_Model_run 106 = .ok (.iconst 4, 1) := by decide +kernel
theorem d_Model_run_107 : decode b_Model_run 107 = .ok (.if_icmp .ne 9, 3) := by decide +kernel
theorem d_Model_run_110 : decode b_Model_run 110 = .ok (.iload_n 2, 1) := by decide +kernel
theorem d_Model_run_111 : decode b_Model_run 111 = .ok (.iconst 1, 1) := by decide +kernel
theorem d_Model_run_112 : decode b_Model_run 112 = .ok (.iadd, 1) := by decide +kernel
theorem d_Model_run_113 : decode b_Model_run 113 = .ok (.goto 30, 3) := by decide +kernel
theorem d_Model_run_116 : decode b_Model_run 116 = .ok (.aload_n 0, 1) := by decide +kernel
theorem d_Model_run_117 : decode b_Model_run 117 = .ok (.getfield 29, 3) := by decide +kernel
theorem d_Model_run_120 : decode b_Model_run 120 = .ok (.iload_n 2, 1) := by decide +kernel
theorem d_Model_run_121 : decode b_Model_run 121 = .ok (.iaload, 1) := by decide +kernel
theorem d_Model_run_122 : decode b_Model_run 122 = .ok (.iconst 3, 1) := by decide +kernel
theorem d_Model_run_123 : decode b_Model_run 123 = .ok (.if_icmp .ne 14, 3) := by decide +kernel
theorem d_Model_run_126 : decode b_Model_run 126 = .ok (.aload_n 0, 1) := by decide +kernel
theorem d_Model_run_127 : decode b_Model_run 127 = .ok (.getfield 63, 3) := by decide +kernel
theorem d_Model_run_130 : decode b_Model_run 130 = .ok (.iload_n 2, 1) := by decide +kernel
theorem d_Model_run_131 : decode b_Model_run 131 = .ok (.iaload, 1) := by decide +kernel
theorem d_Model_run_132 : decode b_Model_run 132 = .ok (.iconst 1, 1) := by decide +kernel
theorem d_Model_run_133 : decode b_Model_run 133 = .ok (.iadd, 1) := by decide +kernel
theorem d_Model_run_134 : decode b_Model_run 134 = .ok (.goto 9, 3) := by decide +kernel
theorem d_Model_run_137 : decode b_Model_run 137 = .ok (.aload_n 0, 1) := by decide +kernel
theorem d_Model_run_138 : decode b_Model_run 138 = .ok (.getfield 63, 3) := by decide +kernel
theorem d_Model_run_141 : decode b_Model_run 141 = .ok (.iload_n 2, 1) := by decide +kernel
theorem d_Model_run_142 : decode b_Model_run 142 = .ok (.iaload, 1) := by decide +kernel
theorem d_Model_run_143 : decode b_Model_run 143 = .ok (.istore_n 2, 1) := by decide +kernel
theorem d_Model_run_144 : decode b_Model_run 144 = .ok (.goto (-103), 3) := by decide +kernel
theorem d_Model_run_147 : decode b_Model_run 147 = .ok (.iload_n 3, 1) := by decide +kernel
theorem d_Model_run_148 : decode b_Model_run 148 = .ok (.iload_n 1, 1) := by decide +kernel
theorem d_Model_run_149 : decode b_Model_run 149 = .ok (.if_icmp .ne 5, 3) := by decide +kernel
theorem d_Model_run_152 : decode b_Model_run 152 = .ok (.iconst 1, 1) := by decide +kernel
theorem d_Model_run_153 : decode b_Model_run 153 = .ok (.ireturn, 1) := by decide +kernel
theorem d_Model_run_154 : decode b_Model_run 154 = .ok (.iinc 3 1, 3) := by decide +kernel
theorem d_Model_run_157 : decode b_Model_run 157 = .ok (.aload_n 0, 1) := by decide +kernel
theorem d_Model_run_158 : decode b_Model_run 158 = .ok (.iload_n 2, 1) := by decide +kernel
theorem d_Model_run_159 : decode b_Model_run 159 = .ok (.invokevirtual 479, 3) := by decide +kernel
theorem d_Model_run_162 : decode b_Model_run 162 = .ok (.istore_n 2, 1) := by decide +kernel
theorem d_Model_run_163 : decode b_Model_run 163 = .ok (.iload_n 2, 1) := by decide +kernel
theorem d_Model_run_164 : decode b_Model_run 164 = .ok (.ifCond .ge (-123), 3) := by decide +kernel
theorem d_Model_run_167 : decode b_Model_run 167 = .ok (.iconst 2, 1) := by decide +kernel
theorem d_Model_run_168 : decode b_Model_run 168 = .ok (.ireturn, 1) := by decide +kernel
theorem d_Model_run_169 : decode b_Model_run 169 = .ok (.iconst 0, 1) := by decide +kernel
theorem d_Model_run_170 : decode b_Model_run 170 = .ok (.ireturn, 1) := by decide +kernel
set_option maxHeartbeats 40000000 in
set_option maxRecDepth 100000 in
theorem c_M_run_none (l : Launch) (D : va_G) (ax : Nat → ClassId) (m0 m1 m2 m3 m4 m5 m6 m7 m8 m9 m10 m11 m12 m13 m14 m15 m16 m17 m18 m19 m20 m21 m22 m23 m24 m25 m26 m27 m28 m29 m30 m31 m32 m33 m34 m35 m36 m37 m38 m39 m40 m41 m42 : Nat) (s_thrown s_taped s_size s_outSize s_kind s_value s_begin s_end s_failed s_signs s_stacked s_name s_shift s_statements s_ifs s_whiles s_variants s_open s_isMade s_conditions s_kept s_tops s_used s_looked s_rows s_firstRow s_isBroken s_atoms : Int32) (x1 : Int32) (hf : Nat) (sz : Nat) : Met l y_Model_run (xws (.code y_Model_run b_Model_run 4 (some .int))) ({ frames := 10, cells := 0, slots := 0, locals := 400 }) (va_Pc [.ref m0, .int x1] (xo D ax [(m0, .inr (11, [.int s_thrown, .int s_taped, .ref m1, .int s_size, .int s_outSize, .ref m2, .int s_kind, .int s_value, .int s_begin, .int s_end, .int s_failed, .ref m3, .ref m4, .ref m5, .int 0, .int (nI hf), .ref m6, .ref m7, .ref m8, .ref m9, .ref m10, .ref m11, .ref m12, .ref m13, .ref m14, .ref m15, .ref m16, .ref m17, .ref m18, .ref m19, .ref m20, .int s_signs, .ref m21, .int s_stacked, .ref m22, .int s_name, .int s_shift, .int s_statements, .int s_ifs, .int s_whiles, .int s_variants, .int s_open, .ref m23, .int s_isMade, .int s_conditions, .ref m24, .ref m25, .ref m26, .ref m27, .int s_kept, .ref m28, .int s_tops, .ref m29, .int s_used, .ref m30, .ref m31, .int s_looked, .int s_rows, .int s_firstRow, .ref m32, .ref m33, .ref m34, .ref m35, .ref m36, .ref m37, .ref m38, .ref m39, .ref m40, .int s_isBroken, .ref m41, .int s_atoms, .ref m42]))] sz)) ((va_Qi (fun (r : Int32) (u : Nat → Nat) => r = 0) (xb D (va_A [(m0, .inr (11, [.int s_thrown, .int s_taped, .ref m1, .int s_size, .int s_outSize, .ref m2, .int s_kind, .int s_value, .int s_begin, .int s_end, .int s_failed, .ref m3, .ref m4, .ref m5, .int 0, .int (nI hf), .ref m6, .ref m7, .ref m8, .ref m9, .ref m10, .ref m11, .ref m12, .ref m13, .ref m14, .ref m15, .ref m16, .ref m17, .ref m18, .ref m19, .ref m20, .int s_signs, .ref m21, .int s_stacked, .ref m22, .int s_name, .int s_shift, .int s_statements, .int s_ifs, .int s_whiles, .int s_variants, .int s_open, .ref m23, .int s_isMade, .int s_conditions, .ref m24, .ref m25, .ref m26, .ref m27, .int s_kept, .ref m28, .int s_tops, .ref m29, .int s_used, .ref m30, .ref m31, .int s_looked, .int s_rows, .int s_firstRow, .ref m32, .ref m33, .ref m34, .ref m35, .ref m36, .ref m37, .ref m38, .ref m39, .ref m40, .int s_isBroken, .ref m41, .int s_atoms, .ref m42]))] sz) (fun u => [(m0, .inr (11, [.int 1, .int s_taped, .ref m1, .int s_size, .int s_outSize, .ref m2, .int s_kind, .int s_value, .int s_begin, .int s_end, .int s_failed, .ref m3, .ref m4, .ref m5, .int 0, .int (nI hf), .ref m6, .ref m7, .ref m8, .ref m9, .ref m10, .ref m11, .ref m12, .ref m13, .ref m14, .ref m15, .ref m16, .ref m17, .ref m18, .ref m19, .ref m20, .int s_signs, .ref m21, .int s_stacked, .ref m22, .int s_name, .int s_shift, .int s_statements, .int s_ifs, .int s_whiles, .int s_variants, .int s_open, .ref m23, .int s_isMade, .int s_conditions, .ref m24, .ref m25, .ref m26, .ref m27, .int s_kept, .ref m28, .int s_tops, .ref m29, .int s_used, .ref m30, .ref m31, .int s_looked, .int s_rows, .int s_firstRow, .ref m32, .ref m33, .ref m34, .ref m35, .ref m36, .ref m37, .ref m38, .ref m39, .ref m40, .int s_isBroken, .ref m41, .int s_atoms, .ref m42]))])) (va_A [(m0, .inr (11, [.int s_thrown, .int s_taped, .ref m1, .int s_size, .int s_outSize, .ref m2, .int s_kind, .int s_value, .int s_begin, .int s_end, .int s_failed, .ref m3, .ref m4, .ref m5, .int 0, .int (nI hf), .ref m6, .ref m7, .ref m8, .ref m9, .ref m10, .ref m11, .ref m12, .ref m13, .ref m14, .ref m15, .ref m16, .ref m17, .ref m18, .ref m19, .ref m20, .int s_signs, .ref m21, .int s_stacked, .ref m22, .int s_name, .int s_shift, .int s_statements, .int s_ifs, .int s_whiles, .int s_variants, .int s_open, .ref m23, .int s_isMade, .int s_conditions, .ref m24, .ref m25, .ref m26, .ref m27, .int s_kept, .ref m28, .int s_tops, .ref m29, .int s_used, .ref m30, .ref m31, .int s_looked, .int s_rows, .int s_firstRow, .ref m32, .ref m33, .ref m34, .ref m35, .ref m36, .ref m37, .ref m38, .ref m39, .ref m40, .int s_isBroken, .ref m41, .int s_atoms, .ref m42]))] sz))) 0 0 (va_A [(m0, .inr (11, [.int s_thrown, .int s_taped, .ref m1, .int s_size, .int s_outSize, .ref m2, .int s_kind, .int s_value, .int s_begin, .int s_end, .int s_failed, .ref m3, .ref m4, .ref m5, .int 0, .int (nI hf), .ref m6, .ref m7, .ref m8, .ref m9, .ref m10, .ref m11, .ref m12, .ref m13, .ref m14, .ref m15, .ref m16, .ref m17, .ref m18, .ref m19, .ref m20, .int s_signs, .ref m21, .int s_stacked, .ref m22, .int s_name, .int s_shift, .int s_statements, .int s_ifs, .int s_whiles, .int s_variants, .int s_open, .ref m23, .int s_isMade, .int s_conditions, .ref m24, .ref m25, .ref m26, .ref m27, .int s_kept, .ref m28, .int s_tops, .ref m29, .int s_used, .ref m30, .ref m31, .int s_looked, .int s_rows, .int s_firstRow, .ref m32, .ref m33, .ref m34, .ref m35, .ref m36, .ref m37, .ref m38, .ref m39, .ref m40, .int s_isBroken, .ref m41, .int s_atoms, .ref m42]))] sz) := by
  refine Met.ofW (cc := b_Model_run) (maxL := 4) (ret := (some .int)) (by decide) rfl ?_
  intro p e s m args below meth c s₁ B hml hv
  obtain ⟨rfl, hsz, hP, hK, hD0⟩ := hv
  have hx := B.exec
  have hb := B.bytes
  have hr := B.returns
  have hts := xw_hts B.pre
  have hown : s.vm.findClass R_Model = some m.cls := findClass_of_methodNamed B.named
  have hlocks := B.notSynchronized
  subst hsz
  have hD := hD0.self (sz := s.heap.size)
  have hN := xz_entry hP
  generalize hAe : va_A [(m0, .inr (11, [.int s_thrown, .int s_taped, .ref m1, .int s_size, .int s_outSize, .ref m2, .int s_kind, .int s_value, .int s_begin, .int s_end, .int s_failed, .ref m3, .ref m4, .ref m5, .int 0, .int (nI hf), .ref m6, .ref m7, .ref m8, .ref m9, .ref m10, .ref m11, .ref m12, .ref m13, .ref m14, .ref m15, .ref m16, .ref m17, .ref m18, .ref m19, .ref m20, .int s_signs, .ref m21, .int s_stacked, .ref m22, .int s_name, .int s_shift, .int s_statements, .int s_ifs, .int s_whiles, .int s_variants, .int s_open, .ref m23, .int s_isMade, .int s_conditions, .ref m24, .ref m25, .ref m26, .ref m27, .int s_kept, .ref m28, .int s_tops, .ref m29, .int s_used, .ref m30, .ref m31, .int s_looked, .int s_rows, .int s_firstRow, .ref m32, .ref m33, .ref m34, .ref m35, .ref m36, .ref m37, .ref m38, .ref m39, .ref m40, .int s_isBroken, .ref m41, .int s_atoms, .ref m42]))] s.heap.size = A at hD hN ⊢
  have hA : ∀ q : Nat, s.heap.size ≤ q → A q := fun q h => by rw [← hAe]; exact Or.inr h
  have hS : va_S A s.heap s.heap [] := va_S.rf
  have hl0 := lv_entry ([.ref m0, .int x1]) (n := 4) (Nat.le_of_ble_eq_true rfl)
  rw [lg_entry_eq]
  generalize (lg_sl ([.ref m0, .int x1]) ++ List.replicate (4 - (lg_sl ([.ref m0, .int x1])).length) Slot.unset).toArray = ls at hl0 ⊢
  have hl1 : lv_has ls 4 [(0, .ref m0), (1, .int x1)] := hl0
  refine xw_gen (fun Z9 hQe => ?_)
  refine lv_aload_n hx hb d_Model_run_0 rfl (lv_at hl1 0 rfl) ?_
  refine lv_aload_n hx hb d_Model_run_1 rfl (lv_at hl1 0 rfl) ?_
  refine va_get (D := D) (ci := 11) (v := .int 0) (C := R_Model) (T := F_Model) (N := 72) hx hb hts i_Model hown hK.1 hP 0 rfl rfl 14 (by decide) (hts _ wd_1050) (fun _ h9 => h9) rfl d_Model_run_2 ?_
  refine lv_if_ne (tgt := 12) hx hb d_Model_run_5 (by decide) (fun c_1 => ?_) (fun c_1 => ?_)
  · first | exact absurd c_1 (by decide) | exact absurd (by decide) c_1
  refine lv_iconst (v := 1) hx hb d_Model_run_8 (by decide) ?_
  refine lv_goto (tgt := 28) hx hb d_Model_run_9 (by decide) ?_
  refine va_put (D := D) (ci := 11) (v := .int 1) (ty := .int) (C := R_Model) (T := F_Model) (N := 72) hx hb hts i_Model t_Model t_Model_ok n_Model hown hK.1 hP hD hS 0 rfl rfl 0 (by decide) (hts _ wd_1036) (fun _ h9 => h9) rfl (by decide +kernel) rfl rfl (Nat.le_of_ble_eq_true rfl) d_Model_run_28 (fun H_2 locs hP1 hD1 hS1 => ?_)
  clear hP hD hS
  have hS := hS1
  have hW7 : (fun w9 : va_W => va_P D classes w9 H_2 ∧ va_D A w9) [(m0, .inr (11, [.int 1, .int s_taped, .ref m1, .int s_size, .int s_outSize, .ref m2, .int s_kind, .int s_value, .int s_begin, .int s_end, .int s_failed, .ref m3, .ref m4, .ref m5, .int 0, .int (nI hf), .ref m6, .ref m7, .ref m8, .ref m9, .ref m10, .ref m11, .ref m12, .ref m13, .ref m14, .ref m15, .ref m16, .ref m17, .ref m18, .ref m19, .ref m20, .int s_signs, .ref m21, .int s_stacked, .ref m22, .int s_name, .int s_shift, .int s_statements, .int s_ifs, .int s_whiles, .int s_variants, .int s_open, .ref m23, .int s_isMade, .int s_conditions, .ref m24, .ref m25, .ref m26, .ref m27, .int s_kept, .ref m28, .int s_tops, .ref m29, .int s_used, .ref m30, .ref m31, .int s_looked, .int s_rows, .int s_firstRow, .ref m32, .ref m33, .ref m34, .ref m35, .ref m36, .ref m37, .ref m38, .ref m39, .ref m40, .int s_isBroken, .ref m41, .int s_atoms, .ref m42]))] := ⟨hP1, hD1⟩
  obtain ⟨hP, hD⟩ := hW7
  clear hP1 hD1 hS1
  refine lv_bipush (v := 40) hx hb d_Model_run_31 (by decide) ?_
  refine lv_aload_n hx hb d_Model_run_33 rfl (lv_at hl1 0 rfl) ?_
  refine va_get (D := D) (ci := 11) (v := .int (nI hf)) (C := R_Model) (T := F_Model) (N := 72) hx hb hts i_Model hown hK.1 hP 0 rfl rfl 15 (by decide) (hts _ wd_1051) (fun _ h9 => h9) rfl d_Model_run_34 ?_
  refine lv_imul hx hb d_Model_run_37 ?_
  refine lv_topi (fun z_3 ez_3 => ?_)
  have ez_3 : z_3 = nI (40 * hf) := ez_3.trans (pk_mul 40 hf)
  subst ez_3
  refine lv_istore_n (lv' := [(2, .int (nI (40 * hf))), (0, .ref m0), (1, .int x1)]) hx hb d_Model_run_38 rfl hl1 (by decide) rfl (fun ls hl2 => ?_)
  clear hl1; have hl1 := hl2; clear hl2
  refine lv_iconst (v := 0) hx hb d_Model_run_39 (by decide) ?_
  refine lv_istore_n (lv' := [(3, .int 0), (2, .int (nI (40 * hf))), (0, .ref m0), (1, .int x1)]) hx hb d_Model_run_40 rfl hl1 (by decide) rfl (fun ls hl2 => ?_)
  clear hl1; have hl1 := hl2; clear hl2
  refine lv_aload_n hx hb d_Model_run_41 rfl (lv_at hl1 2 rfl) ?_
  refine va_get (D := D) (ci := 11) (v := .int 1) (C := R_Model) (T := F_Model) (N := 72) hx hb hts i_Model hown hK.1 hP 0 rfl rfl 0 (by decide) (hts _ wd_1036) (fun _ h9 => h9) rfl d_Model_run_42 ?_
  refine lv_if_ne (tgt := 169) hx hb d_Model_run_45 (by decide) (fun c_4 => ?_) (fun c_4 => ?_)
  rotate_left
  · first | exact absurd c_4 (by decide) | exact absurd (by decide) c_4
  refine lv_iconst (v := 0) hx hb d_Model_run_169 (by decide) ?_
  rw [← hQe]
  obtain ⟨hP9, hD9⟩ := xw_sub2 (wc := (fun u : Nat → Nat => [(m0, .inr (11, [.int 1, .int s_taped, .ref m1, .int s_size, .int s_outSize, .ref m2, .int s_kind, .int s_value, .int s_begin, .int s_end, .int s_failed, .ref m3, .ref m4, .ref m5, .int 0, .int (nI hf), .ref m6, .ref m7, .ref m8, .ref m9, .ref m10, .ref m11, .ref m12, .ref m13, .ref m14, .ref m15, .ref m16, .ref m17, .ref m18, .ref m19, .ref m20, .int s_signs, .ref m21, .int s_stacked, .ref m22, .int s_name, .int s_shift, .int s_statements, .int s_ifs, .int s_whiles, .int s_variants, .int s_open, .ref m23, .int s_isMade, .int s_conditions, .ref m24, .ref m25, .ref m26, .ref m27, .int s_kept, .ref m28, .int s_tops, .ref m29, .int s_used, .ref m30, .ref m31, .int s_looked, .int s_rows, .int s_firstRow, .ref m32, .ref m33, .ref m34, .ref m35, .ref m36, .ref m37, .ref m38, .ref m39, .ref m40, .int s_isBroken, .ref m41, .int s_atoms, .ref m42]))]) (ixn [])) hP hD [0] (by decide) rfl
  exact W.iret (v := 0) hx hb hr (fun t ht hW => ⟨⟨0, ixn [], rfl, rfl, ⟨by rw [ht]; exact hP9, hD9⟩⟩, hS.F ht⟩) hS.2.2 d_Model_run_170
set_option maxHeartbeats 40000000 in
set_option maxRecDepth 100000 in
theorem c_M_run_no (l : Launch) (D : va_G) (ax : Nat → ClassId) (m0 m1 m2 m3 m4 m5 m6 m7 m8 m9 m10 m11 m12 m13 m14 m15 m16 m17 m18 m19 m20 m21 m22 m23 m24 m25 m26 m27 m28 m29 m30 m31 m32 m33 m34 m35 m36 m37 m38 m39 m40 m41 m42 : Nat) (s_thrown s_taped s_size s_outSize s_kind s_value s_begin s_end s_failed s_signs s_stacked s_name s_shift s_statements s_ifs s_whiles s_variants s_open s_isMade s_conditions s_kept s_tops s_used s_looked s_rows s_firstRow s_isBroken s_atoms : Int32) (x1 : Int32) (hf : Nat) (sz : Nat) (hno : ∀ j : Nat, j ≤ 2000 → x1 ≠ nI j) : Met l y_Model_run (xws (.code y_Model_run b_Model_run 4 (some .int))) ({ frames := 10, cells := 0, slots := 0, locals := 400 }) (va_Pc [.ref m0, .int x1] (xo D ax [(m0, .inr (11, [.int s_thrown, .int s_taped, .ref m1, .int s_size, .int s_outSize, .ref m2, .int s_kind, .int s_value, .int s_begin, .int s_end, .int s_failed, .ref m3, .ref m4, .ref m5, .int 1, .int (nI hf), .ref m6, .ref m7, .ref m8, .ref m9, .ref m10, .ref m11, .ref m12, .ref m13, .ref m14, .ref m15, .ref m16, .ref m17, .ref m18, .ref m19, .ref m20, .int s_signs, .ref m21, .int s_stacked, .ref m22, .int s_name, .int s_shift, .int s_statements, .int s_ifs, .int s_whiles, .int s_variants, .int s_open, .ref m23, .int s_isMade, .int s_conditions, .ref m24, .ref m25, .ref m26, .ref m27, .int s_kept, .ref m28, .int s_tops, .ref m29, .int s_used, .ref m30, .ref m31, .int s_looked, .int s_rows, .int s_firstRow, .ref m32, .ref m33, .ref m34, .ref m35, .ref m36, .ref m37, .ref m38, .ref m39, .ref m40, .int s_isBroken, .ref m41, .int s_atoms, .ref m42]))] sz)) ((va_Qi (fun (r : Int32) (u : Nat → Nat) => r = 0) (xb D (va_A [(m0, .inr (11, [.int s_thrown, .int s_taped, .ref m1, .int s_size, .int s_outSize, .ref m2, .int s_kind, .int s_value, .int s_begin, .int s_end, .int s_failed, .ref m3, .ref m4, .ref m5, .int 1, .int (nI hf), .ref m6, .ref m7, .ref m8, .ref m9, .ref m10, .ref m11, .ref m12, .ref m13, .ref m14, .ref m15, .ref m16, .ref m17, .ref m18, .ref m19, .ref m20, .int s_signs, .ref m21, .int s_stacked, .ref m22, .int s_name, .int s_shift, .int s_statements, .int s_ifs, .int s_whiles, .int s_variants, .int s_open, .ref m23, .int s_isMade, .int s_conditions, .ref m24, .ref m25, .ref m26, .ref m27, .int s_kept, .ref m28, .int s_tops, .ref m29, .int s_used, .ref m30, .ref m31, .int s_looked, .int s_rows, .int s_firstRow, .ref m32, .ref m33, .ref m34, .ref m35, .ref m36, .ref m37, .ref m38, .ref m39, .ref m40, .int s_isBroken, .ref m41, .int s_atoms, .ref m42]))] sz) (fun u => [(m0, .inr (11, [.int 2, .int s_taped, .ref m1, .int s_size, .int s_outSize, .ref m2, .int s_kind, .int s_value, .int s_begin, .int s_end, .int s_failed, .ref m3, .ref m4, .ref m5, .int 1, .int (nI hf), .ref m6, .ref m7, .ref m8, .ref m9, .ref m10, .ref m11, .ref m12, .ref m13, .ref m14, .ref m15, .ref m16, .ref m17, .ref m18, .ref m19, .ref m20, .int s_signs, .ref m21, .int s_stacked, .ref m22, .int s_name, .int s_shift, .int s_statements, .int s_ifs, .int s_whiles, .int s_variants, .int s_open, .ref m23, .int s_isMade, .int s_conditions, .ref m24, .ref m25, .ref m26, .ref m27, .int s_kept, .ref m28, .int s_tops, .ref m29, .int s_used, .ref m30, .ref m31, .int s_looked, .int s_rows, .int s_firstRow, .ref m32, .ref m33, .ref m34, .ref m35, .ref m36, .ref m37, .ref m38, .ref m39, .ref m40, .int s_isBroken, .ref m41, .int s_atoms, .ref m42]))])) (va_A [(m0, .inr (11, [.int s_thrown, .int s_taped, .ref m1, .int s_size, .int s_outSize, .ref m2, .int s_kind, .int s_value, .int s_begin, .int s_end, .int s_failed, .ref m3, .ref m4, .ref m5, .int 1, .int (nI hf), .ref m6, .ref m7, .ref m8, .ref m9, .ref m10, .ref m11, .ref m12, .ref m13, .ref m14, .ref m15, .ref m16, .ref m17, .ref m18, .ref m19, .ref m20, .int s_signs, .ref m21, .int s_stacked, .ref m22, .int s_name, .int s_shift, .int s_statements, .int s_ifs, .int s_whiles, .int s_variants, .int s_open, .ref m23, .int s_isMade, .int s_conditions, .ref m24, .ref m25, .ref m26, .ref m27, .int s_kept, .ref m28, .int s_tops, .ref m29, .int s_used, .ref m30, .ref m31, .int s_looked, .int s_rows, .int s_firstRow, .ref m32, .ref m33, .ref m34, .ref m35, .ref m36, .ref m37, .ref m38, .ref m39, .ref m40, .int s_isBroken, .ref m41, .int s_atoms, .ref m42]))] sz))) 0 0 (va_A [(m0, .inr (11, [.int s_thrown, .int s_taped, .ref m1, .int s_size, .int s_outSize, .ref m2, .int s_kind, .int s_value, .int s_begin, .int s_end, .int s_failed, .ref m3, .ref m4, .ref m5, .int 1, .int (nI hf), .ref m6, .ref m7, .ref m8, .ref m9, .ref m10, .ref m11, .ref m12, .ref m13, .ref m14, .ref m15, .ref m16, .ref m17, .ref m18, .ref m19, .ref m20, .int s_signs, .ref m21, .int s_stacked, .ref m22, .int s_name, .int s_shift, .int s_statements, .int s_ifs, .int s_whiles, .int s_variants, .int s_open, .ref m23, .int s_isMade, .int s_conditions, .ref m24, .ref m25, .ref m26, .ref m27, .int s_kept, .ref m28, .int s_tops, .ref m29, .int s_used, .ref m30, .ref m31, .int s_looked, .int s_rows, .int s_firstRow, .ref m32, .ref m33, .ref m34, .ref m35, .ref m36, .ref m37, .ref m38, .ref m39, .ref m40, .int s_isBroken, .ref m41, .int s_atoms, .ref m42]))] sz) := by
  refine Met.ofW (cc := b_Model_run) (maxL := 4) (ret := (some .int)) (by decide) rfl ?_
  intro p e s m args below meth c s₁ B hml hv
  obtain ⟨rfl, hsz, hP, hK, hD0⟩ := hv
  have hx := B.exec
  have hb := B.bytes
  have hr := B.returns
  have hts := xw_hts B.pre
  have hown : s.vm.findClass R_Model = some m.cls := findClass_of_methodNamed B.named
  have hlocks := B.notSynchronized
  subst hsz
  have hD := hD0.self (sz := s.heap.size)
  have hN := xz_entry hP
  generalize hAe : va_A [(m0, .inr (11, [.int s_thrown, .int s_taped, .ref m1, .int s_size, .int s_outSize, .ref m2, .int s_kind, .int s_value, .int s_begin, .int s_end, .int s_failed, .ref m3, .ref m4, .ref m5, .int 1, .int (nI hf), .ref m6, .ref m7, .ref m8, .ref m9, .ref m10, .ref m11, .ref m12, .ref m13, .ref m14, .ref m15, .ref m16, .ref m17, .ref m18, .ref m19, .ref m20, .int s_signs, .ref m21, .int s_stacked, .ref m22, .int s_name, .int s_shift, .int s_statements, .int s_ifs, .int s_whiles, .int s_variants, .int s_open, .ref m23, .int s_isMade, .int s_conditions, .ref m24, .ref m25, .ref m26, .ref m27, .int s_kept, .ref m28, .int s_tops, .ref m29, .int s_used, .ref m30, .ref m31, .int s_looked, .int s_rows, .int s_firstRow, .ref m32, .ref m33, .ref m34, .ref m35, .ref m36, .ref m37, .ref m38, .ref m39, .ref m40, .int s_isBroken, .ref m41, .int s_atoms, .ref m42]))] s.heap.size = A at hD hN ⊢
  have hA : ∀ q : Nat, s.heap.size ≤ q → A q := fun q h => by rw [← hAe]; exact Or.inr h
  have hS : va_S A s.heap s.heap [] := va_S.rf
  have hl0 := lv_entry ([.ref m0, .int x1]) (n := 4) (Nat.le_of_ble_eq_true rfl)
  rw [lg_entry_eq]
  generalize (lg_sl ([.ref m0, .int x1]) ++ List.replicate (4 - (lg_sl ([.ref m0, .int x1])).length) Slot.unset).toArray = ls at hl0 ⊢
  have hl1 : lv_has ls 4 [(0, .ref m0), (1, .int x1)] := hl0
  refine xw_gen (fun Z9 hQe => ?_)
  refine lv_aload_n hx hb d_Model_run_0 rfl (lv_at hl1 0 rfl) ?_
  refine lv_aload_n hx hb d_Model_run_1 rfl (lv_at hl1 0 rfl) ?_
  refine va_get (D := D) (ci := 11) (v := .int 1) (C := R_Model) (T := F_Model) (N := 72) hx hb hts i_Model hown hK.1 hP 0 rfl rfl 14 (by decide) (hts _ wd_1050) (fun _ h9 => h9) rfl d_Model_run_2 ?_
  refine lv_if_ne (tgt := 12) hx hb d_Model_run_5 (by decide) (fun c_1 => ?_) (fun c_1 => ?_)
  rotate_left
  · first | exact absurd c_1 (by decide) | exact absurd (by decide) c_1
  refine lv_iload_n hx hb d_Model_run_12 rfl (lv_at hl1 1 rfl) ?_
  refine lv_if_lt (tgt := 23) hx hb d_Model_run_13 (by decide) (fun c_2 => ?_) (fun c_2 => ?_)
  · refine lv_iconst (v := 2) hx hb d_Model_run_23 (by decide) ?_
    refine lv_goto (tgt := 28) hx hb d_Model_run_24 (by decide) ?_
    refine va_put (D := D) (ci := 11) (v := .int 2) (ty := .int) (C := R_Model) (T := F_Model) (N := 72) hx hb hts i_Model t_Model t_Model_ok n_Model hown hK.1 hP hD hS 0 rfl rfl 0 (by decide) (hts _ wd_1036) (fun _ h9 => h9) rfl (by decide +kernel) rfl rfl (Nat.le_of_ble_eq_true rfl) d_Model_run_28 (fun H_3 locs hP1 hD1 hS1 => ?_)
    clear hP hD hS
    have hS := hS1
    have hW7 : (fun w9 : va_W => va_P D classes w9 H_3 ∧ va_D A w9) [(m0, .inr (11, [.int 2, .int s_taped, .ref m1, .int s_size, .int s_outSize, .ref m2, .int s_kind, .int s_value, .int s_begin, .int s_end, .int s_failed, .ref m3, .ref m4, .ref m5, .int 1, .int (nI hf), .ref m6, .ref m7, .ref m8, .ref m9, .ref m10, .ref m11, .ref m12, .ref m13, .ref m14, .ref m15, .ref m16, .ref m17, .ref m18, .ref m19, .ref m20, .int s_signs, .ref m21, .int s_stacked, .ref m22, .int s_name, .int s_shift, .int s_statements, .int s_ifs, .int s_whiles, .int s_variants, .int s_open, .ref m23, .int s_isMade, .int s_conditions, .ref m24, .ref m25, .ref m26, .ref m27, .int s_kept, .ref m28, .int s_tops, .ref m29, .int s_used, .ref m30, .ref m31, .int s_looked, .int s_rows, .int s_firstRow, .ref m32, .ref m33, .ref m34, .ref m35, .ref m36, .ref m37, .ref m38, .ref m39, .ref m40, .int s_isBroken, .ref m41, .int s_atoms, .ref m42]))] := ⟨hP1, hD1⟩
    obtain ⟨hP, hD⟩ := hW7
    clear hP1 hD1 hS1
    refine lv_bipush (v := 40) hx hb d_Model_run_31 (by decide) ?_
    refine lv_aload_n hx hb d_Model_run_33 rfl (lv_at hl1 0 rfl) ?_
    refine va_get (D := D) (ci := 11) (v := .int (nI hf)) (C := R_Model) (T := F_Model) (N := 72) hx hb hts i_Model hown hK.1 hP 0 rfl rfl 15 (by decide) (hts _ wd_1051) (fun _ h9 => h9) rfl d_Model_run_34 ?_
    refine lv_imul hx hb d_Model_run_37 ?_
    refine lv_topi (fun z_4 ez_4 => ?_)
    have ez_4 : z_4 = nI (40 * hf) := ez_4.trans (pk_mul 40 hf)
    subst ez_4
    refine lv_istore_n (lv' := [(2, .int (nI (40 * hf))), (0, .ref m0), (1, .int x1)]) hx hb d_Model_run_38 rfl hl1 (by decide) rfl (fun ls hl2 => ?_)
    clear hl1; have hl1 := hl2; clear hl2
    refine lv_iconst (v := 0) hx hb d_Model_run_39 (by decide) ?_
    refine lv_istore_n (lv' := [(3, .int 0), (2, .int (nI (40 * hf))), (0, .ref m0), (1, .int x1)]) hx hb d_Model_run_40 rfl hl1 (by decide) rfl (fun ls hl2 => ?_)
    clear hl1; have hl1 := hl2; clear hl2
    refine lv_aload_n hx hb d_Model_run_41 rfl (lv_at hl1 2 rfl) ?_
    refine va_get (D := D) (ci := 11) (v := .int 2) (C := R_Model) (T := F_Model) (N := 72) hx hb hts i_Model hown hK.1 hP 0 rfl rfl 0 (by decide) (hts _ wd_1036) (fun _ h9 => h9) rfl d_Model_run_42 ?_
    refine lv_if_ne (tgt := 169) hx hb d_Model_run_45 (by decide) (fun c_5 => ?_) (fun c_5 => ?_)
    rotate_left
    · first | exact absurd c_5 (by decide) | exact absurd (by decide) c_5
    refine lv_iconst (v := 0) hx hb d_Model_run_169 (by decide) ?_
    rw [← hQe]
    obtain ⟨hP9, hD9⟩ := xw_sub2 (wc := (fun u : Nat → Nat => [(m0, .inr (11, [.int 2, .int s_taped, .ref m1, .int s_size, .int s_outSize, .ref m2, .int s_kind, .int s_value, .int s_begin, .int s_end, .int s_failed, .ref m3, .ref m4, .ref m5, .int 1, .int (nI hf), .ref m6, .ref m7, .ref m8, .ref m9, .ref m10, .ref m11, .ref m12, .ref m13, .ref m14, .ref m15, .ref m16, .ref m17, .ref m18, .ref m19, .ref m20, .int s_signs, .ref m21, .int s_stacked, .ref m22, .int s_name, .int s_shift, .int s_statements, .int s_ifs, .int s_whiles, .int s_variants, .int s_open, .ref m23, .int s_isMade, .int s_conditions, .ref m24, .ref m25, .ref m26, .ref m27, .int s_kept, .ref m28, .int s_tops, .ref m29, .int s_used, .ref m30, .ref m31, .int s_looked, .int s_rows, .int s_firstRow, .ref m32, .ref m33, .ref m34, .ref m35, .ref m36, .ref m37, .ref m38, .ref m39, .ref m40, .int s_isBroken, .ref m41, .int s_atoms, .ref m42]))]) (ixn [])) hP hD [0] (by decide) rfl
    exact W.iret (v := 0) hx hb hr (fun t ht hW => ⟨⟨0, ixn [], rfl, rfl, ⟨by rw [ht]; exact hP9, hD9⟩⟩, hS.F ht⟩) hS.2.2 d_Model_run_170
  · refine lv_iload_n hx hb d_Model_run_16 rfl (lv_at hl1 1 rfl) ?_
    refine lv_sipush (v := 2000) hx hb d_Model_run_17 (by decide) ?_
    refine lv_icmp_le (tgt := 27) hx hb d_Model_run_20 (by decide) (fun c_6 => ?_) (fun c_6 => ?_)
    · obtain ⟨j, a1, a2, e9⟩ := rng (a := 0) (b := 2000) rfl rfl (by assumption) (by first | assumption | exact nle (by assumption))
      exact absurd e9 (hno j a2)
    · refine lv_iconst (v := 2) hx hb d_Model_run_23 (by decide) ?_
      refine lv_goto (tgt := 28) hx hb d_Model_run_24 (by decide) ?_
      refine va_put (D := D) (ci := 11) (v := .int 2) (ty := .int) (C := R_Model) (T := F_Model) (N := 72) hx hb hts i_Model t_Model t_Model_ok n_Model hown hK.1 hP hD hS 0 rfl rfl 0 (by decide) (hts _ wd_1036) (fun _ h9 => h9) rfl (by decide +kernel) rfl rfl (Nat.le_of_ble_eq_true rfl) d_Model_run_28 (fun H_7 locs hP1 hD1 hS1 => ?_)
      clear hP hD hS
      have hS := hS1
      have hW7 : (fun w9 : va_W => va_P D classes w9 H_7 ∧ va_D A w9) [(m0, .inr (11, [.int 2, .int s_taped, .ref m1, .int s_size, .int s_outSize, .ref m2, .int s_kind, .int s_value, .int s_begin, .int s_end, .int s_failed, .ref m3, .ref m4, .ref m5, .int 1, .int (nI hf), .ref m6, .ref m7, .ref m8, .ref m9, .ref m10, .ref m11, .ref m12, .ref m13, .ref m14, .ref m15, .ref m16, .ref m17, .ref m18, .ref m19, .ref m20, .int s_signs, .ref m21, .int s_stacked, .ref m22, .int s_name, .int s_shift, .int s_statements, .int s_ifs, .int s_whiles, .int s_variants, .int s_open, .ref m23, .int s_isMade, .int s_conditions, .ref m24, .ref m25, .ref m26, .ref m27, .int s_kept, .ref m28, .int s_tops, .ref m29, .int s_used, .ref m30, .ref m31, .int s_looked, .int s_rows, .int s_firstRow, .ref m32, .ref m33, .ref m34, .ref m35, .ref m36, .ref m37, .ref m38, .ref m39, .ref m40, .int s_isBroken, .ref m41, .int s_atoms, .ref m42]))] := ⟨hP1, hD1⟩
      obtain ⟨hP, hD⟩ := hW7
      clear hP1 hD1 hS1
      refine lv_bipush (v := 40) hx hb d_Model_run_31 (by decide) ?_
      refine lv_aload_n hx hb d_Model_run_33 rfl (lv_at hl1 0 rfl) ?_
      refine va_get (D := D) (ci := 11) (v := .int (nI hf)) (C := R_Model) (T := F_Model) (N := 72) hx hb hts i_Model hown hK.1 hP 0 rfl rfl 15 (by decide) (hts _ wd_1051) (fun _ h9 => h9) rfl d_Model_run_34 ?_
      refine lv_imul hx hb d_Model_run_37 ?_
      refine lv_topi (fun z_8 ez_8 => ?_)
      have ez_8 : z_8 = nI (40 * hf) := ez_8.trans (pk_mul 40 hf)
      subst ez_8
      refine lv_istore_n (lv' := [(2, .int (nI (40 * hf))), (0, .ref m0), (1, .int x1)]) hx hb d_Model_run_38 rfl hl1 (by decide) rfl (fun ls hl2 => ?_)
      clear hl1; have hl1 := hl2; clear hl2
      refine lv_iconst (v := 0) hx hb d_Model_run_39 (by decide) ?_
      refine lv_istore_n (lv' := [(3, .int 0), (2, .int (nI (40 * hf))), (0, .ref m0), (1, .int x1)]) hx hb d_Model_run_40 rfl hl1 (by decide) rfl (fun ls hl2 => ?_)
      clear hl1; have hl1 := hl2; clear hl2
      refine lv_aload_n hx hb d_Model_run_41 rfl (lv_at hl1 2 rfl) ?_
      refine va_get (D := D) (ci := 11) (v := .int 2) (C := R_Model) (T := F_Model) (N := 72) hx hb hts i_Model hown hK.1 hP 0 rfl rfl 0 (by decide) (hts _ wd_1036) (fun _ h9 => h9) rfl d_Model_run_42 ?_
      refine lv_if_ne (tgt := 169) hx hb d_Model_run_45 (by decide) (fun c_9 => ?_) (fun c_9 => ?_)
      rotate_left
      · first | exact absurd c_9 (by decide) | exact absurd (by decide) c_9
      refine lv_iconst (v := 0) hx hb d_Model_run_169 (by decide) ?_
      rw [← hQe]
      obtain ⟨hP9, hD9⟩ := xw_sub2 (wc := (fun u : Nat → Nat => [(m0, .inr (11, [.int 2, .int s_taped, .ref m1, .int s_size, .int s_outSize, .ref m2, .int s_kind, .int s_value, .int s_begin, .int s_end, .int s_failed, .ref m3, .ref m4, .ref m5, .int 1, .int (nI hf), .ref m6, .ref m7, .ref m8, .ref m9, .ref m10, .ref m11, .ref m12, .ref m13, .ref m14, .ref m15, .ref m16, .ref m17, .ref m18, .ref m19, .ref m20, .int s_signs, .ref m21, .int s_stacked, .ref m22, .int s_name, .int s_shift, .int s_statements, .int s_ifs, .int s_whiles, .int s_variants, .int s_open, .ref m23, .int s_isMade, .int s_conditions, .ref m24, .ref m25, .ref m26, .ref m27, .int s_kept, .ref m28, .int s_tops, .ref m29, .int s_used, .ref m30, .ref m31, .int s_looked, .int s_rows, .int s_firstRow, .ref m32, .ref m33, .ref m34, .ref m35, .ref m36, .ref m37, .ref m38, .ref m39, .ref m40, .int s_isBroken, .ref m41, .int s_atoms, .ref m42]))]) (ixn [])) hP hD [0] (by decide) rfl
      exact W.iret (v := 0) hx hb hr (fun t ht hW => ⟨⟨0, ixn [], rfl, rfl, ⟨by rw [ht]; exact hP9, hD9⟩⟩, hS.F ht⟩) hS.2.2 d_Model_run_170
set_option maxHeartbeats 40000000 in
set_option maxRecDepth 100000 in
theorem c_M_run_ok (l : Launch) (D : va_G) (ax : Nat → ClassId) (m0 m1 m2 m3 m4 m5 m6 m7 m8 m9 m10 m11 m12 m13 m14 m15 m16 m17 m18 m19 m20 m21 m22 m23 m24 m25 m26 m27 m28 m29 m30 m31 m32 m33 m34 m35 m36 m37 m38 m39 m40 m41 m42 : Nat) (s_thrown s_taped s_size s_outSize s_kind s_value s_begin s_end s_failed s_signs s_stacked s_name s_shift s_statements s_ifs s_whiles s_variants s_open s_isMade s_conditions s_kept s_tops s_used s_looked s_rows s_firstRow s_isBroken s_atoms : Int32) (hf sp P : Nat) (it op lk fi fs tg se ss gs tr : Nat → Nat) (tn tm pl vr : Nat → Int32) (vs : Nat → Int64) (sz : Nat) (hhf : hf ≤ 1) (hsp : sp ≤ 2000) (hlp : lpg hf (it hf) P op lk fi fs se ss tg gs tn vr pl) (htr : ∀ j, tr j ≤ 1) : Met l y_Model_run (xws (.code y_Model_run b_Model_run 4 (some .int))) ({ frames := 60, cells := 0, slots := 0, locals := 2400 }) (va_Pc [.ref m0, .int (nI sp)] (xo D ax [(m0, .inr (11, [.int s_thrown, .int s_taped, .ref m1, .int s_size, .int s_outSize, .ref m2, .int s_kind, .int s_value, .int s_begin, .int s_end, .int s_failed, .ref m3, .ref m4, .ref m5, .int 1, .int (nI hf), .ref m6, .ref m7, .ref m8, .ref m9, .ref m10, .ref m11, .ref m12, .ref m13, .ref m14, .ref m15, .ref m16, .ref m17, .ref m18, .ref m19, .ref m20, .int s_signs, .ref m21, .int s_stacked, .ref m22, .int s_name, .int s_shift, .int s_statements, .int s_ifs, .int s_whiles, .int s_variants, .int s_open, .ref m23, .int s_isMade, .int s_conditions, .ref m24, .ref m25, .ref m26, .ref m27, .int s_kept, .ref m28, .int s_tops, .ref m29, .int s_used, .ref m30, .ref m31, .int s_looked, .int s_rows, .int s_firstRow, .ref m32, .ref m33, .ref m34, .ref m35, .ref m36, .ref m37, .ref m38, .ref m39, .ref m40, .int s_isBroken, .ref m41, .int s_atoms, .ref m42])), (m41, .inl (ax 4, 6, .inr (.inl vs))), (m42, .inl (ax 3, 256, .inl (fun j => nI (tr j)))), (m6, .inl (ax 0, 2, .inl (fun j => nI (it j)))), (m7, .inl (ax 0, 80, .inl (fun j => nI (op j)))), (m9, .inl (ax 0, 80, .inl (fun j => nI (tg j)))), (m10, .inl (ax 0, 80, .inl tn)), (m11, .inl (ax 0, 80, .inl tm)), (m19, .inl (ax 0, 6000, .inl pl)), (m12, .inl (ax 0, 80, .inl (fun j => nI (fi j)))), (m13, .inl (ax 0, 80, .inl (fun j => nI (fs j)))), (m18, .inl (ax 0, 80, .inl (fun j => nI (lk j))))] sz)) ((va_Qi (fun (r : Int32) (u : Nat → Nat) => r = nI (u 0) ∧ (u 0 ≤ 2)) (fun (u : Nat → Nat) (t9 : State) => ∃ xtr : Nat → Nat, ∃ xvs : Nat → Int64, (∀ j, xtr j ≤ 1) ∧ va_P D classes [(m0, .inr (11, [.int 0, .int s_taped, .ref m1, .int s_size, .int s_outSize, .ref m2, .int s_kind, .int s_value, .int s_begin, .int s_end, .int s_failed, .ref m3, .ref m4, .ref m5, .int 1, .int (nI hf), .ref m6, .ref m7, .ref m8, .ref m9, .ref m10, .ref m11, .ref m12, .ref m13, .ref m14, .ref m15, .ref m16, .ref m17, .ref m18, .ref m19, .ref m20, .int s_signs, .ref m21, .int s_stacked, .ref m22, .int s_name, .int s_shift, .int s_statements, .int s_ifs, .int s_whiles, .int s_variants, .int s_open, .ref m23, .int s_isMade, .int s_conditions, .ref m24, .ref m25, .ref m26, .ref m27, .int s_kept, .ref m28, .int s_tops, .ref m29, .int s_used, .ref m30, .ref m31, .int s_looked, .int s_rows, .int s_firstRow, .ref m32, .ref m33, .ref m34, .ref m35, .ref m36, .ref m37, .ref m38, .ref m39, .ref m40, .int s_isBroken, .ref m41, .int s_atoms, .ref m42])), (m41, .inl (ax 4, 6, .inr (.inl xvs))), (m42, .inl (ax 3, 256, .inl (fun j => nI (xtr j)))), (m6, .inl (ax 0, 2, .inl (fun j => nI (it j)))), (m7, .inl (ax 0, 80, .inl (fun j => nI (op j)))), (m9, .inl (ax 0, 80, .inl (fun j => nI (tg j)))), (m10, .inl (ax 0, 80, .inl tn)), (m11, .inl (ax 0, 80, .inl tm)), (m19, .inl (ax 0, 6000, .inl pl)), (m12, .inl (ax 0, 80, .inl (fun j => nI (fi j)))), (m13, .inl (ax 0, 80, .inl (fun j => nI (fs j)))), (m18, .inl (ax 0, 80, .inl (fun j => nI (lk j))))] t9.heap ∧ va_D (va_A [(m0, .inr (11, [.int s_thrown, .int s_taped, .ref m1, .int s_size, .int s_outSize, .ref m2, .int s_kind, .int s_value, .int s_begin, .int s_end, .int s_failed, .ref m3, .ref m4, .ref m5, .int 1, .int (nI hf), .ref m6, .ref m7, .ref m8, .ref m9, .ref m10, .ref m11, .ref m12, .ref m13, .ref m14, .ref m15, .ref m16, .ref m17, .ref m18, .ref m19, .ref m20, .int s_signs, .ref m21, .int s_stacked, .ref m22, .int s_name, .int s_shift, .int s_statements, .int s_ifs, .int s_whiles, .int s_variants, .int s_open, .ref m23, .int s_isMade, .int s_conditions, .ref m24, .ref m25, .ref m26, .ref m27, .int s_kept, .ref m28, .int s_tops, .ref m29, .int s_used, .ref m30, .ref m31, .int s_looked, .int s_rows, .int s_firstRow, .ref m32, .ref m33, .ref m34, .ref m35, .ref m36, .ref m37, .ref m38, .ref m39, .ref m40, .int s_isBroken, .ref m41, .int s_atoms, .ref m42])), (m41, .inl (ax 4, 6, .inr (.inl vs))), (m42, .inl (ax 3, 256, .inl (fun j => nI (tr j)))), (m6, .inl (ax 0, 2, .inl (fun j => nI (it j)))), (m7, .inl (ax 0, 80, .inl (fun j => nI (op j)))), (m9, .inl (ax 0, 80, .inl (fun j => nI (tg j)))), (m10, .inl (ax 0, 80, .inl tn)), (m11, .inl (ax 0, 80, .inl tm)), (m19, .inl (ax 0, 6000, .inl pl)), (m12, .inl (ax 0, 80, .inl (fun j => nI (fi j)))), (m13, .inl (ax 0, 80, .inl (fun j => nI (fs j)))), (m18, .inl (ax 0, 80, .inl (fun j => nI (lk j))))] sz) [(m0, .inr (11, [.int 0, .int s_taped, .ref m1, .int s_size, .int s_outSize, .ref m2, .int s_kind, .int s_value, .int s_begin, .int s_end, .int s_failed, .ref m3, .ref m4, .ref m5, .int 1, .int (nI hf), .ref m6, .ref m7, .ref m8, .ref m9, .ref m10, .ref m11, .ref m12, .ref m13, .ref m14, .ref m15, .ref m16, .ref m17, .ref m18, .ref m19, .ref m20, .int s_signs, .ref m21, .int s_stacked, .ref m22, .int s_name, .int s_shift, .int s_statements, .int s_ifs, .int s_whiles, .int s_variants, .int s_open, .ref m23, .int s_isMade, .int s_conditions, .ref m24, .ref m25, .ref m26, .ref m27, .int s_kept, .ref m28, .int s_tops, .ref m29, .int s_used, .ref m30, .ref m31, .int s_looked, .int s_rows, .int s_firstRow, .ref m32, .ref m33, .ref m34, .ref m35, .ref m36, .ref m37, .ref m38, .ref m39, .ref m40, .int s_isBroken, .ref m41, .int s_atoms, .ref m42])), (m41, .inl (ax 4, 6, .inr (.inl xvs))), (m42, .inl (ax 3, 256, .inl (fun j => nI (xtr j)))), (m6, .inl (ax 0, 2, .inl (fun j => nI (it j)))), (m7, .inl (ax 0, 80, .inl (fun j => nI (op j)))), (m9, .inl (ax 0, 80, .inl (fun j => nI (tg j)))), (m10, .inl (ax 0, 80, .inl tn)), (m11, .inl (ax 0, 80, .inl tm)), (m19, .inl (ax 0, 6000, .inl pl)), (m12, .inl (ax 0, 80, .inl (fun j => nI (fi j)))), (m13, .inl (ax 0, 80, .inl (fun j => nI (fs j)))), (m18, .inl (ax 0, 80, .inl (fun j => nI (lk j))))]) (va_A [(m0, .inr (11, [.int s_thrown, .int s_taped, .ref m1, .int s_size, .int s_outSize, .ref m2, .int s_kind, .int s_value, .int s_begin, .int s_end, .int s_failed, .ref m3, .ref m4, .ref m5, .int 1, .int (nI hf), .ref m6, .ref m7, .ref m8, .ref m9, .ref m10, .ref m11, .ref m12, .ref m13, .ref m14, .ref m15, .ref m16, .ref m17, .ref m18, .ref m19, .ref m20, .int s_signs, .ref m21, .int s_stacked, .ref m22, .int s_name, .int s_shift, .int s_statements, .int s_ifs, .int s_whiles, .int s_variants, .int s_open, .ref m23, .int s_isMade, .int s_conditions, .ref m24, .ref m25, .ref m26, .ref m27, .int s_kept, .ref m28, .int s_tops, .ref m29, .int s_used, .ref m30, .ref m31, .int s_looked, .int s_rows, .int s_firstRow, .ref m32, .ref m33, .ref m34, .ref m35, .ref m36, .ref m37, .ref m38, .ref m39, .ref m40, .int s_isBroken, .ref m41, .int s_atoms, .ref m42])), (m41, .inl (ax 4, 6, .inr (.inl vs))), (m42, .inl (ax 3, 256, .inl (fun j => nI (tr j)))), (m6, .inl (ax 0, 2, .inl (fun j => nI (it j)))), (m7, .inl (ax 0, 80, .inl (fun j => nI (op j)))), (m9, .inl (ax 0, 80, .inl (fun j => nI (tg j)))), (m10, .inl (ax 0, 80, .inl tn)), (m11, .inl (ax 0, 80, .inl tm)), (m19, .inl (ax 0, 6000, .inl pl)), (m12, .inl (ax 0, 80, .inl (fun j => nI (fi j)))), (m13, .inl (ax 0, 80, .inl (fun j => nI (fs j)))), (m18, .inl (ax 0, 80, .inl (fun j => nI (lk j))))] sz))) 0 0 (va_A [(m0, .inr (11, [.int s_thrown, .int s_taped, .ref m1, .int s_size, .int s_outSize, .ref m2, .int s_kind, .int s_value, .int s_begin, .int s_end, .int s_failed, .ref m3, .ref m4, .ref m5, .int 1, .int (nI hf), .ref m6, .ref m7, .ref m8, .ref m9, .ref m10, .ref m11, .ref m12, .ref m13, .ref m14, .ref m15, .ref m16, .ref m17, .ref m18, .ref m19, .ref m20, .int s_signs, .ref m21, .int s_stacked, .ref m22, .int s_name, .int s_shift, .int s_statements, .int s_ifs, .int s_whiles, .int s_variants, .int s_open, .ref m23, .int s_isMade, .int s_conditions, .ref m24, .ref m25, .ref m26, .ref m27, .int s_kept, .ref m28, .int s_tops, .ref m29, .int s_used, .ref m30, .ref m31, .int s_looked, .int s_rows, .int s_firstRow, .ref m32, .ref m33, .ref m34, .ref m35, .ref m36, .ref m37, .ref m38, .ref m39, .ref m40, .int s_isBroken, .ref m41, .int s_atoms, .ref m42])), (m41, .inl (ax 4, 6, .inr (.inl vs))), (m42, .inl (ax 3, 256, .inl (fun j => nI (tr j)))), (m6, .inl (ax 0, 2, .inl (fun j => nI (it j)))), (m7, .inl (ax 0, 80, .inl (fun j => nI (op j)))), (m9, .inl (ax 0, 80, .inl (fun j => nI (tg j)))), (m10, .inl (ax 0, 80, .inl tn)), (m11, .inl (ax 0, 80, .inl tm)), (m19, .inl (ax 0, 6000, .inl pl)), (m12, .inl (ax 0, 80, .inl (fun j => nI (fi j)))), (m13, .inl (ax 0, 80, .inl (fun j => nI (fs j)))), (m18, .inl (ax 0, 80, .inl (fun j => nI (lk j))))] sz) := by
  refine Met.ofW (cc := b_Model_run) (maxL := 4) (ret := (some .int)) (by decide) rfl ?_
  intro p e s m args below meth c s₁ B hml hv
  obtain ⟨rfl, hsz, hP, hK, hD0⟩ := hv
  have hx := B.exec
  have hb := B.bytes
  have hr := B.returns
  have hts := xw_hts B.pre
  have hown : s.vm.findClass R_Model = some m.cls := findClass_of_methodNamed B.named
  have hlocks := B.notSynchronized
  subst hsz
  have hD := hD0.self (sz := s.heap.size)
  have hN := xz_entry hP
  generalize hAe : va_A [(m0, .inr (11, [.int s_thrown, .int s_taped, .ref m1, .int s_size, .int s_outSize, .ref m2, .int s_kind, .int s_value, .int s_begin, .int s_end, .int s_failed, .ref m3, .ref m4, .ref m5, .int 1, .int (nI hf), .ref m6, .ref m7, .ref m8, .ref m9, .ref m10, .ref m11, .ref m12, .ref m13, .ref m14, .ref m15, .ref m16, .ref m17, .ref m18, .ref m19, .ref m20, .int s_signs, .ref m21, .int s_stacked, .ref m22, .int s_name, .int s_shift, .int s_statements, .int s_ifs, .int s_whiles, .int s_variants, .int s_open, .ref m23, .int s_isMade, .int s_conditions, .ref m24, .ref m25, .ref m26, .ref m27, .int s_kept, .ref m28, .int s_tops, .ref m29, .int s_used, .ref m30, .ref m31, .int s_looked, .int s_rows, .int s_firstRow, .ref m32, .ref m33, .ref m34, .ref m35, .ref m36, .ref m37, .ref m38, .ref m39, .ref m40, .int s_isBroken, .ref m41, .int s_atoms, .ref m42])), (m41, .inl (ax 4, 6, .inr (.inl vs))), (m42, .inl (ax 3, 256, .inl (fun j => nI (tr j)))), (m6, .inl (ax 0, 2, .inl (fun j => nI (it j)))), (m7, .inl (ax 0, 80, .inl (fun j => nI (op j)))), (m9, .inl (ax 0, 80, .inl (fun j => nI (tg j)))), (m10, .inl (ax 0, 80, .inl tn)), (m11, .inl (ax 0, 80, .inl tm)), (m19, .inl (ax 0, 6000, .inl pl)), (m12, .inl (ax 0, 80, .inl (fun j => nI (fi j)))), (m13, .inl (ax 0, 80, .inl (fun j => nI (fs j)))), (m18, .inl (ax 0, 80, .inl (fun j => nI (lk j))))] s.heap.size = A at hD hN ⊢
  have hA : ∀ q : Nat, s.heap.size ≤ q → A q := fun q h => by rw [← hAe]; exact Or.inr h
  have hS : va_S A s.heap s.heap [] := va_S.rf
  have hl0 := lv_entry ([.ref m0, .int (nI sp)]) (n := 4) (Nat.le_of_ble_eq_true rfl)
  rw [lg_entry_eq]
  generalize (lg_sl ([.ref m0, .int (nI sp)]) ++ List.replicate (4 - (lg_sl ([.ref m0, .int (nI sp)])).length) Slot.unset).toArray = ls at hl0 ⊢
  have hl1 : lv_has ls 4 [(0, .ref m0), (1, .int (nI sp))] := hl0
  refine xw_gen (fun Z9 hQe => ?_)
  refine lv_aload_n hx hb d_Model_run_0 rfl (lv_at hl1 0 rfl) ?_
  refine lv_aload_n hx hb d_Model_run_1 rfl (lv_at hl1 0 rfl) ?_
  refine va_get (D := D) (ci := 11) (v := .int 1) (C := R_Model) (T := F_Model) (N := 72) hx hb hts i_Model hown hK.1 hP 0 rfl rfl 14 (by decide) (hts _ wd_1050) (fun _ h9 => h9) rfl d_Model_run_2 ?_
  refine lv_if_ne (tgt := 12) hx hb d_Model_run_5 (by decide) (fun c_1 => ?_) (fun c_1 => ?_)
  rotate_left
  · first | exact absurd c_1 (by decide) | exact absurd (by decide) c_1
  refine lv_iload_n hx hb d_Model_run_12 rfl (lv_at hl1 1 rfl) ?_
  refine lv_if_lt (tgt := 23) hx hb d_Model_run_13 (by decide) (fun c_2 => ?_) (fun c_2 => ?_)
  · exfalso
    replace c_2 : sp < 0 := (nI_ltI (a := sp) (b := 0) (by first | exact Nat.lt_of_lt_of_le (by assumption) (by decide) | exact Nat.lt_of_le_of_lt (by assumption) (by decide) | omega) (by decide)).mp c_2
    omega
  replace c_2 : ¬ sp < 0 := fun hq9 => c_2 ((nI_ltI (a := sp) (b := 0) (by first | exact Nat.lt_of_lt_of_le (by assumption) (by decide) | exact Nat.lt_of_le_of_lt (by assumption) (by decide) | omega) (by decide)).mpr hq9)
  refine lv_iload_n hx hb d_Model_run_16 rfl (lv_at hl1 1 rfl) ?_
  refine lv_sipush (v := 2000) hx hb d_Model_run_17 (by decide) ?_
  refine lv_icmp_le (tgt := 27) hx hb d_Model_run_20 (by decide) (fun c_3 => ?_) (fun c_3 => ?_)
  rotate_left
  · exfalso
    replace c_3 : ¬ sp ≤ 2000 := fun hq9 => c_3 ((nI_leI (a := sp) (b := 2000) (by first | exact Nat.lt_of_lt_of_le (by assumption) (by decide) | exact Nat.lt_of_le_of_lt (by assumption) (by decide) | omega) (by decide)).mpr hq9)
    omega
  replace c_3 : sp ≤ 2000 := (nI_leI (a := sp) (b := 2000) (by first | exact Nat.lt_of_lt_of_le (by assumption) (by decide) | exact Nat.lt_of_le_of_lt (by assumption) (by decide) | omega) (by decide)).mp c_3
  refine lv_iconst (v := 0) hx hb d_Model_run_27 (by decide) ?_
  refine va_put (D := D) (ci := 11) (v := .int 0) (ty := .int) (C := R_Model) (T := F_Model) (N := 72) hx hb hts i_Model t_Model t_Model_ok n_Model hown hK.1 hP hD hS 0 rfl rfl 0 (by decide) (hts _ wd_1036) (fun _ h9 => h9) rfl (by decide +kernel) rfl rfl (Nat.le_of_ble_eq_true rfl) d_Model_run_28 (fun H_4 locs hP1 hD1 hS1 => ?_)
  clear hP hD hS
  have hS := hS1
  have hW7 : (fun w9 : va_W => va_P D classes w9 H_4 ∧ va_D A w9) [(m0, .inr (11, [.int 0, .int s_taped, .ref m1, .int s_size, .int s_outSize, .ref m2, .int s_kind, .int s_value, .int s_begin, .int s_end, .int s_failed, .ref m3, .ref m4, .ref m5, .int 1, .int (nI hf), .ref m6, .ref m7, .ref m8, .ref m9, .ref m10, .ref m11, .ref m12, .ref m13, .ref m14, .ref m15, .ref m16, .ref m17, .ref m18, .ref m19, .ref m20, .int s_signs, .ref m21, .int s_stacked, .ref m22, .int s_name, .int s_shift, .int s_statements, .int s_ifs, .int s_whiles, .int s_variants, .int s_open, .ref m23, .int s_isMade, .int s_conditions, .ref m24, .ref m25, .ref m26, .ref m27, .int s_kept, .ref m28, .int s_tops, .ref m29, .int s_used, .ref m30, .ref m31, .int s_looked, .int s_rows, .int s_firstRow, .ref m32, .ref m33, .ref m34, .ref m35, .ref m36, .ref m37, .ref m38, .ref m39, .ref m40, .int s_isBroken, .ref m41, .int s_atoms, .ref m42])), (m41, .inl (ax 4, 6, .inr (.inl vs))), (m42, .inl (ax 3, 256, .inl (fun j => nI (tr j)))), (m6, .inl (ax 0, 2, .inl (fun j => nI (it j)))), (m7, .inl (ax 0, 80, .inl (fun j => nI (op j)))), (m9, .inl (ax 0, 80, .inl (fun j => nI (tg j)))), (m10, .inl (ax 0, 80, .inl tn)), (m11, .inl (ax 0, 80, .inl tm)), (m19, .inl (ax 0, 6000, .inl pl)), (m12, .inl (ax 0, 80, .inl (fun j => nI (fi j)))), (m13, .inl (ax 0, 80, .inl (fun j => nI (fs j)))), (m18, .inl (ax 0, 80, .inl (fun j => nI (lk j))))] := ⟨hP1, hD1⟩
  obtain ⟨hP, hD⟩ := hW7
  clear hP1 hD1 hS1
  refine lv_bipush (v := 40) hx hb d_Model_run_31 (by decide) ?_
  refine lv_aload_n hx hb d_Model_run_33 rfl (lv_at hl1 0 rfl) ?_
  refine va_get (D := D) (ci := 11) (v := .int (nI hf)) (C := R_Model) (T := F_Model) (N := 72) hx hb hts i_Model hown hK.1 hP 0 rfl rfl 15 (by decide) (hts _ wd_1051) (fun _ h9 => h9) rfl d_Model_run_34 ?_
  refine lv_imul hx hb d_Model_run_37 ?_
  refine lv_topi (fun z_5 ez_5 => ?_)
  have ez_5 : z_5 = nI (40 * hf) := ez_5.trans (pk_mul 40 hf)
  subst ez_5
  refine lv_istore_n (lv' := [(2, .int (nI (40 * hf))), (0, .ref m0), (1, .int (nI sp))]) hx hb d_Model_run_38 rfl hl1 (by decide) rfl (fun ls hl2 => ?_)
  clear hl1; have hl1 := hl2; clear hl2
  refine lv_iconst (v := 0) hx hb d_Model_run_39 (by decide) ?_
  refine lv_istore_n (lv' := [(3, .int 0), (2, .int (nI (40 * hf))), (0, .ref m0), (1, .int (nI sp))]) hx hb d_Model_run_40 rfl hl1 (by decide) rfl (fun ls hl2 => ?_)
  clear hl1; have hl1 := hl2; clear hl2
  obtain ⟨hn32, hP5⟩ := lpg_n hlp
  suffices key_6 : ∀ (k : Nat) (i1 d1 : Nat) (tr1 : Nat → Nat) (vs1 : Nat → Int64), (sp - d1) * 100 + msr op (40 * hf + it hf) i1 < k → 40 * hf ≤ i1 → i1 ≤ (40 * hf + it hf) → d1 ≤ sp → (∀ j, tr1 j ≤ 1) → ∀ (H : Heap) (locs : List Loc) (ls : Array Slot), va_P D classes [(m0, .inr (11, [.int 0, .int s_taped, .ref m1, .int s_size, .int s_outSize, .ref m2, .int s_kind, .int s_value, .int s_begin, .int s_end, .int s_failed, .ref m3, .ref m4, .ref m5, .int 1, .int (nI hf), .ref m6, .ref m7, .ref m8, .ref m9, .ref m10, .ref m11, .ref m12, .ref m13, .ref m14, .ref m15, .ref m16, .ref m17, .ref m18, .ref m19, .ref m20, .int s_signs, .ref m21, .int s_stacked, .ref m22, .int s_name, .int s_shift, .int s_statements, .int s_ifs, .int s_whiles, .int s_variants, .int s_open, .ref m23, .int s_isMade, .int s_conditions, .ref m24, .ref m25, .ref m26, .ref m27, .int s_kept, .ref m28, .int s_tops, .ref m29, .int s_used, .ref m30, .ref m31, .int s_looked, .int s_rows, .int s_firstRow, .ref m32, .ref m33, .ref m34, .ref m35, .ref m36, .ref m37, .ref m38, .ref m39, .ref m40, .int s_isBroken, .ref m41, .int s_atoms, .ref m42])), (m41, .inl (ax 4, 6, .inr (.inl vs1))), (m42, .inl (ax 3, 256, .inl (fun j => nI (tr1 j)))), (m6, .inl (ax 0, 2, .inl (fun j => nI (it j)))), (m7, .inl (ax 0, 80, .inl (fun j => nI (op j)))), (m9, .inl (ax 0, 80, .inl (fun j => nI (tg j)))), (m10, .inl (ax 0, 80, .inl tn)), (m11, .inl (ax 0, 80, .inl tm)), (m19, .inl (ax 0, 6000, .inl pl)), (m12, .inl (ax 0, 80, .inl (fun j => nI (fi j)))), (m13, .inl (ax 0, 80, .inl (fun j => nI (fs j)))), (m18, .inl (ax 0, 80, .inl (fun j => nI (lk j))))] H → va_D A [(m0, .inr (11, [.int 0, .int s_taped, .ref m1, .int s_size, .int s_outSize, .ref m2, .int s_kind, .int s_value, .int s_begin, .int s_end, .int s_failed, .ref m3, .ref m4, .ref m5, .int 1, .int (nI hf), .ref m6, .ref m7, .ref m8, .ref m9, .ref m10, .ref m11, .ref m12, .ref m13, .ref m14, .ref m15, .ref m16, .ref m17, .ref m18, .ref m19, .ref m20, .int s_signs, .ref m21, .int s_stacked, .ref m22, .int s_name, .int s_shift, .int s_statements, .int s_ifs, .int s_whiles, .int s_variants, .int s_open, .ref m23, .int s_isMade, .int s_conditions, .ref m24, .ref m25, .ref m26, .ref m27, .int s_kept, .ref m28, .int s_tops, .ref m29, .int s_used, .ref m30, .ref m31, .int s_looked, .int s_rows, .int s_firstRow, .ref m32, .ref m33, .ref m34, .ref m35, .ref m36, .ref m37, .ref m38, .ref m39, .ref m40, .int s_isBroken, .ref m41, .int s_atoms, .ref m42])), (m41, .inl (ax 4, 6, .inr (.inl vs1))), (m42, .inl (ax 3, 256, .inl (fun j => nI (tr1 j)))), (m6, .inl (ax 0, 2, .inl (fun j => nI (it j)))), (m7, .inl (ax 0, 80, .inl (fun j => nI (op j)))), (m9, .inl (ax 0, 80, .inl (fun j => nI (tg j)))), (m10, .inl (ax 0, 80, .inl tn)), (m11, .inl (ax 0, 80, .inl tm)), (m19, .inl (ax 0, 6000, .inl pl)), (m12, .inl (ax 0, 80, .inl (fun j => nI (fi j)))), (m13, .inl (ax 0, 80, .inl (fun j => nI (fs j)))), (m18, .inl (ax 0, 80, .inl (fun j => nI (lk j))))] → va_S A s.heap H locs → lv_has ls 4 [(0, .ref m0), (1, .int (nI sp)), (2, .int (nI i1)), (3, .int (nI d1))] → W p l e (headSpec (xws (.code y_Model_run b_Model_run 4 (some .int))) ({ frames := 60, cells := 0, slots := 0, locals := 2400 })).room s m ([.ref m0, .int (nI sp)] : List Value).toArray below meth c H locs 0 0 Z9 (F0 m 41 ls []) from key_6 ((sp - 0) * 100 + msr op (40 * hf + it hf) (40 * hf) + 1) (40 * hf) 0 tr vs (Nat.lt_succ_self _) (by first | assumption | omega) (by first | assumption | omega) (by first | assumption | omega) htr _ _ _ (hP) (hD) hS (lv_sub hl1 [2, 3, 1, 0] rfl)
  intro k_7
  induction k_7 with
  | zero =>
    intro i1 d1 tr1 vs1 hk_9
    exact absurd hk_9 (Nat.not_lt_zero _)
  | succ k_7 ih_8 =>
    clear hP hD hS hl1
    intro i1 d1 tr1 vs1 hk_9 hi1 hi2 hd1 htr1 H locs ls hP hD hS hl1
    refine lv_aload_n hx hb d_Model_run_41 rfl (lv_at hl1 0 rfl) ?_
    refine va_get (D := D) (ci := 11) (v := .int 0) (C := R_Model) (T := F_Model) (N := 72) hx hb hts i_Model hown hK.1 hP 0 rfl rfl 0 (by decide) (hts _ wd_1036) (fun _ h9 => h9) rfl d_Model_run_42 ?_
    refine lv_if_ne (tgt := 169) hx hb d_Model_run_45 (by decide) (fun c_10 => ?_) (fun c_10 => ?_)
    · first | exact absurd c_10 (by decide) | exact absurd (by decide) c_10
    refine lv_iload_n hx hb d_Model_run_48 rfl (lv_at hl1 2 rfl) ?_
    refine lv_bipush (v := 40) hx hb d_Model_run_49 (by decide) ?_
    refine lv_aload_n hx hb d_Model_run_51 rfl (lv_at hl1 0 rfl) ?_
    refine va_get (D := D) (ci := 11) (v := .int (nI hf)) (C := R_Model) (T := F_Model) (N := 72) hx hb hts i_Model hown hK.1 hP 0 rfl rfl 15 (by decide) (hts _ wd_1051) (fun _ h9 => h9) rfl d_Model_run_52 ?_
    refine lv_imul hx hb d_Model_run_55 ?_
    refine lv_topi (fun z_11 ez_11 => ?_)
    have ez_11 : z_11 = nI (40 * hf) := ez_11.trans (pk_mul 40 hf)
    subst ez_11
    refine lv_aload_n hx hb d_Model_run_56 rfl (lv_at hl1 0 rfl) ?_
    refine va_get (D := D) (ci := 11) (v := .ref m6) (C := R_Model) (T := F_Model) (N := 72) hx hb hts i_Model hown hK.1 hP 0 rfl rfl 16 (by decide) (hts _ wd_1052) (fun _ h9 => h9) rfl d_Model_run_57 ?_
    refine lv_aload_n hx hb d_Model_run_60 rfl (lv_at hl1 0 rfl) ?_
    refine va_get (D := D) (ci := 11) (v := .int (nI hf)) (C := R_Model) (T := F_Model) (N := 72) hx hb hts i_Model hown hK.1 hP 0 rfl rfl 15 (by decide) (hts _ wd_1051) (fun _ h9 => h9) rfl d_Model_run_61 ?_
    refine va_iald hx hb hK.1 hP 3 0 rfl rfl (vp_in_nI (by first | assumption | omega) (by decide)) d_Model_run_64 ?_
    refine W.eq (g2 := F0 m 65 ls [.int (nI (it hf)), .int (nI (40 * hf)), .int (nI i1)]) (by rw [nI_clamp (by first | exact Nat.lt_of_lt_of_le (by assumption) (by decide) | exact Nat.lt_of_le_of_lt (by assumption) (by decide) | omega)]) ?_
    refine lv_iadd hx hb d_Model_run_65 ?_
    refine lv_topi (fun z_12 ez_12 => ?_)
    have ez_12 : z_12 = nI (40 * hf + it hf) := ez_12.trans (nI_add (40 * hf) (it hf))
    subst ez_12
    refine lv_icmp_ge (tgt := 169) hx hb d_Model_run_66 (by decide) (fun c_13 => ?_) (fun c_13 => ?_)
    · replace c_13 : 40 * hf + it hf ≤ i1 := (nI_leI (a := 40 * hf + it hf) (b := i1) (by first | exact Nat.lt_of_lt_of_le (by assumption) (by decide) | exact Nat.lt_of_le_of_lt (by assumption) (by decide) | omega) (by first | exact Nat.lt_of_lt_of_le (by assumption) (by decide) | exact Nat.lt_of_le_of_lt (by assumption) (by decide) | omega)).mp c_13
      refine lv_iconst (v := 0) hx hb d_Model_run_169 (by decide) ?_
      rw [← hQe]
      obtain ⟨hP9, hD9⟩ := xw_sub2 (wc := (fun (u : Nat → Nat) (xtr : Nat → Nat) (xvs : Nat → Int64) => [(m0, .inr (11, [.int 0, .int s_taped, .ref m1, .int s_size, .int s_outSize, .ref m2, .int s_kind, .int s_value, .int s_begin, .int s_end, .int s_failed, .ref m3, .ref m4, .ref m5, .int 1, .int (nI hf), .ref m6, .ref m7, .ref m8, .ref m9, .ref m10, .ref m11, .ref m12, .ref m13, .ref m14, .ref m15, .ref m16, .ref m17, .ref m18, .ref m19, .ref m20, .int s_signs, .ref m21, .int s_stacked, .ref m22, .int s_name, .int s_shift, .int s_statements, .int s_ifs, .int s_whiles, .int s_variants, .int s_open, .ref m23, .int s_isMade, .int s_conditions, .ref m24, .ref m25, .ref m26, .ref m27, .int s_kept, .ref m28, .int s_tops, .ref m29, .int s_used, .ref m30, .ref m31, .int s_looked, .int s_rows, .int s_firstRow, .ref m32, .ref m33, .ref m34, .ref m35, .ref m36, .ref m37, .ref m38, .ref m39, .ref m40, .int s_isBroken, .ref m41, .int s_atoms, .ref m42])), (m41, .inl (ax 4, 6, .inr (.inl xvs))), (m42, .inl (ax 3, 256, .inl (fun j => nI (xtr j)))), (m6, .inl (ax 0, 2, .inl (fun j => nI (it j)))), (m7, .inl (ax 0, 80, .inl (fun j => nI (op j)))), (m9, .inl (ax 0, 80, .inl (fun j => nI (tg j)))), (m10, .inl (ax 0, 80, .inl tn)), (m11, .inl (ax 0, 80, .inl tm)), (m19, .inl (ax 0, 6000, .inl pl)), (m12, .inl (ax 0, 80, .inl (fun j => nI (fi j)))), (m13, .inl (ax 0, 80, .inl (fun j => nI (fs j)))), (m18, .inl (ax 0, 80, .inl (fun j => nI (lk j))))]) (ixn [0]) tr1 vs1) hP hD [0, 1, 2, 3, 4, 5, 6, 7, 8, 9, 10, 11] (by decide) rfl
      have hex0 : ∀ j, tr1 j ≤ 1 := (by assumption)
      have hsp0 : 0 ≤ 2 := (by first | assumption | omega)
      exact W.iret (v := 0) hx hb hr (fun t ht hW => ⟨⟨0, ixn [0], rfl, ⟨rfl, hsp0⟩, ⟨tr1, vs1, hex0, by rw [ht]; exact hP9, hD9⟩⟩, hS.F ht⟩) hS.2.2 d_Model_run_170
    · replace c_13 : ¬ 40 * hf + it hf ≤ i1 := fun hq9 => c_13 ((nI_leI (a := 40 * hf + it hf) (b := i1) (by first | exact Nat.lt_of_lt_of_le (by assumption) (by decide) | exact Nat.lt_of_le_of_lt (by assumption) (by decide) | omega) (by first | exact Nat.lt_of_lt_of_le (by assumption) (by decide) | exact Nat.lt_of_le_of_lt (by assumption) (by decide) | omega)).mpr hq9)
      obtain ⟨hi, hlo⟩ := lpg_at hlp (i := i1) (by first | assumption | omega) (by first | assumption | omega)
      have hop := hi.1
      have hm0 := msr_le (op := op) (E := (40 * hf + it hf)) (i := i1)
      refine lv_aload_n hx hb d_Model_run_69 rfl (lv_at hl1 0 rfl) ?_
      refine va_get (D := D) (ci := 11) (v := .ref m7) (C := R_Model) (T := F_Model) (N := 72) hx hb hts i_Model hown hK.1 hP 0 rfl rfl 17 (by decide) (hts _ wd_1053) (fun _ h9 => h9) rfl d_Model_run_70 ?_
      refine lv_iload_n hx hb d_Model_run_73 rfl (lv_at hl1 2 rfl) ?_
      refine va_iald hx hb hK.1 hP 4 0 rfl rfl (vp_in_nI (by first | assumption | omega) (by decide)) d_Model_run_74 ?_
      refine W.eq (g2 := F0 m 75 ls [.int (nI (op i1))]) (by rw [nI_clamp (by first | exact Nat.lt_of_lt_of_le (by assumption) (by decide) | exact Nat.lt_of_le_of_lt (by assumption) (by decide) | omega)]) ?_
      refine lv_iconst (v := 3) hx hb d_Model_run_75 (by decide) ?_
      refine lv_icmp_eq (tgt := 100) hx hb d_Model_run_76 (by decide) (fun c_14 => ?_) (fun c_14 => ?_)
      · replace c_14 : op i1 = 3 := (nI_eq (a := op i1) (b := 3) (by first | exact Nat.lt_of_lt_of_le (by assumption) (by decide) | exact Nat.lt_of_le_of_lt (by assumption) (by decide) | omega) (by decide)).mp c_14
        refine lv_aload_n hx hb d_Model_run_100 rfl (lv_at hl1 0 rfl) ?_
        refine va_get (D := D) (ci := 11) (v := .ref m7) (C := R_Model) (T := F_Model) (N := 72) hx hb hts i_Model hown hK.1 hP 0 rfl rfl 17 (by decide) (hts _ wd_1053) (fun _ h9 => h9) rfl d_Model_run_101 ?_
        refine lv_iload_n hx hb d_Model_run_104 rfl (lv_at hl1 2 rfl) ?_
        refine va_iald hx hb hK.1 hP 4 0 rfl rfl (vp_in_nI (by first | assumption | omega) (by decide)) d_Model_run_105 ?_
        refine W.eq (g2 := F0 m 106 ls [.int (nI (op i1))]) (by rw [nI_clamp (by first | exact Nat.lt_of_lt_of_le (by assumption) (by decide) | exact Nat.lt_of_le_of_lt (by assumption) (by decide) | omega)]) ?_
        refine lv_iconst (v := 4) hx hb d_Model_run_106 (by decide) ?_
        refine lv_icmp_ne (tgt := 116) hx hb d_Model_run_107 (by decide) (fun c_15 => ?_) (fun c_15 => ?_)
        · replace c_15 : ¬ op i1 = 4 := fun hq9 => c_15 ((nI_eq (a := op i1) (b := 4) (by first | exact Nat.lt_of_lt_of_le (by assumption) (by decide) | exact Nat.lt_of_le_of_lt (by assumption) (by decide) | omega) (by decide)).mpr hq9)
          refine lv_aload_n hx hb d_Model_run_116 rfl (lv_at hl1 0 rfl) ?_
          refine va_get (D := D) (ci := 11) (v := .ref m7) (C := R_Model) (T := F_Model) (N := 72) hx hb hts i_Model hown hK.1 hP 0 rfl rfl 17 (by decide) (hts _ wd_1053) (fun _ h9 => h9) rfl d_Model_run_117 ?_
          refine lv_iload_n hx hb d_Model_run_120 rfl (lv_at hl1 2 rfl) ?_
          refine va_iald hx hb hK.1 hP 4 0 rfl rfl (vp_in_nI (by first | assumption | omega) (by decide)) d_Model_run_121 ?_
          refine W.eq (g2 := F0 m 122 ls [.int (nI (op i1))]) (by rw [nI_clamp (by first | exact Nat.lt_of_lt_of_le (by assumption) (by decide) | exact Nat.lt_of_le_of_lt (by assumption) (by decide) | omega)]) ?_
          refine lv_iconst (v := 3) hx hb d_Model_run_122 (by decide) ?_
          refine lv_icmp_ne (tgt := 137) hx hb d_Model_run_123 (by decide) (fun c_16 => ?_) (fun c_16 => ?_)
          · replace c_16 : ¬ op i1 = 3 := fun hq9 => c_16 ((nI_eq (a := op i1) (b := 3) (by first | exact Nat.lt_of_lt_of_le (by assumption) (by decide) | exact Nat.lt_of_le_of_lt (by assumption) (by decide) | omega) (by decide)).mpr hq9)
            have hl2 := hlo.2 (by first | assumption | omega)
            have hms := msr_0 (op := op) (E := (40 * hf + it hf)) (i := i1) (j := lk i1) (by first | assumption | omega) hl2.2.2
            refine lv_aload_n hx hb d_Model_run_137 rfl (lv_at hl1 0 rfl) ?_
            refine va_get (D := D) (ci := 11) (v := .ref m18) (C := R_Model) (T := F_Model) (N := 72) hx hb hts i_Model hown hK.1 hP 0 rfl rfl 28 (by decide) (hts _ wd_1064) (fun _ h9 => h9) rfl d_Model_run_138 ?_
            refine lv_iload_n hx hb d_Model_run_141 rfl (lv_at hl1 2 rfl) ?_
            refine va_iald hx hb hK.1 hP 11 0 rfl rfl (vp_in_nI (by first | assumption | omega) (by decide)) d_Model_run_142 ?_
            refine W.eq (g2 := F0 m 143 ls [.int (nI (lk i1))]) (by rw [nI_clamp (by first | exact Nat.lt_of_lt_of_le (by assumption) (by decide) | exact Nat.lt_of_le_of_lt (by assumption) (by decide) | omega)]) ?_
            refine lv_istore_n (lv' := [(2, .int (nI (lk i1))), (0, .ref m0), (1, .int (nI sp)), (3, .int (nI d1))]) hx hb d_Model_run_143 rfl hl1 (by decide) rfl (fun ls hl2 => ?_)
            clear hl1; have hl1 := hl2; clear hl2
            refine lv_goto (tgt := 41) hx hb d_Model_run_144 (by decide) ?_
            exact ih_8 (lk i1) d1 tr1 vs1 (by first | assumption | omega) (by first | assumption | omega) (by first | assumption | omega) (by first | assumption | omega) (by assumption) _ _ _ (hP.sub [0, 1, 2, 3, 4, 5, 6, 7, 8, 9, 10, 11] rfl) (hD.sub [0, 1, 2, 3, 4, 5, 6, 7, 8, 9, 10, 11] (by decide) rfl) hS (lv_sub hl1 [1, 2, 0, 3] rfl)
          · replace c_16 : op i1 = 3 := (nI_eq (a := op i1) (b := 3) (by first | exact Nat.lt_of_lt_of_le (by assumption) (by decide) | exact Nat.lt_of_le_of_lt (by assumption) (by decide) | omega) (by decide)).mp c_16
            have hl2 := hlo.1 (by first | assumption | omega)
            have hms := msr_lt (op := op) (E := (40 * hf + it hf)) (i := i1) (j := lk i1 + 1) (by first | assumption | omega) (by first | assumption | omega) (by first | assumption | omega)
            refine lv_aload_n hx hb d_Model_run_126 rfl (lv_at hl1 0 rfl) ?_
            refine va_get (D := D) (ci := 11) (v := .ref m18) (C := R_Model) (T := F_Model) (N := 72) hx hb hts i_Model hown hK.1 hP 0 rfl rfl 28 (by decide) (hts _ wd_1064) (fun _ h9 => h9) rfl d_Model_run_127 ?_
            refine lv_iload_n hx hb d_Model_run_130 rfl (lv_at hl1 2 rfl) ?_
            refine va_iald hx hb hK.1 hP 11 0 rfl rfl (vp_in_nI (by first | assumption | omega) (by decide)) d_Model_run_131 ?_
            refine W.eq (g2 := F0 m 132 ls [.int (nI (lk i1))]) (by rw [nI_clamp (by first | exact Nat.lt_of_lt_of_le (by assumption) (by decide) | exact Nat.lt_of_le_of_lt (by assumption) (by decide) | omega)]) ?_
            refine lv_iconst (v := 1) hx hb d_Model_run_132 (by decide) ?_
            refine lv_iadd hx hb d_Model_run_133 ?_
            refine lv_topi (fun z_17 ez_17 => ?_)
            have ez_17 : z_17 = nI (lk i1 + 1) := ez_17.trans (nI_add (lk i1) 1)
            subst ez_17
            refine lv_goto (tgt := 143) hx hb d_Model_run_134 (by decide) ?_
            refine lv_istore_n (lv' := [(2, .int (nI (lk i1 + 1))), (0, .ref m0), (1, .int (nI sp)), (3, .int (nI d1))]) hx hb d_Model_run_143 rfl hl1 (by decide) rfl (fun ls hl2 => ?_)
            clear hl1; have hl1 := hl2; clear hl2
            refine lv_goto (tgt := 41) hx hb d_Model_run_144 (by decide) ?_
            exact ih_8 (lk i1 + 1) d1 tr1 vs1 (by first | assumption | omega) (by first | assumption | omega) (by first | assumption | omega) (by first | assumption | omega) (by assumption) _ _ _ (hP.sub [0, 1, 2, 3, 4, 5, 6, 7, 8, 9, 10, 11] rfl) (hD.sub [0, 1, 2, 3, 4, 5, 6, 7, 8, 9, 10, 11] (by decide) rfl) hS (lv_sub hl1 [1, 2, 0, 3] rfl)
        · replace c_15 : op i1 = 4 := (nI_eq (a := op i1) (b := 4) (by first | exact Nat.lt_of_lt_of_le (by assumption) (by decide) | exact Nat.lt_of_le_of_lt (by assumption) (by decide) | omega) (by decide)).mp c_15
          have hms := msr_lt (op := op) (E := (40 * hf + it hf)) (i := i1) (j := i1 + 1) (by first | assumption | omega) (by first | assumption | omega) (by first | assumption | omega)
          refine lv_iload_n hx hb d_Model_run_110 rfl (lv_at hl1 2 rfl) ?_
          refine lv_iconst (v := 1) hx hb d_Model_run_111 (by decide) ?_
          refine lv_iadd hx hb d_Model_run_112 ?_
          refine lv_topi (fun z_18 ez_18 => ?_)
          have ez_18 : z_18 = nI (i1 + 1) := ez_18.trans (nI_add i1 1)
          subst ez_18
          refine lv_goto (tgt := 143) hx hb d_Model_run_113 (by decide) ?_
          refine lv_istore_n (lv' := [(2, .int (nI (i1 + 1))), (0, .ref m0), (1, .int (nI sp)), (3, .int (nI d1))]) hx hb d_Model_run_143 rfl hl1 (by decide) rfl (fun ls hl2 => ?_)
          clear hl1; have hl1 := hl2; clear hl2
          refine lv_goto (tgt := 41) hx hb d_Model_run_144 (by decide) ?_
          exact ih_8 (i1 + 1) d1 tr1 vs1 (by first | assumption | omega) (by first | assumption | omega) (by first | assumption | omega) (by first | assumption | omega) (by assumption) _ _ _ (hP.sub [0, 1, 2, 3, 4, 5, 6, 7, 8, 9, 10, 11] rfl) (hD.sub [0, 1, 2, 3, 4, 5, 6, 7, 8, 9, 10, 11] (by decide) rfl) hS (lv_sub hl1 [1, 2, 0, 3] rfl)
      · replace c_14 : ¬ op i1 = 3 := fun hq9 => c_14 ((nI_eq (a := op i1) (b := 3) (by first | exact Nat.lt_of_lt_of_le (by assumption) (by decide) | exact Nat.lt_of_le_of_lt (by assumption) (by decide) | omega) (by decide)).mpr hq9)
        refine lv_aload_n hx hb d_Model_run_79 rfl (lv_at hl1 0 rfl) ?_
        refine va_get (D := D) (ci := 11) (v := .ref m7) (C := R_Model) (T := F_Model) (N := 72) hx hb hts i_Model hown hK.1 hP 0 rfl rfl 17 (by decide) (hts _ wd_1053) (fun _ h9 => h9) rfl d_Model_run_80 ?_
        refine lv_iload_n hx hb d_Model_run_83 rfl (lv_at hl1 2 rfl) ?_
        refine va_iald hx hb hK.1 hP 4 0 rfl rfl (vp_in_nI (by first | assumption | omega) (by decide)) d_Model_run_84 ?_
        refine W.eq (g2 := F0 m 85 ls [.int (nI (op i1))]) (by rw [nI_clamp (by first | exact Nat.lt_of_lt_of_le (by assumption) (by decide) | exact Nat.lt_of_le_of_lt (by assumption) (by decide) | omega)]) ?_
        refine lv_iconst (v := 4) hx hb d_Model_run_85 (by decide) ?_
        refine lv_icmp_eq (tgt := 100) hx hb d_Model_run_86 (by decide) (fun c_19 => ?_) (fun c_19 => ?_)
        · replace c_19 : op i1 = 4 := (nI_eq (a := op i1) (b := 4) (by first | exact Nat.lt_of_lt_of_le (by assumption) (by decide) | exact Nat.lt_of_le_of_lt (by assumption) (by decide) | omega) (by decide)).mp c_19
          refine lv_aload_n hx hb d_Model_run_100 rfl (lv_at hl1 0 rfl) ?_
          refine va_get (D := D) (ci := 11) (v := .ref m7) (C := R_Model) (T := F_Model) (N := 72) hx hb hts i_Model hown hK.1 hP 0 rfl rfl 17 (by decide) (hts _ wd_1053) (fun _ h9 => h9) rfl d_Model_run_101 ?_
          refine lv_iload_n hx hb d_Model_run_104 rfl (lv_at hl1 2 rfl) ?_
          refine va_iald hx hb hK.1 hP 4 0 rfl rfl (vp_in_nI (by first | assumption | omega) (by decide)) d_Model_run_105 ?_
          refine W.eq (g2 := F0 m 106 ls [.int (nI (op i1))]) (by rw [nI_clamp (by first | exact Nat.lt_of_lt_of_le (by assumption) (by decide) | exact Nat.lt_of_le_of_lt (by assumption) (by decide) | omega)]) ?_
          refine lv_iconst (v := 4) hx hb d_Model_run_106 (by decide) ?_
          refine lv_icmp_ne (tgt := 116) hx hb d_Model_run_107 (by decide) (fun c_20 => ?_) (fun c_20 => ?_)
          · replace c_20 : ¬ op i1 = 4 := fun hq9 => c_20 ((nI_eq (a := op i1) (b := 4) (by first | exact Nat.lt_of_lt_of_le (by assumption) (by decide) | exact Nat.lt_of_le_of_lt (by assumption) (by decide) | omega) (by decide)).mpr hq9)
            refine lv_aload_n hx hb d_Model_run_116 rfl (lv_at hl1 0 rfl) ?_
            refine va_get (D := D) (ci := 11) (v := .ref m7) (C := R_Model) (T := F_Model) (N := 72) hx hb hts i_Model hown hK.1 hP 0 rfl rfl 17 (by decide) (hts _ wd_1053) (fun _ h9 => h9) rfl d_Model_run_117 ?_
            refine lv_iload_n hx hb d_Model_run_120 rfl (lv_at hl1 2 rfl) ?_
            refine va_iald hx hb hK.1 hP 4 0 rfl rfl (vp_in_nI (by first | assumption | omega) (by decide)) d_Model_run_121 ?_
            refine W.eq (g2 := F0 m 122 ls [.int (nI (op i1))]) (by rw [nI_clamp (by first | exact Nat.lt_of_lt_of_le (by assumption) (by decide) | exact Nat.lt_of_le_of_lt (by assumption) (by decide) | omega)]) ?_
            refine lv_iconst (v := 3) hx hb d_Model_run_122 (by decide) ?_
            refine lv_icmp_ne (tgt := 137) hx hb d_Model_run_123 (by decide) (fun c_21 => ?_) (fun c_21 => ?_)
            · replace c_21 : ¬ op i1 = 3 := fun hq9 => c_21 ((nI_eq (a := op i1) (b := 3) (by first | exact Nat.lt_of_lt_of_le (by assumption) (by decide) | exact Nat.lt_of_le_of_lt (by assumption) (by decide) | omega) (by decide)).mpr hq9)
              have hl2 := hlo.2 (by first | assumption | omega)
              have hms := msr_0 (op := op) (E := (40 * hf + it hf)) (i := i1) (j := lk i1) (by first | assumption | omega) hl2.2.2
              refine lv_aload_n hx hb d_Model_run_137 rfl (lv_at hl1 0 rfl) ?_
              refine va_get (D := D) (ci := 11) (v := .ref m18) (C := R_Model) (T := F_Model) (N := 72) hx hb hts i_Model hown hK.1 hP 0 rfl rfl 28 (by decide) (hts _ wd_1064) (fun _ h9 => h9) rfl d_Model_run_138 ?_
              refine lv_iload_n hx hb d_Model_run_141 rfl (lv_at hl1 2 rfl) ?_
              refine va_iald hx hb hK.1 hP 11 0 rfl rfl (vp_in_nI (by first | assumption | omega) (by decide)) d_Model_run_142 ?_
              refine W.eq (g2 := F0 m 143 ls [.int (nI (lk i1))]) (by rw [nI_clamp (by first | exact Nat.lt_of_lt_of_le (by assumption) (by decide) | exact Nat.lt_of_le_of_lt (by assumption) (by decide) | omega)]) ?_
              refine lv_istore_n (lv' := [(2, .int (nI (lk i1))), (0, .ref m0), (1, .int (nI sp)), (3, .int (nI d1))]) hx hb d_Model_run_143 rfl hl1 (by decide) rfl (fun ls hl2 => ?_)
              clear hl1; have hl1 := hl2; clear hl2
              refine lv_goto (tgt := 41) hx hb d_Model_run_144 (by decide) ?_
              exact ih_8 (lk i1) d1 tr1 vs1 (by first | assumption | omega) (by first | assumption | omega) (by first | assumption | omega) (by first | assumption | omega) (by assumption) _ _ _ (hP.sub [0, 1, 2, 3, 4, 5, 6, 7, 8, 9, 10, 11] rfl) (hD.sub [0, 1, 2, 3, 4, 5, 6, 7, 8, 9, 10, 11] (by decide) rfl) hS (lv_sub hl1 [1, 2, 0, 3] rfl)
            · replace c_21 : op i1 = 3 := (nI_eq (a := op i1) (b := 3) (by first | exact Nat.lt_of_lt_of_le (by assumption) (by decide) | exact Nat.lt_of_le_of_lt (by assumption) (by decide) | omega) (by decide)).mp c_21
              have hl2 := hlo.1 (by first | assumption | omega)
              have hms := msr_lt (op := op) (E := (40 * hf + it hf)) (i := i1) (j := lk i1 + 1) (by first | assumption | omega) (by first | assumption | omega) (by first | assumption | omega)
              refine lv_aload_n hx hb d_Model_run_126 rfl (lv_at hl1 0 rfl) ?_
              refine va_get (D := D) (ci := 11) (v := .ref m18) (C := R_Model) (T := F_Model) (N := 72) hx hb hts i_Model hown hK.1 hP 0 rfl rfl 28 (by decide) (hts _ wd_1064) (fun _ h9 => h9) rfl d_Model_run_127 ?_
              refine lv_iload_n hx hb d_Model_run_130 rfl (lv_at hl1 2 rfl) ?_
              refine va_iald hx hb hK.1 hP 11 0 rfl rfl (vp_in_nI (by first | assumption | omega) (by decide)) d_Model_run_131 ?_
              refine W.eq (g2 := F0 m 132 ls [.int (nI (lk i1))]) (by rw [nI_clamp (by first | exact Nat.lt_of_lt_of_le (by assumption) (by decide) | exact Nat.lt_of_le_of_lt (by assumption) (by decide) | omega)]) ?_
              refine lv_iconst (v := 1) hx hb d_Model_run_132 (by decide) ?_
              refine lv_iadd hx hb d_Model_run_133 ?_
              refine lv_topi (fun z_22 ez_22 => ?_)
              have ez_22 : z_22 = nI (lk i1 + 1) := ez_22.trans (nI_add (lk i1) 1)
              subst ez_22
              refine lv_goto (tgt := 143) hx hb d_Model_run_134 (by decide) ?_
              refine lv_istore_n (lv' := [(2, .int (nI (lk i1 + 1))), (0, .ref m0), (1, .int (nI sp)), (3, .int (nI d1))]) hx hb d_Model_run_143 rfl hl1 (by decide) rfl (fun ls hl2 => ?_)
              clear hl1; have hl1 := hl2; clear hl2
              refine lv_goto (tgt := 41) hx hb d_Model_run_144 (by decide) ?_
              exact ih_8 (lk i1 + 1) d1 tr1 vs1 (by first | assumption | omega) (by first | assumption | omega) (by first | assumption | omega) (by first | assumption | omega) (by assumption) _ _ _ (hP.sub [0, 1, 2, 3, 4, 5, 6, 7, 8, 9, 10, 11] rfl) (hD.sub [0, 1, 2, 3, 4, 5, 6, 7, 8, 9, 10, 11] (by decide) rfl) hS (lv_sub hl1 [1, 2, 0, 3] rfl)
          · replace c_20 : op i1 = 4 := (nI_eq (a := op i1) (b := 4) (by first | exact Nat.lt_of_lt_of_le (by assumption) (by decide) | exact Nat.lt_of_le_of_lt (by assumption) (by decide) | omega) (by decide)).mp c_20
            have hms := msr_lt (op := op) (E := (40 * hf + it hf)) (i := i1) (j := i1 + 1) (by first | assumption | omega) (by first | assumption | omega) (by first | assumption | omega)
            refine lv_iload_n hx hb d_Model_run_110 rfl (lv_at hl1 2 rfl) ?_
            refine lv_iconst (v := 1) hx hb d_Model_run_111 (by decide) ?_
            refine lv_iadd hx hb d_Model_run_112 ?_
            refine lv_topi (fun z_23 ez_23 => ?_)
            have ez_23 : z_23 = nI (i1 + 1) := ez_23.trans (nI_add i1 1)
            subst ez_23
            refine lv_goto (tgt := 143) hx hb d_Model_run_113 (by decide) ?_
            refine lv_istore_n (lv' := [(2, .int (nI (i1 + 1))), (0, .ref m0), (1, .int (nI sp)), (3, .int (nI d1))]) hx hb d_Model_run_143 rfl hl1 (by decide) rfl (fun ls hl2 => ?_)
            clear hl1; have hl1 := hl2; clear hl2
            refine lv_goto (tgt := 41) hx hb d_Model_run_144 (by decide) ?_
            exact ih_8 (i1 + 1) d1 tr1 vs1 (by first | assumption | omega) (by first | assumption | omega) (by first | assumption | omega) (by first | assumption | omega) (by assumption) _ _ _ (hP.sub [0, 1, 2, 3, 4, 5, 6, 7, 8, 9, 10, 11] rfl) (hD.sub [0, 1, 2, 3, 4, 5, 6, 7, 8, 9, 10, 11] (by decide) rfl) hS (lv_sub hl1 [1, 2, 0, 3] rfl)
        · replace c_19 : ¬ op i1 = 4 := fun hq9 => c_19 ((nI_eq (a := op i1) (b := 4) (by first | exact Nat.lt_of_lt_of_le (by assumption) (by decide) | exact Nat.lt_of_le_of_lt (by assumption) (by decide) | omega) (by decide)).mpr hq9)
          refine lv_aload_n hx hb d_Model_run_89 rfl (lv_at hl1 0 rfl) ?_
          refine va_get (D := D) (ci := 11) (v := .ref m7) (C := R_Model) (T := F_Model) (N := 72) hx hb hts i_Model hown hK.1 hP 0 rfl rfl 17 (by decide) (hts _ wd_1053) (fun _ h9 => h9) rfl d_Model_run_90 ?_
          refine lv_iload_n hx hb d_Model_run_93 rfl (lv_at hl1 2 rfl) ?_
          refine va_iald hx hb hK.1 hP 4 0 rfl rfl (vp_in_nI (by first | assumption | omega) (by decide)) d_Model_run_94 ?_
          refine W.eq (g2 := F0 m 95 ls [.int (nI (op i1))]) (by rw [nI_clamp (by first | exact Nat.lt_of_lt_of_le (by assumption) (by decide) | exact Nat.lt_of_le_of_lt (by assumption) (by decide) | omega)]) ?_
          refine lv_bipush (v := 6) hx hb d_Model_run_95 (by decide) ?_
          refine lv_icmp_ne (tgt := 147) hx hb d_Model_run_97 (by decide) (fun c_24 => ?_) (fun c_24 => ?_)
          · replace c_24 : ¬ op i1 = 6 := fun hq9 => c_24 ((nI_eq (a := op i1) (b := 6) (by first | exact Nat.lt_of_lt_of_le (by assumption) (by decide) | exact Nat.lt_of_le_of_lt (by assumption) (by decide) | omega) (by decide)).mpr hq9)
            refine lv_iload_n hx hb d_Model_run_147 rfl (lv_at hl1 3 rfl) ?_
            refine lv_iload_n hx hb d_Model_run_148 rfl (lv_at hl1 1 rfl) ?_
            refine lv_icmp_ne (tgt := 154) hx hb d_Model_run_149 (by decide) (fun c_25 => ?_) (fun c_25 => ?_)
            · replace c_25 : ¬ d1 = sp := fun hq9 => c_25 ((nI_eq (a := d1) (b := sp) (by first | exact Nat.lt_of_lt_of_le (by assumption) (by decide) | exact Nat.lt_of_le_of_lt (by assumption) (by decide) | omega) (by first | exact Nat.lt_of_lt_of_le (by assumption) (by decide) | exact Nat.lt_of_le_of_lt (by assumption) (by decide) | omega)).mpr hq9)
              refine lv_iinc (v := nI (d1 + 1)) (lv' := [(3, .int (nI (d1 + 1))), (0, .ref m0), (1, .int (nI sp)), (2, .int (nI i1))]) hx hb d_Model_run_154 hl1 (k := 3) rfl (nI_add d1 1) (by decide) rfl (fun ls hl2 => ?_)
              clear hl1; have hl1 := hl2; clear hl2
              refine lv_aload_n hx hb d_Model_run_157 rfl (lv_at hl1 1 rfl) ?_
              refine lv_iload_n hx hb d_Model_run_158 rfl (lv_at hl1 3 rfl) ?_
              obtain ⟨hPc, hDc, hFc, hCs⟩ := xw_sub3 (wc := [(m0, .inr (11, [.int 0, .int s_taped, .ref m1, .int s_size, .int s_outSize, .ref m2, .int s_kind, .int s_value, .int s_begin, .int s_end, .int s_failed, .ref m3, .ref m4, .ref m5, .int 1, .int (nI hf), .ref m6, .ref m7, .ref m8, .ref m9, .ref m10, .ref m11, .ref m12, .ref m13, .ref m14, .ref m15, .ref m16, .ref m17, .ref m18, .ref m19, .ref m20, .int s_signs, .ref m21, .int s_stacked, .ref m22, .int s_name, .int s_shift, .int s_statements, .int s_ifs, .int s_whiles, .int s_variants, .int s_open, .ref m23, .int s_isMade, .int s_conditions, .ref m24, .ref m25, .ref m26, .ref m27, .int s_kept, .ref m28, .int s_tops, .ref m29, .int s_used, .ref m30, .ref m31, .int s_looked, .int s_rows, .int s_firstRow, .ref m32, .ref m33, .ref m34, .ref m35, .ref m36, .ref m37, .ref m38, .ref m39, .ref m40, .int s_isBroken, .ref m41, .int s_atoms, .ref m42])), (m41, .inl (ax 4, 6, .inr (.inl vs1))), (m42, .inl (ax 3, 256, .inl (fun j => nI (tr1 j)))), (m7, .inl (ax 0, 80, .inl (fun j => nI (op j)))), (m9, .inl (ax 0, 80, .inl (fun j => nI (tg j)))), (m10, .inl (ax 0, 80, .inl tn)), (m11, .inl (ax 0, 80, .inl tm)), (m19, .inl (ax 0, 6000, .inl pl)), (m12, .inl (ax 0, 80, .inl (fun j => nI (fi j)))), (m13, .inl (ax 0, 80, .inl (fun j => nI (fs j)))), (m18, .inl (ax 0, 80, .inl (fun j => nI (lk j))))]) hP hD hS hA [0, 1, 2, 4, 5, 6, 7, 8, 9, 10, 11] (by decide) rfl
              have hz := xz_of hN hS
              refine va_calli (va_runV (As := [.int (nI i1)]) (rest := []) ⟨hx, hb, hml, hown, hts⟩ (c_M_step l D ax m0 m1 m2 m3 m4 m5 m6 m7 m8 m9 m10 m11 m12 m13 m14 m15 m16 m17 m18 m19 m20 m21 m22 m23 m24 m25 m26 m27 m28 m29 m30 m31 m32 m33 m34 m35 m36 m37 m38 m39 m40 m41 m42 0 s_taped s_size s_outSize s_kind s_value s_begin s_end s_failed 1 (nI hf) s_signs s_stacked s_name s_shift s_statements s_ifs s_whiles s_variants s_open s_isMade s_conditions s_kept s_tops s_used s_looked s_rows s_firstRow s_isBroken s_atoms i1 hf P op lk fi fs tg se ss gs tr1 tn tm pl vr vs1 H.size (by first | assumption | omega) hi (by first | assumption | omega) hhf (fun q => by have := (hlo.1 (by first | assumption | omega)).2; omega) htr1) (xcV (n := 1) hts wd_1588 wd_15 wd_1585 wd_1587 ps_111 rfl rfl (by decide +kernel) ⟨Nat.le_of_ble_eq_true rfl, Nat.le_of_ble_eq_true rfl⟩) (xpV (ci := 11) (q0 := 0) (As := [.int (nI i1)]) hPc hK hz hDc rfl rfl) rfl rfl hl1.1 rfl (lv_room (Nat.le_of_ble_eq_true rfl)) d_Model_run_159 ⟨Nat.le_of_ble_eq_true rfl, Nat.le_of_ble_eq_true rfl⟩) hS (fun q _ h => hFc q h) hFc (fun r_28 u_26 t H_27 locs ht hvm hw hB hz1 hk1 hS1 => ?_)
              try dsimp only at hw
              obtain ⟨hw, hs_29⟩ := hw
              subst hw
              obtain ⟨x_30, x_31, hx_32, hP1, hD1⟩ := hB
              rw [ht] at hP1
              have hjn := xw_join3 (wl := [(m6, .inl (ax 0, 2, .inl (fun j => nI (it j)))), (m0, .inr (11, [.int 0, .int s_taped, .ref m1, .int s_size, .int s_outSize, .ref m2, .int s_kind, .int s_value, .int s_begin, .int s_end, .int s_failed, .ref m3, .ref m4, .ref m5, .int 1, .int (nI hf), .ref m6, .ref m7, .ref m8, .ref m9, .ref m10, .ref m11, .ref m12, .ref m13, .ref m14, .ref m15, .ref m16, .ref m17, .ref m18, .ref m19, .ref m20, .int s_signs, .ref m21, .int s_stacked, .ref m22, .int s_name, .int s_shift, .int s_statements, .int s_ifs, .int s_whiles, .int s_variants, .int s_open, .ref m23, .int s_isMade, .int s_conditions, .ref m24, .ref m25, .ref m26, .ref m27, .int s_kept, .ref m28, .int s_tops, .ref m29, .int s_used, .ref m30, .ref m31, .int s_looked, .int s_rows, .int s_firstRow, .ref m32, .ref m33, .ref m34, .ref m35, .ref m36, .ref m37, .ref m38, .ref m39, .ref m40, .int s_isBroken, .ref m41, .int s_atoms, .ref m42])), (m41, .inl (ax 4, 6, .inr (.inl x_31))), (m42, .inl (ax 3, 256, .inl (fun j => nI (x_30 j)))), (m7, .inl (ax 0, 80, .inl (fun j => nI (op j)))), (m9, .inl (ax 0, 80, .inl (fun j => nI (tg j)))), (m10, .inl (ax 0, 80, .inl tn)), (m11, .inl (ax 0, 80, .inl tm)), (m19, .inl (ax 0, 6000, .inl pl)), (m12, .inl (ax 0, 80, .inl (fun j => nI (fi j)))), (m13, .inl (ax 0, 80, .inl (fun j => nI (fs j)))), (m18, .inl (ax 0, 80, .inl (fun j => nI (lk j))))]) hP hD [0, 1, 2, 4, 5, 6, 7, 8, 9, 10, 11] [3] hCs (by decide) (by decide) hk1 hFc hP1 hD1 rfl
              clear hP1 hD1
              clear hPc hDc hFc hCs hz hz1 hk1 ht hvm
              clear hP hD hS
              have hS := hS1
              obtain ⟨hP, hD⟩ := hjn
              clear hS1
              rcases hs_29 with e9 | e9 | ⟨e9, e8⟩
              · refine W.eq (g2 := F0 m 162 ls [.int (-1)]) (by rw [e9]; rfl) ?_
                refine lv_istore_n (lv' := [(2, .int (-1)), (3, .int (nI (d1 + 1))), (0, .ref m0), (1, .int (nI sp))]) hx hb d_Model_run_162 rfl hl1 (by decide) rfl (fun ls hl2 => ?_)
                clear hl1; have hl1 := hl2; clear hl2
                refine lv_iload_n hx hb d_Model_run_163 rfl (lv_at hl1 0 rfl) ?_
                refine lv_if_ge (tgt := 41) hx hb d_Model_run_164 (by decide) (fun c_33 => ?_) (fun c_33 => ?_)
                · first | exact absurd c_33 (by decide) | exact absurd (by decide) c_33
                refine lv_iconst (v := 2) hx hb d_Model_run_167 (by decide) ?_
                rw [← hQe]
                obtain ⟨hP9, hD9⟩ := xw_sub2 (wc := (fun (u : Nat → Nat) (xtr : Nat → Nat) (xvs : Nat → Int64) => [(m0, .inr (11, [.int 0, .int s_taped, .ref m1, .int s_size, .int s_outSize, .ref m2, .int s_kind, .int s_value, .int s_begin, .int s_end, .int s_failed, .ref m3, .ref m4, .ref m5, .int 1, .int (nI hf), .ref m6, .ref m7, .ref m8, .ref m9, .ref m10, .ref m11, .ref m12, .ref m13, .ref m14, .ref m15, .ref m16, .ref m17, .ref m18, .ref m19, .ref m20, .int s_signs, .ref m21, .int s_stacked, .ref m22, .int s_name, .int s_shift, .int s_statements, .int s_ifs, .int s_whiles, .int s_variants, .int s_open, .ref m23, .int s_isMade, .int s_conditions, .ref m24, .ref m25, .ref m26, .ref m27, .int s_kept, .ref m28, .int s_tops, .ref m29, .int s_used, .ref m30, .ref m31, .int s_looked, .int s_rows, .int s_firstRow, .ref m32, .ref m33, .ref m34, .ref m35, .ref m36, .ref m37, .ref m38, .ref m39, .ref m40, .int s_isBroken, .ref m41, .int s_atoms, .ref m42])), (m41, .inl (ax 4, 6, .inr (.inl xvs))), (m42, .inl (ax 3, 256, .inl (fun j => nI (xtr j)))), (m6, .inl (ax 0, 2, .inl (fun j => nI (it j)))), (m7, .inl (ax 0, 80, .inl (fun j => nI (op j)))), (m9, .inl (ax 0, 80, .inl (fun j => nI (tg j)))), (m10, .inl (ax 0, 80, .inl tn)), (m11, .inl (ax 0, 80, .inl tm)), (m19, .inl (ax 0, 6000, .inl pl)), (m12, .inl (ax 0, 80, .inl (fun j => nI (fi j)))), (m13, .inl (ax 0, 80, .inl (fun j => nI (fs j)))), (m18, .inl (ax 0, 80, .inl (fun j => nI (lk j))))]) (ixn [2]) x_30 x_31) hP hD [1, 2, 3, 0, 4, 5, 6, 7, 8, 9, 10, 11] (by decide) rfl
                have hex0 : ∀ j, x_30 j ≤ 1 := (by assumption)
                have hsp0 : 2 ≤ 2 := (by first | assumption | omega)
                exact W.iret (v := 2) hx hb hr (fun t ht hW => ⟨⟨2, ixn [2], rfl, ⟨rfl, hsp0⟩, ⟨x_30, x_31, hex0, by rw [ht]; exact hP9, hD9⟩⟩, hS.F ht⟩) hS.2.2 d_Model_run_168
              · refine W.eq (g2 := F0 m 162 ls [.int (nI (i1 + 1))]) (by rw [e9]) ?_
                have hms := msr_le (op := op) (E := (40 * hf + it hf)) (i := i1 + 1)
                refine lv_istore_n (lv' := [(2, .int (nI (i1 + 1))), (3, .int (nI (d1 + 1))), (0, .ref m0), (1, .int (nI sp))]) hx hb d_Model_run_162 rfl hl1 (by decide) rfl (fun ls hl2 => ?_)
                clear hl1; have hl1 := hl2; clear hl2
                refine lv_iload_n hx hb d_Model_run_163 rfl (lv_at hl1 0 rfl) ?_
                refine lv_if_ge (tgt := 41) hx hb d_Model_run_164 (by decide) (fun c_34 => ?_) (fun c_34 => ?_)
                · replace c_34 : 0 ≤ i1 + 1 := (nI_leI (a := 0) (b := i1 + 1) (by decide) (by first | exact Nat.lt_of_lt_of_le (by assumption) (by decide) | exact Nat.lt_of_le_of_lt (by assumption) (by decide) | omega)).mp c_34
                  exact ih_8 (i1 + 1) (d1 + 1) x_30 x_31 (by first | assumption | omega) (by first | assumption | omega) (by first | assumption | omega) (by first | assumption | omega) (by assumption) _ _ _ (hP.sub [1, 2, 3, 0, 4, 5, 6, 7, 8, 9, 10, 11] rfl) (hD.sub [1, 2, 3, 0, 4, 5, 6, 7, 8, 9, 10, 11] (by decide) rfl) hS (lv_sub hl1 [2, 3, 0, 1] rfl)
                · replace c_34 : ¬ 0 ≤ i1 + 1 := fun hq9 => c_34 ((nI_leI (a := 0) (b := i1 + 1) (by decide) (by first | exact Nat.lt_of_lt_of_le (by assumption) (by decide) | exact Nat.lt_of_le_of_lt (by assumption) (by decide) | omega)).mpr hq9)
                  refine lv_iconst (v := 2) hx hb d_Model_run_167 (by decide) ?_
                  rw [← hQe]
                  obtain ⟨hP9, hD9⟩ := xw_sub2 (wc := (fun (u : Nat → Nat) (xtr : Nat → Nat) (xvs : Nat → Int64) => [(m0, .inr (11, [.int 0, .int s_taped, .ref m1, .int s_size, .int s_outSize, .ref m2, .int s_kind, .int s_value, .int s_begin, .int s_end, .int s_failed, .ref m3, .ref m4, .ref m5, .int 1, .int (nI hf), .ref m6, .ref m7, .ref m8, .ref m9, .ref m10, .ref m11, .ref m12, .ref m13, .ref m14, .ref m15, .ref m16, .ref m17, .ref m18, .ref m19, .ref m20, .int s_signs, .ref m21, .int s_stacked, .ref m22, .int s_name, .int s_shift, .int s_statements, .int s_ifs, .int s_whiles, .int s_variants, .int s_open, .ref m23, .int s_isMade, .int s_conditions, .ref m24, .ref m25, .ref m26, .ref m27, .int s_kept, .ref m28, .int s_tops, .ref m29, .int s_used, .ref m30, .ref m31, .int s_looked, .int s_rows, .int s_firstRow, .ref m32, .ref m33, .ref m34, .ref m35, .ref m36, .ref m37, .ref m38, .ref m39, .ref m40, .int s_isBroken, .ref m41, .int s_atoms, .ref m42])), (m41, .inl (ax 4, 6, .inr (.inl xvs))), (m42, .inl (ax 3, 256, .inl (fun j => nI (xtr j)))), (m6, .inl (ax 0, 2, .inl (fun j => nI (it j)))), (m7, .inl (ax 0, 80, .inl (fun j => nI (op j)))), (m9, .inl (ax 0, 80, .inl (fun j => nI (tg j)))), (m10, .inl (ax 0, 80, .inl tn)), (m11, .inl (ax 0, 80, .inl tm)), (m19, .inl (ax 0, 6000, .inl pl)), (m12, .inl (ax 0, 80, .inl (fun j => nI (fi j)))), (m13, .inl (ax 0, 80, .inl (fun j => nI (fs j)))), (m18, .inl (ax 0, 80, .inl (fun j => nI (lk j))))]) (ixn [2]) x_30 x_31) hP hD [1, 2, 3, 0, 4, 5, 6, 7, 8, 9, 10, 11] (by decide) rfl
                  have hex0 : ∀ j, x_30 j ≤ 1 := (by assumption)
                  have hsp0 : 2 ≤ 2 := (by first | assumption | omega)
                  exact W.iret (v := 2) hx hb hr (fun t ht hW => ⟨⟨2, ixn [2], rfl, ⟨rfl, hsp0⟩, ⟨x_30, x_31, hex0, by rw [ht]; exact hP9, hD9⟩⟩, hS.F ht⟩) hS.2.2 d_Model_run_168
              · refine W.eq (g2 := F0 m 162 ls [.int (nI (lk i1 + 1))]) (by rw [e9]) ?_
                have hl2 := hlo.1 (by first | assumption | omega)
                have hms := msr_le (op := op) (E := (40 * hf + it hf)) (i := lk i1 + 1)
                refine lv_istore_n (lv' := [(2, .int (nI (lk i1 + 1))), (3, .int (nI (d1 + 1))), (0, .ref m0), (1, .int (nI sp))]) hx hb d_Model_run_162 rfl hl1 (by decide) rfl (fun ls hl2 => ?_)
                clear hl1; have hl1 := hl2; clear hl2
                refine lv_iload_n hx hb d_Model_run_163 rfl (lv_at hl1 0 rfl) ?_
                refine lv_if_ge (tgt := 41) hx hb d_Model_run_164 (by decide) (fun c_35 => ?_) (fun c_35 => ?_)
                · replace c_35 : 0 ≤ lk i1 + 1 := (nI_leI (a := 0) (b := lk i1 + 1) (by decide) (by first | exact Nat.lt_of_lt_of_le (by assumption) (by decide) | exact Nat.lt_of_le_of_lt (by assumption) (by decide) | omega)).mp c_35
                  exact ih_8 (lk i1 + 1) (d1 + 1) x_30 x_31 (by first | assumption | omega) (by first | assumption | omega) (by first | assumption | omega) (by first | assumption | omega) (by assumption) _ _ _ (hP.sub [1, 2, 3, 0, 4, 5, 6, 7, 8, 9, 10, 11] rfl) (hD.sub [1, 2, 3, 0, 4, 5, 6, 7, 8, 9, 10, 11] (by decide) rfl) hS (lv_sub hl1 [2, 3, 0, 1] rfl)
                · replace c_35 : ¬ 0 ≤ lk i1 + 1 := fun hq9 => c_35 ((nI_leI (a := 0) (b := lk i1 + 1) (by decide) (by first | exact Nat.lt_of_lt_of_le (by assumption) (by decide) | exact Nat.lt_of_le_of_lt (by assumption) (by decide) | omega)).mpr hq9)
                  refine lv_iconst (v := 2) hx hb d_Model_run_167 (by decide) ?_
                  rw [← hQe]
                  obtain ⟨hP9, hD9⟩ := xw_sub2 (wc := (fun (u : Nat → Nat) (xtr : Nat → Nat) (xvs : Nat → Int64) => [(m0, .inr (11, [.int 0, .int s_taped, .ref m1, .int s_size, .int s_outSize, .ref m2, .int s_kind, .int s_value, .int s_begin, .int s_end, .int s_failed, .ref m3, .ref m4, .ref m5, .int 1, .int (nI hf), .ref m6, .ref m7, .ref m8, .ref m9, .ref m10, .ref m11, .ref m12, .ref m13, .ref m14, .ref m15, .ref m16, .ref m17, .ref m18, .ref m19, .ref m20, .int s_signs, .ref m21, .int s_stacked, .ref m22, .int s_name, .int s_shift, .int s_statements, .int s_ifs, .int s_whiles, .int s_variants, .int s_open, .ref m23, .int s_isMade, .int s_conditions, .ref m24, .ref m25, .ref m26, .ref m27, .int s_kept, .ref m28, .int s_tops, .ref m29, .int s_used, .ref m30, .ref m31, .int s_looked, .int s_rows, .int s_firstRow, .ref m32, .ref m33, .ref m34, .ref m35, .ref m36, .ref m37, .ref m38, .ref m39, .ref m40, .int s_isBroken, .ref m41, .int s_atoms, .ref m42])), (m41, .inl (ax 4, 6, .inr (.inl xvs))), (m42, .inl (ax 3, 256, .inl (fun j => nI (xtr j)))), (m6, .inl (ax 0, 2, .inl (fun j => nI (it j)))), (m7, .inl (ax 0, 80, .inl (fun j => nI (op j)))), (m9, .inl (ax 0, 80, .inl (fun j => nI (tg j)))), (m10, .inl (ax 0, 80, .inl tn)), (m11, .inl (ax 0, 80, .inl tm)), (m19, .inl (ax 0, 6000, .inl pl)), (m12, .inl (ax 0, 80, .inl (fun j => nI (fi j)))), (m13, .inl (ax 0, 80, .inl (fun j => nI (fs j)))), (m18, .inl (ax 0, 80, .inl (fun j => nI (lk j))))]) (ixn [2]) x_30 x_31) hP hD [1, 2, 3, 0, 4, 5, 6, 7, 8, 9, 10, 11] (by decide) rfl
                  have hex0 : ∀ j, x_30 j ≤ 1 := (by assumption)
                  have hsp0 : 2 ≤ 2 := (by first | assumption | omega)
                  exact W.iret (v := 2) hx hb hr (fun t ht hW => ⟨⟨2, ixn [2], rfl, ⟨rfl, hsp0⟩, ⟨x_30, x_31, hex0, by rw [ht]; exact hP9, hD9⟩⟩, hS.F ht⟩) hS.2.2 d_Model_run_168
            · replace c_25 : d1 = sp := (nI_eq (a := d1) (b := sp) (by first | exact Nat.lt_of_lt_of_le (by assumption) (by decide) | exact Nat.lt_of_le_of_lt (by assumption) (by decide) | omega) (by first | exact Nat.lt_of_lt_of_le (by assumption) (by decide) | exact Nat.lt_of_le_of_lt (by assumption) (by decide) | omega)).mp c_25
              refine lv_iconst (v := 1) hx hb d_Model_run_152 (by decide) ?_
              rw [← hQe]
              obtain ⟨hP9, hD9⟩ := xw_sub2 (wc := (fun (u : Nat → Nat) (xtr : Nat → Nat) (xvs : Nat → Int64) => [(m0, .inr (11, [.int 0, .int s_taped, .ref m1, .int s_size, .int s_outSize, .ref m2, .int s_kind, .int s_value, .int s_begin, .int s_end, .int s_failed, .ref m3, .ref m4, .ref m5, .int 1, .int (nI hf), .ref m6, .ref m7, .ref m8, .ref m9, .ref m10, .ref m11, .ref m12, .ref m13, .ref m14, .ref m15, .ref m16, .ref m17, .ref m18, .ref m19, .ref m20, .int s_signs, .ref m21, .int s_stacked, .ref m22, .int s_name, .int s_shift, .int s_statements, .int s_ifs, .int s_whiles, .int s_variants, .int s_open, .ref m23, .int s_isMade, .int s_conditions, .ref m24, .ref m25, .ref m26, .ref m27, .int s_kept, .ref m28, .int s_tops, .ref m29, .int s_used, .ref m30, .ref m31, .int s_looked, .int s_rows, .int s_firstRow, .ref m32, .ref m33, .ref m34, .ref m35, .ref m36, .ref m37, .ref m38, .ref m39, .ref m40, .int s_isBroken, .ref m41, .int s_atoms, .ref m42])), (m41, .inl (ax 4, 6, .inr (.inl xvs))), (m42, .inl (ax 3, 256, .inl (fun j => nI (xtr j)))), (m6, .inl (ax 0, 2, .inl (fun j => nI (it j)))), (m7, .inl (ax 0, 80, .inl (fun j => nI (op j)))), (m9, .inl (ax 0, 80, .inl (fun j => nI (tg j)))), (m10, .inl (ax 0, 80, .inl tn)), (m11, .inl (ax 0, 80, .inl tm)), (m19, .inl (ax 0, 6000, .inl pl)), (m12, .inl (ax 0, 80, .inl (fun j => nI (fi j)))), (m13, .inl (ax 0, 80, .inl (fun j => nI (fs j)))), (m18, .inl (ax 0, 80, .inl (fun j => nI (lk j))))]) (ixn [1]) tr1 vs1) hP hD [0, 1, 2, 3, 4, 5, 6, 7, 8, 9, 10, 11] (by decide) rfl
              have hex0 : ∀ j, tr1 j ≤ 1 := (by assumption)
              have hsp0 : 1 ≤ 2 := (by first | assumption | omega)
              exact W.iret (v := 1) hx hb hr (fun t ht hW => ⟨⟨1, ixn [1], rfl, ⟨rfl, hsp0⟩, ⟨tr1, vs1, hex0, by rw [ht]; exact hP9, hD9⟩⟩, hS.F ht⟩) hS.2.2 d_Model_run_153
          · replace c_24 : op i1 = 6 := (nI_eq (a := op i1) (b := 6) (by first | exact Nat.lt_of_lt_of_le (by assumption) (by decide) | exact Nat.lt_of_le_of_lt (by assumption) (by decide) | omega) (by decide)).mp c_24
            refine lv_aload_n hx hb d_Model_run_100 rfl (lv_at hl1 0 rfl) ?_
            refine va_get (D := D) (ci := 11) (v := .ref m7) (C := R_Model) (T := F_Model) (N := 72) hx hb hts i_Model hown hK.1 hP 0 rfl rfl 17 (by decide) (hts _ wd_1053) (fun _ h9 => h9) rfl d_Model_run_101 ?_
            refine lv_iload_n hx hb d_Model_run_104 rfl (lv_at hl1 2 rfl) ?_
            refine va_iald hx hb hK.1 hP 4 0 rfl rfl (vp_in_nI (by first | assumption | omega) (by decide)) d_Model_run_105 ?_
            refine W.eq (g2 := F0 m 106 ls [.int (nI (op i1))]) (by rw [nI_clamp (by first | exact Nat.lt_of_lt_of_le (by assumption) (by decide) | exact Nat.lt_of_le_of_lt (by assumption) (by decide) | omega)]) ?_
            refine lv_iconst (v := 4) hx hb d_Model_run_106 (by decide) ?_
            refine lv_icmp_ne (tgt := 116) hx hb d_Model_run_107 (by decide) (fun c_36 => ?_) (fun c_36 => ?_)
            · replace c_36 : ¬ op i1 = 4 := fun hq9 => c_36 ((nI_eq (a := op i1) (b := 4) (by first | exact Nat.lt_of_lt_of_le (by assumption) (by decide) | exact Nat.lt_of_le_of_lt (by assumption) (by decide) | omega) (by decide)).mpr hq9)
              refine lv_aload_n hx hb d_Model_run_116 rfl (lv_at hl1 0 rfl) ?_
              refine va_get (D := D) (ci := 11) (v := .ref m7) (C := R_Model) (T := F_Model) (N := 72) hx hb hts i_Model hown hK.1 hP 0 rfl rfl 17 (by decide) (hts _ wd_1053) (fun _ h9 => h9) rfl d_Model_run_117 ?_
              refine lv_iload_n hx hb d_Model_run_120 rfl (lv_at hl1 2 rfl) ?_
              refine va_iald hx hb hK.1 hP 4 0 rfl rfl (vp_in_nI (by first | assumption | omega) (by decide)) d_Model_run_121 ?_
              refine W.eq (g2 := F0 m 122 ls [.int (nI (op i1))]) (by rw [nI_clamp (by first | exact Nat.lt_of_lt_of_le (by assumption) (by decide) | exact Nat.lt_of_le_of_lt (by assumption) (by decide) | omega)]) ?_
              refine lv_iconst (v := 3) hx hb d_Model_run_122 (by decide) ?_
              refine lv_icmp_ne (tgt := 137) hx hb d_Model_run_123 (by decide) (fun c_37 => ?_) (fun c_37 => ?_)
              · replace c_37 : ¬ op i1 = 3 := fun hq9 => c_37 ((nI_eq (a := op i1) (b := 3) (by first | exact Nat.lt_of_lt_of_le (by assumption) (by decide) | exact Nat.lt_of_le_of_lt (by assumption) (by decide) | omega) (by decide)).mpr hq9)
                have hl2 := hlo.2 (by first | assumption | omega)
                have hms := msr_0 (op := op) (E := (40 * hf + it hf)) (i := i1) (j := lk i1) (by first | assumption | omega) hl2.2.2
                refine lv_aload_n hx hb d_Model_run_137 rfl (lv_at hl1 0 rfl) ?_
                refine va_get (D := D) (ci := 11) (v := .ref m18) (C := R_Model) (T := F_Model) (N := 72) hx hb hts i_Model hown hK.1 hP 0 rfl rfl 28 (by decide) (hts _ wd_1064) (fun _ h9 => h9) rfl d_Model_run_138 ?_
                refine lv_iload_n hx hb d_Model_run_141 rfl (lv_at hl1 2 rfl) ?_
                refine va_iald hx hb hK.1 hP 11 0 rfl rfl (vp_in_nI (by first | assumption | omega) (by decide)) d_Model_run_142 ?_
                refine W.eq (g2 := F0 m 143 ls [.int (nI (lk i1))]) (by rw [nI_clamp (by first | exact Nat.lt_of_lt_of_le (by assumption) (by decide) | exact Nat.lt_of_le_of_lt (by assumption) (by decide) | omega)]) ?_
                refine lv_istore_n (lv' := [(2, .int (nI (lk i1))), (0, .ref m0), (1, .int (nI sp)), (3, .int (nI d1))]) hx hb d_Model_run_143 rfl hl1 (by decide) rfl (fun ls hl2 => ?_)
                clear hl1; have hl1 := hl2; clear hl2
                refine lv_goto (tgt := 41) hx hb d_Model_run_144 (by decide) ?_
                exact ih_8 (lk i1) d1 tr1 vs1 (by first | assumption | omega) (by first | assumption | omega) (by first | assumption | omega) (by first | assumption | omega) (by assumption) _ _ _ (hP.sub [0, 1, 2, 3, 4, 5, 6, 7, 8, 9, 10, 11] rfl) (hD.sub [0, 1, 2, 3, 4, 5, 6, 7, 8, 9, 10, 11] (by decide) rfl) hS (lv_sub hl1 [1, 2, 0, 3] rfl)
              · replace c_37 : op i1 = 3 := (nI_eq (a := op i1) (b := 3) (by first | exact Nat.lt_of_lt_of_le (by assumption) (by decide) | exact Nat.lt_of_le_of_lt (by assumption) (by decide) | omega) (by decide)).mp c_37
                have hl2 := hlo.1 (by first | assumption | omega)
                have hms := msr_lt (op := op) (E := (40 * hf + it hf)) (i := i1) (j := lk i1 + 1) (by first | assumption | omega) (by first | assumption | omega) (by first | assumption | omega)
                refine lv_aload_n hx hb d_Model_run_126 rfl (lv_at hl1 0 rfl) ?_
                refine va_get (D := D) (ci := 11) (v := .ref m18) (C := R_Model) (T := F_Model) (N := 72) hx hb hts i_Model hown hK.1 hP 0 rfl rfl 28 (by decide) (hts _ wd_1064) (fun _ h9 => h9) rfl d_Model_run_127 ?_
                refine lv_iload_n hx hb d_Model_run_130 rfl (lv_at hl1 2 rfl) ?_
                refine va_iald hx hb hK.1 hP 11 0 rfl rfl (vp_in_nI (by first | assumption | omega) (by decide)) d_Model_run_131 ?_
                refine W.eq (g2 := F0 m 132 ls [.int (nI (lk i1))]) (by rw [nI_clamp (by first | exact Nat.lt_of_lt_of_le (by assumption) (by decide) | exact Nat.lt_of_le_of_lt (by assumption) (by decide) | omega)]) ?_
                refine lv_iconst (v := 1) hx hb d_Model_run_132 (by decide) ?_
                refine lv_iadd hx hb d_Model_run_133 ?_
                refine lv_topi (fun z_38 ez_38 => ?_)
                have ez_38 : z_38 = nI (lk i1 + 1) := ez_38.trans (nI_add (lk i1) 1)
                subst ez_38
                refine lv_goto (tgt := 143) hx hb d_Model_run_134 (by decide) ?_
                refine lv_istore_n (lv' := [(2, .int (nI (lk i1 + 1))), (0, .ref m0), (1, .int (nI sp)), (3, .int (nI d1))]) hx hb d_Model_run_143 rfl hl1 (by decide) rfl (fun ls hl2 => ?_)
                clear hl1; have hl1 := hl2; clear hl2
                refine lv_goto (tgt := 41) hx hb d_Model_run_144 (by decide) ?_
                exact ih_8 (lk i1 + 1) d1 tr1 vs1 (by first | assumption | omega) (by first | assumption | omega) (by first | assumption | omega) (by first | assumption | omega) (by assumption) _ _ _ (hP.sub [0, 1, 2, 3, 4, 5, 6, 7, 8, 9, 10, 11] rfl) (hD.sub [0, 1, 2, 3, 4, 5, 6, 7, 8, 9, 10, 11] (by decide) rfl) hS (lv_sub hl1 [1, 2, 0, 3] rfl)
            · replace c_36 : op i1 = 4 := (nI_eq (a := op i1) (b := 4) (by first | exact Nat.lt_of_lt_of_le (by assumption) (by decide) | exact Nat.lt_of_le_of_lt (by assumption) (by decide) | omega) (by decide)).mp c_36
              have hms := msr_lt (op := op) (E := (40 * hf + it hf)) (i := i1) (j := i1 + 1) (by first | assumption | omega) (by first | assumption | omega) (by first | assumption | omega)
              refine lv_iload_n hx hb d_Model_run_110 rfl (lv_at hl1 2 rfl) ?_
              refine lv_iconst (v := 1) hx hb d_Model_run_111 (by decide) ?_
              refine lv_iadd hx hb d_Model_run_112 ?_
              refine lv_topi (fun z_39 ez_39 => ?_)
              have ez_39 : z_39 = nI (i1 + 1) := ez_39.trans (nI_add i1 1)
              subst ez_39
              refine lv_goto (tgt := 143) hx hb d_Model_run_113 (by decide) ?_
              refine lv_istore_n (lv' := [(2, .int (nI (i1 + 1))), (0, .ref m0), (1, .int (nI sp)), (3, .int (nI d1))]) hx hb d_Model_run_143 rfl hl1 (by decide) rfl (fun ls hl2 => ?_)
              clear hl1; have hl1 := hl2; clear hl2
              refine lv_goto (tgt := 41) hx hb d_Model_run_144 (by decide) ?_
              exact ih_8 (i1 + 1) d1 tr1 vs1 (by first | assumption | omega) (by first | assumption | omega) (by first | assumption | omega) (by first | assumption | omega) (by assumption) _ _ _ (hP.sub [0, 1, 2, 3, 4, 5, 6, 7, 8, 9, 10, 11] rfl) (hD.sub [0, 1, 2, 3, 4, 5, 6, 7, 8, 9, 10, 11] (by decide) rfl) hS (lv_sub hl1 [1, 2, 0, 3] rfl)
