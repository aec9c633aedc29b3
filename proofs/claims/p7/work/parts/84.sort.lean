theorem ps_96 : Cond.selects "TripleDeskModel" ⟨"TripleDeskModel", "isBefore", "(II)Z"⟩ ⟨"TripleDeskModel", "isBefore", "(II)Z"⟩ ∈ lw_gd := ps_in (q := (⟨"TripleDeskModel", "isBefore", "(II)Z"⟩, 72)) (i := 96) (by decide +kernel)
theorem wd_1484 : ((Jvm.Cond.methodLink "TripleDeskModel" (382 : Nat) ({ cls := "TripleDeskModel", name := "isBefore", desc := "(II)Z" } : Jvm.MethodName))) ∈ lw_gd := lw_gd_in (i := 1484) (by decide +kernel) rfl
theorem wd_1486 : ((Jvm.Cond.instanceMethod ({ cls := "TripleDeskModel", name := "isBefore", desc := "(II)Z" } : Jvm.MethodName))) ∈ lw_gd := lw_gd_in (i := 1486) (by decide +kernel) rfl
theorem wd_1487 : ((Jvm.Cond.code ({ cls := "TripleDeskModel", name := "isBefore", desc := "(II)Z" } : Jvm.MethodName) prog_13_method_58_code (3 : Nat) (Option.some Jvm.ClassFile.FieldType.boolean))) ∈ lw_gd := lw_gd_in (i := 1487) (by decide +kernel) rfl
theorem wd_1488 : ((Jvm.Cond.methodLink "TripleDeskModel" (386 : Nat) ({ cls := "TripleDeskModel", name := "exchange", desc := "([II)V" } : Jvm.MethodName))) ∈ lw_gd := lw_gd_in (i := 1488) (by decide +kernel) rfl
theorem wd_1489 : ((Jvm.Cond.static ({ cls := "TripleDeskModel", name := "exchange", desc := "([II)V" } : Jvm.MethodName))) ∈ lw_gd := lw_gd_in (i := 1489) (by decide +kernel) rfl
theorem wd_1490 : ((Jvm.Cond.code ({ cls := "TripleDeskModel", name := "exchange", desc := "([II)V" } : Jvm.MethodName) prog_13_method_59_code (3 : Nat) (Option.none : Option Jvm.ClassFile.FieldType))) ∈ lw_gd := lw_gd_in (i := 1490) (by decide +kernel) rfl
abbrev b_Model_exchange : ByteArray := prog_13_method_59_code
def y_Model_exchange : MethodName := ⟨R_Model, "exchange", "([II)V"⟩
theorem d_Model_exchange_0 : decode b_Model_exchange 0 = .ok (.aload_n 0, 1) := by decide +kernel
theorem d_Model_exchange_1 : decode b_Model_exchange 1 = .ok (.iload_n 1, 1) := by decide +kernel
theorem d_Model_exchange_2 : decode b_Model_exchange 2 = .ok (.iaload, 1) := by decide +kernel
theorem d_Model_exchange_3 : decode b_Model_exchange 3 = .ok (.istore_n 2, 1) := by decide +kernel
theorem d_Model_exchange_4 : decode b_Model_exchange 4 = .ok (.aload_n 0, 1) := by decide +kernel
theorem d_Model_exchange_5 : decode b_Model_exchange 5 = .ok (.iload_n 1, 1) := by decide +kernel
theorem d_Model_exchange_6 : decode b_Model_exchange 6 = .ok (.aload_n 0, 1) := by decide +kernel
theorem d_Model_exchange_7 : decode b_Model_exchange 7 = .ok (.iload_n 1, 1) := by decide +kernel
theorem d_Model_exchange_8 : decode b_Model_exchange 8 = .ok (.iconst 1, 1) := by decide +kernel
theorem d_Model_exchange_9 : decode b_Model_exchange 9 = .ok (.isub, 1) := by decide +kernel
theorem d_Model_exchange_10 : decode b_Model_exchange 10 = .ok (.iaload, 1) := by decide +kernel
theorem d_Model_exchange_11 : decode b_Model_exchange 11 = .ok (.iastore, 1) := by decide +kernel
theorem d_Model_exchange_12 : decode b_Model_exchange 12 = .ok (.aload_n 0, 1) := by decide +kernel
theorem d_Model_exchange_13 : decode b_Model_exchange 13 = .ok (.iload_n 1, 1) := by decide +kernel
theorem d_Model_exchange_14 : decode b_Model_exchange 14 = .ok (.iconst 1, 1) := by decide +kernel
theorem d_Model_exchange_15 : decode b_Model_exchange 15 = .ok (.isub, 1) := by decide +kernel
theorem d_Model_exchange_16 : decode b_Model_exchange 16 = .ok (.iload_n 2, 1) := by decide +kernel
theorem d_Model_exchange_17 : decode b_Model_exchange 17 = .ok (.iastore, 1) := by decide +kernel
theorem d_Model_exchange_18 : decode b_Model_exchange 18 = .ok (.return_, 1) := by decide +kernel
set_option maxHeartbeats 40000000 in
set_option maxRecDepth 100000 in
theorem c_M_exchange (l : Launch) (D : va_G) (ax : Nat → ClassId) (h0 N1 j1 : Nat) (f : Nat → Nat) (sz : Nat) (hj : 1 ≤ j1) (hj2 : j1 < N1) (hN9 : N1 < 2 ^ 31) : Met l y_Model_exchange (xws (.code y_Model_exchange b_Model_exchange 3 none)) ({ frames := 10, cells := 0, slots := 0, locals := 400 }) (va_Pc [.ref h0, .int (nI j1)] (xo D ax [(h0, .inl (ax 0, N1, .inl (fun j => nI (f j))))] sz)) ((va_Qv (fun (u : Nat → Nat) => True) (xb D (va_A [(h0, .inl (ax 0, N1, .inl (fun j => nI (f j))))] sz) (fun u => [(h0, .inl (ax 0, N1, .inl (fun j => nI (sup (sup f j1 (f (j1 - 1))) (j1 - 1) (f j1) j))))])) (va_A [(h0, .inl (ax 0, N1, .inl (fun j => nI (f j))))] sz))) 0 0 (va_A [(h0, .inl (ax 0, N1, .inl (fun j => nI (f j))))] sz) := by
  refine Met.ofW (cc := b_Model_exchange) (maxL := 3) (ret := none) (by decide) rfl ?_
  intro p e s m args below meth c s₁ B hml hv
  obtain ⟨rfl, hsz, hP, hK, hD0⟩ := hv
  have hx := B.exec
  have hb := B.bytes
  have hr := B.returns
  have hts := xw_hts B.pre
  have hown : s.vm.findClass R_Model = some m.cls := findClass_of_methodNamed B.named
  have hlocks := B.notSynchronized
  subst hsz
  have hD := hD0.self (sz := s.heap.size)
  have hN := xz_entry hP
  generalize hAe : va_A [(h0, .inl (ax 0, N1, .inl (fun j => nI (f j))))] s.heap.size = A at hD hN ⊢
  have hA : ∀ q : Nat, s.heap.size ≤ q → A q := fun q h => by rw [← hAe]; exact Or.inr h
  have hS : va_S A s.heap s.heap [] := va_S.rf
  have hl0 := lv_entry ([.ref h0, .int (nI j1)]) (n := 3) (Nat.le_of_ble_eq_true rfl)
  rw [lg_entry_eq]
  generalize (lg_sl ([.ref h0, .int (nI j1)]) ++ List.replicate (3 - (lg_sl ([.ref h0, .int (nI j1)])).length) Slot.unset).toArray = ls at hl0 ⊢
  have hl1 : lv_has ls 3 [(0, .ref h0), (1, .int (nI j1))] := hl0
  refine xw_gen (fun Z9 hQe => ?_)
  refine lv_aload_n hx hb d_Model_exchange_0 rfl (lv_at hl1 0 rfl) ?_
  refine lv_iload_n hx hb d_Model_exchange_1 rfl (lv_at hl1 1 rfl) ?_
  refine va_iald hx hb hK.1 hP 0 0 rfl rfl (vp_in_nI (by first | assumption | omega) (by first | exact Nat.lt_of_lt_of_le (by assumption) (by decide) | exact Nat.lt_of_le_of_lt (by assumption) (by decide) | omega)) d_Model_exchange_2 ?_
  refine W.eq (g2 := F0 m 3 ls [.int (nI (f j1))]) (by rw [nI_clamp (by first | exact Nat.lt_of_lt_of_le (by assumption) (by decide) | exact Nat.lt_of_le_of_lt (by assumption) (by decide) | omega)]) ?_
  refine lv_istore_n (lv' := [(2, .int (nI (f j1))), (0, .ref h0), (1, .int (nI j1))]) hx hb d_Model_exchange_3 rfl hl1 (by decide) rfl (fun ls hl2 => ?_)
  clear hl1; have hl1 := hl2; clear hl2
  refine lv_aload_n hx hb d_Model_exchange_4 rfl (lv_at hl1 1 rfl) ?_
  refine lv_iload_n hx hb d_Model_exchange_5 rfl (lv_at hl1 2 rfl) ?_
  refine lv_aload_n hx hb d_Model_exchange_6 rfl (lv_at hl1 1 rfl) ?_
  refine lv_iload_n hx hb d_Model_exchange_7 rfl (lv_at hl1 2 rfl) ?_
  refine lv_iconst (v := 1) hx hb d_Model_exchange_8 (by decide) ?_
  refine lv_isub hx hb d_Model_exchange_9 ?_
  refine lv_topi (fun z_1 ez_1 => ?_)
  have ez_1 : z_1 = nI (j1 - 1) := ez_1.trans (pk_sub (a := j1) (b := 1) (by first | assumption | omega))
  subst ez_1
  refine va_iald hx hb hK.1 hP 0 0 rfl rfl (vp_in_nI (by first | assumption | omega) (by first | exact Nat.lt_of_lt_of_le (by assumption) (by decide) | exact Nat.lt_of_le_of_lt (by assumption) (by decide) | omega)) d_Model_exchange_10 ?_
  refine W.eq (g2 := F0 m 11 ls [.int (nI (f (j1 - 1))), .int (nI j1), .ref h0]) (by rw [nI_clamp (by first | exact Nat.lt_of_lt_of_le (by assumption) (by decide) | exact Nat.lt_of_le_of_lt (by assumption) (by decide) | omega)]) ?_
  refine va_iast hx hb hK.1 hP hD hS 0 0 rfl rfl (vp_in_nI (by first | assumption | omega) (by first | exact Nat.lt_of_lt_of_le (by assumption) (by decide) | exact Nat.lt_of_le_of_lt (by assumption) (by decide) | omega)) d_Model_exchange_11 (fun H_2 locs hP1 hD1 hS1 => ?_)
  rw [nI_clamp (by first | exact Nat.lt_of_lt_of_le (by assumption) (by decide) | exact Nat.lt_of_le_of_lt (by assumption) (by decide) | omega)] at hP1 hD1
  rw [xf_sup f j1 (f (j1 - 1))] at hP1 hD1
  clear hP hD hS
  have hS := hS1
  have hW7 : (fun w9 : va_W => va_P D classes w9 H_2 ∧ va_D A w9) [(h0, .inl (ax 0, N1, .inl (fun j => nI (sup f j1 (f (j1 - 1)) j))))] := ⟨hP1, hD1⟩
  obtain ⟨hP, hD⟩ := hW7
  clear hP1 hD1 hS1
  refine lv_aload_n hx hb d_Model_exchange_12 rfl (lv_at hl1 1 rfl) ?_
  refine lv_iload_n hx hb d_Model_exchange_13 rfl (lv_at hl1 2 rfl) ?_
  refine lv_iconst (v := 1) hx hb d_Model_exchange_14 (by decide) ?_
  refine lv_isub hx hb d_Model_exchange_15 ?_
  refine lv_topi (fun z_3 ez_3 => ?_)
  have ez_3 : z_3 = nI (j1 - 1) := ez_3.trans (pk_sub (a := j1) (b := 1) (by first | assumption | omega))
  subst ez_3
  refine lv_iload_n hx hb d_Model_exchange_16 rfl (lv_at hl1 0 rfl) ?_
  refine va_iast hx hb hK.1 hP hD hS 0 0 rfl rfl (vp_in_nI (by first | assumption | omega) (by first | exact Nat.lt_of_lt_of_le (by assumption) (by decide) | exact Nat.lt_of_le_of_lt (by assumption) (by decide) | omega)) d_Model_exchange_17 (fun H_4 locs hP1 hD1 hS1 => ?_)
  rw [nI_clamp (by first | exact Nat.lt_of_lt_of_le (by assumption) (by decide) | exact Nat.lt_of_le_of_lt (by assumption) (by decide) | omega)] at hP1 hD1
  rw [xf_sup (sup f j1 (f (j1 - 1))) (j1 - 1) (f j1)] at hP1 hD1
  clear hP hD hS
  have hS := hS1
  have hW7 : (fun w9 : va_W => va_P D classes w9 H_4 ∧ va_D A w9) [(h0, .inl (ax 0, N1, .inl (fun j => nI (sup (sup f j1 (f (j1 - 1))) (j1 - 1) (f j1) j))))] := ⟨hP1, hD1⟩
  obtain ⟨hP, hD⟩ := hW7
  clear hP1 hD1 hS1
  rw [← hQe]
  obtain ⟨hP9, hD9⟩ := xw_sub2 (wc := (fun u : Nat → Nat => [(h0, .inl (ax 0, N1, .inl (fun j => nI (sup (sup f j1 (f (j1 - 1))) (j1 - 1) (f j1) j))))]) (ixn [])) hP hD [0] (by decide) rfl
  exact W.vret hx hb hr (fun t ht hW => ⟨⟨ixn [], rfl, trivial, ⟨by rw [ht]; exact hP9, hD9⟩⟩, hS.F ht⟩) hS.2.2 d_Model_exchange_18
abbrev b_Model_isBefore : ByteArray := prog_13_method_58_code
def y_Model_isBefore : MethodName := ⟨R_Model, "isBefore", "(II)Z"⟩
theorem d_Model_isBefore_0 : decode b_Model_isBefore 0 = .ok (.aload_n 0, 1) := by decide +kernel
theorem d_Model_isBefore_1 : decode b_Model_isBefore 1 = .ok (.getfield 84, 3) := by decide +kernel
theorem d_Model_isBefore_4 : decode b_Model_isBefore 4 = .ok (.iload_n 1, 1) := by decide +kernel
theorem d_Model_isBefore_5 : decode b_Model_isBefore 5 = .ok (.iaload, 1) := by decide +kernel
theorem d_Model_isBefore_6 : decode b_Model_isBefore 6 = .ok (.aload_n 0, 1) := by decide +kernel
theorem d_Model_isBefore_7 : decode b_Model_isBefore 7 = .ok (.getfield 84, 3) := by decide +kernel
theorem d_Model_isBefore_10 : decode b_Model_isBefore 10 = .ok (.iload_n 2, 1) := by decide +kernel
theorem d_Model_isBefore_11 : decode b_Model_isBefore 11 = .ok (.iaload, 1) := by decide +kernel
theorem d_Model_isBefore_12 : decode b_Model_isBefore 12 = .ok (.if_icmp .eq 26, 3) := by decide +kernel
theorem d_Model_isBefore_15 : decode b_Model_isBefore 15 = .ok (.aload_n 0, 1) := by decide +kernel
theorem d_Model_isBefore_16 : decode b_Model_isBefore 16 = .ok (.getfield 84, 3) := by decide +kernel
theorem d_Model_isBefore_19 : decode b_Model_isBefore 19 = .ok (.iload_n 1, 1) := by decide +kernel
theorem d_Model_isBefore_20 : decode b_Model_isBefore 20 = .ok (.iaload, 1) := by decide +kernel
theorem d_Model_isBefore_21 : decode b_Model_isBefore 21 = .ok (.aload_n 0, 1) := by decide +kernel
theorem d_Model_isBefore_22 : decode b_Model_isBefore 22 = .ok (.getfield 84, 3) := by decide +kernel
theorem d_Model_isBefore_25 : decode b_Model_isBefore 25 = .ok (.iload_n 2, 1) := by decide +kernel
theorem d_Model_isBefore_26 : decode b_Model_isBefore 26 = .ok (.iaload, 1) := by decide +kernel
theorem d_Model_isBefore_27 : decode b_Model_isBefore 27 = .ok (.if_icmp .ge 7, 3) := by decide +kernel
theorem d_Model_isBefore_30 : decode b_Model_isBefore 30 = .ok (.iconst 1, 1) := by decide +kernel
theorem d_Model_isBefore_31 : decode b_Model_isBefore 31 = .ok (.goto 27, 3) := by decide +kernel
theorem d_Model_isBefore_34 : decode b_Model_isBefore 34 = .ok (.iconst 0, 1) := by decide +kernel
theorem d_Model_isBefore_35 : decode b_Model_isBefore 35 = .ok (.goto 23, 3) := by decide +kernel
theorem d_Model_isBefore_38 : decode b_Model_isBefore 38 = .ok (.aload_n 0, 1) := by decide +kernel
theorem d_Model_isBefore_39 : decode b_Model_isBefore 39 = .ok (.getfield 81, 3) := by decide +kernel
theorem d_Model_isBefore_42 : decode b_Model_isBefore 42 = .ok (.iload_n 1, 1) := by decide +kernel
theorem d_Model_isBefore_43 : decode b_Model_isBefore 43 = .ok (.iaload, 1) := by decide +kernel
theorem d_Model_isBefore_44 : decode b_Model_isBefore 44 = .ok (.aload_n 0, 1) := by decide +kernel
theorem d_Model_isBefore_45 : decode b_Model_isBefore 45 = .ok (.getfield 81, 3) := by decide +kernel
theorem d_Model_isBefore_48 : decode b_Model_isBefore 48 = .ok (.iload_n 2, 1) := by decide +kernel
theorem d_Model_isBefore_49 : decode b_Model_isBefore 49 = .ok (.iaload, 1) := by decide +kernel
theorem d_Model_isBefore_50 : decode b_Model_isBefore 50 = .ok (.if_icmp .ge 7, 3) := by decide +kernel
theorem d_Model_isBefore_53 : decode b_Model_isBefore 53 = .ok (.iconst 1, 1) := by decide +kernel
theorem d_Model_isBefore_54 : decode b_Model_isBefore 54 = .ok (.goto 4, 3) := by decide +kernel
theorem d_Model_isBefore_57 : decode b_Model_isBefore 57 = .ok (.iconst 0, 1) := by decide +kernel
theorem d_Model_isBefore_58 : decode b_Model_isBefore 58 = .ok (.ireturn, 1) := by decide +kernel
set_option maxHeartbeats 40000000 in
set_option maxRecDepth 100000 in
theorem c_M_isBefore (l : Launch) (D : va_G) (ax : Nat → ClassId) (m0 m1 m2 m3 m4 m5 m6 m7 m8 m9 m10 m11 m12 m13 m14 m15 m16 m17 m18 m19 m20 m21 m22 m23 m24 m25 m26 m27 m28 m29 m30 m31 m32 m33 m34 m35 m36 m37 m38 m39 m40 m41 m42 : Nat) (s_thrown s_taped s_size s_outSize s_kind s_value s_begin s_end s_failed s_isProgram s_half s_signs s_stacked s_name s_shift s_statements s_ifs s_whiles s_variants s_open s_isMade s_conditions s_kept s_tops s_used s_looked s_rows s_firstRow s_isBroken s_atoms : Int32) (j1 j2 : Nat) (ck cm : Nat → Nat) (sz : Nat) (hj1 : j1 < 64) (hj2 : j2 < 64) (hb1 : cm j1 < 1000) (hb2 : cm j2 < 1000) (hb3 : ck j1 < 1000) (hb4 : ck j2 < 1000) : Met l y_Model_isBefore (xws (.code y_Model_isBefore b_Model_isBefore 3 (some .boolean))) ({ frames := 10, cells := 0, slots := 0, locals := 400 }) (va_Pc [.ref m0, .int (nI j1), .int (nI j2)] (xo D ax [(m0, .inr (11, [.int s_thrown, .int s_taped, .ref m1, .int s_size, .int s_outSize, .ref m2, .int s_kind, .int s_value, .int s_begin, .int s_end, .int s_failed, .ref m3, .ref m4, .ref m5, .int s_isProgram, .int s_half, .ref m6, .ref m7, .ref m8, .ref m9, .ref m10, .ref m11, .ref m12, .ref m13, .ref m14, .ref m15, .ref m16, .ref m17, .ref m18, .ref m19, .ref m20, .int s_signs, .ref m21, .int s_stacked, .ref m22, .int s_name, .int s_shift, .int s_statements, .int s_ifs, .int s_whiles, .int s_variants, .int s_open, .ref m23, .int s_isMade, .int s_conditions, .ref m24, .ref m25, .ref m26, .ref m27, .int s_kept, .ref m28, .int s_tops, .ref m29, .int s_used, .ref m30, .ref m31, .int s_looked, .int s_rows, .int s_firstRow, .ref m32, .ref m33, .ref m34, .ref m35, .ref m36, .ref m37, .ref m38, .ref m39, .ref m40, .int s_isBroken, .ref m41, .int s_atoms, .ref m42])), (m24, .inl (ax 0, 64, .inl (fun j => nI (ck j)))), (m25, .inl (ax 0, 64, .inl (fun j => nI (cm j))))] sz)) ((va_Qi (fun (r : Int32) (u : Nat → Nat) => r = nI (u 0) ∧ (u 0 ≤ 1 ∧ bq9 (u 0) (bfr ck cm j1 j2))) (xb D (va_A [(m0, .inr (11, [.int s_thrown, .int s_taped, .ref m1, .int s_size, .int s_outSize, .ref m2, .int s_kind, .int s_value, .int s_begin, .int s_end, .int s_failed, .ref m3, .ref m4, .ref m5, .int s_isProgram, .int s_half, .ref m6, .ref m7, .ref m8, .ref m9, .ref m10, .ref m11, .ref m12, .ref m13, .ref m14, .ref m15, .ref m16, .ref m17, .ref m18, .ref m19, .ref m20, .int s_signs, .ref m21, .int s_stacked, .ref m22, .int s_name, .int s_shift, .int s_statements, .int s_ifs, .int s_whiles, .int s_variants, .int s_open, .ref m23, .int s_isMade, .int s_conditions, .ref m24, .ref m25, .ref m26, .ref m27, .int s_kept, .ref m28, .int s_tops, .ref m29, .int s_used, .ref m30, .ref m31, .int s_looked, .int s_rows, .int s_firstRow, .ref m32, .ref m33, .ref m34, .ref m35, .ref m36, .ref m37, .ref m38, .ref m39, .ref m40, .int s_isBroken, .ref m41, .int s_atoms, .ref m42])), (m24, .inl (ax 0, 64, .inl (fun j => nI (ck j)))), (m25, .inl (ax 0, 64, .inl (fun j => nI (cm j))))] sz) (fun u => [(m0, .inr (11, [.int s_thrown, .int s_taped, .ref m1, .int s_size, .int s_outSize, .ref m2, .int s_kind, .int s_value, .int s_begin, .int s_end, .int s_failed, .ref m3, .ref m4, .ref m5, .int s_isProgram, .int s_half, .ref m6, .ref m7, .ref m8, .ref m9, .ref m10, .ref m11, .ref m12, .ref m13, .ref m14, .ref m15, .ref m16, .ref m17, .ref m18, .ref m19, .ref m20, .int s_signs, .ref m21, .int s_stacked, .ref m22, .int s_name, .int s_shift, .int s_statements, .int s_ifs, .int s_whiles, .int s_variants, .int s_open, .ref m23, .int s_isMade, .int s_conditions, .ref m24, .ref m25, .ref m26, .ref m27, .int s_kept, .ref m28, .int s_tops, .ref m29, .int s_used, .ref m30, .ref m31, .int s_looked, .int s_rows, .int s_firstRow, .ref m32, .ref m33, .ref m34, .ref m35, .ref m36, .ref m37, .ref m38, .ref m39, .ref m40, .int s_isBroken, .ref m41, .int s_atoms, .ref m42])), (m24, .inl (ax 0, 64, .inl (fun j => nI (ck j)))), (m25, .inl (ax 0, 64, .inl (fun j => nI (cm j))))])) (va_A [(m0, .inr (11, [.int s_thrown, .int s_taped, .ref m1, .int s_size, .int s_outSize, .ref m2, .int s_kind, .int s_value, .int s_begin, .int s_end, .int s_failed, .ref m3, .ref m4, .ref m5, .int s_isProgram, .int s_half, .ref m6, .ref m7, .ref m8, .ref m9, .ref m10, .ref m11, .ref m12, .ref m13, .ref m14, .ref m15, .ref m16, .ref m17, .ref m18, .ref m19, .ref m20, .int s_signs, .ref m21, .int s_stacked, .ref m22, .int s_name, .int s_shift, .int s_statements, .int s_ifs, .int s_whiles, .int s_variants, .int s_open, .ref m23, .int s_isMade, .int s_conditions, .ref m24, .ref m25, .ref m26, .ref m27, .int s_kept, .ref m28, .int s_tops, .ref m29, .int s_used, .ref m30, .ref m31, .int s_looked, .int s_rows, .int s_firstRow, .ref m32, .ref m33, .ref m34, .ref m35, .ref m36, .ref m37, .ref m38, .ref m39, .ref m40, .int s_isBroken, .ref m41, .int s_atoms, .ref m42])), (m24, .inl (ax 0, 64, .inl (fun j => nI (ck j)))), (m25, .inl (ax 0, 64, .inl (fun j => nI (cm j))))] sz))) 0 0 (va_A [(m0, .inr (11, [.int s_thrown, .int s_taped, .ref m1, .int s_size, .int s_outSize, .ref m2, .int s_kind, .int s_value, .int s_begin, .int s_end, .int s_failed, .ref m3, .ref m4, .ref m5, .int s_isProgram, .int s_half, .ref m6, .ref m7, .ref m8, .ref m9, .ref m10, .ref m11, .ref m12, .ref m13, .ref m14, .ref m15, .ref m16, .ref m17, .ref m18, .ref m19, .ref m20, .int s_signs, .ref m21, .int s_stacked, .ref m22, .int s_name, .int s_shift, .int s_statements, .int s_ifs, .int s_whiles, .int s_variants, .int s_open, .ref m23, .int s_isMade, .int s_conditions, .ref m24, .ref m25, .ref m26, .ref m27, .int s_kept, .ref m28, .int s_tops, .ref m29, .int s_used, .ref m30, .ref m31, .int s_looked, .int s_rows, .int s_firstRow, .ref m32, .ref m33, .ref m34, .ref m35, .ref m36, .ref m37, .ref m38, .ref m39, .ref m40, .int s_isBroken, .ref m41, .int s_atoms, .ref m42])), (m24, .inl (ax 0, 64, .inl (fun j => nI (ck j)))), (m25, .inl (ax 0, 64, .inl (fun j => nI (cm j))))] sz) := by
  refine Met.ofW (cc := b_Model_isBefore) (maxL := 3) (ret := (some .boolean)) (by decide) rfl ?_
  intro p e s m args below meth c s₁ B hml hv
  obtain ⟨rfl, hsz, hP, hK, hD0⟩ := hv
  have hx := B.exec
  have hb := B.bytes
  have hr := B.returns
  have hts := xw_hts B.pre
  have hown : s.vm.findClass R_Model = some m.cls := findClass_of_methodNamed B.named
  have hlocks := B.notSynchronized
  subst hsz
  have hD := hD0.self (sz := s.heap.size)
  have hN := xz_entry hP
  generalize hAe : va_A [(m0, .inr (11, [.int s_thrown, .int s_taped, .ref m1, .int s_size, .int s_outSize, .ref m2, .int s_kind, .int s_value, .int s_begin, .int s_end, .int s_failed, .ref m3, .ref m4, .ref m5, .int s_isProgram, .int s_half, .ref m6, .ref m7, .ref m8, .ref m9, .ref m10, .ref m11, .ref m12, .ref m13, .ref m14, .ref m15, .ref m16, .ref m17, .ref m18, .ref m19, .ref m20, .int s_signs, .ref m21, .int s_stacked, .ref m22, .int s_name, .int s_shift, .int s_statements, .int s_ifs, .int s_whiles, .int s_variants, .int s_open, .ref m23, .int s_isMade, .int s_conditions, .ref m24, .ref m25, .ref m26, .ref m27, .int s_kept, .ref m28, .int s_tops, .ref m29, .int s_used, .ref m30, .ref m31, .int s_looked, .int s_rows, .int s_firstRow, .ref m32, .ref m33, .ref m34, .ref m35, .ref m36, .ref m37, .ref m38, .ref m39, .ref m40, .int s_isBroken, .ref m41, .int s_atoms, .ref m42])), (m24, .inl (ax 0, 64, .inl (fun j => nI (ck j)))), (m25, .inl (ax 0, 64, .inl (fun j => nI (cm j))))] s.heap.size = A at hD hN ⊢
  have hA : ∀ q : Nat, s.heap.size ≤ q → A q := fun q h => by rw [← hAe]; exact Or.inr h
  have hS : va_S A s.heap s.heap [] := va_S.rf
  have hl0 := lv_entry ([.ref m0, .int (nI j1), .int (nI j2)]) (n := 3) (Nat.le_of_ble_eq_true rfl)
  rw [lg_entry_eq]
  generalize (lg_sl ([.ref m0, .int (nI j1), .int (nI j2)]) ++ List.replicate (3 - (lg_sl ([.ref m0, .int (nI j1), .int (nI j2)])).length) Slot.unset).toArray = ls at hl0 ⊢
  have hl1 : lv_has ls 3 [(0, .ref m0), (1, .int (nI j1)), (2, .int (nI j2))] := hl0
  refine xw_gen (fun Z9 hQe => ?_)
  refine lv_aload_n hx hb d_Model_isBefore_0 rfl (lv_at hl1 0 rfl) ?_
  refine va_get (D := D) (ci := 11) (v := .ref m25) (C := R_Model) (T := F_Model) (N := 72) hx hb hts i_Model hown hK.1 hP 0 rfl rfl 46 (by decide) (hts _ wd_1082) (fun _ h9 => h9) rfl d_Model_isBefore_1 ?_
  refine lv_iload_n hx hb d_Model_isBefore_4 rfl (lv_at hl1 1 rfl) ?_
  refine va_iald hx hb hK.1 hP 2 0 rfl rfl (vp_in_nI (by first | assumption | omega) (by decide)) d_Model_isBefore_5 ?_
  refine W.eq (g2 := F0 m 6 ls [.int (nI (cm j1))]) (by rw [nI_clamp (by first | exact Nat.lt_of_lt_of_le (by assumption) (by decide) | exact Nat.lt_of_le_of_lt (by assumption) (by decide) | omega)]) ?_
  refine lv_aload_n hx hb d_Model_isBefore_6 rfl (lv_at hl1 0 rfl) ?_
  refine va_get (D := D) (ci := 11) (v := .ref m25) (C := R_Model) (T := F_Model) (N := 72) hx hb hts i_Model hown hK.1 hP 0 rfl rfl 46 (by decide) (hts _ wd_1082) (fun _ h9 => h9) rfl d_Model_isBefore_7 ?_
  refine lv_iload_n hx hb d_Model_isBefore_10 rfl (lv_at hl1 2 rfl) ?_
  refine va_iald hx hb hK.1 hP 2 0 rfl rfl (vp_in_nI (by first | assumption | omega) (by decide)) d_Model_isBefore_11 ?_
  refine W.eq (g2 := F0 m 12 ls [.int (nI (cm j2)), .int (nI (cm j1))]) (by rw [nI_clamp (by first | exact Nat.lt_of_lt_of_le (by assumption) (by decide) | exact Nat.lt_of_le_of_lt (by assumption) (by decide) | omega)]) ?_
  refine lv_icmp_eq (tgt := 38) hx hb d_Model_isBefore_12 (by decide) (fun c_1 => ?_) (fun c_1 => ?_)
  · replace c_1 : cm j1 = cm j2 := (nI_eq (a := cm j1) (b := cm j2) (by first | exact Nat.lt_of_lt_of_le (by assumption) (by decide) | exact Nat.lt_of_le_of_lt (by assumption) (by decide) | omega) (by first | exact Nat.lt_of_lt_of_le (by assumption) (by decide) | exact Nat.lt_of_le_of_lt (by assumption) (by decide) | omega)).mp c_1
    refine lv_aload_n hx hb d_Model_isBefore_38 rfl (lv_at hl1 0 rfl) ?_
    refine va_get (D := D) (ci := 11) (v := .ref m24) (C := R_Model) (T := F_Model) (N := 72) hx hb hts i_Model hown hK.1 hP 0 rfl rfl 45 (by decide) (hts _ wd_1081) (fun _ h9 => h9) rfl d_Model_isBefore_39 ?_
    refine lv_iload_n hx hb d_Model_isBefore_42 rfl (lv_at hl1 1 rfl) ?_
    refine va_iald hx hb hK.1 hP 1 0 rfl rfl (vp_in_nI (by first | assumption | omega) (by decide)) d_Model_isBefore_43 ?_
    refine W.eq (g2 := F0 m 44 ls [.int (nI (ck j1))]) (by rw [nI_clamp (by first | exact Nat.lt_of_lt_of_le (by assumption) (by decide) | exact Nat.lt_of_le_of_lt (by assumption) (by decide) | omega)]) ?_
    refine lv_aload_n hx hb d_Model_isBefore_44 rfl (lv_at hl1 0 rfl) ?_
    refine va_get (D := D) (ci := 11) (v := .ref m24) (C := R_Model) (T := F_Model) (N := 72) hx hb hts i_Model hown hK.1 hP 0 rfl rfl 45 (by decide) (hts _ wd_1081) (fun _ h9 => h9) rfl d_Model_isBefore_45 ?_
    refine lv_iload_n hx hb d_Model_isBefore_48 rfl (lv_at hl1 2 rfl) ?_
    refine va_iald hx hb hK.1 hP 1 0 rfl rfl (vp_in_nI (by first | assumption | omega) (by decide)) d_Model_isBefore_49 ?_
    refine W.eq (g2 := F0 m 50 ls [.int (nI (ck j2)), .int (nI (ck j1))]) (by rw [nI_clamp (by first | exact Nat.lt_of_lt_of_le (by assumption) (by decide) | exact Nat.lt_of_le_of_lt (by assumption) (by decide) | omega)]) ?_
    refine lv_icmp_ge (tgt := 57) hx hb d_Model_isBefore_50 (by decide) (fun c_2 => ?_) (fun c_2 => ?_)
    · replace c_2 : ck j2 ≤ ck j1 := (nI_leI (a := ck j2) (b := ck j1) (by first | exact Nat.lt_of_lt_of_le (by assumption) (by decide) | exact Nat.lt_of_le_of_lt (by assumption) (by decide) | omega) (by first | exact Nat.lt_of_lt_of_le (by assumption) (by decide) | exact Nat.lt_of_le_of_lt (by assumption) (by decide) | omega)).mp c_2
      refine lv_iconst (v := 0) hx hb d_Model_isBefore_57 (by decide) ?_
      rw [← hQe]
      obtain ⟨hP9, hD9⟩ := xw_sub2 (wc := (fun u : Nat → Nat => [(m0, .inr (11, [.int s_thrown, .int s_taped, .ref m1, .int s_size, .int s_outSize, .ref m2, .int s_kind, .int s_value, .int s_begin, .int s_end, .int s_failed, .ref m3, .ref m4, .ref m5, .int s_isProgram, .int s_half, .ref m6, .ref m7, .ref m8, .ref m9, .ref m10, .ref m11, .ref m12, .ref m13, .ref m14, .ref m15, .ref m16, .ref m17, .ref m18, .ref m19, .ref m20, .int s_signs, .ref m21, .int s_stacked, .ref m22, .int s_name, .int s_shift, .int s_statements, .int s_ifs, .int s_whiles, .int s_variants, .int s_open, .ref m23, .int s_isMade, .int s_conditions, .ref m24, .ref m25, .ref m26, .ref m27, .int s_kept, .ref m28, .int s_tops, .ref m29, .int s_used, .ref m30, .ref m31, .int s_looked, .int s_rows, .int s_firstRow, .ref m32, .ref m33, .ref m34, .ref m35, .ref m36, .ref m37, .ref m38, .ref m39, .ref m40, .int s_isBroken, .ref m41, .int s_atoms, .ref m42])), (m24, .inl (ax 0, 64, .inl (fun j => nI (ck j)))), (m25, .inl (ax 0, 64, .inl (fun j => nI (cm j))))]) (ixn [0])) hP hD [0, 1, 2] (by decide) rfl
      have hsp0 : 0 ≤ 1 := (by first | assumption | omega)
      have hsp1 : bq9 (0) (bfr ck cm j1 j2) := (by unfold bq9 bfr; omega)
      exact W.zret (v := 0) hx hb hr rfl (fun t ht hW => ⟨⟨0, ixn [0], rfl, ⟨rfl, ⟨hsp0, hsp1⟩⟩, ⟨by rw [ht]; exact hP9, hD9⟩⟩, hS.F ht⟩) hS.2.2 d_Model_isBefore_58
    · replace c_2 : ¬ ck j2 ≤ ck j1 := fun hq9 => c_2 ((nI_leI (a := ck j2) (b := ck j1) (by first | exact Nat.lt_of_lt_of_le (by assumption) (by decide) | exact Nat.lt_of_le_of_lt (by assumption) (by decide) | omega) (by first | exact Nat.lt_of_lt_of_le (by assumption) (by decide) | exact Nat.lt_of_le_of_lt (by assumption) (by decide) | omega)).mpr hq9)
      refine lv_iconst (v := 1) hx hb d_Model_isBefore_53 (by decide) ?_
      refine lv_goto (tgt := 58) hx hb d_Model_isBefore_54 (by decide) ?_
      rw [← hQe]
      obtain ⟨hP9, hD9⟩ := xw_sub2 (wc := (fun u : Nat → Nat => [(m0, .inr (11, [.int s_thrown, .int s_taped, .ref m1, .int s_size, .int s_outSize, .ref m2, .int s_kind, .int s_value, .int s_begin, .int s_end, .int s_failed, .ref m3, .ref m4, .ref m5, .int s_isProgram, .int s_half, .ref m6, .ref m7, .ref m8, .ref m9, .ref m10, .ref m11, .ref m12, .ref m13, .ref m14, .ref m15, .ref m16, .ref m17, .ref m18, .ref m19, .ref m20, .int s_signs, .ref m21, .int s_stacked, .ref m22, .int s_name, .int s_shift, .int s_statements, .int s_ifs, .int s_whiles, .int s_variants, .int s_open, .ref m23, .int s_isMade, .int s_conditions, .ref m24, .ref m25, .ref m26, .ref m27, .int s_kept, .ref m28, .int s_tops, .ref m29, .int s_used, .ref m30, .ref m31, .int s_looked, .int s_rows, .int s_firstRow, .ref m32, .ref m33, .ref m34, .ref m35, .ref m36, .ref m37, .ref m38, .ref m39, .ref m40, .int s_isBroken, .ref m41, .int s_atoms, .ref m42])), (m24, .inl (ax 0, 64, .inl (fun j => nI (ck j)))), (m25, .inl (ax 0, 64, .inl (fun j => nI (cm j))))]) (ixn [1])) hP hD [0, 1, 2] (by decide) rfl
      have hsp0 : 1 ≤ 1 := (by first | assumption | omega)
      have hsp1 : bq9 (1) (bfr ck cm j1 j2) := (by unfold bq9 bfr; omega)
      exact W.zret (v := 1) hx hb hr rfl (fun t ht hW => ⟨⟨1, ixn [1], rfl, ⟨rfl, ⟨hsp0, hsp1⟩⟩, ⟨by rw [ht]; exact hP9, hD9⟩⟩, hS.F ht⟩) hS.2.2 d_Model_isBefore_58
  · replace c_1 : ¬ cm j1 = cm j2 := fun hq9 => c_1 ((nI_eq (a := cm j1) (b := cm j2) (by first | exact Nat.lt_of_lt_of_le (by assumption) (by decide) | exact Nat.lt_of_le_of_lt (by assumption) (by decide) | omega) (by first | exact Nat.lt_of_lt_of_le (by assumption) (by decide) | exact Nat.lt_of_le_of_lt (by assumption) (by decide) | omega)).mpr hq9)
    refine lv_aload_n hx hb d_Model_isBefore_15 rfl (lv_at hl1 0 rfl) ?_
    refine va_get (D := D) (ci := 11) (v := .ref m25) (C := R_Model) (T := F_Model) (N := 72) hx hb hts i_Model hown hK.1 hP 0 rfl rfl 46 (by decide) (hts _ wd_1082) (fun _ h9 => h9) rfl d_Model_isBefore_16 ?_
    refine lv_iload_n hx hb d_Model_isBefore_19 rfl (lv_at hl1 1 rfl) ?_
    refine va_iald hx hb hK.1 hP 2 0 rfl rfl (vp_in_nI (by first | assumption | omega) (by decide)) d_Model_isBefore_20 ?_
    refine W.eq (g2 := F0 m 21 ls [.int (nI (cm j1))]) (by rw [nI_clamp (by first | exact Nat.lt_of_lt_of_le (by assumption) (by decide) | exact Nat.lt_of_le_of_lt (by assumption) (by decide) | omega)]) ?_
    refine lv_aload_n hx hb d_Model_isBefore_21 rfl (lv_at hl1 0 rfl) ?_
    refine va_get (D := D) (ci := 11) (v := .ref m25) (C := R_Model) (T := F_Model) (N := 72) hx hb hts i_Model hown hK.1 hP 0 rfl rfl 46 (by decide) (hts _ wd_1082) (fun _ h9 => h9) rfl d_Model_isBefore_22 ?_
    refine lv_iload_n hx hb d_Model_isBefore_25 rfl (lv_at hl1 2 rfl) ?_
    refine va_iald hx hb hK.1 hP 2 0 rfl rfl (vp_in_nI (by first | assumption | omega) (by decide)) d_Model_isBefore_26 ?_
    refine W.eq (g2 := F0 m 27 ls [.int (nI (cm j2)), .int (nI (cm j1))]) (by rw [nI_clamp (by first | exact Nat.lt_of_lt_of_le (by assumption) (by decide) | exact Nat.lt_of_le_of_lt (by assumption) (by decide) | omega)]) ?_
    refine lv_icmp_ge (tgt := 34) hx hb d_Model_isBefore_27 (by decide) (fun c_3 => ?_) (fun c_3 => ?_)
    · replace c_3 : cm j2 ≤ cm j1 := (nI_leI (a := cm j2) (b := cm j1) (by first | exact Nat.lt_of_lt_of_le (by assumption) (by decide) | exact Nat.lt_of_le_of_lt (by assumption) (by decide) | omega) (by first | exact Nat.lt_of_lt_of_le (by assumption) (by decide) | exact Nat.lt_of_le_of_lt (by assumption) (by decide) | omega)).mp c_3
      refine lv_iconst (v := 0) hx hb d_Model_isBefore_34 (by decide) ?_
      refine lv_goto (tgt := 58) hx hb d_Model_isBefore_35 (by decide) ?_
      rw [← hQe]
      obtain ⟨hP9, hD9⟩ := xw_sub2 (wc := (fun u : Nat → Nat => [(m0, .inr (11, [.int s_thrown, .int s_taped, .ref m1, .int s_size, .int s_outSize, .ref m2, .int s_kind, .int s_value, .int s_begin, .int s_end, .int s_failed, .ref m3, .ref m4, .ref m5, .int s_isProgram, .int s_half, .ref m6, .ref m7, .ref m8, .ref m9, .ref m10, .ref m11, .ref m12, .ref m13, .ref m14, .ref m15, .ref m16, .ref m17, .ref m18, .ref m19, .ref m20, .int s_signs, .ref m21, .int s_stacked, .ref m22, .int s_name, .int s_shift, .int s_statements, .int s_ifs, .int s_whiles, .int s_variants, .int s_open, .ref m23, .int s_isMade, .int s_conditions, .ref m24, .ref m25, .ref m26, .ref m27, .int s_kept, .ref m28, .int s_tops, .ref m29, .int s_used, .ref m30, .ref m31, .int s_looked, .int s_rows, .int s_firstRow, .ref m32, .ref m33, .ref m34, .ref m35, .ref m36, .ref m37, .ref m38, .ref m39, .ref m40, .int s_isBroken, .ref m41, .int s_atoms, .ref m42])), (m24, .inl (ax 0, 64, .inl (fun j => nI (ck j)))), (m25, .inl (ax 0, 64, .inl (fun j => nI (cm j))))]) (ixn [0])) hP hD [0, 1, 2] (by decide) rfl
      have hsp0 : 0 ≤ 1 := (by first | assumption | omega)
      have hsp1 : bq9 (0) (bfr ck cm j1 j2) := (by unfold bq9 bfr; omega)
      exact W.zret (v := 0) hx hb hr rfl (fun t ht hW => ⟨⟨0, ixn [0], rfl, ⟨rfl, ⟨hsp0, hsp1⟩⟩, ⟨by rw [ht]; exact hP9, hD9⟩⟩, hS.F ht⟩) hS.2.2 d_Model_isBefore_58
    · replace c_3 : ¬ cm j2 ≤ cm j1 := fun hq9 => c_3 ((nI_leI (a := cm j2) (b := cm j1) (by first | exact Nat.lt_of_lt_of_le (by assumption) (by decide) | exact Nat.lt_of_le_of_lt (by assumption) (by decide) | omega) (by first | exact Nat.lt_of_lt_of_le (by assumption) (by decide) | exact Nat.lt_of_le_of_lt (by assumption) (by decide) | omega)).mpr hq9)
      refine lv_iconst (v := 1) hx hb d_Model_isBefore_30 (by decide) ?_
      refine lv_goto (tgt := 58) hx hb d_Model_isBefore_31 (by decide) ?_
      rw [← hQe]
      obtain ⟨hP9, hD9⟩ := xw_sub2 (wc := (fun u : Nat → Nat => [(m0, .inr (11, [.int s_thrown, .int s_taped, .ref m1, .int s_size, .int s_outSize, .ref m2, .int s_kind, .int s_value, .int s_begin, .int s_end, .int s_failed, .ref m3, .ref m4, .ref m5, .int s_isProgram, .int s_half, .ref m6, .ref m7, .ref m8, .ref m9, .ref m10, .ref m11, .ref m12, .ref m13, .ref m14, .ref m15, .ref m16, .ref m17, .ref m18, .ref m19, .ref m20, .int s_signs, .ref m21, .int s_stacked, .ref m22, .int s_name, .int s_shift, .int s_statements, .int s_ifs, .int s_whiles, .int s_variants, .int s_open, .ref m23, .int s_isMade, .int s_conditions, .ref m24, .ref m25, .ref m26, .ref m27, .int s_kept, .ref m28, .int s_tops, .ref m29, .int s_used, .ref m30, .ref m31, .int s_looked, .int s_rows, .int s_firstRow, .ref m32, .ref m33, .ref m34, .ref m35, .ref m36, .ref m37, .ref m38, .ref m39, .ref m40, .int s_isBroken, .ref m41, .int s_atoms, .ref m42])), (m24, .inl (ax 0, 64, .inl (fun j => nI (ck j)))), (m25, .inl (ax 0, 64, .inl (fun j => nI (cm j))))]) (ixn [1])) hP hD [0, 1, 2] (by decide) rfl
      have hsp0 : 1 ≤ 1 := (by first | assumption | omega)
      have hsp1 : bq9 (1) (bfr ck cm j1 j2) := (by unfold bq9 bfr; omega)
      exact W.zret (v := 1) hx hb hr rfl (fun t ht hW => ⟨⟨1, ixn [1], rfl, ⟨rfl, ⟨hsp0, hsp1⟩⟩, ⟨by rw [ht]; exact hP9, hD9⟩⟩, hS.F ht⟩) hS.2.2 d_Model_isBefore_58
abbrev b_Model_sort : ByteArray := prog_13_method_57_code
def y_Model_sort : MethodName := ⟨R_Model, "sort", "()V"⟩
theorem d_Model_sort_0 : decode b_Model_sort 0 = .ok (.iconst 1, 1) := by decide +kernel
theorem d_Model_sort_1 : decode b_Model_sort 1 = .ok (.istore_n 1, 1) := by decide +kernel
theorem d_Model_sort_2 : decode b_Model_sort 2 = .ok (.iload_n 1, 1) := by decide +kernel
theorem d_Model_sort_3 : decode b_Model_sort 3 = .ok (.aload_n 0, 1) := by decide +kernel
theorem d_Model_sort_4 : decode b_Model_sort 4 = .ok (.getfield 346, 3) := by decide +kernel
theorem d_Model_sort_7 : decode b_Model_sort 7 = .ok (.if_icmp .ge 64, 3) := by decide +kernel
theorem d_Model_sort_10 : decode b_Model_sort 10 = .ok (.iload_n 1, 1) := by decide +kernel
theorem d_Model_sort_11 : decode b_Model_sort 11 = .ok (.istore_n 2, 1) := by decide +kernel
theorem d_Model_sort_12 : decode b_Model_sort 12 = .ok (.iload_n 2, 1) := by decide +kernel
theorem d_Model_sort_13 : decode b_Model_sort 13 = .ok (.ifCond .le 52, 3) := by decide +kernel
theorem d_Model_sort_16 : decode b_Model_sort 16 = .ok (.aload_n 0, 1) := by decide +kernel
theorem d_Model_sort_17 : decode b_Model_sort 17 = .ok (.iload_n 2, 1) := by decide +kernel
theorem d_Model_sort_18 : decode b_Model_sort 18 = .ok (.iload_n 2, 1) := by decide +kernel
theorem d_Model_sort_19 : decode b_Model_sort 19 = .ok (.iconst 1, 1) := by decide +kernel
theorem d_Model_sort_20 : decode b_Model_sort 20 = .ok (.isub, 1) := by decide +kernel
theorem d_Model_sort_21 : decode b_Model_sort 21 = .ok (.invokevirtual 382, 3) := by decide +kernel
theorem d_Model_sort_24 : decode b_Model_sort 24 = .ok (.ifCond .eq 41, 3) := by decide +kernel
theorem d_Model_sort_27 : decode b_Model_sort 27 = .ok (.aload_n 0, 1) := by decide +kernel
theorem d_Model_sort_28 : decode b_Model_sort 28 = .ok (.getfield 81, 3) := by decide +kernel
theorem d_Model_sort_31 : decode b_Model_sort 31 = .ok (.iload_n 2, 1) := by decide +kernel
theorem d_Model_sort_32 : decode b_Model_sort 32 = .ok (.invokestatic 386, 3) := by decide +kernel
theorem d_Model_sort_35 : decode b_Model_sort 35 = .ok (.aload_n 0, 1) := by decide +kernel
theorem d_Model_sort_36 : decode b_Model_sort 36 = .ok (.getfield 84, 3) := by decide +kernel
theorem d_Model_sort_39 : decode b_Model_sort 39 = .ok (.iload_n 2, 1) := by decide +kernel
theorem d_Model_sort_40 : decode b_Model_sort 40 = .ok (.invokestatic 386, 3) := by decide +kernel
theorem d_Model_sort_43 : decode b_Model_sort 43 = .ok (.aload_n 0, 1) := by decide +kernel
theorem d_Model_sort_44 : decode b_Model_sort 44 = .ok (.getfield 87, 3) := by decide +kernel
theorem d_Model_sort_47 : decode b_Model_sort 47 = .ok (.iload_n 2, 1) := by decide +kernel
theorem d_Model_sort_48 : decode b_Model_sort 48 = .ok (.invokestatic 386, 3) := by decide +kernel
theorem d_Model_sort_51 : decode b_Model_sort 51 = .ok (.aload_n 0, 1) := by decide +kernel
theorem d_Model_sort_52 : decode b_Model_sort 52 = .ok (.getfield 90, 3) := by decide +kernel
theorem d_Model_sort_55 : decode b_Model_sort 55 = .ok (.iload_n 2, 1) := by decide +kernel
theorem d_Model_sort_56 : decode b_Model_sort 56 = .ok (.invokestatic 386, 3) := by decide +kernel
theorem d_Model_sort_59 : decode b_Model_sort 59 = .ok (.iinc 2 (-1), 3) := by decide +kernel
theorem d_Model_sort_62 : decode b_Model_sort 62 = .ok (.goto (-50), 3) := by decide +kernel
theorem d_Model_sort_65 : decode b_Model_sort 65 = .ok (.iinc 1 1, 3) := by decide +kernel
theorem d_Model_sort_68 : decode b_Model_sort 68 = .ok (.goto (-66), 3) := by decide +kernel
theorem d_Model_sort_71 : decode b_Model_sort 71 = .ok (.return_, 1) := by decide +kernel
set_option maxHeartbeats 40000000 in
set_option maxRecDepth 100000 in
theorem c_M_sort (l : Launch) (D : va_G) (ax : Nat → ClassId) (m0 m1 m2 m3 m4 m5 m6 m7 m8 m9 m10 m11 m12 m13 m14 m15 m16 m17 m18 m19 m20 m21 m22 m23 m24 m25 m26 m27 m28 m29 m30 m31 m32 m33 m34 m35 m36 m37 m38 m39 m40 m41 m42 : Nat) (s_thrown s_taped s_size s_outSize s_kind s_value s_begin s_end s_failed s_isProgram s_half s_signs s_stacked s_name s_shift s_statements s_ifs s_whiles s_variants s_open s_isMade s_kept s_tops s_used s_looked s_rows s_firstRow s_isBroken s_atoms : Int32) (cn kt Z : Nat) (ck cm ca cz : Nat → Nat) (kp : Nat → Int32) (sz : Nat) (hcn : cn ≤ 64) (hcs : cds kp ca cz cn kt Z) (hbd : cbd ck cm cn) : Met l y_Model_sort (xws (.code y_Model_sort b_Model_sort 3 none)) ({ frames := 20, cells := 0, slots := 0, locals := 800 }) (va_Pc [.ref m0] (xo D ax [(m0, .inr (11, [.int s_thrown, .int s_taped, .ref m1, .int s_size, .int s_outSize, .ref m2, .int s_kind, .int s_value, .int s_begin, .int s_end, .int s_failed, .ref m3, .ref m4, .ref m5, .int s_isProgram, .int s_half, .ref m6, .ref m7, .ref m8, .ref m9, .ref m10, .ref m11, .ref m12, .ref m13, .ref m14, .ref m15, .ref m16, .ref m17, .ref m18, .ref m19, .ref m20, .int s_signs, .ref m21, .int s_stacked, .ref m22, .int s_name, .int s_shift, .int s_statements, .int s_ifs, .int s_whiles, .int s_variants, .int s_open, .ref m23, .int s_isMade, .int (nI cn), .ref m24, .ref m25, .ref m26, .ref m27, .int s_kept, .ref m28, .int s_tops, .ref m29, .int s_used, .ref m30, .ref m31, .int s_looked, .int s_rows, .int s_firstRow, .ref m32, .ref m33, .ref m34, .ref m35, .ref m36, .ref m37, .ref m38, .ref m39, .ref m40, .int s_isBroken, .ref m41, .int s_atoms, .ref m42])), (m24, .inl (ax 0, 64, .inl (fun j => nI (ck j)))), (m25, .inl (ax 0, 64, .inl (fun j => nI (cm j)))), (m26, .inl (ax 0, 64, .inl (fun j => nI (ca j)))), (m27, .inl (ax 0, 64, .inl (fun j => nI (cz j))))] sz)) ((va_Qv (fun (u : Nat → Nat) => True) (fun (u : Nat → Nat) (t9 : State) => ∃ xck : Nat → Nat, ∃ xcm : Nat → Nat, ∃ xca : Nat → Nat, ∃ xcz : Nat → Nat, (cds kp xca xcz cn kt Z) ∧ (sod xck xcm cn) ∧ ((cdl xck xcm xca xcz kp cn).Perm (cdl ck cm ca cz kp cn)) ∧ va_P D classes [(m0, .inr (11, [.int s_thrown, .int s_taped, .ref m1, .int s_size, .int s_outSize, .ref m2, .int s_kind, .int s_value, .int s_begin, .int s_end, .int s_failed, .ref m3, .ref m4, .ref m5, .int s_isProgram, .int s_half, .ref m6, .ref m7, .ref m8, .ref m9, .ref m10, .ref m11, .ref m12, .ref m13, .ref m14, .ref m15, .ref m16, .ref m17, .ref m18, .ref m19, .ref m20, .int s_signs, .ref m21, .int s_stacked, .ref m22, .int s_name, .int s_shift, .int s_statements, .int s_ifs, .int s_whiles, .int s_variants, .int s_open, .ref m23, .int s_isMade, .int (nI cn), .ref m24, .ref m25, .ref m26, .ref m27, .int s_kept, .ref m28, .int s_tops, .ref m29, .int s_used, .ref m30, .ref m31, .int s_looked, .int s_rows, .int s_firstRow, .ref m32, .ref m33, .ref m34, .ref m35, .ref m36, .ref m37, .ref m38, .ref m39, .ref m40, .int s_isBroken, .ref m41, .int s_atoms, .ref m42])), (m24, .inl (ax 0, 64, .inl (fun j => nI (xck j)))), (m25, .inl (ax 0, 64, .inl (fun j => nI (xcm j)))), (m26, .inl (ax 0, 64, .inl (fun j => nI (xca j)))), (m27, .inl (ax 0, 64, .inl (fun j => nI (xcz j))))] t9.heap ∧ va_D (va_A [(m0, .inr (11, [.int s_thrown, .int s_taped, .ref m1, .int s_size, .int s_outSize, .ref m2, .int s_kind, .int s_value, .int s_begin, .int s_end, .int s_failed, .ref m3, .ref m4, .ref m5, .int s_isProgram, .int s_half, .ref m6, .ref m7, .ref m8, .ref m9, .ref m10, .ref m11, .ref m12, .ref m13, .ref m14, .ref m15, .ref m16, .ref m17, .ref m18, .ref m19, .ref m20, .int s_signs, .ref m21, .int s_stacked, .ref m22, .int s_name, .int s_shift, .int s_statements, .int s_ifs, .int s_whiles, .int s_variants, .int s_open, .ref m23, .int s_isMade, .int (nI cn), .ref m24, .ref m25, .ref m26, .ref m27, .int s_kept, .ref m28, .int s_tops, .ref m29, .int s_used, .ref m30, .ref m31, .int s_looked, .int s_rows, .int s_firstRow, .ref m32, .ref m33, .ref m34, .ref m35, .ref m36, .ref m37, .ref m38, .ref m39, .ref m40, .int s_isBroken, .ref m41, .int s_atoms, .ref m42])), (m24, .inl (ax 0, 64, .inl (fun j => nI (ck j)))), (m25, .inl (ax 0, 64, .inl (fun j => nI (cm j)))), (m26, .inl (ax 0, 64, .inl (fun j => nI (ca j)))), (m27, .inl (ax 0, 64, .inl (fun j => nI (cz j))))] sz) [(m0, .inr (11, [.int s_thrown, .int s_taped, .ref m1, .int s_size, .int s_outSize, .ref m2, .int s_kind, .int s_value, .int s_begin, .int s_end, .int s_failed, .ref m3, .ref m4, .ref m5, .int s_isProgram, .int s_half, .ref m6, .ref m7, .ref m8, .ref m9, .ref m10, .ref m11, .ref m12, .ref m13, .ref m14, .ref m15, .ref m16, .ref m17, .ref m18, .ref m19, .ref m20, .int s_signs, .ref m21, .int s_stacked, .ref m22, .int s_name, .int s_shift, .int s_statements, .int s_ifs, .int s_whiles, .int s_variants, .int s_open, .ref m23, .int s_isMade, .int (nI cn), .ref m24, .ref m25, .ref m26, .ref m27, .int s_kept, .ref m28, .int s_tops, .ref m29, .int s_used, .ref m30, .ref m31, .int s_looked, .int s_rows, .int s_firstRow, .ref m32, .ref m33, .ref m34, .ref m35, .ref m36, .ref m37, .ref m38, .ref m39, .ref m40, .int s_isBroken, .ref m41, .int s_atoms, .ref m42])), (m24, .inl (ax 0, 64, .inl (fun j => nI (xck j)))), (m25, .inl (ax 0, 64, .inl (fun j => nI (xcm j)))), (m26, .inl (ax 0, 64, .inl (fun j => nI (xca j)))), (m27, .inl (ax 0, 64, .inl (fun j => nI (xcz j))))]) (va_A [(m0, .inr (11, [.int s_thrown, .int s_taped, .ref m1, .int s_size, .int s_outSize, .ref m2, .int s_kind, .int s_value, .int s_begin, .int s_end, .int s_failed, .ref m3, .ref m4, .ref m5, .int s_isProgram, .int s_half, .ref m6, .ref m7, .ref m8, .ref m9, .ref m10, .ref m11, .ref m12, .ref m13, .ref m14, .ref m15, .ref m16, .ref m17, .ref m18, .ref m19, .ref m20, .int s_signs, .ref m21, .int s_stacked, .ref m22, .int s_name, .int s_shift, .int s_statements, .int s_ifs, .int s_whiles, .int s_variants, .int s_open, .ref m23, .int s_isMade, .int (nI cn), .ref m24, .ref m25, .ref m26, .ref m27, .int s_kept, .ref m28, .int s_tops, .ref m29, .int s_used, .ref m30, .ref m31, .int s_looked, .int s_rows, .int s_firstRow, .ref m32, .ref m33, .ref m34, .ref m35, .ref m36, .ref m37, .ref m38, .ref m39, .ref m40, .int s_isBroken, .ref m41, .int s_atoms, .ref m42])), (m24, .inl (ax 0, 64, .inl (fun j => nI (ck j)))), (m25, .inl (ax 0, 64, .inl (fun j => nI (cm j)))), (m26, .inl (ax 0, 64, .inl (fun j => nI (ca j)))), (m27, .inl (ax 0, 64, .inl (fun j => nI (cz j))))] sz))) 0 0 (va_A [(m0, .inr (11, [.int s_thrown, .int s_taped, .ref m1, .int s_size, .int s_outSize, .ref m2, .int s_kind, .int s_value, .int s_begin, .int s_end, .int s_failed, .ref m3, .ref m4, .ref m5, .int s_isProgram, .int s_half, .ref m6, .ref m7, .ref m8, .ref m9, .ref m10, .ref m11, .ref m12, .ref m13, .ref m14, .ref m15, .ref m16, .ref m17, .ref m18, .ref m19, .ref m20, .int s_signs, .ref m21, .int s_stacked, .ref m22, .int s_name, .int s_shift, .int s_statements, .int s_ifs, .int s_whiles, .int s_variants, .int s_open, .ref m23, .int s_isMade, .int (nI cn), .ref m24, .ref m25, .ref m26, .ref m27, .int s_kept, .ref m28, .int s_tops, .ref m29, .int s_used, .ref m30, .ref m31, .int s_looked, .int s_rows, .int s_firstRow, .ref m32, .ref m33, .ref m34, .ref m35, .ref m36, .ref m37, .ref m38, .ref m39, .ref m40, .int s_isBroken, .ref m41, .int s_atoms, .ref m42])), (m24, .inl (ax 0, 64, .inl (fun j => nI (ck j)))), (m25, .inl (ax 0, 64, .inl (fun j => nI (cm j)))), (m26, .inl (ax 0, 64, .inl (fun j => nI (ca j)))), (m27, .inl (ax 0, 64, .inl (fun j => nI (cz j))))] sz) := by
  refine Met.ofW (cc := b_Model_sort) (maxL := 3) (ret := none) (by decide) rfl ?_
  intro p e s m args below meth c s₁ B hml hv
  obtain ⟨rfl, hsz, hP, hK, hD0⟩ := hv
  have hx := B.exec
  have hb := B.bytes
  have hr := B.returns
  have hts := xw_hts B.pre
  have hown : s.vm.findClass R_Model = some m.cls := findClass_of_methodNamed B.named
  have hlocks := B.notSynchronized
  subst hsz
  have hD := hD0.self (sz := s.heap.size)
  have hN := xz_entry hP
  generalize hAe : va_A [(m0, .inr (11, [.int s_thrown, .int s_taped, .ref m1, .int s_size, .int s_outSize, .ref m2, .int s_kind, .int s_value, .int s_begin, .int s_end, .int s_failed, .ref m3, .ref m4, .ref m5, .int s_isProgram, .int s_half, .ref m6, .ref m7, .ref m8, .ref m9, .ref m10, .ref m11, .ref m12, .ref m13, .ref m14, .ref m15, .ref m16, .ref m17, .ref m18, .ref m19, .ref m20, .int s_signs, .ref m21, .int s_stacked, .ref m22, .int s_name, .int s_shift, .int s_statements, .int s_ifs, .int s_whiles, .int s_variants, .int s_open, .ref m23, .int s_isMade, .int (nI cn), .ref m24, .ref m25, .ref m26, .ref m27, .int s_kept, .ref m28, .int s_tops, .ref m29, .int s_used, .ref m30, .ref m31, .int s_looked, .int s_rows, .int s_firstRow, .ref m32, .ref m33, .ref m34, .ref m35, .ref m36, .ref m37, .ref m38, .ref m39, .ref m40, .int s_isBroken, .ref m41, .int s_atoms, .ref m42])), (m24, .inl (ax 0, 64, .inl (fun j => nI (ck j)))), (m25, .inl (ax 0, 64, .inl (fun j => nI (cm j)))), (m26, .inl (ax 0, 64, .inl (fun j => nI (ca j)))), (m27, .inl (ax 0, 64, .inl (fun j => nI (cz j))))] s.heap.size = A at hD hN ⊢
  have hA : ∀ q : Nat, s.heap.size ≤ q → A q := fun q h => by rw [← hAe]; exact Or.inr h
  have hS : va_S A s.heap s.heap [] := va_S.rf
  have hl0 := lv_entry ([.ref m0]) (n := 3) (Nat.le_of_ble_eq_true rfl)
  rw [lg_entry_eq]
  generalize (lg_sl ([.ref m0]) ++ List.replicate (3 - (lg_sl ([.ref m0])).length) Slot.unset).toArray = ls at hl0 ⊢
  have hl1 : lv_has ls 3 [(0, .ref m0)] := hl0
  refine xw_gen (fun Z9 hQe => ?_)
  refine lv_iconst (v := 1) hx hb d_Model_sort_0 (by decide) ?_
  refine lv_istore_n (lv' := [(1, .int 1), (0, .ref m0)]) hx hb d_Model_sort_1 rfl hl1 (by decide) rfl (fun ls hl2 => ?_)
  clear hl1; have hl1 := hl2; clear hl2
  suffices key_1 : ∀ (k : Nat) (k1 : Nat) (ck1 cm1 ca1 cz1 : Nat → Nat), cn - k1 < k → 1 ≤ k1 → k1 ≤ 65 → cds kp ca1 cz1 cn kt Z → sod ck1 cm1 k1 → (cdl ck1 cm1 ca1 cz1 kp cn).Perm (cdl ck cm ca cz kp cn) → cbd ck1 cm1 cn → ∀ (H : Heap) (locs : List Loc) (ls : Array Slot), va_P D classes [(m0, .inr (11, [.int s_thrown, .int s_taped, .ref m1, .int s_size, .int s_outSize, .ref m2, .int s_kind, .int s_value, .int s_begin, .int s_end, .int s_failed, .ref m3, .ref m4, .ref m5, .int s_isProgram, .int s_half, .ref m6, .ref m7, .ref m8, .ref m9, .ref m10, .ref m11, .ref m12, .ref m13, .ref m14, .ref m15, .ref m16, .ref m17, .ref m18, .ref m19, .ref m20, .int s_signs, .ref m21, .int s_stacked, .ref m22, .int s_name, .int s_shift, .int s_statements, .int s_ifs, .int s_whiles, .int s_variants, .int s_open, .ref m23, .int s_isMade, .int (nI cn), .ref m24, .ref m25, .ref m26, .ref m27, .int s_kept, .ref m28, .int s_tops, .ref m29, .int s_used, .ref m30, .ref m31, .int s_looked, .int s_rows, .int s_firstRow, .ref m32, .ref m33, .ref m34, .ref m35, .ref m36, .ref m37, .ref m38, .ref m39, .ref m40, .int s_isBroken, .ref m41, .int s_atoms, .ref m42])), (m24, .inl (ax 0, 64, .inl (fun j => nI (ck1 j)))), (m25, .inl (ax 0, 64, .inl (fun j => nI (cm1 j)))), (m26, .inl (ax 0, 64, .inl (fun j => nI (ca1 j)))), (m27, .inl (ax 0, 64, .inl (fun j => nI (cz1 j))))] H → va_D A [(m0, .inr (11, [.int s_thrown, .int s_taped, .ref m1, .int s_size, .int s_outSize, .ref m2, .int s_kind, .int s_value, .int s_begin, .int s_end, .int s_failed, .ref m3, .ref m4, .ref m5, .int s_isProgram, .int s_half, .ref m6, .ref m7, .ref m8, .ref m9, .ref m10, .ref m11, .ref m12, .ref m13, .ref m14, .ref m15, .ref m16, .ref m17, .ref m18, .ref m19, .ref m20, .int s_signs, .ref m21, .int s_stacked, .ref m22, .int s_name, .int s_shift, .int s_statements, .int s_ifs, .int s_whiles, .int s_variants, .int s_open, .ref m23, .int s_isMade, .int (nI cn), .ref m24, .ref m25, .ref m26, .ref m27, .int s_kept, .ref m28, .int s_tops, .ref m29, .int s_used, .ref m30, .ref m31, .int s_looked, .int s_rows, .int s_firstRow, .ref m32, .ref m33, .ref m34, .ref m35, .ref m36, .ref m37, .ref m38, .ref m39, .ref m40, .int s_isBroken, .ref m41, .int s_atoms, .ref m42])), (m24, .inl (ax 0, 64, .inl (fun j => nI (ck1 j)))), (m25, .inl (ax 0, 64, .inl (fun j => nI (cm1 j)))), (m26, .inl (ax 0, 64, .inl (fun j => nI (ca1 j)))), (m27, .inl (ax 0, 64, .inl (fun j => nI (cz1 j))))] → va_S A s.heap H locs → lv_has ls 3 [(0, .ref m0), (1, .int (nI k1))] → W p l e (headSpec (xws (.code y_Model_sort b_Model_sort 3 none)) ({ frames := 20, cells := 0, slots := 0, locals := 800 })).room s m ([.ref m0] : List Value).toArray below meth c H locs 0 0 Z9 (F0 m 2 ls []) from key_1 (cn - 1 + 1) 1 ck cm ca cz (Nat.lt_succ_self _) (by first | assumption | omega) (by first | assumption | omega) hcs sod_1 (List.Perm.refl _) hbd _ _ _ (hP) (hD) hS (lv_sub hl1 [1, 0] rfl)
  intro k_2
  induction k_2 with
  | zero =>
    intro k1 ck1 cm1 ca1 cz1 hk_4
    exact absurd hk_4 (Nat.not_lt_zero _)
  | succ k_2 ih_3 =>
    clear hP hD hS hl1
    intro k1 ck1 cm1 ca1 cz1 hk_4 hk1 hk2 hc1 hs1 hp1 hb1 H locs ls hP hD hS hl1
    refine lv_iload_n hx hb d_Model_sort_2 rfl (lv_at hl1 1 rfl) ?_
    refine lv_aload_n hx hb d_Model_sort_3 rfl (lv_at hl1 0 rfl) ?_
    refine va_get (D := D) (ci := 11) (v := .int (nI cn)) (C := R_Model) (T := F_Model) (N := 72) hx hb hts i_Model hown hK.1 hP 0 rfl rfl 44 (by decide) (hts _ wd_1080) (fun _ h9 => h9) rfl d_Model_sort_4 ?_
    refine lv_icmp_ge (tgt := 71) hx hb d_Model_sort_7 (by decide) (fun c_5 => ?_) (fun c_5 => ?_)
    · replace c_5 : cn ≤ k1 := (nI_leI (a := cn) (b := k1) (by first | exact Nat.lt_of_lt_of_le (by assumption) (by decide) | exact Nat.lt_of_le_of_lt (by assumption) (by decide) | omega) (by first | exact Nat.lt_of_lt_of_le (by assumption) (by decide) | exact Nat.lt_of_le_of_lt (by assumption) (by decide) | omega)).mp c_5
      rw [← hQe]
      obtain ⟨hP9, hD9⟩ := xw_sub2 (wc := (fun (u : Nat → Nat) (xck : Nat → Nat) (xcm : Nat → Nat) (xca : Nat → Nat) (xcz : Nat → Nat) => [(m0, .inr (11, [.int s_thrown, .int s_taped, .ref m1, .int s_size, .int s_outSize, .ref m2, .int s_kind, .int s_value, .int s_begin, .int s_end, .int s_failed, .ref m3, .ref m4, .ref m5, .int s_isProgram, .int s_half, .ref m6, .ref m7, .ref m8, .ref m9, .ref m10, .ref m11, .ref m12, .ref m13, .ref m14, .ref m15, .ref m16, .ref m17, .ref m18, .ref m19, .ref m20, .int s_signs, .ref m21, .int s_stacked, .ref m22, .int s_name, .int s_shift, .int s_statements, .int s_ifs, .int s_whiles, .int s_variants, .int s_open, .ref m23, .int s_isMade, .int (nI cn), .ref m24, .ref m25, .ref m26, .ref m27, .int s_kept, .ref m28, .int s_tops, .ref m29, .int s_used, .ref m30, .ref m31, .int s_looked, .int s_rows, .int s_firstRow, .ref m32, .ref m33, .ref m34, .ref m35, .ref m36, .ref m37, .ref m38, .ref m39, .ref m40, .int s_isBroken, .ref m41, .int s_atoms, .ref m42])), (m24, .inl (ax 0, 64, .inl (fun j => nI (xck j)))), (m25, .inl (ax 0, 64, .inl (fun j => nI (xcm j)))), (m26, .inl (ax 0, 64, .inl (fun j => nI (xca j)))), (m27, .inl (ax 0, 64, .inl (fun j => nI (xcz j))))]) (ixn []) ck1 cm1 ca1 cz1) hP hD [0, 1, 2, 3, 4] (by decide) rfl
      have hex0 : cds kp ca1 cz1 cn kt Z := (by assumption)
      have hex1 : sod ck1 cm1 cn := (hs1.dn (by first | assumption | omega))
      have hex2 : (cdl ck1 cm1 ca1 cz1 kp cn).Perm (cdl ck cm ca cz kp cn) := hp1
      exact W.vret hx hb hr (fun t ht hW => ⟨⟨ixn [], rfl, trivial, ⟨ck1, cm1, ca1, cz1, hex0, hex1, hex2, by rw [ht]; exact hP9, hD9⟩⟩, hS.F ht⟩) hS.2.2 d_Model_sort_71
    · replace c_5 : ¬ cn ≤ k1 := fun hq9 => c_5 ((nI_leI (a := cn) (b := k1) (by first | exact Nat.lt_of_lt_of_le (by assumption) (by decide) | exact Nat.lt_of_le_of_lt (by assumption) (by decide) | omega) (by first | exact Nat.lt_of_lt_of_le (by assumption) (by decide) | exact Nat.lt_of_le_of_lt (by assumption) (by decide) | omega)).mpr hq9)
      refine lv_iload_n hx hb d_Model_sort_10 rfl (lv_at hl1 1 rfl) ?_
      refine lv_istore_n (lv' := [(2, .int (nI k1)), (0, .ref m0), (1, .int (nI k1))]) hx hb d_Model_sort_11 rfl hl1 (by decide) rfl (fun ls hl2 => ?_)
      clear hl1; have hl1 := hl2; clear hl2
      suffices key_6 : ∀ (k : Nat) (j1 : Nat) (ck2 cm2 ca2 cz2 : Nat → Nat), j1 < k → j1 ≤ k1 → cds kp ca2 cz2 cn kt Z → ins ck2 cm2 k1 j1 → (cdl ck2 cm2 ca2 cz2 kp cn).Perm (cdl ck cm ca cz kp cn) → cbd ck2 cm2 cn → ∀ (H : Heap) (locs : List Loc) (ls : Array Slot), va_P D classes [(m0, .inr (11, [.int s_thrown, .int s_taped, .ref m1, .int s_size, .int s_outSize, .ref m2, .int s_kind, .int s_value, .int s_begin, .int s_end, .int s_failed, .ref m3, .ref m4, .ref m5, .int s_isProgram, .int s_half, .ref m6, .ref m7, .ref m8, .ref m9, .ref m10, .ref m11, .ref m12, .ref m13, .ref m14, .ref m15, .ref m16, .ref m17, .ref m18, .ref m19, .ref m20, .int s_signs, .ref m21, .int s_stacked, .ref m22, .int s_name, .int s_shift, .int s_statements, .int s_ifs, .int s_whiles, .int s_variants, .int s_open, .ref m23, .int s_isMade, .int (nI cn), .ref m24, .ref m25, .ref m26, .ref m27, .int s_kept, .ref m28, .int s_tops, .ref m29, .int s_used, .ref m30, .ref m31, .int s_looked, .int s_rows, .int s_firstRow, .ref m32, .ref m33, .ref m34, .ref m35, .ref m36, .ref m37, .ref m38, .ref m39, .ref m40, .int s_isBroken, .ref m41, .int s_atoms, .ref m42])), (m24, .inl (ax 0, 64, .inl (fun j => nI (ck2 j)))), (m25, .inl (ax 0, 64, .inl (fun j => nI (cm2 j)))), (m26, .inl (ax 0, 64, .inl (fun j => nI (ca2 j)))), (m27, .inl (ax 0, 64, .inl (fun j => nI (cz2 j))))] H → va_D A [(m0, .inr (11, [.int s_thrown, .int s_taped, .ref m1, .int s_size, .int s_outSize, .ref m2, .int s_kind, .int s_value, .int s_begin, .int s_end, .int s_failed, .ref m3, .ref m4, .ref m5, .int s_isProgram, .int s_half, .ref m6, .ref m7, .ref m8, .ref m9, .ref m10, .ref m11, .ref m12, .ref m13, .ref m14, .ref m15, .ref m16, .ref m17, .ref m18, .ref m19, .ref m20, .int s_signs, .ref m21, .int s_stacked, .ref m22, .int s_name, .int s_shift, .int s_statements, .int s_ifs, .int s_whiles, .int s_variants, .int s_open, .ref m23, .int s_isMade, .int (nI cn), .ref m24, .ref m25, .ref m26, .ref m27, .int s_kept, .ref m28, .int s_tops, .ref m29, .int s_used, .ref m30, .ref m31, .int s_looked, .int s_rows, .int s_firstRow, .ref m32, .ref m33, .ref m34, .ref m35, .ref m36, .ref m37, .ref m38, .ref m39, .ref m40, .int s_isBroken, .ref m41, .int s_atoms, .ref m42])), (m24, .inl (ax 0, 64, .inl (fun j => nI (ck2 j)))), (m25, .inl (ax 0, 64, .inl (fun j => nI (cm2 j)))), (m26, .inl (ax 0, 64, .inl (fun j => nI (ca2 j)))), (m27, .inl (ax 0, 64, .inl (fun j => nI (cz2 j))))] → va_S A s.heap H locs → lv_has ls 3 [(0, .ref m0), (1, .int (nI k1)), (2, .int (nI j1))] → W p l e (headSpec (xws (.code y_Model_sort b_Model_sort 3 none)) ({ frames := 20, cells := 0, slots := 0, locals := 800 })).room s m ([.ref m0] : List Value).toArray below meth c H locs 0 0 Z9 (F0 m 12 ls []) from key_6 (k1 + 1) k1 ck1 cm1 ca1 cz1 (Nat.lt_succ_self _) (by first | assumption | omega) hc1 (ins_0 hs1) hp1 hb1 _ _ _ (hP) (hD) hS (lv_sub hl1 [1, 2, 0] rfl)
      intro k_7
      induction k_7 with
      | zero =>
        intro j1 ck2 cm2 ca2 cz2 hk_9
        exact absurd hk_9 (Nat.not_lt_zero _)
      | succ k_7 ih_8 =>
        clear hP hD hS hl1
        intro j1 ck2 cm2 ca2 cz2 hk_9 hj1 hc2 hi2 hp2 hb2 H locs ls hP hD hS hl1
        refine lv_iload_n hx hb d_Model_sort_12 rfl (lv_at hl1 2 rfl) ?_
        refine lv_if_le (tgt := 65) hx hb d_Model_sort_13 (by decide) (fun c_10 => ?_) (fun c_10 => ?_)
        · replace c_10 : j1 ≤ 0 := (nI_leI (a := j1) (b := 0) (by first | exact Nat.lt_of_lt_of_le (by assumption) (by decide) | exact Nat.lt_of_le_of_lt (by assumption) (by decide) | omega) (by decide)).mp c_10
          refine lv_iinc (v := nI (k1 + 1)) (lv' := [(1, .int (nI (k1 + 1))), (0, .ref m0), (2, .int (nI j1))]) hx hb d_Model_sort_65 hl1 (k := 1) rfl (nI_add k1 1) (by decide) rfl (fun ls hl2 => ?_)
          clear hl1; have hl1 := hl2; clear hl2
          refine lv_goto (tgt := 2) hx hb d_Model_sort_68 (by decide) ?_
          exact ih_3 (k1 + 1) ck2 cm2 ca2 cz2 (by first | assumption | omega) (by first | assumption | omega) (by first | assumption | omega) (by assumption) (ins_e hi2 (by first | exact Or.inl (by first | assumption | omega)) (by first | assumption | omega)) hp2 hb2 _ _ _ (hP.sub [0, 1, 2, 3, 4] rfl) (hD.sub [0, 1, 2, 3, 4] (by decide) rfl) hS (lv_sub hl1 [1, 0] rfl)
        · replace c_10 : ¬ j1 ≤ 0 := fun hq9 => c_10 ((nI_leI (a := j1) (b := 0) (by first | exact Nat.lt_of_lt_of_le (by assumption) (by decide) | exact Nat.lt_of_le_of_lt (by assumption) (by decide) | omega) (by decide)).mpr hq9)
          refine lv_aload_n hx hb d_Model_sort_16 rfl (lv_at hl1 0 rfl) ?_
          refine lv_iload_n hx hb d_Model_sort_17 rfl (lv_at hl1 2 rfl) ?_
          refine lv_iload_n hx hb d_Model_sort_18 rfl (lv_at hl1 2 rfl) ?_
          refine lv_iconst (v := 1) hx hb d_Model_sort_19 (by decide) ?_
          refine lv_isub hx hb d_Model_sort_20 ?_
          refine lv_topi (fun z_11 ez_11 => ?_)
          have ez_11 : z_11 = nI (j1 - 1) := ez_11.trans (pk_sub (a := j1) (b := 1) (by first | assumption | omega))
          subst ez_11
          obtain ⟨hPc, hDc, hFc, hCs⟩ := xw_sub3 (wc := [(m0, .inr (11, [.int s_thrown, .int s_taped, .ref m1, .int s_size, .int s_outSize, .ref m2, .int s_kind, .int s_value, .int s_begin, .int s_end, .int s_failed, .ref m3, .ref m4, .ref m5, .int s_isProgram, .int s_half, .ref m6, .ref m7, .ref m8, .ref m9, .ref m10, .ref m11, .ref m12, .ref m13, .ref m14, .ref m15, .ref m16, .ref m17, .ref m18, .ref m19, .ref m20, .int s_signs, .ref m21, .int s_stacked, .ref m22, .int s_name, .int s_shift, .int s_statements, .int s_ifs, .int s_whiles, .int s_variants, .int s_open, .ref m23, .int s_isMade, .int (nI cn), .ref m24, .ref m25, .ref m26, .ref m27, .int s_kept, .ref m28, .int s_tops, .ref m29, .int s_used, .ref m30, .ref m31, .int s_looked, .int s_rows, .int s_firstRow, .ref m32, .ref m33, .ref m34, .ref m35, .ref m36, .ref m37, .ref m38, .ref m39, .ref m40, .int s_isBroken, .ref m41, .int s_atoms, .ref m42])), (m24, .inl (ax 0, 64, .inl (fun j => nI (ck2 j)))), (m25, .inl (ax 0, 64, .inl (fun j => nI (cm2 j))))]) hP hD hS hA [0, 1, 2] (by decide) rfl
          have hz := xz_of hN hS
          refine va_calli (va_runV (As := [.int (nI j1), .int (nI (j1 - 1))]) (rest := []) ⟨hx, hb, hml, hown, hts⟩ (c_M_isBefore l D ax m0 m1 m2 m3 m4 m5 m6 m7 m8 m9 m10 m11 m12 m13 m14 m15 m16 m17 m18 m19 m20 m21 m22 m23 m24 m25 m26 m27 m28 m29 m30 m31 m32 m33 m34 m35 m36 m37 m38 m39 m40 m41 m42 s_thrown s_taped s_size s_outSize s_kind s_value s_begin s_end s_failed s_isProgram s_half s_signs s_stacked s_name s_shift s_statements s_ifs s_whiles s_variants s_open s_isMade (nI cn) s_kept s_tops s_used s_looked s_rows s_firstRow s_isBroken s_atoms j1 (j1 - 1) ck2 cm2 H.size (by first | assumption | omega) (by first | assumption | omega) (hb2 _ (by first | assumption | omega)).2 (hb2 _ (by first | assumption | omega)).2 (hb2 _ (by first | assumption | omega)).1 (hb2 _ (by first | assumption | omega)).1) (xcV (n := 2) hts wd_1487 wd_15 wd_1484 wd_1486 ps_96 rfl rfl (by decide +kernel) ⟨Nat.le_of_ble_eq_true rfl, Nat.le_of_ble_eq_true rfl⟩) (xpV (ci := 11) (q0 := 0) (As := [.int (nI j1), .int (nI (j1 - 1))]) hPc hK hz hDc rfl rfl) rfl rfl hl1.1 rfl (lv_room (Nat.le_of_ble_eq_true rfl)) d_Model_sort_21 ⟨Nat.le_of_ble_eq_true rfl, Nat.le_of_ble_eq_true rfl⟩) hS (fun q _ h => hFc q h) hFc (fun r_14 u_12 t H_13 locs ht hvm hw hB hz1 hk1 hS1 => ?_)
          try dsimp only at hw
          obtain ⟨hw, hs_15, hs_16⟩ := hw
          subst hw
          obtain ⟨hP1, hD1⟩ := hB
          rw [ht] at hP1
          have hjn := xw_join3 (wl := [(m26, .inl (ax 0, 64, .inl (fun j => nI (ca2 j)))), (m27, .inl (ax 0, 64, .inl (fun j => nI (cz2 j)))), (m0, .inr (11, [.int s_thrown, .int s_taped, .ref m1, .int s_size, .int s_outSize, .ref m2, .int s_kind, .int s_value, .int s_begin, .int s_end, .int s_failed, .ref m3, .ref m4, .ref m5, .int s_isProgram, .int s_half, .ref m6, .ref m7, .ref m8, .ref m9, .ref m10, .ref m11, .ref m12, .ref m13, .ref m14, .ref m15, .ref m16, .ref m17, .ref m18, .ref m19, .ref m20, .int s_signs, .ref m21, .int s_stacked, .ref m22, .int s_name, .int s_shift, .int s_statements, .int s_ifs, .int s_whiles, .int s_variants, .int s_open, .ref m23, .int s_isMade, .int (nI cn), .ref m24, .ref m25, .ref m26, .ref m27, .int s_kept, .ref m28, .int s_tops, .ref m29, .int s_used, .ref m30, .ref m31, .int s_looked, .int s_rows, .int s_firstRow, .ref m32, .ref m33, .ref m34, .ref m35, .ref m36, .ref m37, .ref m38, .ref m39, .ref m40, .int s_isBroken, .ref m41, .int s_atoms, .ref m42])), (m24, .inl (ax 0, 64, .inl (fun j => nI (ck2 j)))), (m25, .inl (ax 0, 64, .inl (fun j => nI (cm2 j))))]) hP hD [0, 1, 2] [3, 4] hCs (by decide) (by decide) hk1 hFc hP1 hD1 rfl
          clear hP1 hD1
          clear hPc hDc hFc hCs hz hz1 hk1 ht hvm
          clear hP hD hS
          have hS := hS1
          obtain ⟨hP, hD⟩ := hjn
          clear hS1
          refine lv_if_eq (tgt := 65) hx hb d_Model_sort_24 (by decide) (fun c_17 => ?_) (fun c_17 => ?_)
          · replace c_17 : u_12 0 = 0 := (nI_eq (a := u_12 0) (b := 0) (by first | exact Nat.lt_of_lt_of_le (by assumption) (by decide) | exact Nat.lt_of_le_of_lt (by assumption) (by decide) | omega) (by decide)).mp c_17
            refine lv_iinc (v := nI (k1 + 1)) (lv' := [(1, .int (nI (k1 + 1))), (0, .ref m0), (2, .int (nI j1))]) hx hb d_Model_sort_65 hl1 (k := 1) rfl (nI_add k1 1) (by decide) rfl (fun ls hl2 => ?_)
            clear hl1; have hl1 := hl2; clear hl2
            refine lv_goto (tgt := 2) hx hb d_Model_sort_68 (by decide) ?_
            exact ih_3 (k1 + 1) ck2 cm2 ca2 cz2 (by first | assumption | omega) (by first | assumption | omega) (by first | assumption | omega) (by assumption) (ins_e hi2 (by first | exact Or.inl (by first | assumption | omega) | exact Or.inr (bq9.n hs_16 (by first | assumption | omega))) (by first | assumption | omega)) hp2 hb2 _ _ _ (hP.sub [2, 3, 4, 0, 1] rfl) (hD.sub [2, 3, 4, 0, 1] (by decide) rfl) hS (lv_sub hl1 [1, 0] rfl)
          · replace c_17 : ¬ u_12 0 = 0 := fun hq9 => c_17 ((nI_eq (a := u_12 0) (b := 0) (by first | exact Nat.lt_of_lt_of_le (by assumption) (by decide) | exact Nat.lt_of_le_of_lt (by assumption) (by decide) | omega) (by decide)).mpr hq9)
            refine lv_aload_n hx hb d_Model_sort_27 rfl (lv_at hl1 0 rfl) ?_
            refine va_get (D := D) (ci := 11) (v := .ref m24) (C := R_Model) (T := F_Model) (N := 72) hx hb hts i_Model hown hK.1 hP 2 rfl rfl 45 (by decide) (hts _ wd_1081) (fun _ h9 => h9) rfl d_Model_sort_28 ?_
            refine lv_iload_n hx hb d_Model_sort_31 rfl (lv_at hl1 2 rfl) ?_
            obtain ⟨hPc, hDc, hFc, hCs⟩ := xw_sub3 (wc := [(m24, .inl (ax 0, 64, .inl (fun j => nI (ck2 j))))]) hP hD hS hA [3] (by decide) rfl
            have hz := xz_of hN hS
            refine va_callv (va_runS (As := [.ref m24, .int (nI j1)]) (rest := []) ⟨hx, hb, hml, hown, hts⟩ (c_M_exchange l D ax m24 64 j1 ck2 H_13.size (by first | assumption | omega) (by first | assumption | omega) (by first | assumption | omega)) (xcS (n := 2) hts wd_1490 wd_15 wd_1488 wd_1489 rfl rfl (by decide +kernel) ⟨Nat.le_of_ble_eq_true rfl, Nat.le_of_ble_eq_true rfl⟩) (xpS (As := [.ref m24, .int (nI j1)]) hPc hK hz hDc) rfl rfl hl1.1 rfl (lv_room (Nat.le_of_ble_eq_true rfl)) d_Model_sort_32 ⟨Nat.le_of_ble_eq_true rfl, Nat.le_of_ble_eq_true rfl⟩) hS (fun q _ h => hFc q h) hFc (fun u_18 t H_19 locs ht hvm hw hB hz1 hk1 hS1 => ?_)
            try dsimp only at hw
            obtain ⟨hP1, hD1⟩ := hB
            rw [ht] at hP1
            have hjn := xw_join3 (wl := [(m26, .inl (ax 0, 64, .inl (fun j => nI (ca2 j)))), (m27, .inl (ax 0, 64, .inl (fun j => nI (cz2 j)))), (m0, .inr (11, [.int s_thrown, .int s_taped, .ref m1, .int s_size, .int s_outSize, .ref m2, .int s_kind, .int s_value, .int s_begin, .int s_end, .int s_failed, .ref m3, .ref m4, .ref m5, .int s_isProgram, .int s_half, .ref m6, .ref m7, .ref m8, .ref m9, .ref m10, .ref m11, .ref m12, .ref m13, .ref m14, .ref m15, .ref m16, .ref m17, .ref m18, .ref m19, .ref m20, .int s_signs, .ref m21, .int s_stacked, .ref m22, .int s_name, .int s_shift, .int s_statements, .int s_ifs, .int s_whiles, .int s_variants, .int s_open, .ref m23, .int s_isMade, .int (nI cn), .ref m24, .ref m25, .ref m26, .ref m27, .int s_kept, .ref m28, .int s_tops, .ref m29, .int s_used, .ref m30, .ref m31, .int s_looked, .int s_rows, .int s_firstRow, .ref m32, .ref m33, .ref m34, .ref m35, .ref m36, .ref m37, .ref m38, .ref m39, .ref m40, .int s_isBroken, .ref m41, .int s_atoms, .ref m42])), (m25, .inl (ax 0, 64, .inl (fun j => nI (cm2 j)))), (m24, .inl (ax 0, 64, .inl (fun j => nI (sup (sup ck2 j1 (ck2 (j1 - 1))) (j1 - 1) (ck2 j1) j))))]) hP hD [3] [0, 1, 2, 4] hCs (by decide) (by decide) hk1 hFc hP1 hD1 rfl
            clear hP1 hD1
            clear hPc hDc hFc hCs hz hz1 hk1 ht hvm
            clear hP hD hS
            have hS := hS1
            obtain ⟨hP, hD⟩ := hjn
            clear hS1
            refine lv_aload_n hx hb d_Model_sort_35 rfl (lv_at hl1 0 rfl) ?_
            refine va_get (D := D) (ci := 11) (v := .ref m25) (C := R_Model) (T := F_Model) (N := 72) hx hb hts i_Model hown hK.1 hP 2 rfl rfl 46 (by decide) (hts _ wd_1082) (fun _ h9 => h9) rfl d_Model_sort_36 ?_
            refine lv_iload_n hx hb d_Model_sort_39 rfl (lv_at hl1 2 rfl) ?_
            obtain ⟨hPc, hDc, hFc, hCs⟩ := xw_sub3 (wc := [(m25, .inl (ax 0, 64, .inl (fun j => nI (cm2 j))))]) hP hD hS hA [3] (by decide) rfl
            have hz := xz_of hN hS
            refine va_callv (va_runS (As := [.ref m25, .int (nI j1)]) (rest := []) ⟨hx, hb, hml, hown, hts⟩ (c_M_exchange l D ax m25 64 j1 cm2 H_19.size (by first | assumption | omega) (by first | assumption | omega) (by first | assumption | omega)) (xcS (n := 2) hts wd_1490 wd_15 wd_1488 wd_1489 rfl rfl (by decide +kernel) ⟨Nat.le_of_ble_eq_true rfl, Nat.le_of_ble_eq_true rfl⟩) (xpS (As := [.ref m25, .int (nI j1)]) hPc hK hz hDc) rfl rfl hl1.1 rfl (lv_room (Nat.le_of_ble_eq_true rfl)) d_Model_sort_40 ⟨Nat.le_of_ble_eq_true rfl, Nat.le_of_ble_eq_true rfl⟩) hS (fun q _ h => hFc q h) hFc (fun u_21 t H_22 locs ht hvm hw hB hz1 hk1 hS1 => ?_)
            try dsimp only at hw
            obtain ⟨hP1, hD1⟩ := hB
            rw [ht] at hP1
            have hjn := xw_join3 (wl := [(m26, .inl (ax 0, 64, .inl (fun j => nI (ca2 j)))), (m27, .inl (ax 0, 64, .inl (fun j => nI (cz2 j)))), (m0, .inr (11, [.int s_thrown, .int s_taped, .ref m1, .int s_size, .int s_outSize, .ref m2, .int s_kind, .int s_value, .int s_begin, .int s_end, .int s_failed, .ref m3, .ref m4, .ref m5, .int s_isProgram, .int s_half, .ref m6, .ref m7, .ref m8, .ref m9, .ref m10, .ref m11, .ref m12, .ref m13, .ref m14, .ref m15, .ref m16, .ref m17, .ref m18, .ref m19, .ref m20, .int s_signs, .ref m21, .int s_stacked, .ref m22, .int s_name, .int s_shift, .int s_statements, .int s_ifs, .int s_whiles, .int s_variants, .int s_open, .ref m23, .int s_isMade, .int (nI cn), .ref m24, .ref m25, .ref m26, .ref m27, .int s_kept, .ref m28, .int s_tops, .ref m29, .int s_used, .ref m30, .ref m31, .int s_looked, .int s_rows, .int s_firstRow, .ref m32, .ref m33, .ref m34, .ref m35, .ref m36, .ref m37, .ref m38, .ref m39, .ref m40, .int s_isBroken, .ref m41, .int s_atoms, .ref m42])), (m24, .inl (ax 0, 64, .inl (fun j => nI (sup (sup ck2 j1 (ck2 (j1 - 1))) (j1 - 1) (ck2 j1) j)))), (m25, .inl (ax 0, 64, .inl (fun j => nI (sup (sup cm2 j1 (cm2 (j1 - 1))) (j1 - 1) (cm2 j1) j))))]) hP hD [3] [0, 1, 2, 4] hCs (by decide) (by decide) hk1 hFc hP1 hD1 rfl
            clear hP1 hD1
            clear hPc hDc hFc hCs hz hz1 hk1 ht hvm
            clear hP hD hS
            have hS := hS1
            obtain ⟨hP, hD⟩ := hjn
            clear hS1
            refine lv_aload_n hx hb d_Model_sort_43 rfl (lv_at hl1 0 rfl) ?_
            refine va_get (D := D) (ci := 11) (v := .ref m26) (C := R_Model) (T := F_Model) (N := 72) hx hb hts i_Model hown hK.1 hP 2 rfl rfl 47 (by decide) (hts _ wd_1083) (fun _ h9 => h9) rfl d_Model_sort_44 ?_
            refine lv_iload_n hx hb d_Model_sort_47 rfl (lv_at hl1 2 rfl) ?_
            obtain ⟨hPc, hDc, hFc, hCs⟩ := xw_sub3 (wc := [(m26, .inl (ax 0, 64, .inl (fun j => nI (ca2 j))))]) hP hD hS hA [0] (by decide) rfl
            have hz := xz_of hN hS
            refine va_callv (va_runS (As := [.ref m26, .int (nI j1)]) (rest := []) ⟨hx, hb, hml, hown, hts⟩ (c_M_exchange l D ax m26 64 j1 ca2 H_22.size (by first | assumption | omega) (by first | assumption | omega) (by first | assumption | omega)) (xcS (n := 2) hts wd_1490 wd_15 wd_1488 wd_1489 rfl rfl (by decide +kernel) ⟨Nat.le_of_ble_eq_true rfl, Nat.le_of_ble_eq_true rfl⟩) (xpS (As := [.ref m26, .int (nI j1)]) hPc hK hz hDc) rfl rfl hl1.1 rfl (lv_room (Nat.le_of_ble_eq_true rfl)) d_Model_sort_48 ⟨Nat.le_of_ble_eq_true rfl, Nat.le_of_ble_eq_true rfl⟩) hS (fun q _ h => hFc q h) hFc (fun u_24 t H_25 locs ht hvm hw hB hz1 hk1 hS1 => ?_)
            try dsimp only at hw
            obtain ⟨hP1, hD1⟩ := hB
            rw [ht] at hP1
            have hjn := xw_join3 (wl := [(m27, .inl (ax 0, 64, .inl (fun j => nI (cz2 j)))), (m0, .inr (11, [.int s_thrown, .int s_taped, .ref m1, .int s_size, .int s_outSize, .ref m2, .int s_kind, .int s_value, .int s_begin, .int s_end, .int s_failed, .ref m3, .ref m4, .ref m5, .int s_isProgram, .int s_half, .ref m6, .ref m7, .ref m8, .ref m9, .ref m10, .ref m11, .ref m12, .ref m13, .ref m14, .ref m15, .ref m16, .ref m17, .ref m18, .ref m19, .ref m20, .int s_signs, .ref m21, .int s_stacked, .ref m22, .int s_name, .int s_shift, .int s_statements, .int s_ifs, .int s_whiles, .int s_variants, .int s_open, .ref m23, .int s_isMade, .int (nI cn), .ref m24, .ref m25, .ref m26, .ref m27, .int s_kept, .ref m28, .int s_tops, .ref m29, .int s_used, .ref m30, .ref m31, .int s_looked, .int s_rows, .int s_firstRow, .ref m32, .ref m33, .ref m34, .ref m35, .ref m36, .ref m37, .ref m38, .ref m39, .ref m40, .int s_isBroken, .ref m41, .int s_atoms, .ref m42])), (m24, .inl (ax 0, 64, .inl (fun j => nI (sup (sup ck2 j1 (ck2 (j1 - 1))) (j1 - 1) (ck2 j1) j)))), (m25, .inl (ax 0, 64, .inl (fun j => nI (sup (sup cm2 j1 (cm2 (j1 - 1))) (j1 - 1) (cm2 j1) j)))), (m26, .inl (ax 0, 64, .inl (fun j => nI (sup (sup ca2 j1 (ca2 (j1 - 1))) (j1 - 1) (ca2 j1) j))))]) hP hD [0] [1, 2, 3, 4] hCs (by decide) (by decide) hk1 hFc hP1 hD1 rfl
            clear hP1 hD1
            clear hPc hDc hFc hCs hz hz1 hk1 ht hvm
            clear hP hD hS
            have hS := hS1
            obtain ⟨hP, hD⟩ := hjn
            clear hS1
            refine lv_aload_n hx hb d_Model_sort_51 rfl (lv_at hl1 0 rfl) ?_
            refine va_get (D := D) (ci := 11) (v := .ref m27) (C := R_Model) (T := F_Model) (N := 72) hx hb hts i_Model hown hK.1 hP 1 rfl rfl 48 (by decide) (hts _ wd_1084) (fun _ h9 => h9) rfl d_Model_sort_52 ?_
            refine lv_iload_n hx hb d_Model_sort_55 rfl (lv_at hl1 2 rfl) ?_
            obtain ⟨hPc, hDc, hFc, hCs⟩ := xw_sub3 (wc := [(m27, .inl (ax 0, 64, .inl (fun j => nI (cz2 j))))]) hP hD hS hA [0] (by decide) rfl
            have hz := xz_of hN hS
            refine va_callv (va_runS (As := [.ref m27, .int (nI j1)]) (rest := []) ⟨hx, hb, hml, hown, hts⟩ (c_M_exchange l D ax m27 64 j1 cz2 H_25.size (by first | assumption | omega) (by first | assumption | omega) (by first | assumption | omega)) (xcS (n := 2) hts wd_1490 wd_15 wd_1488 wd_1489 rfl rfl (by decide +kernel) ⟨Nat.le_of_ble_eq_true rfl, Nat.le_of_ble_eq_true rfl⟩) (xpS (As := [.ref m27, .int (nI j1)]) hPc hK hz hDc) rfl rfl hl1.1 rfl (lv_room (Nat.le_of_ble_eq_true rfl)) d_Model_sort_56 ⟨Nat.le_of_ble_eq_true rfl, Nat.le_of_ble_eq_true rfl⟩) hS (fun q _ h => hFc q h) hFc (fun u_27 t H_28 locs ht hvm hw hB hz1 hk1 hS1 => ?_)
            try dsimp only at hw
            obtain ⟨hP1, hD1⟩ := hB
            rw [ht] at hP1
            have hjn := xw_join3 (wl := [(m0, .inr (11, [.int s_thrown, .int s_taped, .ref m1, .int s_size, .int s_outSize, .ref m2, .int s_kind, .int s_value, .int s_begin, .int s_end, .int s_failed, .ref m3, .ref m4, .ref m5, .int s_isProgram, .int s_half, .ref m6, .ref m7, .ref m8, .ref m9, .ref m10, .ref m11, .ref m12, .ref m13, .ref m14, .ref m15, .ref m16, .ref m17, .ref m18, .ref m19, .ref m20, .int s_signs, .ref m21, .int s_stacked, .ref m22, .int s_name, .int s_shift, .int s_statements, .int s_ifs, .int s_whiles, .int s_variants, .int s_open, .ref m23, .int s_isMade, .int (nI cn), .ref m24, .ref m25, .ref m26, .ref m27, .int s_kept, .ref m28, .int s_tops, .ref m29, .int s_used, .ref m30, .ref m31, .int s_looked, .int s_rows, .int s_firstRow, .ref m32, .ref m33, .ref m34, .ref m35, .ref m36, .ref m37, .ref m38, .ref m39, .ref m40, .int s_isBroken, .ref m41, .int s_atoms, .ref m42])), (m24, .inl (ax 0, 64, .inl (fun j => nI (sup (sup ck2 j1 (ck2 (j1 - 1))) (j1 - 1) (ck2 j1) j)))), (m25, .inl (ax 0, 64, .inl (fun j => nI (sup (sup cm2 j1 (cm2 (j1 - 1))) (j1 - 1) (cm2 j1) j)))), (m26, .inl (ax 0, 64, .inl (fun j => nI (sup (sup ca2 j1 (ca2 (j1 - 1))) (j1 - 1) (ca2 j1) j)))), (m27, .inl (ax 0, 64, .inl (fun j => nI (sup (sup cz2 j1 (cz2 (j1 - 1))) (j1 - 1) (cz2 j1) j))))]) hP hD [0] [1, 2, 3, 4] hCs (by decide) (by decide) hk1 hFc hP1 hD1 rfl
            clear hP1 hD1
            clear hPc hDc hFc hCs hz hz1 hk1 ht hvm
            clear hP hD hS
            have hS := hS1
            obtain ⟨hP, hD⟩ := hjn
            clear hS1
            refine lv_iinc (v := nI (j1 - 1)) (lv' := [(2, .int (nI (j1 - 1))), (0, .ref m0), (1, .int (nI k1))]) hx hb d_Model_sort_59 hl1 (k := 2) rfl (nI_dec (a := j1) (by first | assumption | omega)) (by decide) rfl (fun ls hl2 => ?_)
            clear hl1; have hl1 := hl2; clear hl2
            refine lv_goto (tgt := 12) hx hb d_Model_sort_62 (by decide) ?_
            exact ih_8 (j1 - 1) (sup (sup ck2 j1 (ck2 (j1 - 1))) (j1 - 1) (ck2 j1)) (sup (sup cm2 j1 (cm2 (j1 - 1))) (j1 - 1) (cm2 j1)) (sup (sup ca2 j1 (ca2 (j1 - 1))) (j1 - 1) (ca2 j1)) (sup (sup cz2 j1 (cz2 (j1 - 1))) (j1 - 1) (cz2 j1)) (by first | assumption | omega) (by first | assumption | omega) (hc2.swap (by first | assumption | omega) (by first | assumption | omega)) (ins_s hi2 (by first | assumption | omega) (by first | assumption | omega) (bq9.y hs_16 (by first | assumption | omega))) ((cdl_swap (by first | assumption | omega) (by first | assumption | omega)).trans hp2) (hb2.swap (by first | assumption | omega) (by first | assumption | omega)) _ _ _ (hP.sub [0, 1, 2, 3, 4] rfl) (hD.sub [0, 1, 2, 3, 4] (by decide) rfl) hS (lv_sub hl1 [1, 2, 0] rfl)
