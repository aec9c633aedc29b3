theorem ps_70 : Cond.selects "TripleDeskModel" ⟨"TripleDeskModel", "item", "()I"⟩ ⟨"TripleDeskModel", "item", "()I"⟩ ∈ lw_gd := ps_in (q := (⟨"TripleDeskModel", "item", "()I"⟩, 72)) (i := 70) (by decide +kernel)
theorem wd_1051 : ((Jvm.Cond.fieldLink "TripleDeskModel" (272 : Nat) "TripleDeskModel" "half" "I")) ∈ lw_gd := lw_gd_in (i := 1051) (by decide +kernel) rfl
theorem wd_1052 : ((Jvm.Cond.fieldLink "TripleDeskModel" (26 : Nat) "TripleDeskModel" "items" "[I")) ∈ lw_gd := lw_gd_in (i := 1052) (by decide +kernel) rfl
theorem wd_1053 : ((Jvm.Cond.fieldLink "TripleDeskModel" (29 : Nat) "TripleDeskModel" "op" "[I")) ∈ lw_gd := lw_gd_in (i := 1053) (by decide +kernel) rfl
theorem wd_1054 : ((Jvm.Cond.fieldLink "TripleDeskModel" (32 : Nat) "TripleDeskModel" "number" "[I")) ∈ lw_gd := lw_gd_in (i := 1054) (by decide +kernel) rfl
theorem wd_1062 : ((Jvm.Cond.fieldLink "TripleDeskModel" (56 : Nat) "TripleDeskModel" "hasVariant" "[Z")) ∈ lw_gd := lw_gd_in (i := 1062) (by decide +kernel) rfl
theorem wd_1065 : ((Jvm.Cond.fieldLink "TripleDeskModel" (66 : Nat) "TripleDeskModel" "pool" "[I")) ∈ lw_gd := lw_gd_in (i := 1065) (by decide +kernel) rfl
theorem wd_1066 : ((Jvm.Cond.fieldLink "TripleDeskModel" (69 : Nat) "TripleDeskModel" "pooled" "[I")) ∈ lw_gd := lw_gd_in (i := 1066) (by decide +kernel) rfl
theorem wd_1376 : ((Jvm.Cond.methodLink "TripleDeskModel" (275 : Nat) ({ cls := "TripleDeskModel", name := "item", desc := "()I" } : Jvm.MethodName))) ∈ lw_gd := lw_gd_in (i := 1376) (by decide +kernel) rfl
theorem wd_1378 : ((Jvm.Cond.instanceMethod ({ cls := "TripleDeskModel", name := "item", desc := "()I" } : Jvm.MethodName))) ∈ lw_gd := lw_gd_in (i := 1378) (by decide +kernel) rfl
theorem wd_1379 : ((Jvm.Cond.code ({ cls := "TripleDeskModel", name := "item", desc := "()I" } : Jvm.MethodName) prog_13_method_30_code (1 : Nat) (Option.some Jvm.ClassFile.FieldType.int))) ∈ lw_gd := lw_gd_in (i := 1379) (by decide +kernel) rfl
def cpf (pl f : Nat → Int32) (o1 k : Nat) : Nat → Int32 := fun j => if o1 ≤ j ∧ j < o1 + k then f (j - o1) else pl j
theorem cpf_0 (pl f : Nat → Int32) (o1 : Nat) : cpf pl f o1 0 = pl := by
  funext j; unfold cpf; rw [if_neg (by omega)]
theorem cpf_upd (pl f : Nat → Int32) (o1 k : Nat) : upd (cpf pl f o1 k) (o1 + k) (f k) = cpf pl f o1 (k + 1) := by
  funext j
  by_cases h : j = o1 + k
  · subst h; rw [upd_eq]; unfold cpf; rw [if_pos (by omega), Nat.add_sub_cancel_left]
  · rw [upd_ne h]; unfold cpf
    by_cases h2 : o1 ≤ j ∧ j < o1 + k
    · rw [if_pos h2, if_pos (by omega)]
    · rw [if_neg h2, if_neg (by omega)]
theorem cpf_in {pl f : Nat → Int32} {o1 k j : Nat} (h : j < k) : cpf pl f o1 k (o1 + j) = f j := by
  unfold cpf; rw [if_pos (by omega), Nat.add_sub_cancel_left]
theorem cpf_out {pl f : Nat → Int32} {o1 k j : Nat} (h : j < o1 ∨ o1 + k ≤ j) : cpf pl f o1 k j = pl j := by
  unfold cpf; rw [if_neg (by omega)]
abbrev b_Model_item : ByteArray := prog_13_method_30_code
def y_Model_item : MethodName := ⟨R_Model, "item", "()I"⟩
theorem d_Model_item_0 : decode b_Model_item 0 = .ok (.bipush 40, 2) := by decide +kernel
theorem d_Model_item_2 : decode b_Model_item 2 = .ok (.iconst 1, 1) := by decide +kernel
theorem d_Model_item_3 : decode b_Model_item 3 = .ok (.aload_n 0, 1) := by decide +kernel
theorem d_Model_item_4 : decode b_Model_item 4 = .ok (.getfield 272, 3) := by decide +kernel
theorem d_Model_item_7 : decode b_Model_item 7 = .ok (.isub, 1) := by decide +kernel
theorem d_Model_item_8 : decode b_Model_item 8 = .ok (.imul, 1) := by decide +kernel
theorem d_Model_item_9 : decode b_Model_item 9 = .ok (.aload_n 0, 1) := by decide +kernel
theorem d_Model_item_10 : decode b_Model_item 10 = .ok (.getfield 26, 3) := by decide +kernel
theorem d_Model_item_13 : decode b_Model_item 13 = .ok (.iconst 1, 1) := by decide +kernel
theorem d_Model_item_14 : decode b_Model_item 14 = .ok (.aload_n 0, 1) := by decide +kernel
theorem d_Model_item_15 : decode b_Model_item 15 = .ok (.getfield 272, 3) := by decide +kernel
theorem d_Model_item_18 : decode b_Model_item 18 = .ok (.isub, 1) := by decide +kernel
theorem d_Model_item_19 : decode b_Model_item 19 = .ok (.iaload, 1) := by decide +kernel
theorem d_Model_item_20 : decode b_Model_item 20 = .ok (.iadd, 1) := by decide +kernel
theorem d_Model_item_21 : decode b_Model_item 21 = .ok (.ireturn, 1) := by decide +kernel
set_option maxHeartbeats 40000000 in
set_option maxRecDepth 100000 in
theorem c_M_item (l : Launch) (D : va_G) (ax : Nat → ClassId) (m0 m1 m2 m3 m4 m5 m6 m7 m8 m9 m10 m11 m12 m13 m14 m15 m16 m17 m18 m19 m20 m21 m22 m23 m24 m25 m26 m27 m28 m29 m30 m31 m32 m33 m34 m35 m36 m37 m38 m39 m40 m41 m42 : Nat) (s_thrown s_taped s_size s_outSize s_kind s_value s_begin s_end s_failed s_isProgram s_signs s_stacked s_name s_shift s_statements s_ifs s_whiles s_variants s_open s_isMade s_conditions s_kept s_tops s_used s_looked s_rows s_firstRow s_isBroken s_atoms : Int32) (hf : Nat) (it : Nat → Nat) (sz : Nat) (hhf : hf ≤ 1) (hit : it (1 - hf) < 40) : Met l y_Model_item (xws (.code y_Model_item b_Model_item 1 (some .int))) ({ frames := 10, cells := 0, slots := 0, locals := 400 }) (va_Pc [.ref m0] (xo D ax [(m0, .inr (11, [.int s_thrown, .int s_taped, .ref m1, .int s_size, .int s_outSize, .ref m2, .int s_kind, .int s_value, .int s_begin, .int s_end, .int s_failed, .ref m3, .ref m4, .ref m5, .int s_isProgram, .int (nI hf), .ref m6, .ref m7, .ref m8, .ref m9, .ref m10, .ref m11, .ref m12, .ref m13, .ref m14, .ref m15, .ref m16, .ref m17, .ref m18, .ref m19, .ref m20, .int s_signs, .ref m21, .int s_stacked, .ref m22, .int s_name, .int s_shift, .int s_statements, .int s_ifs, .int s_whiles, .int s_variants, .int s_open, .ref m23, .int s_isMade, .int s_conditions, .ref m24, .ref m25, .ref m26, .ref m27, .int s_kept, .ref m28, .int s_tops, .ref m29, .int s_used, .ref m30, .ref m31, .int s_looked, .int s_rows, .int s_firstRow, .ref m32, .ref m33, .ref m34, .ref m35, .ref m36, .ref m37, .ref m38, .ref m39, .ref m40, .int s_isBroken, .ref m41, .int s_atoms, .ref m42])), (m6, .inl (ax 0, 2, .inl (fun j => nI (it j))))] sz)) ((va_Qi (fun (r : Int32) (u : Nat → Nat) => r = nI (40 * (1 - hf) + it (1 - hf))) (xb D (va_A [(m0, .inr (11, [.int s_thrown, .int s_taped, .ref m1, .int s_size, .int s_outSize, .ref m2, .int s_kind, .int s_value, .int s_begin, .int s_end, .int s_failed, .ref m3, .ref m4, .ref m5, .int s_isProgram, .int (nI hf), .ref m6, .ref m7, .ref m8, .ref m9, .ref m10, .ref m11, .ref m12, .ref m13, .ref m14, .ref m15, .ref m16, .ref m17, .ref m18, .ref m19, .ref m20, .int s_signs, .ref m21, .int s_stacked, .ref m22, .int s_name, .int s_shift, .int s_statements, .int s_ifs, .int s_whiles, .int s_variants, .int s_open, .ref m23, .int s_isMade, .int s_conditions, .ref m24, .ref m25, .ref m26, .ref m27, .int s_kept, .ref m28, .int s_tops, .ref m29, .int s_used, .ref m30, .ref m31, .int s_looked, .int s_rows, .int s_firstRow, .ref m32, .ref m33, .ref m34, .ref m35, .ref m36, .ref m37, .ref m38, .ref m39, .ref m40, .int s_isBroken, .ref m41, .int s_atoms, .ref m42])), (m6, .inl (ax 0, 2, .inl (fun j => nI (it j))))] sz) (fun u => [(m0, .inr (11, [.int s_thrown, .int s_taped, .ref m1, .int s_size, .int s_outSize, .ref m2, .int s_kind, .int s_value, .int s_begin, .int s_end, .int s_failed, .ref m3, .ref m4, .ref m5, .int s_isProgram, .int (nI hf), .ref m6, .ref m7, .ref m8, .ref m9, .ref m10, .ref m11, .ref m12, .ref m13, .ref m14, .ref m15, .ref m16, .ref m17, .ref m18, .ref m19, .ref m20, .int s_signs, .ref m21, .int s_stacked, .ref m22, .int s_name, .int s_shift, .int s_statements, .int s_ifs, .int s_whiles, .int s_variants, .int s_open, .ref m23, .int s_isMade, .int s_conditions, .ref m24, .ref m25, .ref m26, .ref m27, .int s_kept, .ref m28, .int s_tops, .ref m29, .int s_used, .ref m30, .ref m31, .int s_looked, .int s_rows, .int s_firstRow, .ref m32, .ref m33, .ref m34, .ref m35, .ref m36, .ref m37, .ref m38, .ref m39, .ref m40, .int s_isBroken, .ref m41, .int s_atoms, .ref m42])), (m6, .inl (ax 0, 2, .inl (fun j => nI (it j))))])) (va_A [(m0, .inr (11, [.int s_thrown, .int s_taped, .ref m1, .int s_size, .int s_outSize, .ref m2, .int s_kind, .int s_value, .int s_begin, .int s_end, .int s_failed, .ref m3, .ref m4, .ref m5, .int s_isProgram, .int (nI hf), .ref m6, .ref m7, .ref m8, .ref m9, .ref m10, .ref m11, .ref m12, .ref m13, .ref m14, .ref m15, .ref m16, .ref m17, .ref m18, .ref m19, .ref m20, .int s_signs, .ref m21, .int s_stacked, .ref m22, .int s_name, .int s_shift, .int s_statements, .int s_ifs, .int s_whiles, .int s_variants, .int s_open, .ref m23, .int s_isMade, .int s_conditions, .ref m24, .ref m25, .ref m26, .ref m27, .int s_kept, .ref m28, .int s_tops, .ref m29, .int s_used, .ref m30, .ref m31, .int s_looked, .int s_rows, .int s_firstRow, .ref m32, .ref m33, .ref m34, .ref m35, .ref m36, .ref m37, .ref m38, .ref m39, .ref m40, .int s_isBroken, .ref m41, .int s_atoms, .ref m42])), (m6, .inl (ax 0, 2, .inl (fun j => nI (it j))))] sz))) 0 0 (va_A [(m0, .inr (11, [.int s_thrown, .int s_taped, .ref m1, .int s_size, .int s_outSize, .ref m2, .int s_kind, .int s_value, .int s_begin, .int s_end, .int s_failed, .ref m3, .ref m4, .ref m5, .int s_isProgram, .int (nI hf), .ref m6, .ref m7, .ref m8, .ref m9, .ref m10, .ref m11, .ref m12, .ref m13, .ref m14, .ref m15, .ref m16, .ref m17, .ref m18, .ref m19, .ref m20, .int s_signs, .ref m21, .int s_stacked, .ref m22, .int s_name, .int s_shift, .int s_statements, .int s_ifs, .int s_whiles, .int s_variants, .int s_open, .ref m23, .int s_isMade, .int s_conditions, .ref m24, .ref m25, .ref m26, .ref m27, .int s_kept, .ref m28, .int s_tops, .ref m29, .int s_used, .ref m30, .ref m31, .int s_looked, .int s_rows, .int s_firstRow, .ref m32, .ref m33, .ref m34, .ref m35, .ref m36, .ref m37, .ref m38, .ref m39, .ref m40, .int s_isBroken, .ref m41, .int s_atoms, .ref m42])), (m6, .inl (ax 0, 2, .inl (fun j => nI (it j))))] sz) := by
  refine Met.ofW (cc := b_Model_item) (maxL := 1) (ret := (some .int)) (by decide) rfl ?_
  intro p e s m args below meth c s₁ B hml hv
  obtain ⟨rfl, hsz, hP, hK, hD0⟩ := hv
  have hx := B.exec
  have hb := B.bytes
  have hr := B.returns
  have hts := xw_hts B.pre
  have hown : s.vm.findClass R_Model = some m.cls := findClass_of_methodNamed B.named
  have hlocks := B.notSynchronized
  subst hsz
  have hD := hD0.self (sz := s.heap.size)
  have hN := xz_entry hP
  generalize hAe : va_A [(m0, .inr (11, [.int s_thrown, .int s_taped, .ref m1, .int s_size, .int s_outSize, .ref m2, .int s_kind, .int s_value, .int s_begin, .int s_end, .int s_failed, .ref m3, .ref m4, .ref m5, .int s_isProgram, .int (nI hf), .ref m6, .ref m7, .ref m8, .ref m9, .ref m10, .ref m11, .ref m12, .ref m13, .ref m14, .ref m15, .ref m16, .ref m17, .ref m18, .ref m19, .ref m20, .int s_signs, .ref m21, .int s_stacked, .ref m22, .int s_name, .int s_shift, .int s_statements, .int s_ifs, .int s_whiles, .int s_variants, .int s_open, .ref m23, .int s_isMade, .int s_conditions, .ref m24, .ref m25, .ref m26, .ref m27, .int s_kept, .ref m28, .int s_tops, .ref m29, .int s_used, .ref m30, .ref m31, .int s_looked, .int s_rows, .int s_firstRow, .ref m32, .ref m33, .ref m34, .ref m35, .ref m36, .ref m37, .ref m38, .ref m39, .ref m40, .int s_isBroken, .ref m41, .int s_atoms, .ref m42])), (m6, .inl (ax 0, 2, .inl (fun j => nI (it j))))] s.heap.size = A at hD hN ⊢
  have hA : ∀ q : Nat, s.heap.size ≤ q → A q := fun q h => by rw [← hAe]; exact Or.inr h
  have hS : va_S A s.heap s.heap [] := va_S.rf
  have hl0 := lv_entry ([.ref m0]) (n := 1) (Nat.le_of_ble_eq_true rfl)
  rw [lg_entry_eq]
  generalize (lg_sl ([.ref m0]) ++ List.replicate (1 - (lg_sl ([.ref m0])).length) Slot.unset).toArray = ls at hl0 ⊢
  have hl1 : lv_has ls 1 [(0, .ref m0)] := hl0
  refine xw_gen (fun Z9 hQe => ?_)
  refine lv_bipush (v := 40) hx hb d_Model_item_0 (by decide) ?_
  refine lv_iconst (v := 1) hx hb d_Model_item_2 (by decide) ?_
  refine lv_aload_n hx hb d_Model_item_3 rfl (lv_at hl1 0 rfl) ?_
  refine va_get (D := D) (ci := 11) (v := .int (nI hf)) (C := R_Model) (T := F_Model) (N := 72) hx hb hts i_Model hown hK.1 hP 0 rfl rfl 15 (by decide) (hts _ wd_1051) (fun _ h9 => h9) rfl d_Model_item_4 ?_
  refine lv_isub hx hb d_Model_item_7 ?_
  refine lv_topi (fun z_1 ez_1 => ?_)
  have ez_1 : z_1 = nI (1 - hf) := ez_1.trans (pk_sub (a := 1) (b := hf) (by first | assumption | omega))
  subst ez_1
  refine lv_imul hx hb d_Model_item_8 ?_
  refine lv_topi (fun z_2 ez_2 => ?_)
  have ez_2 : z_2 = nI (40 * (1 - hf)) := ez_2.trans (pk_mul 40 (1 - hf))
  subst ez_2
  refine lv_aload_n hx hb d_Model_item_9 rfl (lv_at hl1 0 rfl) ?_
  refine va_get (D := D) (ci := 11) (v := .ref m6) (C := R_Model) (T := F_Model) (N := 72) hx hb hts i_Model hown hK.1 hP 0 rfl rfl 16 (by decide) (hts _ wd_1052) (fun _ h9 => h9) rfl d_Model_item_10 ?_
  refine lv_iconst (v := 1) hx hb d_Model_item_13 (by decide) ?_
  refine lv_aload_n hx hb d_Model_item_14 rfl (lv_at hl1 0 rfl) ?_
  refine va_get (D := D) (ci := 11) (v := .int (nI hf)) (C := R_Model) (T := F_Model) (N := 72) hx hb hts i_Model hown hK.1 hP 0 rfl rfl 15 (by decide) (hts _ wd_1051) (fun _ h9 => h9) rfl d_Model_item_15 ?_
  refine lv_isub hx hb d_Model_item_18 ?_
  refine lv_topi (fun z_3 ez_3 => ?_)
  have ez_3 : z_3 = nI (1 - hf) := ez_3.trans (pk_sub (a := 1) (b := hf) (by first | assumption | omega))
  subst ez_3
  refine va_iald hx hb hK.1 hP 1 0 rfl rfl (vp_in_nI (by first | assumption | omega) (by decide)) d_Model_item_19 ?_
  refine W.eq (g2 := F0 m 20 ls [.int (nI (it (1 - hf))), .int (nI (40 * (1 - hf)))]) (by rw [nI_clamp (by first | exact Nat.lt_of_lt_of_le (by assumption) (by decide) | exact Nat.lt_of_le_of_lt (by assumption) (by decide) | omega)]) ?_
  refine lv_iadd hx hb d_Model_item_20 ?_
  refine lv_topi (fun z_4 ez_4 => ?_)
  have ez_4 : z_4 = nI (40 * (1 - hf) + it (1 - hf)) := ez_4.trans (nI_add (40 * (1 - hf)) (it (1 - hf)))
  subst ez_4
  rw [← hQe]
  obtain ⟨hP9, hD9⟩ := xw_sub2 (wc := (fun u : Nat → Nat => [(m0, .inr (11, [.int s_thrown, .int s_taped, .ref m1, .int s_size, .int s_outSize, .ref m2, .int s_kind, .int s_value, .int s_begin, .int s_end, .int s_failed, .ref m3, .ref m4, .ref m5, .int s_isProgram, .int (nI hf), .ref m6, .ref m7, .ref m8, .ref m9, .ref m10, .ref m11, .ref m12, .ref m13, .ref m14, .ref m15, .ref m16, .ref m17, .ref m18, .ref m19, .ref m20, .int s_signs, .ref m21, .int s_stacked, .ref m22, .int s_name, .int s_shift, .int s_statements, .int s_ifs, .int s_whiles, .int s_variants, .int s_open, .ref m23, .int s_isMade, .int s_conditions, .ref m24, .ref m25, .ref m26, .ref m27, .int s_kept, .ref m28, .int s_tops, .ref m29, .int s_used, .ref m30, .ref m31, .int s_looked, .int s_rows, .int s_firstRow, .ref m32, .ref m33, .ref m34, .ref m35, .ref m36, .ref m37, .ref m38, .ref m39, .ref m40, .int s_isBroken, .ref m41, .int s_atoms, .ref m42])), (m6, .inl (ax 0, 2, .inl (fun j => nI (it j))))]) (ixn [])) hP hD [0, 1] (by decide) rfl
  exact W.iret (v := nI (40 * (1 - hf) + it (1 - hf))) hx hb hr (fun t ht hW => ⟨⟨nI (40 * (1 - hf) + it (1 - hf)), ixn [], rfl, rfl, ⟨by rw [ht]; exact hP9, hD9⟩⟩, hS.F ht⟩) hS.2.2 d_Model_item_21
abbrev b_Model_add : ByteArray := prog_13_method_31_code
def y_Model_add : MethodName := ⟨R_Model, "add", "(II)I"⟩
theorem d_Model_add_0 : decode b_Model_add 0 = .ok (.aload_n 0, 1) := by decide +kernel
theorem d_Model_add_1 : decode b_Model_add 1 = .ok (.invokevirtual 275, 3) := by decide +kernel
theorem d_Model_add_4 : decode b_Model_add 4 = .ok (.istore_n 3, 1) := by decide +kernel
theorem d_Model_add_5 : decode b_Model_add 5 = .ok (.aload_n 0, 1) := by decide +kernel
theorem d_Model_add_6 : decode b_Model_add 6 = .ok (.getfield 29, 3) := by decide +kernel
theorem d_Model_add_9 : decode b_Model_add 9 = .ok (.iload_n 3, 1) := by decide +kernel
theorem d_Model_add_10 : decode b_Model_add 10 = .ok (.iload_n 1, 1) := by decide +kernel
theorem d_Model_add_11 : decode b_Model_add 11 = .ok (.iastore, 1) := by decide +kernel
theorem d_Model_add_12 : decode b_Model_add 12 = .ok (.aload_n 0, 1) := by decide +kernel
theorem d_Model_add_13 : decode b_Model_add 13 = .ok (.getfield 32, 3) := by decide +kernel
theorem d_Model_add_16 : decode b_Model_add 16 = .ok (.iload_n 3, 1) := by decide +kernel
theorem d_Model_add_17 : decode b_Model_add 17 = .ok (.iload_n 2, 1) := by decide +kernel
theorem d_Model_add_18 : decode b_Model_add 18 = .ok (.iastore, 1) := by decide +kernel
theorem d_Model_add_19 : decode b_Model_add 19 = .ok (.aload_n 0, 1) := by decide +kernel
theorem d_Model_add_20 : decode b_Model_add 20 = .ok (.getfield 56, 3) := by decide +kernel
theorem d_Model_add_23 : decode b_Model_add 23 = .ok (.iload_n 3, 1) := by decide +kernel
theorem d_Model_add_24 : decode b_Model_add 24 = .ok (.iconst 0, 1) := by decide +kernel
theorem d_Model_add_25 : decode b_Model_add 25 = .ok (.bastore, 1) := by decide +kernel
theorem d_Model_add_26 : decode b_Model_add 26 = .ok (.aload_n 0, 1) := by decide +kernel
theorem d_Model_add_27 : decode b_Model_add 27 = .ok (.getfield 26, 3) := by decide +kernel
theorem d_Model_add_30 : decode b_Model_add 30 = .ok (.iconst 1, 1) := by decide +kernel
theorem d_Model_add_31 : decode b_Model_add 31 = .ok (.aload_n 0, 1) := by decide +kernel
theorem d_Model_add_32 : decode b_Model_add 32 = .ok (.getfield 272, 3) := by decide +kernel
theorem d_Model_add_35 : decode b_Model_add 35 = .ok (.isub, 1) := by decide +kernel
theorem d_Model_add_36 : decode b_Model_add 36 = .ok (.dup2, 1) := by decide +kernel
theorem d_Model_add_37 : decode b_Model_add 37 = .ok (.iaload, 1) := by decide +kernel
theorem d_Model_add_38 : decode b_Model_add 38 = .ok (.iconst 1, 1) := by decide +kernel
theorem d_Model_add_39 : decode b_Model_add 39 = .ok (.iadd, 1) := by decide +kernel
theorem d_Model_add_40 : decode b_Model_add 40 = .ok (.iastore, 1) := by decide +kernel
theorem d_Model_add_41 : decode b_Model_add 41 = .ok (.iload_n 3, 1) := by decide +kernel
theorem d_Model_add_42 : decode b_Model_add 42 = .ok (.ireturn, 1) := by decide +kernel
set_option maxHeartbeats 40000000 in
set_option maxRecDepth 100000 in
theorem c_M_add (l : Launch) (D : va_G) (ax : Nat → ClassId) (m0 m1 m2 m3 m4 m5 m6 m7 m8 m9 m10 m11 m12 m13 m14 m15 m16 m17 m18 m19 m20 m21 m22 m23 m24 m25 m26 m27 m28 m29 m30 m31 m32 m33 m34 m35 m36 m37 m38 m39 m40 m41 m42 : Nat) (s_thrown s_taped s_size s_outSize s_kind s_value s_begin s_end s_failed s_isProgram s_signs s_stacked s_name s_shift s_statements s_ifs s_whiles s_variants s_open s_isMade s_conditions s_kept s_tops s_used s_looked s_rows s_firstRow s_isBroken s_atoms : Int32) (hf wh nn : Nat) (it op nu : Nat → Nat) (hv : Nat → Int32) (sz : Nat) (hhf : hf ≤ 1) (hit : it (1 - hf) < 40) : Met l y_Model_add (xws (.code y_Model_add b_Model_add 4 (some .int))) ({ frames := 20, cells := 0, slots := 0, locals := 800 }) (va_Pc [.ref m0, .int (nI wh), .int (nI nn)] (xo D ax [(m0, .inr (11, [.int s_thrown, .int s_taped, .ref m1, .int s_size, .int s_outSize, .ref m2, .int s_kind, .int s_value, .int s_begin, .int s_end, .int s_failed, .ref m3, .ref m4, .ref m5, .int s_isProgram, .int (nI hf), .ref m6, .ref m7, .ref m8, .ref m9, .ref m10, .ref m11, .ref m12, .ref m13, .ref m14, .ref m15, .ref m16, .ref m17, .ref m18, .ref m19, .ref m20, .int s_signs, .ref m21, .int s_stacked, .ref m22, .int s_name, .int s_shift, .int s_statements, .int s_ifs, .int s_whiles, .int s_variants, .int s_open, .ref m23, .int s_isMade, .int s_conditions, .ref m24, .ref m25, .ref m26, .ref m27, .int s_kept, .ref m28, .int s_tops, .ref m29, .int s_used, .ref m30, .ref m31, .int s_looked, .int s_rows, .int s_firstRow, .ref m32, .ref m33, .ref m34, .ref m35, .ref m36, .ref m37, .ref m38, .ref m39, .ref m40, .int s_isBroken, .ref m41, .int s_atoms, .ref m42])), (m7, .inl (ax 0, 80, .inl (fun j => nI (op j)))), (m8, .inl (ax 0, 80, .inl (fun j => nI (nu j)))), (m16, .inl (ax 3, 80, .inl hv)), (m6, .inl (ax 0, 2, .inl (fun j => nI (it j))))] sz)) ((va_Qi (fun (r : Int32) (u : Nat → Nat) => r = nI (40 * (1 - hf) + it (1 - hf))) (xb D (va_A [(m0, .inr (11, [.int s_thrown, .int s_taped, .ref m1, .int s_size, .int s_outSize, .ref m2, .int s_kind, .int s_value, .int s_begin, .int s_end, .int s_failed, .ref m3, .ref m4, .ref m5, .int s_isProgram, .int (nI hf), .ref m6, .ref m7, .ref m8, .ref m9, .ref m10, .ref m11, .ref m12, .ref m13, .ref m14, .ref m15, .ref m16, .ref m17, .ref m18, .ref m19, .ref m20, .int s_signs, .ref m21, .int s_stacked, .ref m22, .int s_name, .int s_shift, .int s_statements, .int s_ifs, .int s_whiles, .int s_variants, .int s_open, .ref m23, .int s_isMade, .int s_conditions, .ref m24, .ref m25, .ref m26, .ref m27, .int s_kept, .ref m28, .int s_tops, .ref m29, .int s_used, .ref m30, .ref m31, .int s_looked, .int s_rows, .int s_firstRow, .ref m32, .ref m33, .ref m34, .ref m35, .ref m36, .ref m37, .ref m38, .ref m39, .ref m40, .int s_isBroken, .ref m41, .int s_atoms, .ref m42])), (m7, .inl (ax 0, 80, .inl (fun j => nI (op j)))), (m8, .inl (ax 0, 80, .inl (fun j => nI (nu j)))), (m16, .inl (ax 3, 80, .inl hv)), (m6, .inl (ax 0, 2, .inl (fun j => nI (it j))))] sz) (fun u => [(m0, .inr (11, [.int s_thrown, .int s_taped, .ref m1, .int s_size, .int s_outSize, .ref m2, .int s_kind, .int s_value, .int s_begin, .int s_end, .int s_failed, .ref m3, .ref m4, .ref m5, .int s_isProgram, .int (nI hf), .ref m6, .ref m7, .ref m8, .ref m9, .ref m10, .ref m11, .ref m12, .ref m13, .ref m14, .ref m15, .ref m16, .ref m17, .ref m18, .ref m19, .ref m20, .int s_signs, .ref m21, .int s_stacked, .ref m22, .int s_name, .int s_shift, .int s_statements, .int s_ifs, .int s_whiles, .int s_variants, .int s_open, .ref m23, .int s_isMade, .int s_conditions, .ref m24, .ref m25, .ref m26, .ref m27, .int s_kept, .ref m28, .int s_tops, .ref m29, .int s_used, .ref m30, .ref m31, .int s_looked, .int s_rows, .int s_firstRow, .ref m32, .ref m33, .ref m34, .ref m35, .ref m36, .ref m37, .ref m38, .ref m39, .ref m40, .int s_isBroken, .ref m41, .int s_atoms, .ref m42])), (m7, .inl (ax 0, 80, .inl (fun j => nI (sup op (40 * (1 - hf) + it (1 - hf)) wh j)))), (m8, .inl (ax 0, 80, .inl (fun j => nI (sup nu (40 * (1 - hf) + it (1 - hf)) nn j)))), (m16, .inl (ax 3, 80, .inl (upd hv (40 * (1 - hf) + it (1 - hf)) 0))), (m6, .inl (ax 0, 2, .inl (fun j => nI (sup it (1 - hf) (it (1 - hf) + 1) j))))])) (va_A [(m0, .inr (11, [.int s_thrown, .int s_taped, .ref m1, .int s_size, .int s_outSize, .ref m2, .int s_kind, .int s_value, .int s_begin, .int s_end, .int s_failed, .ref m3, .ref m4, .ref m5, .int s_isProgram, .int (nI hf), .ref m6, .ref m7, .ref m8, .ref m9, .ref m10, .ref m11, .ref m12, .ref m13, .ref m14, .ref m15, .ref m16, .ref m17, .ref m18, .ref m19, .ref m20, .int s_signs, .ref m21, .int s_stacked, .ref m22, .int s_name, .int s_shift, .int s_statements, .int s_ifs, .int s_whiles, .int s_variants, .int s_open, .ref m23, .int s_isMade, .int s_conditions, .ref m24, .ref m25, .ref m26, .ref m27, .int s_kept, .ref m28, .int s_tops, .ref m29, .int s_used, .ref m30, .ref m31, .int s_looked, .int s_rows, .int s_firstRow, .ref m32, .ref m33, .ref m34, .ref m35, .ref m36, .ref m37, .ref m38, .ref m39, .ref m40, .int s_isBroken, .ref m41, .int s_atoms, .ref m42])), (m7, .inl (ax 0, 80, .inl (fun j => nI (op j)))), (m8, .inl (ax 0, 80, .inl (fun j => nI (nu j)))), (m16, .inl (ax 3, 80, .inl hv)), (m6, .inl (ax 0, 2, .inl (fun j => nI (it j))))] sz))) 0 0 (va_A [(m0, .inr (11, [.int s_thrown, .int s_taped, .ref m1, .int s_size, .int s_outSize, .ref m2, .int s_kind, .int s_value, .int s_begin, .int s_end, .int s_failed, .ref m3, .ref m4, .ref m5, .int s_isProgram, .int (nI hf), .ref m6, .ref m7, .ref m8, .ref m9, .ref m10, .ref m11, .ref m12, .ref m13, .ref m14, .ref m15, .ref m16, .ref m17, .ref m18, .ref m19, .ref m20, .int s_signs, .ref m21, .int s_stacked, .ref m22, .int s_name, .int s_shift, .int s_statements, .int s_ifs, .int s_whiles, .int s_variants, .int s_open, .ref m23, .int s_isMade, .int s_conditions, .ref m24, .ref m25, .ref m26, .ref m27, .int s_kept, .ref m28, .int s_tops, .ref m29, .int s_used, .ref m30, .ref m31, .int s_looked, .int s_rows, .int s_firstRow, .ref m32, .ref m33, .ref m34, .ref m35, .ref m36, .ref m37, .ref m38, .ref m39, .ref m40, .int s_isBroken, .ref m41, .int s_atoms, .ref m42])), (m7, .inl (ax 0, 80, .inl (fun j => nI (op j)))), (m8, .inl (ax 0, 80, .inl (fun j => nI (nu j)))), (m16, .inl (ax 3, 80, .inl hv)), (m6, .inl (ax 0, 2, .inl (fun j => nI (it j))))] sz) := by
  refine Met.ofW (cc := b_Model_add) (maxL := 4) (ret := (some .int)) (by decide) rfl ?_
  intro p e s m args below meth c s₁ B hml hv
  obtain ⟨rfl, hsz, hP, hK, hD0⟩ := hv
  have hx := B.exec
  have hb := B.bytes
  have hr := B.returns
  have hts := xw_hts B.pre
  have hown : s.vm.findClass R_Model = some m.cls := findClass_of_methodNamed B.named
  have hlocks := B.notSynchronized
  subst hsz
  have hD := hD0.self (sz := s.heap.size)
  have hN := xz_entry hP
  generalize hAe : va_A [(m0, .inr (11, [.int s_thrown, .int s_taped, .ref m1, .int s_size, .int s_outSize, .ref m2, .int s_kind, .int s_value, .int s_begin, .int s_end, .int s_failed, .ref m3, .ref m4, .ref m5, .int s_isProgram, .int (nI hf), .ref m6, .ref m7, .ref m8, .ref m9, .ref m10, .ref m11, .ref m12, .ref m13, .ref m14, .ref m15, .ref m16, .ref m17, .ref m18, .ref m19, .ref m20, .int s_signs, .ref m21, .int s_stacked, .ref m22, .int s_name, .int s_shift, .int s_statements, .int s_ifs, .int s_whiles, .int s_variants, .int s_open, .ref m23, .int s_isMade, .int s_conditions, .ref m24, .ref m25, .ref m26, .ref m27, .int s_kept, .ref m28, .int s_tops, .ref m29, .int s_used, .ref m30, .ref m31, .int s_looked, .int s_rows, .int s_firstRow, .ref m32, .ref m33, .ref m34, .ref m35, .ref m36, .ref m37, .ref m38, .ref m39, .ref m40, .int s_isBroken, .ref m41, .int s_atoms, .ref m42])), (m7, .inl (ax 0, 80, .inl (fun j => nI (op j)))), (m8, .inl (ax 0, 80, .inl (fun j => nI (nu j)))), (m16, .inl (ax 3, 80, .inl hv)), (m6, .inl (ax 0, 2, .inl (fun j => nI (it j))))] s.heap.size = A at hD hN ⊢
  have hA : ∀ q : Nat, s.heap.size ≤ q → A q := fun q h => by rw [← hAe]; exact Or.inr h
  have hS : va_S A s.heap s.heap [] := va_S.rf
  have hl0 := lv_entry ([.ref m0, .int (nI wh), .int (nI nn)]) (n := 4) (Nat.le_of_ble_eq_true rfl)
  rw [lg_entry_eq]
  generalize (lg_sl ([.ref m0, .int (nI wh), .int (nI nn)]) ++ List.replicate (4 - (lg_sl ([.ref m0, .int (nI wh), .int (nI nn)])).length) Slot.unset).toArray = ls at hl0 ⊢
  have hl1 : lv_has ls 4 [(0, .ref m0), (1, .int (nI wh)), (2, .int (nI nn))] := hl0
  refine xw_gen (fun Z9 hQe => ?_)
  refine lv_aload_n hx hb d_Model_add_0 rfl (lv_at hl1 0 rfl) ?_
  obtain ⟨hPc, hDc, hFc, hCs⟩ := xw_sub3 (wc := [(m0, .inr (11, [.int s_thrown, .int s_taped, .ref m1, .int s_size, .int s_outSize, .ref m2, .int s_kind, .int s_value, .int s_begin, .int s_end, .int s_failed, .ref m3, .ref m4, .ref m5, .int s_isProgram, .int (nI hf), .ref m6, .ref m7, .ref m8, .ref m9, .ref m10, .ref m11, .ref m12, .ref m13, .ref m14, .ref m15, .ref m16, .ref m17, .ref m18, .ref m19, .ref m20, .int s_signs, .ref m21, .int s_stacked, .ref m22, .int s_name, .int s_shift, .int s_statements, .int s_ifs, .int s_whiles, .int s_variants, .int s_open, .ref m23, .int s_isMade, .int s_conditions, .ref m24, .ref m25, .ref m26, .ref m27, .int s_kept, .ref m28, .int s_tops, .ref m29, .int s_used, .ref m30, .ref m31, .int s_looked, .int s_rows, .int s_firstRow, .ref m32, .ref m33, .ref m34, .ref m35, .ref m36, .ref m37, .ref m38, .ref m39, .ref m40, .int s_isBroken, .ref m41, .int s_atoms, .ref m42])), (m6, .inl (ax 0, 2, .inl (fun j => nI (it j))))]) hP hD hS hA [0, 4] (by decide) rfl
  have hz := xz_of hN hS
  refine va_calli (va_runV (As := []) (rest := []) ⟨hx, hb, hml, hown, hts⟩ (c_M_item l D ax m0 m1 m2 m3 m4 m5 m6 m7 m8 m9 m10 m11 m12 m13 m14 m15 m16 m17 m18 m19 m20 m21 m22 m23 m24 m25 m26 m27 m28 m29 m30 m31 m32 m33 m34 m35 m36 m37 m38 m39 m40 m41 m42 s_thrown s_taped s_size s_outSize s_kind s_value s_begin s_end s_failed s_isProgram s_signs s_stacked s_name s_shift s_statements s_ifs s_whiles s_variants s_open s_isMade s_conditions s_kept s_tops s_used s_looked s_rows s_firstRow s_isBroken s_atoms hf it s.heap.size hhf hit) (xcV (n := 0) hts wd_1379 wd_15 wd_1376 wd_1378 ps_70 rfl rfl (by decide +kernel) ⟨Nat.le_of_ble_eq_true rfl, Nat.le_of_ble_eq_true rfl⟩) (xpV (ci := 11) (q0 := 0) (As := []) hPc hK hz hDc rfl rfl) rfl rfl hl1.1 rfl (lv_room (Nat.le_of_ble_eq_true rfl)) d_Model_add_1 ⟨Nat.le_of_ble_eq_true rfl, Nat.le_of_ble_eq_true rfl⟩) hS (fun q _ h => hFc q h) hFc (fun r_3 u_1 t H_2 locs ht hvm hw hB hz1 hk1 hS1 => ?_)
  try dsimp only at hw
  subst hw
  obtain ⟨hP1, hD1⟩ := hB
  rw [ht] at hP1
  have hjn := xw_join3 (wl := [(m7, .inl (ax 0, 80, .inl (fun j => nI (op j)))), (m8, .inl (ax 0, 80, .inl (fun j => nI (nu j)))), (m16, .inl (ax 3, 80, .inl hv)), (m0, .inr (11, [.int s_thrown, .int s_taped, .ref m1, .int s_size, .int s_outSize, .ref m2, .int s_kind, .int s_value, .int s_begin, .int s_end, .int s_failed, .ref m3, .ref m4, .ref m5, .int s_isProgram, .int (nI hf), .ref m6, .ref m7, .ref m8, .ref m9, .ref m10, .ref m11, .ref m12, .ref m13, .ref m14, .ref m15, .ref m16, .ref m17, .ref m18, .ref m19, .ref m20, .int s_signs, .ref m21, .int s_stacked, .ref m22, .int s_name, .int s_shift, .int s_statements, .int s_ifs, .int s_whiles, .int s_variants, .int s_open, .ref m23, .int s_isMade, .int s_conditions, .ref m24, .ref m25, .ref m26, .ref m27, .int s_kept, .ref m28, .int s_tops, .ref m29, .int s_used, .ref m30, .ref m31, .int s_looked, .int s_rows, .int s_firstRow, .ref m32, .ref m33, .ref m34, .ref m35, .ref m36, .ref m37, .ref m38, .ref m39, .ref m40, .int s_isBroken, .ref m41, .int s_atoms, .ref m42])), (m6, .inl (ax 0, 2, .inl (fun j => nI (it j))))]) hP hD [0, 4] [1, 2, 3] hCs (by decide) (by decide) hk1 hFc hP1 hD1 rfl
  clear hP1 hD1
  clear hPc hDc hFc hCs hz hz1 hk1 ht hvm
  clear hP hD hS
  have hS := hS1
  obtain ⟨hP, hD⟩ := hjn
  clear hS1
  refine lv_istore_n (lv' := [(3, .int (nI (40 * (1 - hf) + it (1 - hf)))), (0, .ref m0), (1, .int (nI wh)), (2, .int (nI nn))]) hx hb d_Model_add_4 rfl hl1 (by decide) rfl (fun ls hl2 => ?_)
  clear hl1; have hl1 := hl2; clear hl2
  refine lv_aload_n hx hb d_Model_add_5 rfl (lv_at hl1 1 rfl) ?_
  refine va_get (D := D) (ci := 11) (v := .ref m7) (C := R_Model) (T := F_Model) (N := 72) hx hb hts i_Model hown hK.1 hP 3 rfl rfl 17 (by decide) (hts _ wd_1053) (fun _ h9 => h9) rfl d_Model_add_6 ?_
  refine lv_iload_n hx hb d_Model_add_9 rfl (lv_at hl1 0 rfl) ?_
  refine lv_iload_n hx hb d_Model_add_10 rfl (lv_at hl1 2 rfl) ?_
  refine va_iast hx hb hK.1 hP hD hS 0 0 rfl rfl (vp_in_nI (by first | assumption | omega) (by decide)) d_Model_add_11 (fun H_4 locs hP1 hD1 hS1 => ?_)
  rw [nI_clamp (by first | exact Nat.lt_of_lt_of_le (by assumption) (by decide) | exact Nat.lt_of_le_of_lt (by assumption) (by decide) | omega)] at hP1 hD1
  rw [xf_sup op (40 * (1 - hf) + it (1 - hf)) wh] at hP1 hD1
  clear hP hD hS
  have hS := hS1
  have hW7 : (fun w9 : va_W => va_P D classes w9 H_4 ∧ va_D A w9) [(m7, .inl (ax 0, 80, .inl (fun j => nI (sup op (40 * (1 - hf) + it (1 - hf)) wh j)))), (m8, .inl (ax 0, 80, .inl (fun j => nI (nu j)))), (m16, .inl (ax 3, 80, .inl hv)), (m0, .inr (11, [.int s_thrown, .int s_taped, .ref m1, .int s_size, .int s_outSize, .ref m2, .int s_kind, .int s_value, .int s_begin, .int s_end, .int s_failed, .ref m3, .ref m4, .ref m5, .int s_isProgram, .int (nI hf), .ref m6, .ref m7, .ref m8, .ref m9, .ref m10, .ref m11, .ref m12, .ref m13, .ref m14, .ref m15, .ref m16, .ref m17, .ref m18, .ref m19, .ref m20, .int s_signs, .ref m21, .int s_stacked, .ref m22, .int s_name, .int s_shift, .int s_statements, .int s_ifs, .int s_whiles, .int s_variants, .int s_open, .ref m23, .int s_isMade, .int s_conditions, .ref m24, .ref m25, .ref m26, .ref m27, .int s_kept, .ref m28, .int s_tops, .ref m29, .int s_used, .ref m30, .ref m31, .int s_looked, .int s_rows, .int s_firstRow, .ref m32, .ref m33, .ref m34, .ref m35, .ref m36, .ref m37, .ref m38, .ref m39, .ref m40, .int s_isBroken, .ref m41, .int s_atoms, .ref m42])), (m6, .inl (ax 0, 2, .inl (fun j => nI (it j))))] := ⟨hP1, hD1⟩
  obtain ⟨hP, hD⟩ := hW7
  clear hP1 hD1 hS1
  refine lv_aload_n hx hb d_Model_add_12 rfl (lv_at hl1 1 rfl) ?_
  refine va_get (D := D) (ci := 11) (v := .ref m8) (C := R_Model) (T := F_Model) (N := 72) hx hb hts i_Model hown hK.1 hP 3 rfl rfl 18 (by decide) (hts _ wd_1054) (fun _ h9 => h9) rfl d_Model_add_13 ?_
  refine lv_iload_n hx hb d_Model_add_16 rfl (lv_at hl1 0 rfl) ?_
  refine lv_iload_n hx hb d_Model_add_17 rfl (lv_at hl1 3 rfl) ?_
  refine va_iast hx hb hK.1 hP hD hS 1 0 rfl rfl (vp_in_nI (by first | assumption | omega) (by decide)) d_Model_add_18 (fun H_5 locs hP1 hD1 hS1 => ?_)
  rw [nI_clamp (by first | exact Nat.lt_of_lt_of_le (by assumption) (by decide) | exact Nat.lt_of_le_of_lt (by assumption) (by decide) | omega)] at hP1 hD1
  rw [xf_sup nu (40 * (1 - hf) + it (1 - hf)) nn] at hP1 hD1
  clear hP hD hS
  have hS := hS1
  have hW7 : (fun w9 : va_W => va_P D classes w9 H_5 ∧ va_D A w9) [(m7, .inl (ax 0, 80, .inl (fun j => nI (sup op (40 * (1 - hf) + it (1 - hf)) wh j)))), (m8, .inl (ax 0, 80, .inl (fun j => nI (sup nu (40 * (1 - hf) + it (1 - hf)) nn j)))), (m16, .inl (ax 3, 80, .inl hv)), (m0, .inr (11, [.int s_thrown, .int s_taped, .ref m1, .int s_size, .int s_outSize, .ref m2, .int s_kind, .int s_value, .int s_begin, .int s_end, .int s_failed, .ref m3, .ref m4, .ref m5, .int s_isProgram, .int (nI hf), .ref m6, .ref m7, .ref m8, .ref m9, .ref m10, .ref m11, .ref m12, .ref m13, .ref m14, .ref m15, .ref m16, .ref m17, .ref m18, .ref m19, .ref m20, .int s_signs, .ref m21, .int s_stacked, .ref m22, .int s_name, .int s_shift, .int s_statements, .int s_ifs, .int s_whiles, .int s_variants, .int s_open, .ref m23, .int s_isMade, .int s_conditions, .ref m24, .ref m25, .ref m26, .ref m27, .int s_kept, .ref m28, .int s_tops, .ref m29, .int s_used, .ref m30, .ref m31, .int s_looked, .int s_rows, .int s_firstRow, .ref m32, .ref m33, .ref m34, .ref m35, .ref m36, .ref m37, .ref m38, .ref m39, .ref m40, .int s_isBroken, .ref m41, .int s_atoms, .ref m42])), (m6, .inl (ax 0, 2, .inl (fun j => nI (it j))))] := ⟨hP1, hD1⟩
  obtain ⟨hP, hD⟩ := hW7
  clear hP1 hD1 hS1
  refine lv_aload_n hx hb d_Model_add_19 rfl (lv_at hl1 1 rfl) ?_
  refine va_get (D := D) (ci := 11) (v := .ref m16) (C := R_Model) (T := F_Model) (N := 72) hx hb hts i_Model hown hK.1 hP 3 rfl rfl 26 (by decide) (hts _ wd_1062) (fun _ h9 => h9) rfl d_Model_add_20 ?_
  refine lv_iload_n hx hb d_Model_add_23 rfl (lv_at hl1 0 rfl) ?_
  refine lv_iconst (v := 0) hx hb d_Model_add_24 (by decide) ?_
  refine va_zast hx hb hK.1 hP hD hS 2 3 rfl rfl (vp_in_nI (by first | assumption | omega) (by decide)) d_Model_add_25 (fun H_6 locs hP1 hD1 hS1 => ?_)
  rw [nI_clamp (by first | exact Nat.lt_of_lt_of_le (by assumption) (by decide) | exact Nat.lt_of_le_of_lt (by assumption) (by decide) | omega)] at hP1 hD1
  clear hP hD hS
  have hS := hS1
  have hW7 : (fun w9 : va_W => va_P D classes w9 H_6 ∧ va_D A w9) [(m7, .inl (ax 0, 80, .inl (fun j => nI (sup op (40 * (1 - hf) + it (1 - hf)) wh j)))), (m8, .inl (ax 0, 80, .inl (fun j => nI (sup nu (40 * (1 - hf) + it (1 - hf)) nn j)))), (m16, .inl (ax 3, 80, .inl (upd hv (40 * (1 - hf) + it (1 - hf)) 0))), (m0, .inr (11, [.int s_thrown, .int s_taped, .ref m1, .int s_size, .int s_outSize, .ref m2, .int s_kind, .int s_value, .int s_begin, .int s_end, .int s_failed, .ref m3, .ref m4, .ref m5, .int s_isProgram, .int (nI hf), .ref m6, .ref m7, .ref m8, .ref m9, .ref m10, .ref m11, .ref m12, .ref m13, .ref m14, .ref m15, .ref m16, .ref m17, .ref m18, .ref m19, .ref m20, .int s_signs, .ref m21, .int s_stacked, .ref m22, .int s_name, .int s_shift, .int s_statements, .int s_ifs, .int s_whiles, .int s_variants, .int s_open, .ref m23, .int s_isMade, .int s_conditions, .ref m24, .ref m25, .ref m26, .ref m27, .int s_kept, .ref m28, .int s_tops, .ref m29, .int s_used, .ref m30, .ref m31, .int s_looked, .int s_rows, .int s_firstRow, .ref m32, .ref m33, .ref m34, .ref m35, .ref m36, .ref m37, .ref m38, .ref m39, .ref m40, .int s_isBroken, .ref m41, .int s_atoms, .ref m42])), (m6, .inl (ax 0, 2, .inl (fun j => nI (it j))))] := ⟨hP1, hD1⟩
  obtain ⟨hP, hD⟩ := hW7
  clear hP1 hD1 hS1
  refine lv_aload_n hx hb d_Model_add_26 rfl (lv_at hl1 1 rfl) ?_
  refine va_get (D := D) (ci := 11) (v := .ref m6) (C := R_Model) (T := F_Model) (N := 72) hx hb hts i_Model hown hK.1 hP 3 rfl rfl 16 (by decide) (hts _ wd_1052) (fun _ h9 => h9) rfl d_Model_add_27 ?_
  refine lv_iconst (v := 1) hx hb d_Model_add_30 (by decide) ?_
  refine lv_aload_n hx hb d_Model_add_31 rfl (lv_at hl1 1 rfl) ?_
  refine va_get (D := D) (ci := 11) (v := .int (nI hf)) (C := R_Model) (T := F_Model) (N := 72) hx hb hts i_Model hown hK.1 hP 3 rfl rfl 15 (by decide) (hts _ wd_1051) (fun _ h9 => h9) rfl d_Model_add_32 ?_
  refine lv_isub hx hb d_Model_add_35 ?_
  refine lv_topi (fun z_7 ez_7 => ?_)
  have ez_7 : z_7 = nI (1 - hf) := ez_7.trans (pk_sub (a := 1) (b := hf) (by first | assumption | omega))
  subst ez_7
  refine lv_dup2_11 hx hb d_Model_add_36 rfl rfl ?_
  refine va_iald hx hb hK.1 hP 4 0 rfl rfl (vp_in_nI (by first | assumption | omega) (by decide)) d_Model_add_37 ?_
  refine W.eq (g2 := F0 m 38 ls [.int (nI (it (1 - hf))), .int (nI (1 - hf)), .ref m6]) (by rw [nI_clamp (by first | exact Nat.lt_of_lt_of_le (by assumption) (by decide) | exact Nat.lt_of_le_of_lt (by assumption) (by decide) | omega)]) ?_
  refine lv_iconst (v := 1) hx hb d_Model_add_38 (by decide) ?_
  refine lv_iadd hx hb d_Model_add_39 ?_
  refine lv_topi (fun z_8 ez_8 => ?_)
  have ez_8 : z_8 = nI (it (1 - hf) + 1) := ez_8.trans (nI_add (it (1 - hf)) 1)
  subst ez_8
  refine va_iast hx hb hK.1 hP hD hS 4 0 rfl rfl (vp_in_nI (by first | assumption | omega) (by decide)) d_Model_add_40 (fun H_9 locs hP1 hD1 hS1 => ?_)
  rw [nI_clamp (by first | exact Nat.lt_of_lt_of_le (by assumption) (by decide) | exact Nat.lt_of_le_of_lt (by assumption) (by decide) | omega)] at hP1 hD1
  rw [xf_sup it (1 - hf) (it (1 - hf) + 1)] at hP1 hD1
  clear hP hD hS
  have hS := hS1
  have hW7 : (fun w9 : va_W => va_P D classes w9 H_9 ∧ va_D A w9) [(m7, .inl (ax 0, 80, .inl (fun j => nI (sup op (40 * (1 - hf) + it (1 - hf)) wh j)))), (m8, .inl (ax 0, 80, .inl (fun j => nI (sup nu (40 * (1 - hf) + it (1 - hf)) nn j)))), (m16, .inl (ax 3, 80, .inl (upd hv (40 * (1 - hf) + it (1 - hf)) 0))), (m0, .inr (11, [.int s_thrown, .int s_taped, .ref m1, .int s_size, .int s_outSize, .ref m2, .int s_kind, .int s_value, .int s_begin, .int s_end, .int s_failed, .ref m3, .ref m4, .ref m5, .int s_isProgram, .int (nI hf), .ref m6, .ref m7, .ref m8, .ref m9, .ref m10, .ref m11, .ref m12, .ref m13, .ref m14, .ref m15, .ref m16, .ref m17, .ref m18, .ref m19, .ref m20, .int s_signs, .ref m21, .int s_stacked, .ref m22, .int s_name, .int s_shift, .int s_statements, .int s_ifs, .int s_whiles, .int s_variants, .int s_open, .ref m23, .int s_isMade, .int s_conditions, .ref m24, .ref m25, .ref m26, .ref m27, .int s_kept, .ref m28, .int s_tops, .ref m29, .int s_used, .ref m30, .ref m31, .int s_looked, .int s_rows, .int s_firstRow, .ref m32, .ref m33, .ref m34, .ref m35, .ref m36, .ref m37, .ref m38, .ref m39, .ref m40, .int s_isBroken, .ref m41, .int s_atoms, .ref m42])), (m6, .inl (ax 0, 2, .inl (fun j => nI (sup it (1 - hf) (it (1 - hf) + 1) j))))] := ⟨hP1, hD1⟩
  obtain ⟨hP, hD⟩ := hW7
  clear hP1 hD1 hS1
  refine lv_iload_n hx hb d_Model_add_41 rfl (lv_at hl1 0 rfl) ?_
  rw [← hQe]
  obtain ⟨hP9, hD9⟩ := xw_sub2 (wc := (fun u : Nat → Nat => [(m0, .inr (11, [.int s_thrown, .int s_taped, .ref m1, .int s_size, .int s_outSize, .ref m2, .int s_kind, .int s_value, .int s_begin, .int s_end, .int s_failed, .ref m3, .ref m4, .ref m5, .int s_isProgram, .int (nI hf), .ref m6, .ref m7, .ref m8, .ref m9, .ref m10, .ref m11, .ref m12, .ref m13, .ref m14, .ref m15, .ref m16, .ref m17, .ref m18, .ref m19, .ref m20, .int s_signs, .ref m21, .int s_stacked, .ref m22, .int s_name, .int s_shift, .int s_statements, .int s_ifs, .int s_whiles, .int s_variants, .int s_open, .ref m23, .int s_isMade, .int s_conditions, .ref m24, .ref m25, .ref m26, .ref m27, .int s_kept, .ref m28, .int s_tops, .ref m29, .int s_used, .ref m30, .ref m31, .int s_looked, .int s_rows, .int s_firstRow, .ref m32, .ref m33, .ref m34, .ref m35, .ref m36, .ref m37, .ref m38, .ref m39, .ref m40, .int s_isBroken, .ref m41, .int s_atoms, .ref m42])), (m7, .inl (ax 0, 80, .inl (fun j => nI (sup op (40 * (1 - hf) + it (1 - hf)) wh j)))), (m8, .inl (ax 0, 80, .inl (fun j => nI (sup nu (40 * (1 - hf) + it (1 - hf)) nn j)))), (m16, .inl (ax 3, 80, .inl (upd hv (40 * (1 - hf) + it (1 - hf)) 0))), (m6, .inl (ax 0, 2, .inl (fun j => nI (sup it (1 - hf) (it (1 - hf) + 1) j))))]) (ixn [])) hP hD [3, 0, 1, 2, 4] (by decide) rfl
  exact W.iret (v := nI (40 * (1 - hf) + it (1 - hf))) hx hb hr (fun t ht hW => ⟨⟨nI (40 * (1 - hf) + it (1 - hf)), ixn [], rfl, rfl, ⟨by rw [ht]; exact hP9, hD9⟩⟩, hS.F ht⟩) hS.2.2 d_Model_add_42
abbrev b_Model_putBy : ByteArray := prog_13_method_32_code
def y_Model_putBy : MethodName := ⟨R_Model, "putBy", "()I"⟩
theorem d_Model_putBy_0 : decode b_Model_putBy 0 = .ok (.iconst 1, 1) := by decide +kernel
theorem d_Model_putBy_1 : decode b_Model_putBy 1 = .ok (.aload_n 0, 1) := by decide +kernel
theorem d_Model_putBy_2 : decode b_Model_putBy 2 = .ok (.getfield 272, 3) := by decide +kernel
theorem d_Model_putBy_5 : decode b_Model_putBy 5 = .ok (.isub, 1) := by decide +kernel
theorem d_Model_putBy_6 : decode b_Model_putBy 6 = .ok (.istore_n 1, 1) := by decide +kernel
theorem d_Model_putBy_7 : decode b_Model_putBy 7 = .ok (.sipush 3000, 3) := by decide +kernel
theorem d_Model_putBy_10 : decode b_Model_putBy 10 = .ok (.iload_n 1, 1) := by decide +kernel
theorem d_Model_putBy_11 : decode b_Model_putBy 11 = .ok (.imul, 1) := by decide +kernel
theorem d_Model_putBy_12 : decode b_Model_putBy 12 = .ok (.bipush 6, 2) := by decide +kernel
theorem d_Model_putBy_14 : decode b_Model_putBy 14 = .ok (.aload_n 0, 1) := by decide +kernel
theorem d_Model_putBy_15 : decode b_Model_putBy 15 = .ok (.getfield 69, 3) := by decide +kernel
theorem d_Model_putBy_18 : decode b_Model_putBy 18 = .ok (.iload_n 1, 1) := by decide +kernel
theorem d_Model_putBy_19 : decode b_Model_putBy 19 = .ok (.iaload, 1) := by decide +kernel
theorem d_Model_putBy_20 : decode b_Model_putBy 20 = .ok (.imul, 1) := by decide +kernel
theorem d_Model_putBy_21 : decode b_Model_putBy 21 = .ok (.iadd, 1) := by decide +kernel
theorem d_Model_putBy_22 : decode b_Model_putBy 22 = .ok (.istore_n 2, 1) := by decide +kernel
theorem d_Model_putBy_23 : decode b_Model_putBy 23 = .ok (.iconst 0, 1) := by decide +kernel
theorem d_Model_putBy_24 : decode b_Model_putBy 24 = .ok (.istore_n 3, 1) := by decide +kernel
theorem d_Model_putBy_25 : decode b_Model_putBy 25 = .ok (.iload_n 3, 1) := by decide +kernel
theorem d_Model_putBy_26 : decode b_Model_putBy 26 = .ok (.bipush 6, 2) := by decide +kernel
theorem d_Model_putBy_28 : decode b_Model_putBy 28 = .ok (.aload_n 0, 1) := by decide +kernel
theorem d_Model_putBy_29 : decode b_Model_putBy 29 = .ok (.getfield 226, 3) := by decide +kernel
theorem d_Model_putBy_32 : decode b_Model_putBy 32 = .ok (.imul, 1) := by decide +kernel
theorem d_Model_putBy_33 : decode b_Model_putBy 33 = .ok (.if_icmp .ge 23, 3) := by decide +kernel
theorem d_Model_putBy_36 : decode b_Model_putBy 36 = .ok (.aload_n 0, 1) := by decide +kernel
theorem d_Model_putBy_37 : decode b_Model_putBy 37 = .ok (.getfield 66, 3) := by decide +kernel
theorem d_Model_putBy_40 : decode b_Model_putBy 40 = .ok (.iload_n 2, 1) := by decide +kernel
theorem d_Model_putBy_41 : decode b_Model_putBy 41 = .ok (.iload_n 3, 1) := by decide +kernel
theorem d_Model_putBy_42 : decode b_Model_putBy 42 = .ok (.iadd, 1) := by decide +kernel
theorem d_Model_putBy_43 : decode b_Model_putBy 43 = .ok (.aload_n 0, 1) := by decide +kernel
theorem d_Model_putBy_44 : decode b_Model_putBy 44 = .ok (.getfield 72, 3) := by decide +kernel
theorem d_Model_putBy_47 : decode b_Model_putBy 47 = .ok (.iload_n 3, 1) := by decide +kernel
theorem d_Model_putBy_48 : decode b_Model_putBy 48 = .ok (.iaload, 1) := by decide +kernel
theorem d_Model_putBy_49 : decode b_Model_putBy 49 = .ok (.iastore, 1) := by decide +kernel
theorem d_Model_putBy_50 : decode b_Model_putBy 50 = .ok (.iinc 3 1, 3) := by decide +kernel
theorem d_Model_putBy_53 : decode b_Model_putBy 53 = .ok (.goto (-28), 3) := by decide +kernel
theorem d_Model_putBy_56 : decode b_Model_putBy 56 = .ok (.aload_n 0, 1) := by decide +kernel
theorem d_Model_putBy_57 : decode b_Model_putBy 57 = .ok (.getfield 69, 3) := by decide +kernel
theorem d_Model_putBy_60 : decode b_Model_putBy 60 = .ok (.iload_n 1, 1) := by decide +kernel
theorem d_Model_putBy_61 : decode b_Model_putBy 61 = .ok (.aload_n 0, 1) := by decide +kernel
theorem d_Model_putBy_62 : decode b_Model_putBy 62 = .ok (.getfield 69, 3) := by decide +kernel
theorem d_Model_putBy_65 : decode b_Model_putBy 65 = .ok (.iload_n 1, 1) := by decide +kernel
theorem d_Model_putBy_66 : decode b_Model_putBy 66 = .ok (.iaload, 1) := by decide +kernel
theorem d_Model_putBy_67 : decode b_Model_putBy 67 = .ok (.aload_n 0, 1) := by decide +kernel
theorem d_Model_putBy_68 : decode b_Model_putBy 68 = .ok (.getfield 226, 3) := by decide +kernel
theorem d_Model_putBy_71 : decode b_Model_putBy 71 = .ok (.iadd, 1) := by decide +kernel
theorem d_Model_putBy_72 : decode b_Model_putBy 72 = .ok (.iastore, 1) := by decide +kernel
theorem d_Model_putBy_73 : decode b_Model_putBy 73 = .ok (.iload_n 2, 1) := by decide +kernel
theorem d_Model_putBy_74 : decode b_Model_putBy 74 = .ok (.ireturn, 1) := by decide +kernel
set_option maxHeartbeats 40000000 in
set_option maxRecDepth 100000 in
theorem c_M_putBy (l : Launch) (D : va_G) (ax : Nat → ClassId) (m0 m1 m2 m3 m4 m5 m6 m7 m8 m9 m10 m11 m12 m13 m14 m15 m16 m17 m18 m19 m20 m21 m22 m23 m24 m25 m26 m27 m28 m29 m30 m31 m32 m33 m34 m35 m36 m37 m38 m39 m40 m41 m42 : Nat) (s_thrown s_taped s_size s_outSize s_kind s_value s_begin s_end s_failed s_isProgram s_stacked s_name s_shift s_statements s_ifs s_whiles s_variants s_open s_isMade s_conditions s_kept s_tops s_used s_looked s_rows s_firstRow s_isBroken s_atoms : Int32) (hf q : Nat) (pd : Nat → Nat) (pl f : Nat → Int32) (sz : Nat) (hhf : hf ≤ 1) (hpd : pd (1 - hf) + q ≤ 500) (hq : q ≤ 200) : Met l y_Model_putBy (xws (.code y_Model_putBy b_Model_putBy 4 (some .int))) ({ frames := 10, cells := 0, slots := 0, locals := 400 }) (va_Pc [.ref m0] (xo D ax [(m0, .inr (11, [.int s_thrown, .int s_taped, .ref m1, .int s_size, .int s_outSize, .ref m2, .int s_kind, .int s_value, .int s_begin, .int s_end, .int s_failed, .ref m3, .ref m4, .ref m5, .int s_isProgram, .int (nI hf), .ref m6, .ref m7, .ref m8, .ref m9, .ref m10, .ref m11, .ref m12, .ref m13, .ref m14, .ref m15, .ref m16, .ref m17, .ref m18, .ref m19, .ref m20, .int (nI q), .ref m21, .int s_stacked, .ref m22, .int s_name, .int s_shift, .int s_statements, .int s_ifs, .int s_whiles, .int s_variants, .int s_open, .ref m23, .int s_isMade, .int s_conditions, .ref m24, .ref m25, .ref m26, .ref m27, .int s_kept, .ref m28, .int s_tops, .ref m29, .int s_used, .ref m30, .ref m31, .int s_looked, .int s_rows, .int s_firstRow, .ref m32, .ref m33, .ref m34, .ref m35, .ref m36, .ref m37, .ref m38, .ref m39, .ref m40, .int s_isBroken, .ref m41, .int s_atoms, .ref m42])), (m19, .inl (ax 0, 6000, .inl pl)), (m20, .inl (ax 0, 2, .inl (fun j => nI (pd j)))), (m21, .inl (ax 0, 1200, .inl f))] sz)) ((va_Qi (fun (r : Int32) (u : Nat → Nat) => r = nI (3000 * (1 - hf) + 6 * pd (1 - hf))) (xb D (va_A [(m0, .inr (11, [.int s_thrown, .int s_taped, .ref m1, .int s_size, .int s_outSize, .ref m2, .int s_kind, .int s_value, .int s_begin, .int s_end, .int s_failed, .ref m3, .ref m4, .ref m5, .int s_isProgram, .int (nI hf), .ref m6, .ref m7, .ref m8, .ref m9, .ref m10, .ref m11, .ref m12, .ref m13, .ref m14, .ref m15, .ref m16, .ref m17, .ref m18, .ref m19, .ref m20, .int (nI q), .ref m21, .int s_stacked, .ref m22, .int s_name, .int s_shift, .int s_statements, .int s_ifs, .int s_whiles, .int s_variants, .int s_open, .ref m23, .int s_isMade, .int s_conditions, .ref m24, .ref m25, .ref m26, .ref m27, .int s_kept, .ref m28, .int s_tops, .ref m29, .int s_used, .ref m30, .ref m31, .int s_looked, .int s_rows, .int s_firstRow, .ref m32, .ref m33, .ref m34, .ref m35, .ref m36, .ref m37, .ref m38, .ref m39, .ref m40, .int s_isBroken, .ref m41, .int s_atoms, .ref m42])), (m19, .inl (ax 0, 6000, .inl pl)), (m20, .inl (ax 0, 2, .inl (fun j => nI (pd j)))), (m21, .inl (ax 0, 1200, .inl f))] sz) (fun u => [(m0, .inr (11, [.int s_thrown, .int s_taped, .ref m1, .int s_size, .int s_outSize, .ref m2, .int s_kind, .int s_value, .int s_begin, .int s_end, .int s_failed, .ref m3, .ref m4, .ref m5, .int s_isProgram, .int (nI hf), .ref m6, .ref m7, .ref m8, .ref m9, .ref m10, .ref m11, .ref m12, .ref m13, .ref m14, .ref m15, .ref m16, .ref m17, .ref m18, .ref m19, .ref m20, .int (nI q), .ref m21, .int s_stacked, .ref m22, .int s_name, .int s_shift, .int s_statements, .int s_ifs, .int s_whiles, .int s_variants, .int s_open, .ref m23, .int s_isMade, .int s_conditions, .ref m24, .ref m25, .ref m26, .ref m27, .int s_kept, .ref m28, .int s_tops, .ref m29, .int s_used, .ref m30, .ref m31, .int s_looked, .int s_rows, .int s_firstRow, .ref m32, .ref m33, .ref m34, .ref m35, .ref m36, .ref m37, .ref m38, .ref m39, .ref m40, .int s_isBroken, .ref m41, .int s_atoms, .ref m42])), (m19, .inl (ax 0, 6000, .inl (cpf pl f (3000 * (1 - hf) + 6 * pd (1 - hf)) (6 * q)))), (m20, .inl (ax 0, 2, .inl (fun j => nI (sup pd (1 - hf) (pd (1 - hf) + q) j)))), (m21, .inl (ax 0, 1200, .inl f))])) (va_A [(m0, .inr (11, [.int s_thrown, .int s_taped, .ref m1, .int s_size, .int s_outSize, .ref m2, .int s_kind, .int s_value, .int s_begin, .int s_end, .int s_failed, .ref m3, .ref m4, .ref m5, .int s_isProgram, .int (nI hf), .ref m6, .ref m7, .ref m8, .ref m9, .ref m10, .ref m11, .ref m12, .ref m13, .ref m14, .ref m15, .ref m16, .ref m17, .ref m18, .ref m19, .ref m20, .int (nI q), .ref m21, .int s_stacked, .ref m22, .int s_name, .int s_shift, .int s_statements, .int s_ifs, .int s_whiles, .int s_variants, .int s_open, .ref m23, .int s_isMade, .int s_conditions, .ref m24, .ref m25, .ref m26, .ref m27, .int s_kept, .ref m28, .int s_tops, .ref m29, .int s_used, .ref m30, .ref m31, .int s_looked, .int s_rows, .int s_firstRow, .ref m32, .ref m33, .ref m34, .ref m35, .ref m36, .ref m37, .ref m38, .ref m39, .ref m40, .int s_isBroken, .ref m41, .int s_atoms, .ref m42])), (m19, .inl (ax 0, 6000, .inl pl)), (m20, .inl (ax 0, 2, .inl (fun j => nI (pd j)))), (m21, .inl (ax 0, 1200, .inl f))] sz))) 0 0 (va_A [(m0, .inr (11, [.int s_thrown, .int s_taped, .ref m1, .int s_size, .int s_outSize, .ref m2, .int s_kind, .int s_value, .int s_begin, .int s_end, .int s_failed, .ref m3, .ref m4, .ref m5, .int s_isProgram, .int (nI hf), .ref m6, .ref m7, .ref m8, .ref m9, .ref m10, .ref m11, .ref m12, .ref m13, .ref m14, .ref m15, .ref m16, .ref m17, .ref m18, .ref m19, .ref m20, .int (nI q), .ref m21, .int s_stacked, .ref m22, .int s_name, .int s_shift, .int s_statements, .int s_ifs, .int s_whiles, .int s_variants, .int s_open, .ref m23, .int s_isMade, .int s_conditions, .ref m24, .ref m25, .ref m26, .ref m27, .int s_kept, .ref m28, .int s_tops, .ref m29, .int s_used, .ref m30, .ref m31, .int s_looked, .int s_rows, .int s_firstRow, .ref m32, .ref m33, .ref m34, .ref m35, .ref m36, .ref m37, .ref m38, .ref m39, .ref m40, .int s_isBroken, .ref m41, .int s_atoms, .ref m42])), (m19, .inl (ax 0, 6000, .inl pl)), (m20, .inl (ax 0, 2, .inl (fun j => nI (pd j)))), (m21, .inl (ax 0, 1200, .inl f))] sz) := by
  refine Met.ofW (cc := b_Model_putBy) (maxL := 4) (ret := (some .int)) (by decide) rfl ?_
  intro p e s m args below meth c s₁ B hml hv
  obtain ⟨rfl, hsz, hP, hK, hD0⟩ := hv
  have hx := B.exec
  have hb := B.bytes
  have hr := B.returns
  have hts := xw_hts B.pre
  have hown : s.vm.findClass R_Model = some m.cls := findClass_of_methodNamed B.named
  have hlocks := B.notSynchronized
  subst hsz
  have hD := hD0.self (sz := s.heap.size)
  have hN := xz_entry hP
  generalize hAe : va_A [(m0, .inr (11, [.int s_thrown, .int s_taped, .ref m1, .int s_size, .int s_outSize, .ref m2, .int s_kind, .int s_value, .int s_begin, .int s_end, .int s_failed, .ref m3, .ref m4, .ref m5, .int s_isProgram, .int (nI hf), .ref m6, .ref m7, .ref m8, .ref m9, .ref m10, .ref m11, .ref m12, .ref m13, .ref m14, .ref m15, .ref m16, .ref m17, .ref m18, .ref m19, .ref m20, .int (nI q), .ref m21, .int s_stacked, .ref m22, .int s_name, .int s_shift, .int s_statements, .int s_ifs, .int s_whiles, .int s_variants, .int s_open, .ref m23, .int s_isMade, .int s_conditions, .ref m24, .ref m25, .ref m26, .ref m27, .int s_kept, .ref m28, .int s_tops, .ref m29, .int s_used, .ref m30, .ref m31, .int s_looked, .int s_rows, .int s_firstRow, .ref m32, .ref m33, .ref m34, .ref m35, .ref m36, .ref m37, .ref m38, .ref m39, .ref m40, .int s_isBroken, .ref m41, .int s_atoms, .ref m42])), (m19, .inl (ax 0, 6000, .inl pl)), (m20, .inl (ax 0, 2, .inl (fun j => nI (pd j)))), (m21, .inl (ax 0, 1200, .inl f))] s.heap.size = A at hD hN ⊢
  have hA : ∀ q : Nat, s.heap.size ≤ q → A q := fun q h => by rw [← hAe]; exact Or.inr h
  have hS : va_S A s.heap s.heap [] := va_S.rf
  have hl0 := lv_entry ([.ref m0]) (n := 4) (Nat.le_of_ble_eq_true rfl)
  rw [lg_entry_eq]
  generalize (lg_sl ([.ref m0]) ++ List.replicate (4 - (lg_sl ([.ref m0])).length) Slot.unset).toArray = ls at hl0 ⊢
  have hl1 : lv_has ls 4 [(0, .ref m0)] := hl0
  refine xw_gen (fun Z9 hQe => ?_)
  refine lv_iconst (v := 1) hx hb d_Model_putBy_0 (by decide) ?_
  refine lv_aload_n hx hb d_Model_putBy_1 rfl (lv_at hl1 0 rfl) ?_
  refine va_get (D := D) (ci := 11) (v := .int (nI hf)) (C := R_Model) (T := F_Model) (N := 72) hx hb hts i_Model hown hK.1 hP 0 rfl rfl 15 (by decide) (hts _ wd_1051) (fun _ h9 => h9) rfl d_Model_putBy_2 ?_
  refine lv_isub hx hb d_Model_putBy_5 ?_
  refine lv_topi (fun z_1 ez_1 => ?_)
  have ez_1 : z_1 = nI (1 - hf) := ez_1.trans (pk_sub (a := 1) (b := hf) (by first | assumption | omega))
  subst ez_1
  refine lv_istore_n (lv' := [(1, .int (nI (1 - hf))), (0, .ref m0)]) hx hb d_Model_putBy_6 rfl hl1 (by decide) rfl (fun ls hl2 => ?_)
  clear hl1; have hl1 := hl2; clear hl2
  refine lv_sipush (v := 3000) hx hb d_Model_putBy_7 (by decide) ?_
  refine lv_iload_n hx hb d_Model_putBy_10 rfl (lv_at hl1 0 rfl) ?_
  refine lv_imul hx hb d_Model_putBy_11 ?_
  refine lv_topi (fun z_2 ez_2 => ?_)
  have ez_2 : z_2 = nI (3000 * (1 - hf)) := ez_2.trans (pk_mul 3000 (1 - hf))
  subst ez_2
  refine lv_bipush (v := 6) hx hb d_Model_putBy_12 (by decide) ?_
  refine lv_aload_n hx hb d_Model_putBy_14 rfl (lv_at hl1 1 rfl) ?_
  refine va_get (D := D) (ci := 11) (v := .ref m20) (C := R_Model) (T := F_Model) (N := 72) hx hb hts i_Model hown hK.1 hP 0 rfl rfl 30 (by decide) (hts _ wd_1066) (fun _ h9 => h9) rfl d_Model_putBy_15 ?_
  refine lv_iload_n hx hb d_Model_putBy_18 rfl (lv_at hl1 0 rfl) ?_
  refine va_iald hx hb hK.1 hP 2 0 rfl rfl (vp_in_nI (by first | assumption | omega) (by decide)) d_Model_putBy_19 ?_
  refine W.eq (g2 := F0 m 20 ls [.int (nI (pd (1 - hf))), .int 6, .int (nI (3000 * (1 - hf)))]) (by rw [nI_clamp (by first | exact Nat.lt_of_lt_of_le (by assumption) (by decide) | exact Nat.lt_of_le_of_lt (by assumption) (by decide) | omega)]) ?_
  refine lv_imul hx hb d_Model_putBy_20 ?_
  refine lv_topi (fun z_3 ez_3 => ?_)
  have ez_3 : z_3 = nI (6 * (pd (1 - hf))) := ez_3.trans (pk_mul 6 (pd (1 - hf)))
  subst ez_3
  refine lv_iadd hx hb d_Model_putBy_21 ?_
  refine lv_topi (fun z_4 ez_4 => ?_)
  have ez_4 : z_4 = nI (3000 * (1 - hf) + 6 * (pd (1 - hf))) := ez_4.trans (nI_add (3000 * (1 - hf)) (6 * (pd (1 - hf))))
  subst ez_4
  refine lv_istore_n (lv' := [(2, .int (nI (3000 * (1 - hf) + 6 * (pd (1 - hf))))), (1, .int (nI (1 - hf))), (0, .ref m0)]) hx hb d_Model_putBy_22 rfl hl1 (by decide) rfl (fun ls hl2 => ?_)
  clear hl1; have hl1 := hl2; clear hl2
  refine lv_iconst (v := 0) hx hb d_Model_putBy_23 (by decide) ?_
  refine lv_istore_n (lv' := [(3, .int 0), (2, .int (nI (3000 * (1 - hf) + 6 * (pd (1 - hf))))), (1, .int (nI (1 - hf))), (0, .ref m0)]) hx hb d_Model_putBy_24 rfl hl1 (by decide) rfl (fun ls hl2 => ?_)
  clear hl1; have hl1 := hl2; clear hl2
  suffices key_5 : ∀ (k : Nat) (i1 : Nat), 6 * q - i1 < k → i1 ≤ 6 * q → ∀ (H : Heap) (locs : List Loc) (ls : Array Slot), va_P D classes [(m0, .inr (11, [.int s_thrown, .int s_taped, .ref m1, .int s_size, .int s_outSize, .ref m2, .int s_kind, .int s_value, .int s_begin, .int s_end, .int s_failed, .ref m3, .ref m4, .ref m5, .int s_isProgram, .int (nI hf), .ref m6, .ref m7, .ref m8, .ref m9, .ref m10, .ref m11, .ref m12, .ref m13, .ref m14, .ref m15, .ref m16, .ref m17, .ref m18, .ref m19, .ref m20, .int (nI q), .ref m21, .int s_stacked, .ref m22, .int s_name, .int s_shift, .int s_statements, .int s_ifs, .int s_whiles, .int s_variants, .int s_open, .ref m23, .int s_isMade, .int s_conditions, .ref m24, .ref m25, .ref m26, .ref m27, .int s_kept, .ref m28, .int s_tops, .ref m29, .int s_used, .ref m30, .ref m31, .int s_looked, .int s_rows, .int s_firstRow, .ref m32, .ref m33, .ref m34, .ref m35, .ref m36, .ref m37, .ref m38, .ref m39, .ref m40, .int s_isBroken, .ref m41, .int s_atoms, .ref m42])), (m19, .inl (ax 0, 6000, .inl (cpf pl f (3000 * (1 - hf) + 6 * pd (1 - hf)) i1))), (m20, .inl (ax 0, 2, .inl (fun j => nI (pd j)))), (m21, .inl (ax 0, 1200, .inl f))] H → va_D A [(m0, .inr (11, [.int s_thrown, .int s_taped, .ref m1, .int s_size, .int s_outSize, .ref m2, .int s_kind, .int s_value, .int s_begin, .int s_end, .int s_failed, .ref m3, .ref m4, .ref m5, .int s_isProgram, .int (nI hf), .ref m6, .ref m7, .ref m8, .ref m9, .ref m10, .ref m11, .ref m12, .ref m13, .ref m14, .ref m15, .ref m16, .ref m17, .ref m18, .ref m19, .ref m20, .int (nI q), .ref m21, .int s_stacked, .ref m22, .int s_name, .int s_shift, .int s_statements, .int s_ifs, .int s_whiles, .int s_variants, .int s_open, .ref m23, .int s_isMade, .int s_conditions, .ref m24, .ref m25, .ref m26, .ref m27, .int s_kept, .ref m28, .int s_tops, .ref m29, .int s_used, .ref m30, .ref m31, .int s_looked, .int s_rows, .int s_firstRow, .ref m32, .ref m33, .ref m34, .ref m35, .ref m36, .ref m37, .ref m38, .ref m39, .ref m40, .int s_isBroken, .ref m41, .int s_atoms, .ref m42])), (m19, .inl (ax 0, 6000, .inl (cpf pl f (3000 * (1 - hf) + 6 * pd (1 - hf)) i1))), (m20, .inl (ax 0, 2, .inl (fun j => nI (pd j)))), (m21, .inl (ax 0, 1200, .inl f))] → va_S A s.heap H locs → lv_has ls 4 [(0, .ref m0), (1, .int (nI (1 - hf))), (2, .int (nI (3000 * (1 - hf) + 6 * pd (1 - hf)))), (3, .int (nI i1))] → W p l e (headSpec (xws (.code y_Model_putBy b_Model_putBy 4 (some .int))) ({ frames := 10, cells := 0, slots := 0, locals := 400 })).room s m ([.ref m0] : List Value).toArray below meth c H locs 0 0 Z9 (F0 m 25 ls []) from key_5 (6 * q - 0 + 1) 0 (Nat.lt_succ_self _) (by first | assumption | omega) _ _ _ (by rw [cpf_0]; exact hP.sub [0, 1, 2, 3] rfl) (by rw [cpf_0]; exact hD.sub [0, 1, 2, 3] (by decide) rfl) hS (lv_sub hl1 [3, 2, 1, 0] rfl)
  intro k_6
  induction k_6 with
  | zero =>
    intro i1 hk_8
    exact absurd hk_8 (Nat.not_lt_zero _)
  | succ k_6 ih_7 =>
    clear hP hD hS hl1
    intro i1 hk_8 hi1 H locs ls hP hD hS hl1
    refine lv_iload_n hx hb d_Model_putBy_25 rfl (lv_at hl1 3 rfl) ?_
    refine lv_bipush (v := 6) hx hb d_Model_putBy_26 (by decide) ?_
    refine lv_aload_n hx hb d_Model_putBy_28 rfl (lv_at hl1 0 rfl) ?_
    refine va_get (D := D) (ci := 11) (v := .int (nI q)) (C := R_Model) (T := F_Model) (N := 72) hx hb hts i_Model hown hK.1 hP 0 rfl rfl 31 (by decide) (hts _ wd_1067) (fun _ h9 => h9) rfl d_Model_putBy_29 ?_
    refine lv_imul hx hb d_Model_putBy_32 ?_
    refine lv_topi (fun z_9 ez_9 => ?_)
    have ez_9 : z_9 = nI (6 * q) := ez_9.trans (pk_mul 6 q)
    subst ez_9
    refine lv_icmp_ge (tgt := 56) hx hb d_Model_putBy_33 (by decide) (fun c_10 => ?_) (fun c_10 => ?_)
    · replace c_10 : 6 * q ≤ i1 := (nI_leI (a := 6 * q) (b := i1) (by first | exact Nat.lt_of_lt_of_le (by assumption) (by decide) | exact Nat.lt_of_le_of_lt (by assumption) (by decide) | omega) (by first | exact Nat.lt_of_lt_of_le (by assumption) (by decide) | exact Nat.lt_of_le_of_lt (by assumption) (by decide) | omega)).mp c_10
      rw [show i1 = 6 * q by omega] at hP hD
      have hP7 := hP; have hD7 := hD; clear hP hD
      have hW7 : (fun w9 : va_W => va_P D classes w9 H ∧ va_D A w9) [(m0, .inr (11, [.int s_thrown, .int s_taped, .ref m1, .int s_size, .int s_outSize, .ref m2, .int s_kind, .int s_value, .int s_begin, .int s_end, .int s_failed, .ref m3, .ref m4, .ref m5, .int s_isProgram, .int (nI hf), .ref m6, .ref m7, .ref m8, .ref m9, .ref m10, .ref m11, .ref m12, .ref m13, .ref m14, .ref m15, .ref m16, .ref m17, .ref m18, .ref m19, .ref m20, .int (nI q), .ref m21, .int s_stacked, .ref m22, .int s_name, .int s_shift, .int s_statements, .int s_ifs, .int s_whiles, .int s_variants, .int s_open, .ref m23, .int s_isMade, .int s_conditions, .ref m24, .ref m25, .ref m26, .ref m27, .int s_kept, .ref m28, .int s_tops, .ref m29, .int s_used, .ref m30, .ref m31, .int s_looked, .int s_rows, .int s_firstRow, .ref m32, .ref m33, .ref m34, .ref m35, .ref m36, .ref m37, .ref m38, .ref m39, .ref m40, .int s_isBroken, .ref m41, .int s_atoms, .ref m42])), (m19, .inl (ax 0, 6000, .inl (cpf pl f (3000 * (1 - hf) + 6 * pd (1 - hf)) (6 * q)))), (m20, .inl (ax 0, 2, .inl (fun j => nI (pd j)))), (m21, .inl (ax 0, 1200, .inl f))] := ⟨hP7, hD7⟩
      obtain ⟨hP, hD⟩ := hW7
      clear hP7 hD7
      refine lv_aload_n hx hb d_Model_putBy_56 rfl (lv_at hl1 0 rfl) ?_
      refine va_get (D := D) (ci := 11) (v := .ref m20) (C := R_Model) (T := F_Model) (N := 72) hx hb hts i_Model hown hK.1 hP 0 rfl rfl 30 (by decide) (hts _ wd_1066) (fun _ h9 => h9) rfl d_Model_putBy_57 ?_
      refine lv_iload_n hx hb d_Model_putBy_60 rfl (lv_at hl1 1 rfl) ?_
      refine lv_aload_n hx hb d_Model_putBy_61 rfl (lv_at hl1 0 rfl) ?_
      refine va_get (D := D) (ci := 11) (v := .ref m20) (C := R_Model) (T := F_Model) (N := 72) hx hb hts i_Model hown hK.1 hP 0 rfl rfl 30 (by decide) (hts _ wd_1066) (fun _ h9 => h9) rfl d_Model_putBy_62 ?_
      refine lv_iload_n hx hb d_Model_putBy_65 rfl (lv_at hl1 1 rfl) ?_
      refine va_iald hx hb hK.1 hP 2 0 rfl rfl (vp_in_nI (by first | assumption | omega) (by decide)) d_Model_putBy_66 ?_
      refine W.eq (g2 := F0 m 67 ls [.int (nI (pd (1 - hf))), .int (nI (1 - hf)), .ref m20]) (by rw [nI_clamp (by first | exact Nat.lt_of_lt_of_le (by assumption) (by decide) | exact Nat.lt_of_le_of_lt (by assumption) (by decide) | omega)]) ?_
      refine lv_aload_n hx hb d_Model_putBy_67 rfl (lv_at hl1 0 rfl) ?_
      refine va_get (D := D) (ci := 11) (v := .int (nI q)) (C := R_Model) (T := F_Model) (N := 72) hx hb hts i_Model hown hK.1 hP 0 rfl rfl 31 (by decide) (hts _ wd_1067) (fun _ h9 => h9) rfl d_Model_putBy_68 ?_
      refine lv_iadd hx hb d_Model_putBy_71 ?_
      refine lv_topi (fun z_11 ez_11 => ?_)
      have ez_11 : z_11 = nI (pd (1 - hf) + q) := ez_11.trans (nI_add (pd (1 - hf)) q)
      subst ez_11
      refine va_iast hx hb hK.1 hP hD hS 2 0 rfl rfl (vp_in_nI (by first | assumption | omega) (by decide)) d_Model_putBy_72 (fun H_12 locs hP1 hD1 hS1 => ?_)
      rw [nI_clamp (by first | exact Nat.lt_of_lt_of_le (by assumption) (by decide) | exact Nat.lt_of_le_of_lt (by assumption) (by decide) | omega)] at hP1 hD1
      rw [xf_sup pd (1 - hf) (pd (1 - hf) + q)] at hP1 hD1
      clear hP hD hS
      have hS := hS1
      have hW7 : (fun w9 : va_W => va_P D classes w9 H_12 ∧ va_D A w9) [(m0, .inr (11, [.int s_thrown, .int s_taped, .ref m1, .int s_size, .int s_outSize, .ref m2, .int s_kind, .int s_value, .int s_begin, .int s_end, .int s_failed, .ref m3, .ref m4, .ref m5, .int s_isProgram, .int (nI hf), .ref m6, .ref m7, .ref m8, .ref m9, .ref m10, .ref m11, .ref m12, .ref m13, .ref m14, .ref m15, .ref m16, .ref m17, .ref m18, .ref m19, .ref m20, .int (nI q), .ref m21, .int s_stacked, .ref m22, .int s_name, .int s_shift, .int s_statements, .int s_ifs, .int s_whiles, .int s_variants, .int s_open, .ref m23, .int s_isMade, .int s_conditions, .ref m24, .ref m25, .ref m26, .ref m27, .int s_kept, .ref m28, .int s_tops, .ref m29, .int s_used, .ref m30, .ref m31, .int s_looked, .int s_rows, .int s_firstRow, .ref m32, .ref m33, .ref m34, .ref m35, .ref m36, .ref m37, .ref m38, .ref m39, .ref m40, .int s_isBroken, .ref m41, .int s_atoms, .ref m42])), (m19, .inl (ax 0, 6000, .inl (cpf pl f (3000 * (1 - hf) + 6 * pd (1 - hf)) (6 * q)))), (m20, .inl (ax 0, 2, .inl (fun j => nI (sup pd (1 - hf) (pd (1 - hf) + q) j)))), (m21, .inl (ax 0, 1200, .inl f))] := ⟨hP1, hD1⟩
      obtain ⟨hP, hD⟩ := hW7
      clear hP1 hD1 hS1
      refine lv_iload_n hx hb d_Model_putBy_73 rfl (lv_at hl1 2 rfl) ?_
      rw [← hQe]
      obtain ⟨hP9, hD9⟩ := xw_sub2 (wc := (fun u : Nat → Nat => [(m0, .inr (11, [.int s_thrown, .int s_taped, .ref m1, .int s_size, .int s_outSize, .ref m2, .int s_kind, .int s_value, .int s_begin, .int s_end, .int s_failed, .ref m3, .ref m4, .ref m5, .int s_isProgram, .int (nI hf), .ref m6, .ref m7, .ref m8, .ref m9, .ref m10, .ref m11, .ref m12, .ref m13, .ref m14, .ref m15, .ref m16, .ref m17, .ref m18, .ref m19, .ref m20, .int (nI q), .ref m21, .int s_stacked, .ref m22, .int s_name, .int s_shift, .int s_statements, .int s_ifs, .int s_whiles, .int s_variants, .int s_open, .ref m23, .int s_isMade, .int s_conditions, .ref m24, .ref m25, .ref m26, .ref m27, .int s_kept, .ref m28, .int s_tops, .ref m29, .int s_used, .ref m30, .ref m31, .int s_looked, .int s_rows, .int s_firstRow, .ref m32, .ref m33, .ref m34, .ref m35, .ref m36, .ref m37, .ref m38, .ref m39, .ref m40, .int s_isBroken, .ref m41, .int s_atoms, .ref m42])), (m19, .inl (ax 0, 6000, .inl (cpf pl f (3000 * (1 - hf) + 6 * pd (1 - hf)) (6 * q)))), (m20, .inl (ax 0, 2, .inl (fun j => nI (sup pd (1 - hf) (pd (1 - hf) + q) j)))), (m21, .inl (ax 0, 1200, .inl f))]) (ixn [])) hP hD [0, 1, 2, 3] (by decide) rfl
      exact W.iret (v := nI (3000 * (1 - hf) + 6 * pd (1 - hf))) hx hb hr (fun t ht hW => ⟨⟨nI (3000 * (1 - hf) + 6 * pd (1 - hf)), ixn [], rfl, rfl, ⟨by rw [ht]; exact hP9, hD9⟩⟩, hS.F ht⟩) hS.2.2 d_Model_putBy_74
    · replace c_10 : ¬ 6 * q ≤ i1 := fun hq9 => c_10 ((nI_leI (a := 6 * q) (b := i1) (by first | exact Nat.lt_of_lt_of_le (by assumption) (by decide) | exact Nat.lt_of_le_of_lt (by assumption) (by decide) | omega) (by first | exact Nat.lt_of_lt_of_le (by assumption) (by decide) | exact Nat.lt_of_le_of_lt (by assumption) (by decide) | omega)).mpr hq9)
      refine lv_aload_n hx hb d_Model_putBy_36 rfl (lv_at hl1 0 rfl) ?_
      refine va_get (D := D) (ci := 11) (v := .ref m19) (C := R_Model) (T := F_Model) (N := 72) hx hb hts i_Model hown hK.1 hP 0 rfl rfl 29 (by decide) (hts _ wd_1065) (fun _ h9 => h9) rfl d_Model_putBy_37 ?_
      refine lv_iload_n hx hb d_Model_putBy_40 rfl (lv_at hl1 2 rfl) ?_
      refine lv_iload_n hx hb d_Model_putBy_41 rfl (lv_at hl1 3 rfl) ?_
      refine lv_iadd hx hb d_Model_putBy_42 ?_
      refine lv_topi (fun z_13 ez_13 => ?_)
      have ez_13 : z_13 = nI (3000 * (1 - hf) + 6 * pd (1 - hf) + i1) := ez_13.trans (nI_add (3000 * (1 - hf) + 6 * pd (1 - hf)) i1)
      subst ez_13
      refine lv_aload_n hx hb d_Model_putBy_43 rfl (lv_at hl1 0 rfl) ?_
      refine va_get (D := D) (ci := 11) (v := .ref m21) (C := R_Model) (T := F_Model) (N := 72) hx hb hts i_Model hown hK.1 hP 0 rfl rfl 32 (by decide) (hts _ wd_1068) (fun _ h9 => h9) rfl d_Model_putBy_44 ?_
      refine lv_iload_n hx hb d_Model_putBy_47 rfl (lv_at hl1 3 rfl) ?_
      refine va_iald hx hb hK.1 hP 3 0 rfl rfl (vp_in_nI (by first | assumption | omega) (by decide)) d_Model_putBy_48 ?_
      refine W.eq (g2 := F0 m 49 ls [.int (f i1), .int (nI (3000 * (1 - hf) + 6 * pd (1 - hf) + i1)), .ref m19]) (by rw [nI_clamp (by first | exact Nat.lt_of_lt_of_le (by assumption) (by decide) | exact Nat.lt_of_le_of_lt (by assumption) (by decide) | omega)]) ?_
      refine va_iast hx hb hK.1 hP hD hS 1 0 rfl rfl (vp_in_nI (by first | assumption | omega) (by decide)) d_Model_putBy_49 (fun H_14 locs hP1 hD1 hS1 => ?_)
      rw [nI_clamp (by first | exact Nat.lt_of_lt_of_le (by assumption) (by decide) | exact Nat.lt_of_le_of_lt (by assumption) (by decide) | omega)] at hP1 hD1
      clear hP hD hS
      have hS := hS1
      have hW7 : (fun w9 : va_W => va_P D classes w9 H_14 ∧ va_D A w9) [(m0, .inr (11, [.int s_thrown, .int s_taped, .ref m1, .int s_size, .int s_outSize, .ref m2, .int s_kind, .int s_value, .int s_begin, .int s_end, .int s_failed, .ref m3, .ref m4, .ref m5, .int s_isProgram, .int (nI hf), .ref m6, .ref m7, .ref m8, .ref m9, .ref m10, .ref m11, .ref m12, .ref m13, .ref m14, .ref m15, .ref m16, .ref m17, .ref m18, .ref m19, .ref m20, .int (nI q), .ref m21, .int s_stacked, .ref m22, .int s_name, .int s_shift, .int s_statements, .int s_ifs, .int s_whiles, .int s_variants, .int s_open, .ref m23, .int s_isMade, .int s_conditions, .ref m24, .ref m25, .ref m26, .ref m27, .int s_kept, .ref m28, .int s_tops, .ref m29, .int s_used, .ref m30, .ref m31, .int s_looked, .int s_rows, .int s_firstRow, .ref m32, .ref m33, .ref m34, .ref m35, .ref m36, .ref m37, .ref m38, .ref m39, .ref m40, .int s_isBroken, .ref m41, .int s_atoms, .ref m42])), (m19, .inl (ax 0, 6000, .inl (upd (cpf pl f (3000 * (1 - hf) + 6 * pd (1 - hf)) i1) (3000 * (1 - hf) + 6 * pd (1 - hf) + i1) (f i1)))), (m20, .inl (ax 0, 2, .inl (fun j => nI (pd j)))), (m21, .inl (ax 0, 1200, .inl f))] := ⟨hP1, hD1⟩
      obtain ⟨hP, hD⟩ := hW7
      clear hP1 hD1 hS1
      refine lv_iinc (v := nI (i1 + 1)) (lv' := [(3, .int (nI (i1 + 1))), (0, .ref m0), (1, .int (nI (1 - hf))), (2, .int (nI (3000 * (1 - hf) + 6 * pd (1 - hf))))]) hx hb d_Model_putBy_50 hl1 (k := 3) rfl (nI_add i1 1) (by decide) rfl (fun ls hl2 => ?_)
      clear hl1; have hl1 := hl2; clear hl2
      refine lv_goto (tgt := 25) hx hb d_Model_putBy_53 (by decide) ?_
      rw [cpf_upd pl f (3000 * (1 - hf) + 6 * pd (1 - hf)) i1] at hP hD
      exact ih_7 (i1 + 1) (by first | assumption | omega) (by first | assumption | omega) _ _ _ (hP.sub [0, 1, 2, 3] rfl) (hD.sub [0, 1, 2, 3] (by decide) rfl) hS (lv_sub hl1 [1, 2, 3, 0] rfl)
