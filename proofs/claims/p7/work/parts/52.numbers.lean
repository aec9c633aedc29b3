theorem ps_52 : Cond.selects "TripleDeskModel" ⟨"TripleDeskModel", "byteAt", "(I)I"⟩ ⟨"TripleDeskModel", "byteAt", "(I)I"⟩ ∈ lw_gd := ps_in (q := (⟨"TripleDeskModel", "byteAt", "(I)I"⟩, 72)) (i := 52) (by decide +kernel)
theorem wd_15 : ((Jvm.Cond.initialized "TripleDeskModel")) ∈ lw_gd := lw_gd_in (i := 15) (by decide +kernel) rfl
theorem wd_1042 : ((Jvm.Cond.fieldLink "TripleDeskModel" (178 : Nat) "TripleDeskModel" "kind" "I")) ∈ lw_gd := lw_gd_in (i := 1042) (by decide +kernel) rfl
theorem wd_1043 : ((Jvm.Cond.fieldLink "TripleDeskModel" (181 : Nat) "TripleDeskModel" "value" "I")) ∈ lw_gd := lw_gd_in (i := 1043) (by decide +kernel) rfl
theorem wd_1044 : ((Jvm.Cond.fieldLink "TripleDeskModel" (175 : Nat) "TripleDeskModel" "begin" "I")) ∈ lw_gd := lw_gd_in (i := 1044) (by decide +kernel) rfl
theorem wd_1045 : ((Jvm.Cond.fieldLink "TripleDeskModel" (164 : Nat) "TripleDeskModel" "end" "I")) ∈ lw_gd := lw_gd_in (i := 1045) (by decide +kernel) rfl
theorem wd_1279 : ((Jvm.Cond.methodLink "TripleDeskModel" (167 : Nat) ({ cls := "TripleDeskModel", name := "byteAt", desc := "(I)I" } : Jvm.MethodName))) ∈ lw_gd := lw_gd_in (i := 1279) (by decide +kernel) rfl
theorem wd_1281 : ((Jvm.Cond.instanceMethod ({ cls := "TripleDeskModel", name := "byteAt", desc := "(I)I" } : Jvm.MethodName))) ∈ lw_gd := lw_gd_in (i := 1281) (by decide +kernel) rfl
theorem wd_1282 : ((Jvm.Cond.code ({ cls := "TripleDeskModel", name := "byteAt", desc := "(I)I" } : Jvm.MethodName) prog_13_method_7_code (2 : Nat) (Option.some Jvm.ClassFile.FieldType.int))) ∈ lw_gd := lw_gd_in (i := 1282) (by decide +kernel) rfl
theorem wd_1298 : ((Jvm.Cond.methodLink "TripleDeskModel" (187 : Nat) ({ cls := "TripleDeskModel", name := "isDigit", desc := "(I)Z" } : Jvm.MethodName))) ∈ lw_gd := lw_gd_in (i := 1298) (by decide +kernel) rfl
theorem wd_1299 : ((Jvm.Cond.static ({ cls := "TripleDeskModel", name := "isDigit", desc := "(I)Z" } : Jvm.MethodName))) ∈ lw_gd := lw_gd_in (i := 1299) (by decide +kernel) rfl
theorem wd_1300 : ((Jvm.Cond.code ({ cls := "TripleDeskModel", name := "isDigit", desc := "(I)Z" } : Jvm.MethodName) prog_13_method_6_code (1 : Nat) (Option.some Jvm.ClassFile.FieldType.boolean))) ∈ lw_gd := lw_gd_in (i := 1300) (by decide +kernel) rfl
def dgE (g : Nat → Nat) (n : Nat) : Nat → Nat → Nat
  | 0, q => q
  | k + 1, q => if 48 ≤ bt g n q ∧ bt g n q ≤ 57 then dgE g n k (q + 1) else q
def dgV (g : Nat → Nat) (n : Nat) : Nat → Nat → Nat → Nat
  | 0, _, v => v
  | k + 1, q, v => if 48 ≤ bt g n q ∧ bt g n q ≤ 57 then dgV g n k (q + 1) (if v < 1000 then 10 * v + g q - 48 else v) else v
theorem dg_in {g : Nat → Nat} {n q : Nat} (h : 48 ≤ bt g n q ∧ bt g n q ≤ 57) : q < n := by
  rcases Nat.lt_or_ge q n with h1 | h1
  · exact h1
  · rw [bt_out h1] at h; omega
theorem dgE_stop {g : Nat → Nat} {n q : Nat} (h : ¬ (48 ≤ bt g n q ∧ bt g n q ≤ 57)) (k : Nat) : dgE g n k q = q := by
  cases k with
  | zero => rfl
  | succ k => exact if_neg h
theorem dgV_stop {g : Nat → Nat} {n q : Nat} (h : ¬ (48 ≤ bt g n q ∧ bt g n q ≤ 57)) (k v : Nat) : dgV g n k q v = v := by
  cases k with
  | zero => rfl
  | succ k => exact if_neg h
theorem dgE_step {g : Nat → Nat} {n q : Nat} (h : 48 ≤ bt g n q ∧ bt g n q ≤ 57) : dgE g n (n - q) q = dgE g n (n - (q + 1)) (q + 1) := by
  have h1 := dg_in h
  rw [show n - q = (n - (q + 1)) + 1 by omega]
  exact if_pos h
theorem dgV_step {g : Nat → Nat} {n q v : Nat} (h : 48 ≤ bt g n q ∧ bt g n q ≤ 57) : dgV g n (n - q) q v = dgV g n (n - (q + 1)) (q + 1) (if v < 1000 then 10 * v + g q - 48 else v) := by
  have h1 := dg_in h
  rw [show n - q = (n - (q + 1)) + 1 by omega]
  exact if_pos h
theorem dgE_le {g : Nat → Nat} {n : Nat} : ∀ (k q : Nat), q ≤ n → dgE g n k q ≤ n ∧ q ≤ dgE g n k q := by
  intro k
  induction k with
  | zero => intro q h; exact ⟨h, Nat.le_refl _⟩
  | succ k ih =>
    intro q h
    by_cases hd : 48 ≤ bt g n q ∧ bt g n q ≤ 57
    · have h1 := dg_in hd
      have h2 := ih (q + 1) (by omega)
      have e : dgE g n (k + 1) q = dgE g n k (q + 1) := if_pos hd
      rw [e]; omega
    · rw [dgE_stop hd]; exact ⟨h, Nat.le_refl _⟩
abbrev b_Model_readNumber : ByteArray := prog_13_method_10_code
def y_Model_readNumber : MethodName := ⟨R_Model, "readNumber", "()V"⟩
theorem d_Model_readNumber_0 : decode b_Model_readNumber 0 = .ok (.aload_n 0, 1) := by decide +kernel
theorem d_Model_readNumber_1 : decode b_Model_readNumber 1 = .ok (.iconst 0, 1) := by decide +kernel
theorem d_Model_readNumber_2 : decode b_Model_readNumber 2 = .ok (.putfield 181, 3) := by decide +kernel
theorem d_Model_readNumber_5 : decode b_Model_readNumber 5 = .ok (.aload_n 0, 1) := by decide +kernel
theorem d_Model_readNumber_6 : decode b_Model_readNumber 6 = .ok (.aload_n 0, 1) := by decide +kernel
theorem d_Model_readNumber_7 : decode b_Model_readNumber 7 = .ok (.getfield 164, 3) := by decide +kernel
theorem d_Model_readNumber_10 : decode b_Model_readNumber 10 = .ok (.invokevirtual 167, 3) := by decide +kernel
theorem d_Model_readNumber_13 : decode b_Model_readNumber 13 = .ok (.invokestatic 187, 3) := by decide +kernel
theorem d_Model_readNumber_16 : decode b_Model_readNumber 16 = .ok (.ifCond .eq 57, 3) := by decide +kernel
theorem d_Model_readNumber_19 : decode b_Model_readNumber 19 = .ok (.aload_n 0, 1) := by decide +kernel
theorem d_Model_readNumber_20 : decode b_Model_readNumber 20 = .ok (.aload_n 0, 1) := by decide +kernel
theorem d_Model_readNumber_21 : decode b_Model_readNumber 21 = .ok (.getfield 181, 3) := by decide +kernel
theorem d_Model_readNumber_24 : decode b_Model_readNumber 24 = .ok (.sipush 1000, 3) := by decide +kernel
theorem d_Model_readNumber_27 : decode b_Model_readNumber 27 = .ok (.if_icmp .ge 26, 3) := by decide +kernel
theorem d_Model_readNumber_30 : decode b_Model_readNumber 30 = .ok (.bipush 10, 2) := by decide +kernel
theorem d_Model_readNumber_32 : decode b_Model_readNumber 32 = .ok (.aload_n 0, 1) := by decide +kernel
theorem d_Model_readNumber_33 : decode b_Model_readNumber 33 = .ok (.getfield 181, 3) := by decide +kernel
theorem d_Model_readNumber_36 : decode b_Model_readNumber 36 = .ok (.imul, 1) := by decide +kernel
theorem d_Model_readNumber_37 : decode b_Model_readNumber 37 = .ok (.aload_n 0, 1) := by decide +kernel
theorem d_Model_readNumber_38 : decode b_Model_readNumber 38 = .ok (.getfield 7, 3) := by decide +kernel
theorem d_Model_readNumber_41 : decode b_Model_readNumber 41 = .ok (.aload_n 0, 1) := by decide +kernel
theorem d_Model_readNumber_42 : decode b_Model_readNumber 42 = .ok (.getfield 164, 3) := by decide +kernel
theorem d_Model_readNumber_45 : decode b_Model_readNumber 45 = .ok (.iaload, 1) := by decide +kernel
theorem d_Model_readNumber_46 : decode b_Model_readNumber 46 = .ok (.iadd, 1) := by decide +kernel
theorem d_Model_readNumber_47 : decode b_Model_readNumber 47 = .ok (.bipush 48, 2) := by decide +kernel
theorem d_Model_readNumber_49 : decode b_Model_readNumber 49 = .ok (.isub, 1) := by decide +kernel
theorem d_Model_readNumber_50 : decode b_Model_readNumber 50 = .ok (.goto 7, 3) := by decide +kernel
theorem d_Model_readNumber_53 : decode b_Model_readNumber 53 = .ok (.aload_n 0, 1) := by decide +kernel
theorem d_Model_readNumber_54 : decode b_Model_readNumber 54 = .ok (.getfield 181, 3) := by decide +kernel
theorem d_Model_readNumber_57 : decode b_Model_readNumber 57 = .ok (.putfield 181, 3) := by decide +kernel
theorem d_Model_readNumber_60 : decode b_Model_readNumber 60 = .ok (.aload_n 0, 1) := by decide +kernel
theorem d_Model_readNumber_61 : decode b_Model_readNumber 61 = .ok (.dup, 1) := by decide +kernel
theorem d_Model_readNumber_62 : decode b_Model_readNumber 62 = .ok (.getfield 164, 3) := by decide +kernel
theorem d_Model_readNumber_65 : decode b_Model_readNumber 65 = .ok (.iconst 1, 1) := by decide +kernel
theorem d_Model_readNumber_66 : decode b_Model_readNumber 66 = .ok (.iadd, 1) := by decide +kernel
theorem d_Model_readNumber_67 : decode b_Model_readNumber 67 = .ok (.putfield 164, 3) := by decide +kernel
theorem d_Model_readNumber_70 : decode b_Model_readNumber 70 = .ok (.goto (-65), 3) := by decide +kernel
theorem d_Model_readNumber_73 : decode b_Model_readNumber 73 = .ok (.aload_n 0, 1) := by decide +kernel
theorem d_Model_readNumber_74 : decode b_Model_readNumber 74 = .ok (.aload_n 0, 1) := by decide +kernel
theorem d_Model_readNumber_75 : decode b_Model_readNumber 75 = .ok (.getfield 164, 3) := by decide +kernel
theorem d_Model_readNumber_78 : decode b_Model_readNumber 78 = .ok (.aload_n 0, 1) := by decide +kernel
theorem d_Model_readNumber_79 : decode b_Model_readNumber 79 = .ok (.getfield 175, 3) := by decide +kernel
theorem d_Model_readNumber_82 : decode b_Model_readNumber 82 = .ok (.isub, 1) := by decide +kernel
theorem d_Model_readNumber_83 : decode b_Model_readNumber 83 = .ok (.iconst 3, 1) := by decide +kernel
theorem d_Model_readNumber_84 : decode b_Model_readNumber 84 = .ok (.if_icmp .le 7, 3) := by decide +kernel
theorem d_Model_readNumber_87 : decode b_Model_readNumber 87 = .ok (.iconst 1, 1) := by decide +kernel
theorem d_Model_readNumber_88 : decode b_Model_readNumber 88 = .ok (.goto 4, 3) := by decide +kernel
theorem d_Model_readNumber_91 : decode b_Model_readNumber 91 = .ok (.iconst 3, 1) := by decide +kernel
theorem d_Model_readNumber_92 : decode b_Model_readNumber 92 = .ok (.putfield 178, 3) := by decide +kernel
theorem d_Model_readNumber_95 : decode b_Model_readNumber 95 = .ok (.return_, 1) := by decide +kernel
set_option maxHeartbeats 40000000 in
set_option maxRecDepth 100000 in
theorem c_M_readNumber (l : Launch) (D : va_G) (ax : Nat → ClassId) (m0 m1 m2 m3 m4 m5 m6 m7 m8 m9 m10 m11 m12 m13 m14 m15 m16 m17 m18 m19 m20 m21 m22 m23 m24 m25 m26 m27 m28 m29 m30 m31 m32 m33 m34 m35 m36 m37 m38 m39 m40 m41 m42 : Nat) (s_thrown s_taped s_outSize s_kind s_value s_failed s_isProgram s_half s_signs s_stacked s_name s_shift s_statements s_ifs s_whiles s_variants s_open s_isMade s_conditions s_kept s_tops s_used s_looked s_rows s_firstRow s_isBroken s_atoms : Int32) (n en b : Nat) (g : Nat → Nat) (sz : Nat) (hn : n ≤ 400) (hen : en ≤ n) (hb0 : b ≤ en) (hg : ∀ j, g j < 256) : Met l y_Model_readNumber (xws (.code y_Model_readNumber b_Model_readNumber 1 none)) ({ frames := 20, cells := 0, slots := 0, locals := 800 }) (va_Pc [.ref m0] (xo D ax [(m0, .inr (11, [.int s_thrown, .int s_taped, .ref m1, .int (nI n), .int s_outSize, .ref m2, .int s_kind, .int s_value, .int (nI b), .int (nI en), .int s_failed, .ref m3, .ref m4, .ref m5, .int s_isProgram, .int s_half, .ref m6, .ref m7, .ref m8, .ref m9, .ref m10, .ref m11, .ref m12, .ref m13, .ref m14, .ref m15, .ref m16, .ref m17, .ref m18, .ref m19, .ref m20, .int s_signs, .ref m21, .int s_stacked, .ref m22, .int s_name, .int s_shift, .int s_statements, .int s_ifs, .int s_whiles, .int s_variants, .int s_open, .ref m23, .int s_isMade, .int s_conditions, .ref m24, .ref m25, .ref m26, .ref m27, .int s_kept, .ref m28, .int s_tops, .ref m29, .int s_used, .ref m30, .ref m31, .int s_looked, .int s_rows, .int s_firstRow, .ref m32, .ref m33, .ref m34, .ref m35, .ref m36, .ref m37, .ref m38, .ref m39, .ref m40, .int s_isBroken, .ref m41, .int s_atoms, .ref m42])), (m1, .inl (ax 0, 400, .inl (fun j => nI (g j))))] sz)) ((va_Qv (fun (u : Nat → Nat) => (u 0 = (if dgE g n (n - en) en - b ≤ 3 then 3 else 1))) (xb D (va_A [(m0, .inr (11, [.int s_thrown, .int s_taped, .ref m1, .int (nI n), .int s_outSize, .ref m2, .int s_kind, .int s_value, .int (nI b), .int (nI en), .int s_failed, .ref m3, .ref m4, .ref m5, .int s_isProgram, .int s_half, .ref m6, .ref m7, .ref m8, .ref m9, .ref m10, .ref m11, .ref m12, .ref m13, .ref m14, .ref m15, .ref m16, .ref m17, .ref m18, .ref m19, .ref m20, .int s_signs, .ref m21, .int s_stacked, .ref m22, .int s_name, .int s_shift, .int s_statements, .int s_ifs, .int s_whiles, .int s_variants, .int s_open, .ref m23, .int s_isMade, .int s_conditions, .ref m24, .ref m25, .ref m26, .ref m27, .int s_kept, .ref m28, .int s_tops, .ref m29, .int s_used, .ref m30, .ref m31, .int s_looked, .int s_rows, .int s_firstRow, .ref m32, .ref m33, .ref m34, .ref m35, .ref m36, .ref m37, .ref m38, .ref m39, .ref m40, .int s_isBroken, .ref m41, .int s_atoms, .ref m42])), (m1, .inl (ax 0, 400, .inl (fun j => nI (g j))))] sz) (fun u => [(m0, .inr (11, [.int s_thrown, .int s_taped, .ref m1, .int (nI n), .int s_outSize, .ref m2, .int (nI (u 0)), .int (nI (dgV g n (n - en) en 0)), .int (nI b), .int (nI (dgE g n (n - en) en)), .int s_failed, .ref m3, .ref m4, .ref m5, .int s_isProgram, .int s_half, .ref m6, .ref m7, .ref m8, .ref m9, .ref m10, .ref m11, .ref m12, .ref m13, .ref m14, .ref m15, .ref m16, .ref m17, .ref m18, .ref m19, .ref m20, .int s_signs, .ref m21, .int s_stacked, .ref m22, .int s_name, .int s_shift, .int s_statements, .int s_ifs, .int s_whiles, .int s_variants, .int s_open, .ref m23, .int s_isMade, .int s_conditions, .ref m24, .ref m25, .ref m26, .ref m27, .int s_kept, .ref m28, .int s_tops, .ref m29, .int s_used, .ref m30, .ref m31, .int s_looked, .int s_rows, .int s_firstRow, .ref m32, .ref m33, .ref m34, .ref m35, .ref m36, .ref m37, .ref m38, .ref m39, .ref m40, .int s_isBroken, .ref m41, .int s_atoms, .ref m42])), (m1, .inl (ax 0, 400, .inl (fun j => nI (g j))))])) (va_A [(m0, .inr (11, [.int s_thrown, .int s_taped, .ref m1, .int (nI n), .int s_outSize, .ref m2, .int s_kind, .int s_value, .int (nI b), .int (nI en), .int s_failed, .ref m3, .ref m4, .ref m5, .int s_isProgram, .int s_half, .ref m6, .ref m7, .ref m8, .ref m9, .ref m10, .ref m11, .ref m12, .ref m13, .ref m14, .ref m15, .ref m16, .ref m17, .ref m18, .ref m19, .ref m20, .int s_signs, .ref m21, .int s_stacked, .ref m22, .int s_name, .int s_shift, .int s_statements, .int s_ifs, .int s_whiles, .int s_variants, .int s_open, .ref m23, .int s_isMade, .int s_conditions, .ref m24, .ref m25, .ref m26, .ref m27, .int s_kept, .ref m28, .int s_tops, .ref m29, .int s_used, .ref m30, .ref m31, .int s_looked, .int s_rows, .int s_firstRow, .ref m32, .ref m33, .ref m34, .ref m35, .ref m36, .ref m37, .ref m38, .ref m39, .ref m40, .int s_isBroken, .ref m41, .int s_atoms, .ref m42])), (m1, .inl (ax 0, 400, .inl (fun j => nI (g j))))] sz))) 0 0 (va_A [(m0, .inr (11, [.int s_thrown, .int s_taped, .ref m1, .int (nI n), .int s_outSize, .ref m2, .int s_kind, .int s_value, .int (nI b), .int (nI en), .int s_failed, .ref m3, .ref m4, .ref m5, .int s_isProgram, .int s_half, .ref m6, .ref m7, .ref m8, .ref m9, .ref m10, .ref m11, .ref m12, .ref m13, .ref m14, .ref m15, .ref m16, .ref m17, .ref m18, .ref m19, .ref m20, .int s_signs, .ref m21, .int s_stacked, .ref m22, .int s_name, .int s_shift, .int s_statements, .int s_ifs, .int s_whiles, .int s_variants, .int s_open, .ref m23, .int s_isMade, .int s_conditions, .ref m24, .ref m25, .ref m26, .ref m27, .int s_kept, .ref m28, .int s_tops, .ref m29, .int s_used, .ref m30, .ref m31, .int s_looked, .int s_rows, .int s_firstRow, .ref m32, .ref m33, .ref m34, .ref m35, .ref m36, .ref m37, .ref m38, .ref m39, .ref m40, .int s_isBroken, .ref m41, .int s_atoms, .ref m42])), (m1, .inl (ax 0, 400, .inl (fun j => nI (g j))))] sz) := by
  refine Met.ofW (cc := b_Model_readNumber) (maxL := 1) (ret := none) (by decide) rfl ?_
  intro p e s m args below meth c s₁ B hml hv
  obtain ⟨rfl, hsz, hP, hK, hD0⟩ := hv
  have hx := B.exec
  have hb := B.bytes
  have hr := B.returns
  have hts := xw_hts B.pre
  have hown : s.vm.findClass R_Model = some m.cls := findClass_of_methodNamed B.named
  have hlocks := B.notSynchronized
  subst hsz
  have hD := hD0.self (sz := s.heap.size)
  have hN := xz_entry hP
  generalize hAe : va_A [(m0, .inr (11, [.int s_thrown, .int s_taped, .ref m1, .int (nI n), .int s_outSize, .ref m2, .int s_kind, .int s_value, .int (nI b), .int (nI en), .int s_failed, .ref m3, .ref m4, .ref m5, .int s_isProgram, .int s_half, .ref m6, .ref m7, .ref m8, .ref m9, .ref m10, .ref m11, .ref m12, .ref m13, .ref m14, .ref m15, .ref m16, .ref m17, .ref m18, .ref m19, .ref m20, .int s_signs, .ref m21, .int s_stacked, .ref m22, .int s_name, .int s_shift, .int s_statements, .int s_ifs, .int s_whiles, .int s_variants, .int s_open, .ref m23, .int s_isMade, .int s_conditions, .ref m24, .ref m25, .ref m26, .ref m27, .int s_kept, .ref m28, .int s_tops, .ref m29, .int s_used, .ref m30, .ref m31, .int s_looked, .int s_rows, .int s_firstRow, .ref m32, .ref m33, .ref m34, .ref m35, .ref m36, .ref m37, .ref m38, .ref m39, .ref m40, .int s_isBroken, .ref m41, .int s_atoms, .ref m42])), (m1, .inl (ax 0, 400, .inl (fun j => nI (g j))))] s.heap.size = A at hD hN ⊢
  have hA : ∀ q : Nat, s.heap.size ≤ q → A q := fun q h => by rw [← hAe]; exact Or.inr h
  have hS : va_S A s.heap s.heap [] := va_S.rf
  have hl0 := lv_entry ([.ref m0]) (n := 1) (Nat.le_of_ble_eq_true rfl)
  rw [lg_entry_eq]
  generalize (lg_sl ([.ref m0]) ++ List.replicate (1 - (lg_sl ([.ref m0])).length) Slot.unset).toArray = ls at hl0 ⊢
  have hl1 : lv_has ls 1 [(0, .ref m0)] := hl0
  refine xw_gen (fun Z9 hQe => ?_)
  refine lv_aload_n hx hb d_Model_readNumber_0 rfl (lv_at hl1 0 rfl) ?_
  refine lv_iconst (v := 0) hx hb d_Model_readNumber_1 (by decide) ?_
  refine va_put (D := D) (ci := 11) (v := .int 0) (ty := .int) (C := R_Model) (T := F_Model) (N := 72) hx hb hts i_Model t_Model t_Model_ok n_Model hown hK.1 hP hD hS 0 rfl rfl 7 (by decide) (hts _ wd_1043) (fun _ h9 => h9) rfl (by decide +kernel) rfl rfl (Nat.le_of_ble_eq_true rfl) d_Model_readNumber_2 (fun H_1 locs hP1 hD1 hS1 => ?_)
  clear hP hD hS
  have hS := hS1
  have hW7 : (fun w9 : va_W => va_P D classes w9 H_1 ∧ va_D A w9) [(m0, .inr (11, [.int s_thrown, .int s_taped, .ref m1, .int (nI n), .int s_outSize, .ref m2, .int s_kind, .int 0, .int (nI b), .int (nI en), .int s_failed, .ref m3, .ref m4, .ref m5, .int s_isProgram, .int s_half, .ref m6, .ref m7, .ref m8, .ref m9, .ref m10, .ref m11, .ref m12, .ref m13, .ref m14, .ref m15, .ref m16, .ref m17, .ref m18, .ref m19, .ref m20, .int s_signs, .ref m21, .int s_stacked, .ref m22, .int s_name, .int s_shift, .int s_statements, .int s_ifs, .int s_whiles, .int s_variants, .int s_open, .ref m23, .int s_isMade, .int s_conditions, .ref m24, .ref m25, .ref m26, .ref m27, .int s_kept, .ref m28, .int s_tops, .ref m29, .int s_used, .ref m30, .ref m31, .int s_looked, .int s_rows, .int s_firstRow, .ref m32, .ref m33, .ref m34, .ref m35, .ref m36, .ref m37, .ref m38, .ref m39, .ref m40, .int s_isBroken, .ref m41, .int s_atoms, .ref m42])), (m1, .inl (ax 0, 400, .inl (fun j => nI (g j))))] := ⟨hP1, hD1⟩
  obtain ⟨hP, hD⟩ := hW7
  clear hP1 hD1 hS1
  suffices key_2 : ∀ (k : Nat) (q v : Nat), n - q < k → en ≤ q → q ≤ n → v < 20000 → dgE g n (n - q) q = dgE g n (n - en) en → dgV g n (n - q) q v = dgV g n (n - en) en 0 → ∀ (H : Heap) (locs : List Loc) (ls : Array Slot), va_P D classes [(m0, .inr (11, [.int s_thrown, .int s_taped, .ref m1, .int (nI n), .int s_outSize, .ref m2, .int s_kind, .int (nI v), .int (nI b), .int (nI q), .int s_failed, .ref m3, .ref m4, .ref m5, .int s_isProgram, .int s_half, .ref m6, .ref m7, .ref m8, .ref m9, .ref m10, .ref m11, .ref m12, .ref m13, .ref m14, .ref m15, .ref m16, .ref m17, .ref m18, .ref m19, .ref m20, .int s_signs, .ref m21, .int s_stacked, .ref m22, .int s_name, .int s_shift, .int s_statements, .int s_ifs, .int s_whiles, .int s_variants, .int s_open, .ref m23, .int s_isMade, .int s_conditions, .ref m24, .ref m25, .ref m26, .ref m27, .int s_kept, .ref m28, .int s_tops, .ref m29, .int s_used, .ref m30, .ref m31, .int s_looked, .int s_rows, .int s_firstRow, .ref m32, .ref m33, .ref m34, .ref m35, .ref m36, .ref m37, .ref m38, .ref m39, .ref m40, .int s_isBroken, .ref m41, .int s_atoms, .ref m42])), (m1, .inl (ax 0, 400, .inl (fun j => nI (g j))))] H → va_D A [(m0, .inr (11, [.int s_thrown, .int s_taped, .ref m1, .int (nI n), .int s_outSize, .ref m2, .int s_kind, .int (nI v), .int (nI b), .int (nI q), .int s_failed, .ref m3, .ref m4, .ref m5, .int s_isProgram, .int s_half, .ref m6, .ref m7, .ref m8, .ref m9, .ref m10, .ref m11, .ref m12, .ref m13, .ref m14, .ref m15, .ref m16, .ref m17, .ref m18, .ref m19, .ref m20, .int s_signs, .ref m21, .int s_stacked, .ref m22, .int s_name, .int s_shift, .int s_statements, .int s_ifs, .int s_whiles, .int s_variants, .int s_open, .ref m23, .int s_isMade, .int s_conditions, .ref m24, .ref m25, .ref m26, .ref m27, .int s_kept, .ref m28, .int s_tops, .ref m29, .int s_used, .ref m30, .ref m31, .int s_looked, .int s_rows, .int s_firstRow, .ref m32, .ref m33, .ref m34, .ref m35, .ref m36, .ref m37, .ref m38, .ref m39, .ref m40, .int s_isBroken, .ref m41, .int s_atoms, .ref m42])), (m1, .inl (ax 0, 400, .inl (fun j => nI (g j))))] → va_S A s.heap H locs → lv_has ls 1 [(0, .ref m0)] → W p l e (headSpec (xws (.code y_Model_readNumber b_Model_readNumber 1 none)) ({ frames := 20, cells := 0, slots := 0, locals := 800 })).room s m ([.ref m0] : List Value).toArray below meth c H locs 0 0 Z9 (F0 m 5 ls []) from key_2 (n - en + 1) en 0 (Nat.lt_succ_self _) (by first | assumption | omega) (by first | assumption | omega) (by first | assumption | omega) rfl rfl _ _ _ (hP) (hD) hS (lv_sub hl1 [0] rfl)
  intro k_3
  induction k_3 with
  | zero =>
    intro q v hk_5
    exact absurd hk_5 (Nat.not_lt_zero _)
  | succ k_3 ih_4 =>
    clear hP hD hS hl1
    intro q v hk_5 hq1 hq2 hv hE hV H locs ls hP hD hS hl1
    refine lv_aload_n hx hb d_Model_readNumber_5 rfl (lv_at hl1 0 rfl) ?_
    refine lv_aload_n hx hb d_Model_readNumber_6 rfl (lv_at hl1 0 rfl) ?_
    refine va_get (D := D) (ci := 11) (v := .int (nI q)) (C := R_Model) (T := F_Model) (N := 72) hx hb hts i_Model hown hK.1 hP 0 rfl rfl 9 (by decide) (hts _ wd_1045) (fun _ h9 => h9) rfl d_Model_readNumber_7 ?_
    obtain ⟨hPc, hDc, hFc, hCs⟩ := xw_sub3 (wc := [(m0, .inr (11, [.int s_thrown, .int s_taped, .ref m1, .int (nI n), .int s_outSize, .ref m2, .int s_kind, .int (nI v), .int (nI b), .int (nI q), .int s_failed, .ref m3, .ref m4, .ref m5, .int s_isProgram, .int s_half, .ref m6, .ref m7, .ref m8, .ref m9, .ref m10, .ref m11, .ref m12, .ref m13, .ref m14, .ref m15, .ref m16, .ref m17, .ref m18, .ref m19, .ref m20, .int s_signs, .ref m21, .int s_stacked, .ref m22, .int s_name, .int s_shift, .int s_statements, .int s_ifs, .int s_whiles, .int s_variants, .int s_open, .ref m23, .int s_isMade, .int s_conditions, .ref m24, .ref m25, .ref m26, .ref m27, .int s_kept, .ref m28, .int s_tops, .ref m29, .int s_used, .ref m30, .ref m31, .int s_looked, .int s_rows, .int s_firstRow, .ref m32, .ref m33, .ref m34, .ref m35, .ref m36, .ref m37, .ref m38, .ref m39, .ref m40, .int s_isBroken, .ref m41, .int s_atoms, .ref m42])), (m1, .inl (ax 0, 400, .inl (fun j => nI (g j))))]) hP hD hS hA [0, 1] (by decide) rfl
    have hz := xz_of hN hS
    refine va_calli (va_runV (As := [.int (nI q)]) (rest := []) ⟨hx, hb, hml, hown, hts⟩ (c_M_byteAt l D ax m0 m1 m2 m3 m4 m5 m6 m7 m8 m9 m10 m11 m12 m13 m14 m15 m16 m17 m18 m19 m20 m21 m22 m23 m24 m25 m26 m27 m28 m29 m30 m31 m32 m33 m34 m35 m36 m37 m38 m39 m40 m41 m42 s_thrown s_taped s_outSize s_kind (nI v) (nI b) (nI q) s_failed s_isProgram s_half s_signs s_stacked s_name s_shift s_statements s_ifs s_whiles s_variants s_open s_isMade s_conditions s_kept s_tops s_used s_looked s_rows s_firstRow s_isBroken s_atoms n q g H.size hn (by first | assumption | omega)) (xcV (n := 1) hts wd_1282 wd_15 wd_1279 wd_1281 ps_52 rfl rfl (by decide +kernel) ⟨Nat.le_of_ble_eq_true rfl, Nat.le_of_ble_eq_true rfl⟩) (xpV (ci := 11) (q0 := 0) (As := [.int (nI q)]) hPc hK hz hDc rfl rfl) rfl rfl hl1.1 rfl (lv_room (Nat.le_of_ble_eq_true rfl)) d_Model_readNumber_10 ⟨Nat.le_of_ble_eq_true rfl, Nat.le_of_ble_eq_true rfl⟩) hS (fun q _ h => hFc q h) hFc (fun r_8 u_6 t H_7 locs ht hvm hw hB hz1 hk1 hS1 => ?_)
    try dsimp only at hw
    subst hw
    obtain ⟨hP1, hD1⟩ := hB
    rw [ht] at hP1
    have hjn := xw_join3 (wl := [(m0, .inr (11, [.int s_thrown, .int s_taped, .ref m1, .int (nI n), .int s_outSize, .ref m2, .int s_kind, .int (nI v), .int (nI b), .int (nI q), .int s_failed, .ref m3, .ref m4, .ref m5, .int s_isProgram, .int s_half, .ref m6, .ref m7, .ref m8, .ref m9, .ref m10, .ref m11, .ref m12, .ref m13, .ref m14, .ref m15, .ref m16, .ref m17, .ref m18, .ref m19, .ref m20, .int s_signs, .ref m21, .int s_stacked, .ref m22, .int s_name, .int s_shift, .int s_statements, .int s_ifs, .int s_whiles, .int s_variants, .int s_open, .ref m23, .int s_isMade, .int s_conditions, .ref m24, .ref m25, .ref m26, .ref m27, .int s_kept, .ref m28, .int s_tops, .ref m29, .int s_used, .ref m30, .ref m31, .int s_looked, .int s_rows, .int s_firstRow, .ref m32, .ref m33, .ref m34, .ref m35, .ref m36, .ref m37, .ref m38, .ref m39, .ref m40, .int s_isBroken, .ref m41, .int s_atoms, .ref m42])), (m1, .inl (ax 0, 400, .inl (fun j => nI (g j))))]) hP hD [0, 1] [] hCs (by decide) (by decide) hk1 hFc hP1 hD1 rfl
    clear hP1 hD1
    clear hPc hDc hFc hCs hz hz1 hk1 ht hvm
    clear hP hD hS
    have hS := hS1
    obtain ⟨hP, hD⟩ := hjn
    clear hS1
    obtain ⟨hPc, hDc, hFc, hCs⟩ := xw_sub3 (wc := []) hP hD hS hA [] (by decide) rfl
    have hz := xz_of hN hS
    refine va_calli (va_runS (As := [.int (nI (bt g n q))]) (rest := []) ⟨hx, hb, hml, hown, hts⟩ (c_M_isDigit l D ax (bt g n q) H_7.size (bt_lt hg)) (xcS (n := 1) hts wd_1300 wd_15 wd_1298 wd_1299 rfl rfl (by decide +kernel) ⟨Nat.le_of_ble_eq_true rfl, Nat.le_of_ble_eq_true rfl⟩) (xpS (As := [.int (nI (bt g n q))]) hPc hK hz hDc) rfl rfl hl1.1 rfl (lv_room (Nat.le_of_ble_eq_true rfl)) d_Model_readNumber_13 ⟨Nat.le_of_ble_eq_true rfl, Nat.le_of_ble_eq_true rfl⟩) hS (fun q _ h => hFc q h) hFc (fun r_11 u_9 t H_10 locs ht hvm hw hB hz1 hk1 hS1 => ?_)
    try dsimp only at hw
    subst hw
    obtain ⟨hP1, hD1⟩ := hB
    rw [ht] at hP1
    have hjn := xw_join3 (wl := [(m0, .inr (11, [.int s_thrown, .int s_taped, .ref m1, .int (nI n), .int s_outSize, .ref m2, .int s_kind, .int (nI v), .int (nI b), .int (nI q), .int s_failed, .ref m3, .ref m4, .ref m5, .int s_isProgram, .int s_half, .ref m6, .ref m7, .ref m8, .ref m9, .ref m10, .ref m11, .ref m12, .ref m13, .ref m14, .ref m15, .ref m16, .ref m17, .ref m18, .ref m19, .ref m20, .int s_signs, .ref m21, .int s_stacked, .ref m22, .int s_name, .int s_shift, .int s_statements, .int s_ifs, .int s_whiles, .int s_variants, .int s_open, .ref m23, .int s_isMade, .int s_conditions, .ref m24, .ref m25, .ref m26, .ref m27, .int s_kept, .ref m28, .int s_tops, .ref m29, .int s_used, .ref m30, .ref m31, .int s_looked, .int s_rows, .int s_firstRow, .ref m32, .ref m33, .ref m34, .ref m35, .ref m36, .ref m37, .ref m38, .ref m39, .ref m40, .int s_isBroken, .ref m41, .int s_atoms, .ref m42])), (m1, .inl (ax 0, 400, .inl (fun j => nI (g j))))]) hP hD [] [0, 1] hCs (by decide) (by decide) hk1 hFc hP1 hD1 rfl
    clear hP1 hD1
    clear hPc hDc hFc hCs hz hz1 hk1 ht hvm
    clear hP hD hS
    have hS := hS1
    obtain ⟨hP, hD⟩ := hjn
    clear hS1
    refine lv_if_eq (tgt := 73) hx hb d_Model_readNumber_16 (by decide) (fun c_12 => ?_) (fun c_12 => ?_)
    · replace c_12 : ¬ (48 ≤ (bt g n q) ∧ (bt g n q) ≤ 57) := zb_n c_12
      have hE2 : q = dgE g n (n - en) en := by rw [← hE]; exact (dgE_stop (by assumption) _).symm
      have hV2 : v = dgV g n (n - en) en 0 := by rw [← hV]; exact (dgV_stop (by assumption) _ _).symm
      have hE3 := (dgE_le (g := g) (n := n) (n - en) en hen).1
      have hE4 := (dgE_le (g := g) (n := n) (n - en) en hen).2
      rw [hE2, hV2] at hP hD
      refine lv_aload_n hx hb d_Model_readNumber_73 rfl (lv_at hl1 0 rfl) ?_
      refine lv_aload_n hx hb d_Model_readNumber_74 rfl (lv_at hl1 0 rfl) ?_
      refine va_get (D := D) (ci := 11) (v := .int (nI (dgE g n (n - en) en))) (C := R_Model) (T := F_Model) (N := 72) hx hb hts i_Model hown hK.1 hP 0 rfl rfl 9 (by decide) (hts _ wd_1045) (fun _ h9 => h9) rfl d_Model_readNumber_75 ?_
      refine lv_aload_n hx hb d_Model_readNumber_78 rfl (lv_at hl1 0 rfl) ?_
      refine va_get (D := D) (ci := 11) (v := .int (nI b)) (C := R_Model) (T := F_Model) (N := 72) hx hb hts i_Model hown hK.1 hP 0 rfl rfl 8 (by decide) (hts _ wd_1044) (fun _ h9 => h9) rfl d_Model_readNumber_79 ?_
      refine lv_isub hx hb d_Model_readNumber_82 ?_
      refine lv_topi (fun z_13 ez_13 => ?_)
      have ez_13 : z_13 = nI ((dgE g n (n - en) en) - b) := ez_13.trans (pk_sub (a := dgE g n (n - en) en) (b := b) (by first | assumption | omega))
      subst ez_13
      refine lv_iconst (v := 3) hx hb d_Model_readNumber_83 (by decide) ?_
      refine lv_icmp_le (tgt := 91) hx hb d_Model_readNumber_84 (by decide) (fun c_14 => ?_) (fun c_14 => ?_)
      · replace c_14 : (dgE g n (n - en) en) - b ≤ 3 := (nI_leI (a := (dgE g n (n - en) en) - b) (b := 3) (by first | exact Nat.lt_of_lt_of_le (by assumption) (by decide) | exact Nat.lt_of_le_of_lt (by assumption) (by decide) | omega) (by decide)).mp c_14
        refine lv_iconst (v := 3) hx hb d_Model_readNumber_91 (by decide) ?_
        refine va_put (D := D) (ci := 11) (v := .int 3) (ty := .int) (C := R_Model) (T := F_Model) (N := 72) hx hb hts i_Model t_Model t_Model_ok n_Model hown hK.1 hP hD hS 0 rfl rfl 6 (by decide) (hts _ wd_1042) (fun _ h9 => h9) rfl (by decide +kernel) rfl rfl (Nat.le_of_ble_eq_true rfl) d_Model_readNumber_92 (fun H_15 locs hP1 hD1 hS1 => ?_)
        clear hP hD hS
        have hS := hS1
        have hW7 : (fun w9 : va_W => va_P D classes w9 H_15 ∧ va_D A w9) [(m0, .inr (11, [.int s_thrown, .int s_taped, .ref m1, .int (nI n), .int s_outSize, .ref m2, .int 3, .int (nI (dgV g n (n - en) en 0)), .int (nI b), .int (nI (dgE g n (n - en) en)), .int s_failed, .ref m3, .ref m4, .ref m5, .int s_isProgram, .int s_half, .ref m6, .ref m7, .ref m8, .ref m9, .ref m10, .ref m11, .ref m12, .ref m13, .ref m14, .ref m15, .ref m16, .ref m17, .ref m18, .ref m19, .ref m20, .int s_signs, .ref m21, .int s_stacked, .ref m22, .int s_name, .int s_shift, .int s_statements, .int s_ifs, .int s_whiles, .int s_variants, .int s_open, .ref m23, .int s_isMade, .int s_conditions, .ref m24, .ref m25, .ref m26, .ref m27, .int s_kept, .ref m28, .int s_tops, .ref m29, .int s_used, .ref m30, .ref m31, .int s_looked, .int s_rows, .int s_firstRow, .ref m32, .ref m33, .ref m34, .ref m35, .ref m36, .ref m37, .ref m38, .ref m39, .ref m40, .int s_isBroken, .ref m41, .int s_atoms, .ref m42])), (m1, .inl (ax 0, 400, .inl (fun j => nI (g j))))] := ⟨hP1, hD1⟩
        obtain ⟨hP, hD⟩ := hW7
        clear hP1 hD1 hS1
        rw [← hQe]
        obtain ⟨hP9, hD9⟩ := xw_sub2 (wc := (fun u : Nat → Nat => [(m0, .inr (11, [.int s_thrown, .int s_taped, .ref m1, .int (nI n), .int s_outSize, .ref m2, .int (nI (u 0)), .int (nI (dgV g n (n - en) en 0)), .int (nI b), .int (nI (dgE g n (n - en) en)), .int s_failed, .ref m3, .ref m4, .ref m5, .int s_isProgram, .int s_half, .ref m6, .ref m7, .ref m8, .ref m9, .ref m10, .ref m11, .ref m12, .ref m13, .ref m14, .ref m15, .ref m16, .ref m17, .ref m18, .ref m19, .ref m20, .int s_signs, .ref m21, .int s_stacked, .ref m22, .int s_name, .int s_shift, .int s_statements, .int s_ifs, .int s_whiles, .int s_variants, .int s_open, .ref m23, .int s_isMade, .int s_conditions, .ref m24, .ref m25, .ref m26, .ref m27, .int s_kept, .ref m28, .int s_tops, .ref m29, .int s_used, .ref m30, .ref m31, .int s_looked, .int s_rows, .int s_firstRow, .ref m32, .ref m33, .ref m34, .ref m35, .ref m36, .ref m37, .ref m38, .ref m39, .ref m40, .int s_isBroken, .ref m41, .int s_atoms, .ref m42])), (m1, .inl (ax 0, 400, .inl (fun j => nI (g j))))]) (ixn [3])) hP hD [0, 1] (by decide) rfl
        have hsp0 : 3 = (if dgE g n (n - en) en - b ≤ 3 then 3 else 1) := by split <;> omega
        exact W.vret hx hb hr (fun t ht hW => ⟨⟨ixn [3], rfl, hsp0, ⟨by rw [ht]; exact hP9, hD9⟩⟩, hS.F ht⟩) hS.2.2 d_Model_readNumber_95
      · replace c_14 : ¬ (dgE g n (n - en) en) - b ≤ 3 := fun hq9 => c_14 ((nI_leI (a := (dgE g n (n - en) en) - b) (b := 3) (by first | exact Nat.lt_of_lt_of_le (by assumption) (by decide) | exact Nat.lt_of_le_of_lt (by assumption) (by decide) | omega) (by decide)).mpr hq9)
        refine lv_iconst (v := 1) hx hb d_Model_readNumber_87 (by decide) ?_
        refine lv_goto (tgt := 92) hx hb d_Model_readNumber_88 (by decide) ?_
        refine va_put (D := D) (ci := 11) (v := .int 1) (ty := .int) (C := R_Model) (T := F_Model) (N := 72) hx hb hts i_Model t_Model t_Model_ok n_Model hown hK.1 hP hD hS 0 rfl rfl 6 (by decide) (hts _ wd_1042) (fun _ h9 => h9) rfl (by decide +kernel) rfl rfl (Nat.le_of_ble_eq_true rfl) d_Model_readNumber_92 (fun H_16 locs hP1 hD1 hS1 => ?_)
        clear hP hD hS
        have hS := hS1
        have hW7 : (fun w9 : va_W => va_P D classes w9 H_16 ∧ va_D A w9) [(m0, .inr (11, [.int s_thrown, .int s_taped, .ref m1, .int (nI n), .int s_outSize, .ref m2, .int 1, .int (nI (dgV g n (n - en) en 0)), .int (nI b), .int (nI (dgE g n (n - en) en)), .int s_failed, .ref m3, .ref m4, .ref m5, .int s_isProgram, .int s_half, .ref m6, .ref m7, .ref m8, .ref m9, .ref m10, .ref m11, .ref m12, .ref m13, .ref m14, .ref m15, .ref m16, .ref m17, .ref m18, .ref m19, .ref m20, .int s_signs, .ref m21, .int s_stacked, .ref m22, .int s_name, .int s_shift, .int s_statements, .int s_ifs, .int s_whiles, .int s_variants, .int s_open, .ref m23, .int s_isMade, .int s_conditions, .ref m24, .ref m25, .ref m26, .ref m27, .int s_kept, .ref m28, .int s_tops, .ref m29, .int s_used, .ref m30, .ref m31, .int s_looked, .int s_rows, .int s_firstRow, .ref m32, .ref m33, .ref m34, .ref m35, .ref m36, .ref m37, .ref m38, .ref m39, .ref m40, .int s_isBroken, .ref m41, .int s_atoms, .ref m42])), (m1, .inl (ax 0, 400, .inl (fun j => nI (g j))))] := ⟨hP1, hD1⟩
        obtain ⟨hP, hD⟩ := hW7
        clear hP1 hD1 hS1
        rw [← hQe]
        obtain ⟨hP9, hD9⟩ := xw_sub2 (wc := (fun u : Nat → Nat => [(m0, .inr (11, [.int s_thrown, .int s_taped, .ref m1, .int (nI n), .int s_outSize, .ref m2, .int (nI (u 0)), .int (nI (dgV g n (n - en) en 0)), .int (nI b), .int (nI (dgE g n (n - en) en)), .int s_failed, .ref m3, .ref m4, .ref m5, .int s_isProgram, .int s_half, .ref m6, .ref m7, .ref m8, .ref m9, .ref m10, .ref m11, .ref m12, .ref m13, .ref m14, .ref m15, .ref m16, .ref m17, .ref m18, .ref m19, .ref m20, .int s_signs, .ref m21, .int s_stacked, .ref m22, .int s_name, .int s_shift, .int s_statements, .int s_ifs, .int s_whiles, .int s_variants, .int s_open, .ref m23, .int s_isMade, .int s_conditions, .ref m24, .ref m25, .ref m26, .ref m27, .int s_kept, .ref m28, .int s_tops, .ref m29, .int s_used, .ref m30, .ref m31, .int s_looked, .int s_rows, .int s_firstRow, .ref m32, .ref m33, .ref m34, .ref m35, .ref m36, .ref m37, .ref m38, .ref m39, .ref m40, .int s_isBroken, .ref m41, .int s_atoms, .ref m42])), (m1, .inl (ax 0, 400, .inl (fun j => nI (g j))))]) (ixn [1])) hP hD [0, 1] (by decide) rfl
        have hsp0 : 1 = (if dgE g n (n - en) en - b ≤ 3 then 3 else 1) := by split <;> omega
        exact W.vret hx hb hr (fun t ht hW => ⟨⟨ixn [1], rfl, hsp0, ⟨by rw [ht]; exact hP9, hD9⟩⟩, hS.F ht⟩) hS.2.2 d_Model_readNumber_95
    · replace c_12 : (48 ≤ (bt g n q) ∧ (bt g n q) ≤ 57) := zb_y c_12
      have hqn : q < n := dg_in (by assumption)
      have hgq := hg q
      have hbq : bt g n q = g q := bt_in hqn
      refine lv_aload_n hx hb d_Model_readNumber_19 rfl (lv_at hl1 0 rfl) ?_
      refine lv_aload_n hx hb d_Model_readNumber_20 rfl (lv_at hl1 0 rfl) ?_
      refine va_get (D := D) (ci := 11) (v := .int (nI v)) (C := R_Model) (T := F_Model) (N := 72) hx hb hts i_Model hown hK.1 hP 0 rfl rfl 7 (by decide) (hts _ wd_1043) (fun _ h9 => h9) rfl d_Model_readNumber_21 ?_
      refine lv_sipush (v := 1000) hx hb d_Model_readNumber_24 (by decide) ?_
      refine lv_icmp_ge (tgt := 53) hx hb d_Model_readNumber_27 (by decide) (fun c_17 => ?_) (fun c_17 => ?_)
      · replace c_17 : 1000 ≤ v := (nI_leI (a := 1000) (b := v) (by decide) (by first | exact Nat.lt_of_lt_of_le (by assumption) (by decide) | exact Nat.lt_of_le_of_lt (by assumption) (by decide) | omega)).mp c_17
        refine lv_aload_n hx hb d_Model_readNumber_53 rfl (lv_at hl1 0 rfl) ?_
        refine va_get (D := D) (ci := 11) (v := .int (nI v)) (C := R_Model) (T := F_Model) (N := 72) hx hb hts i_Model hown hK.1 hP 0 rfl rfl 7 (by decide) (hts _ wd_1043) (fun _ h9 => h9) rfl d_Model_readNumber_54 ?_
        refine va_put (D := D) (ci := 11) (v := .int (nI v)) (ty := .int) (C := R_Model) (T := F_Model) (N := 72) hx hb hts i_Model t_Model t_Model_ok n_Model hown hK.1 hP hD hS 0 rfl rfl 7 (by decide) (hts _ wd_1043) (fun _ h9 => h9) rfl (by decide +kernel) rfl rfl (Nat.le_of_ble_eq_true rfl) d_Model_readNumber_57 (fun H_18 locs hP1 hD1 hS1 => ?_)
        clear hP hD hS
        have hS := hS1
        have hW7 : (fun w9 : va_W => va_P D classes w9 H_18 ∧ va_D A w9) [(m0, .inr (11, [.int s_thrown, .int s_taped, .ref m1, .int (nI n), .int s_outSize, .ref m2, .int s_kind, .int (nI v), .int (nI b), .int (nI q), .int s_failed, .ref m3, .ref m4, .ref m5, .int s_isProgram, .int s_half, .ref m6, .ref m7, .ref m8, .ref m9, .ref m10, .ref m11, .ref m12, .ref m13, .ref m14, .ref m15, .ref m16, .ref m17, .ref m18, .ref m19, .ref m20, .int s_signs, .ref m21, .int s_stacked, .ref m22, .int s_name, .int s_shift, .int s_statements, .int s_ifs, .int s_whiles, .int s_variants, .int s_open, .ref m23, .int s_isMade, .int s_conditions, .ref m24, .ref m25, .ref m26, .ref m27, .int s_kept, .ref m28, .int s_tops, .ref m29, .int s_used, .ref m30, .ref m31, .int s_looked, .int s_rows, .int s_firstRow, .ref m32, .ref m33, .ref m34, .ref m35, .ref m36, .ref m37, .ref m38, .ref m39, .ref m40, .int s_isBroken, .ref m41, .int s_atoms, .ref m42])), (m1, .inl (ax 0, 400, .inl (fun j => nI (g j))))] := ⟨hP1, hD1⟩
        obtain ⟨hP, hD⟩ := hW7
        clear hP1 hD1 hS1
        refine lv_aload_n hx hb d_Model_readNumber_60 rfl (lv_at hl1 0 rfl) ?_
        refine lv_dup hx hb d_Model_readNumber_61 rfl ?_
        refine va_get (D := D) (ci := 11) (v := .int (nI q)) (C := R_Model) (T := F_Model) (N := 72) hx hb hts i_Model hown hK.1 hP 0 rfl rfl 9 (by decide) (hts _ wd_1045) (fun _ h9 => h9) rfl d_Model_readNumber_62 ?_
        refine lv_iconst (v := 1) hx hb d_Model_readNumber_65 (by decide) ?_
        refine lv_iadd hx hb d_Model_readNumber_66 ?_
        refine lv_topi (fun z_19 ez_19 => ?_)
        have ez_19 : z_19 = nI (q + 1) := ez_19.trans (nI_add q 1)
        subst ez_19
        refine va_put (D := D) (ci := 11) (v := .int (nI (q + 1))) (ty := .int) (C := R_Model) (T := F_Model) (N := 72) hx hb hts i_Model t_Model t_Model_ok n_Model hown hK.1 hP hD hS 0 rfl rfl 9 (by decide) (hts _ wd_1045) (fun _ h9 => h9) rfl (by decide +kernel) rfl rfl (Nat.le_of_ble_eq_true rfl) d_Model_readNumber_67 (fun H_20 locs hP1 hD1 hS1 => ?_)
        clear hP hD hS
        have hS := hS1
        have hW7 : (fun w9 : va_W => va_P D classes w9 H_20 ∧ va_D A w9) [(m0, .inr (11, [.int s_thrown, .int s_taped, .ref m1, .int (nI n), .int s_outSize, .ref m2, .int s_kind, .int (nI v), .int (nI b), .int (nI (q + 1)), .int s_failed, .ref m3, .ref m4, .ref m5, .int s_isProgram, .int s_half, .ref m6, .ref m7, .ref m8, .ref m9, .ref m10, .ref m11, .ref m12, .ref m13, .ref m14, .ref m15, .ref m16, .ref m17, .ref m18, .ref m19, .ref m20, .int s_signs, .ref m21, .int s_stacked, .ref m22, .int s_name, .int s_shift, .int s_statements, .int s_ifs, .int s_whiles, .int s_variants, .int s_open, .ref m23, .int s_isMade, .int s_conditions, .ref m24, .ref m25, .ref m26, .ref m27, .int s_kept, .ref m28, .int s_tops, .ref m29, .int s_used, .ref m30, .ref m31, .int s_looked, .int s_rows, .int s_firstRow, .ref m32, .ref m33, .ref m34, .ref m35, .ref m36, .ref m37, .ref m38, .ref m39, .ref m40, .int s_isBroken, .ref m41, .int s_atoms, .ref m42])), (m1, .inl (ax 0, 400, .inl (fun j => nI (g j))))] := ⟨hP1, hD1⟩
        obtain ⟨hP, hD⟩ := hW7
        clear hP1 hD1 hS1
        refine lv_goto (tgt := 5) hx hb d_Model_readNumber_70 (by decide) ?_
        exact ih_4 (q + 1) v (by first | assumption | omega) (by first | assumption | omega) (by first | assumption | omega) (by first | assumption | omega) (by rw [← hE]; exact (dgE_step (q := q) (by assumption)).symm) (by rw [← hV, dgV_step (q := q) (v := v) (by assumption)]; first | rw [if_pos (by first | assumption | omega)] | rw [if_neg (by first | assumption | omega)]) _ _ _ (hP.sub [0, 1] rfl) (hD.sub [0, 1] (by decide) rfl) hS (lv_sub hl1 [0] rfl)
      · replace c_17 : ¬ 1000 ≤ v := fun hq9 => c_17 ((nI_leI (a := 1000) (b := v) (by decide) (by first | exact Nat.lt_of_lt_of_le (by assumption) (by decide) | exact Nat.lt_of_le_of_lt (by assumption) (by decide) | omega)).mpr hq9)
        refine lv_bipush (v := 10) hx hb d_Model_readNumber_30 (by decide) ?_
        refine lv_aload_n hx hb d_Model_readNumber_32 rfl (lv_at hl1 0 rfl) ?_
        refine va_get (D := D) (ci := 11) (v := .int (nI v)) (C := R_Model) (T := F_Model) (N := 72) hx hb hts i_Model hown hK.1 hP 0 rfl rfl 7 (by decide) (hts _ wd_1043) (fun _ h9 => h9) rfl d_Model_readNumber_33 ?_
        refine lv_imul hx hb d_Model_readNumber_36 ?_
        refine lv_topi (fun z_21 ez_21 => ?_)
        have ez_21 : z_21 = nI (10 * v) := ez_21.trans (pk_mul 10 v)
        subst ez_21
        refine lv_aload_n hx hb d_Model_readNumber_37 rfl (lv_at hl1 0 rfl) ?_
        refine va_get (D := D) (ci := 11) (v := .ref m1) (C := R_Model) (T := F_Model) (N := 72) hx hb hts i_Model hown hK.1 hP 0 rfl rfl 2 (by decide) (hts _ wd_1038) (fun _ h9 => h9) rfl d_Model_readNumber_38 ?_
        refine lv_aload_n hx hb d_Model_readNumber_41 rfl (lv_at hl1 0 rfl) ?_
        refine va_get (D := D) (ci := 11) (v := .int (nI q)) (C := R_Model) (T := F_Model) (N := 72) hx hb hts i_Model hown hK.1 hP 0 rfl rfl 9 (by decide) (hts _ wd_1045) (fun _ h9 => h9) rfl d_Model_readNumber_42 ?_
        refine va_iald hx hb hK.1 hP 1 0 rfl rfl (vp_in_nI (by first | assumption | omega) (by decide)) d_Model_readNumber_45 ?_
        refine W.eq (g2 := F0 m 46 ls [.int (nI (g q)), .int (nI (10 * v)), .ref m0]) (by rw [nI_clamp (by first | exact Nat.lt_of_lt_of_le (by assumption) (by decide) | exact Nat.lt_of_le_of_lt (by assumption) (by decide) | omega)]) ?_
        refine lv_iadd hx hb d_Model_readNumber_46 ?_
        refine lv_topi (fun z_22 ez_22 => ?_)
        have ez_22 : z_22 = nI (10 * v + g q) := ez_22.trans (nI_add (10 * v) (g q))
        subst ez_22
        refine lv_bipush (v := 48) hx hb d_Model_readNumber_47 (by decide) ?_
        refine lv_isub hx hb d_Model_readNumber_49 ?_
        refine lv_topi (fun z_23 ez_23 => ?_)
        have ez_23 : z_23 = nI ((10 * v + g q) - 48) := ez_23.trans (pk_sub (a := 10 * v + g q) (b := 48) (by first | assumption | omega))
        subst ez_23
        refine lv_goto (tgt := 57) hx hb d_Model_readNumber_50 (by decide) ?_
        refine va_put (D := D) (ci := 11) (v := .int (nI ((10 * v + g q) - 48))) (ty := .int) (C := R_Model) (T := F_Model) (N := 72) hx hb hts i_Model t_Model t_Model_ok n_Model hown hK.1 hP hD hS 0 rfl rfl 7 (by decide) (hts _ wd_1043) (fun _ h9 => h9) rfl (by decide +kernel) rfl rfl (Nat.le_of_ble_eq_true rfl) d_Model_readNumber_57 (fun H_24 locs hP1 hD1 hS1 => ?_)
        clear hP hD hS
        have hS := hS1
        have hW7 : (fun w9 : va_W => va_P D classes w9 H_24 ∧ va_D A w9) [(m0, .inr (11, [.int s_thrown, .int s_taped, .ref m1, .int (nI n), .int s_outSize, .ref m2, .int s_kind, .int (nI ((10 * v + g q) - 48)), .int (nI b), .int (nI q), .int s_failed, .ref m3, .ref m4, .ref m5, .int s_isProgram, .int s_half, .ref m6, .ref m7, .ref m8, .ref m9, .ref m10, .ref m11, .ref m12, .ref m13, .ref m14, .ref m15, .ref m16, .ref m17, .ref m18, .ref m19, .ref m20, .int s_signs, .ref m21, .int s_stacked, .ref m22, .int s_name, .int s_shift, .int s_statements, .int s_ifs, .int s_whiles, .int s_variants, .int s_open, .ref m23, .int s_isMade, .int s_conditions, .ref m24, .ref m25, .ref m26, .ref m27, .int s_kept, .ref m28, .int s_tops, .ref m29, .int s_used, .ref m30, .ref m31, .int s_looked, .int s_rows, .int s_firstRow, .ref m32, .ref m33, .ref m34, .ref m35, .ref m36, .ref m37, .ref m38, .ref m39, .ref m40, .int s_isBroken, .ref m41, .int s_atoms, .ref m42])), (m1, .inl (ax 0, 400, .inl (fun j => nI (g j))))] := ⟨hP1, hD1⟩
        obtain ⟨hP, hD⟩ := hW7
        clear hP1 hD1 hS1
        refine lv_aload_n hx hb d_Model_readNumber_60 rfl (lv_at hl1 0 rfl) ?_
        refine lv_dup hx hb d_Model_readNumber_61 rfl ?_
        refine va_get (D := D) (ci := 11) (v := .int (nI q)) (C := R_Model) (T := F_Model) (N := 72) hx hb hts i_Model hown hK.1 hP 0 rfl rfl 9 (by decide) (hts _ wd_1045) (fun _ h9 => h9) rfl d_Model_readNumber_62 ?_
        refine lv_iconst (v := 1) hx hb d_Model_readNumber_65 (by decide) ?_
        refine lv_iadd hx hb d_Model_readNumber_66 ?_
        refine lv_topi (fun z_25 ez_25 => ?_)
        have ez_25 : z_25 = nI (q + 1) := ez_25.trans (nI_add q 1)
        subst ez_25
        refine va_put (D := D) (ci := 11) (v := .int (nI (q + 1))) (ty := .int) (C := R_Model) (T := F_Model) (N := 72) hx hb hts i_Model t_Model t_Model_ok n_Model hown hK.1 hP hD hS 0 rfl rfl 9 (by decide) (hts _ wd_1045) (fun _ h9 => h9) rfl (by decide +kernel) rfl rfl (Nat.le_of_ble_eq_true rfl) d_Model_readNumber_67 (fun H_26 locs hP1 hD1 hS1 => ?_)
        clear hP hD hS
        have hS := hS1
        have hW7 : (fun w9 : va_W => va_P D classes w9 H_26 ∧ va_D A w9) [(m0, .inr (11, [.int s_thrown, .int s_taped, .ref m1, .int (nI n), .int s_outSize, .ref m2, .int s_kind, .int (nI ((10 * v + g q) - 48)), .int (nI b), .int (nI (q + 1)), .int s_failed, .ref m3, .ref m4, .ref m5, .int s_isProgram, .int s_half, .ref m6, .ref m7, .ref m8, .ref m9, .ref m10, .ref m11, .ref m12, .ref m13, .ref m14, .ref m15, .ref m16, .ref m17, .ref m18, .ref m19, .ref m20, .int s_signs, .ref m21, .int s_stacked, .ref m22, .int s_name, .int s_shift, .int s_statements, .int s_ifs, .int s_whiles, .int s_variants, .int s_open, .ref m23, .int s_isMade, .int s_conditions, .ref m24, .ref m25, .ref m26, .ref m27, .int s_kept, .ref m28, .int s_tops, .ref m29, .int s_used, .ref m30, .ref m31, .int s_looked, .int s_rows, .int s_firstRow, .ref m32, .ref m33, .ref m34, .ref m35, .ref m36, .ref m37, .ref m38, .ref m39, .ref m40, .int s_isBroken, .ref m41, .int s_atoms, .ref m42])), (m1, .inl (ax 0, 400, .inl (fun j => nI (g j))))] := ⟨hP1, hD1⟩
        obtain ⟨hP, hD⟩ := hW7
        clear hP1 hD1 hS1
        refine lv_goto (tgt := 5) hx hb d_Model_readNumber_70 (by decide) ?_
        exact ih_4 (q + 1) ((10 * v + g q) - 48) (by first | assumption | omega) (by first | assumption | omega) (by first | assumption | omega) (by first | assumption | omega) (by rw [← hE]; exact (dgE_step (q := q) (by assumption)).symm) (by rw [← hV, dgV_step (q := q) (v := v) (by assumption)]; first | rw [if_pos (by first | assumption | omega)] | rw [if_neg (by first | assumption | omega)]) _ _ _ (hP.sub [0, 1] rfl) (hD.sub [0, 1] (by decide) rfl) hS (lv_sub hl1 [0] rfl)
