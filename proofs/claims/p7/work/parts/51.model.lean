theorem wd_1038 : ((Jvm.Cond.fieldLink "TripleDeskModel" (7 : Nat) "TripleDeskModel" "tape" "[I")) ∈ lw_gd := lw_gd_in (i := 1038) (by decide +kernel) rfl
theorem wd_1039 : ((Jvm.Cond.fieldLink "TripleDeskModel" (156 : Nat) "TripleDeskModel" "size" "I")) ∈ lw_gd := lw_gd_in (i := 1039) (by decide +kernel) rfl
/-- a fact that omega does not look into -/
def hid (P : Prop) : Prop := P
def imp1 (k : Nat) (P : Prop) : Prop := k = 0 ∨ P
theorem imp1.go {k : Nat} {P : Prop} (h : imp1 k P) (hk : ¬ k = 0) : P := Or.resolve_left h hk
def tk0 (k b en : Nat) : Prop := k = 0 ∨ b < en
theorem tk0.lt {k b en : Nat} (h : tk0 k b en) (hk : k ≠ 0) : b < en := Or.resolve_left h hk
def tk2 (k v : Nat) : Prop := k ≠ 2 ∨ v < 10
theorem tk2.lt {k v : Nat} (h : tk2 k v) (hk : k = 2) : v < 10 := Or.resolve_left h (fun q => q hk)
def imp0 (k : Nat) (P : Prop) : Prop := k = 1 ∨ P
theorem imp0.go {k : Nat} {P : Prop} (h : imp0 k P) (hk : ¬ k = 1) : P := Or.resolve_left h hk
def bt (g : Nat → Nat) (n q : Nat) : Nat := if q < n then g q else 0
def zb (P : Prop) [Decidable P] : Int32 := if P then 1 else 0
theorem zb_n {P : Prop} [Decidable P] (h : zb P = 0) : ¬ P := fun q => by unfold zb at h; rw [if_pos q] at h; exact absurd h (by decide)
theorem zb_y {P : Prop} [Decidable P] (h : ¬ zb P = 0) : P := Classical.byContradiction fun q => h (by unfold zb; rw [if_neg q])
theorem zb_bool (P : Prop) [Decidable P] : narrow .boolean (.int (zb P)) = .int (zb P) := by unfold zb; split <;> rfl
theorem bt_lt {g : Nat → Nat} {n q : Nat} (hg : ∀ j, g j < 256) : bt g n q < 256 := by unfold bt; split; exact hg q; omega
theorem bt_in {g : Nat → Nat} {n q : Nat} (h : q < n) : bt g n q = g q := if_pos h
theorem bt_out {g : Nat → Nat} {n q : Nat} (h : n ≤ q) : bt g n q = 0 := if_neg (Nat.not_lt.mpr h)
abbrev b_Model_byteAt : ByteArray := prog_13_method_7_code
def y_Model_byteAt : MethodName := ⟨R_Model, "byteAt", "(I)I"⟩
theorem d_Model_byteAt_0 : decode b_Model_byteAt 0 = .ok (.iload_n 1, 1) := by decide +kernel
theorem d_Model_byteAt_1 : decode b_Model_byteAt 1 = .ok (.aload_n 0, 1) := by decide +kernel
theorem d_Model_byteAt_2 : decode b_Model_byteAt 2 = .ok (.getfield 156, 3) := by decide +kernel
theorem d_Model_byteAt_5 : decode b_Model_byteAt 5 = .ok (.if_icmp .ge 12, 3) := by decide +kernel
theorem d_Model_byteAt_8 : decode b_Model_byteAt 8 = .ok (.aload_n 0, 1) := by decide +kernel
theorem d_Model_byteAt_9 : decode b_Model_byteAt 9 = .ok (.getfield 7, 3) := by decide +kernel
theorem d_Model_byteAt_12 : decode b_Model_byteAt 12 = .ok (.iload_n 1, 1) := by decide +kernel
theorem d_Model_byteAt_13 : decode b_Model_byteAt 13 = .ok (.iaload, 1) := by decide +kernel
theorem d_Model_byteAt_14 : decode b_Model_byteAt 14 = .ok (.goto 4, 3) := by decide +kernel
theorem d_Model_byteAt_17 : decode b_Model_byteAt 17 = .ok (.iconst 0, 1) := by decide +kernel
theorem d_Model_byteAt_18 : decode b_Model_byteAt 18 = .ok (.ireturn, 1) := by decide +kernel
set_option maxHeartbeats 40000000 in
set_option maxRecDepth 100000 in
theorem c_M_byteAt (l : Launch) (D : va_G) (ax : Nat → ClassId) (m0 m1 m2 m3 m4 m5 m6 m7 m8 m9 m10 m11 m12 m13 m14 m15 m16 m17 m18 m19 m20 m21 m22 m23 m24 m25 m26 m27 m28 m29 m30 m31 m32 m33 m34 m35 m36 m37 m38 m39 m40 m41 m42 : Nat) (s_thrown s_taped s_outSize s_kind s_value s_begin s_end s_failed s_isProgram s_half s_signs s_stacked s_name s_shift s_statements s_ifs s_whiles s_variants s_open s_isMade s_conditions s_kept s_tops s_used s_looked s_rows s_firstRow s_isBroken s_atoms : Int32) (n q : Nat) (g : Nat → Nat) (sz : Nat) (hn : n ≤ 400) (hq : q < 1000) : Met l y_Model_byteAt (xws (.code y_Model_byteAt b_Model_byteAt 2 (some .int))) ({ frames := 10, cells := 0, slots := 0, locals := 400 }) (va_Pc [.ref m0, .int (nI q)] (xo D ax [(m0, .inr (11, [.int s_thrown, .int s_taped, .ref m1, .int (nI n), .int s_outSize, .ref m2, .int s_kind, .int s_value, .int s_begin, .int s_end, .int s_failed, .ref m3, .ref m4, .ref m5, .int s_isProgram, .int s_half, .ref m6, .ref m7, .ref m8, .ref m9, .ref m10, .ref m11, .ref m12, .ref m13, .ref m14, .ref m15, .ref m16, .ref m17, .ref m18, .ref m19, .ref m20, .int s_signs, .ref m21, .int s_stacked, .ref m22, .int s_name, .int s_shift, .int s_statements, .int s_ifs, .int s_whiles, .int s_variants, .int s_open, .ref m23, .int s_isMade, .int s_conditions, .ref m24, .ref m25, .ref m26, .ref m27, .int s_kept, .ref m28, .int s_tops, .ref m29, .int s_used, .ref m30, .ref m31, .int s_looked, .int s_rows, .int s_firstRow, .ref m32, .ref m33, .ref m34, .ref m35, .ref m36, .ref m37, .ref m38, .ref m39, .ref m40, .int s_isBroken, .ref m41, .int s_atoms, .ref m42])), (m1, .inl (ax 0, 400, .inl (fun j => nI (g j))))] sz)) ((va_Qi (fun (r : Int32) (u : Nat → Nat) => r = nI (bt g n q)) (xb D (va_A [(m0, .inr (11, [.int s_thrown, .int s_taped, .ref m1, .int (nI n), .int s_outSize, .ref m2, .int s_kind, .int s_value, .int s_begin, .int s_end, .int s_failed, .ref m3, .ref m4, .ref m5, .int s_isProgram, .int s_half, .ref m6, .ref m7, .ref m8, .ref m9, .ref m10, .ref m11, .ref m12, .ref m13, .ref m14, .ref m15, .ref m16, .ref m17, .ref m18, .ref m19, .ref m20, .int s_signs, .ref m21, .int s_stacked, .ref m22, .int s_name, .int s_shift, .int s_statements, .int s_ifs, .int s_whiles, .int s_variants, .int s_open, .ref m23, .int s_isMade, .int s_conditions, .ref m24, .ref m25, .ref m26, .ref m27, .int s_kept, .ref m28, .int s_tops, .ref m29, .int s_used, .ref m30, .ref m31, .int s_looked, .int s_rows, .int s_firstRow, .ref m32, .ref m33, .ref m34, .ref m35, .ref m36, .ref m37, .ref m38, .ref m39, .ref m40, .int s_isBroken, .ref m41, .int s_atoms, .ref m42])), (m1, .inl (ax 0, 400, .inl (fun j => nI (g j))))] sz) (fun u => [(m0, .inr (11, [.int s_thrown, .int s_taped, .ref m1, .int (nI n), .int s_outSize, .ref m2, .int s_kind, .int s_value, .int s_begin, .int s_end, .int s_failed, .ref m3, .ref m4, .ref m5, .int s_isProgram, .int s_half, .ref m6, .ref m7, .ref m8, .ref m9, .ref m10, .ref m11, .ref m12, .ref m13, .ref m14, .ref m15, .ref m16, .ref m17, .ref m18, .ref m19, .ref m20, .int s_signs, .ref m21, .int s_stacked, .ref m22, .int s_name, .int s_shift, .int s_statements, .int s_ifs, .int s_whiles, .int s_variants, .int s_open, .ref m23, .int s_isMade, .int s_conditions, .ref m24, .ref m25, .ref m26, .ref m27, .int s_kept, .ref m28, .int s_tops, .ref m29, .int s_used, .ref m30, .ref m31, .int s_looked, .int s_rows, .int s_firstRow, .ref m32, .ref m33, .ref m34, .ref m35, .ref m36, .ref m37, .ref m38, .ref m39, .ref m40, .int s_isBroken, .ref m41, .int s_atoms, .ref m42])), (m1, .inl (ax 0, 400, .inl (fun j => nI (g j))))])) (va_A [(m0, .inr (11, [.int s_thrown, .int s_taped, .ref m1, .int (nI n), .int s_outSize, .ref m2, .int s_kind, .int s_value, .int s_begin, .int s_end, .int s_failed, .ref m3, .ref m4, .ref m5, .int s_isProgram, .int s_half, .ref m6, .ref m7, .ref m8, .ref m9, .ref m10, .ref m11, .ref m12, .ref m13, .ref m14, .ref m15, .ref m16, .ref m17, .ref m18, .ref m19, .ref m20, .int s_signs, .ref m21, .int s_stacked, .ref m22, .int s_name, .int s_shift, .int s_statements, .int s_ifs, .int s_whiles, .int s_variants, .int s_open, .ref m23, .int s_isMade, .int s_conditions, .ref m24, .ref m25, .ref m26, .ref m27, .int s_kept, .ref m28, .int s_tops, .ref m29, .int s_used, .ref m30, .ref m31, .int s_looked, .int s_rows, .int s_firstRow, .ref m32, .ref m33, .ref m34, .ref m35, .ref m36, .ref m37, .ref m38, .ref m39, .ref m40, .int s_isBroken, .ref m41, .int s_atoms, .ref m42])), (m1, .inl (ax 0, 400, .inl (fun j => nI (g j))))] sz))) 0 0 (va_A [(m0, .inr (11, [.int s_thrown, .int s_taped, .ref m1, .int (nI n), .int s_outSize, .ref m2, .int s_kind, .int s_value, .int s_begin, .int s_end, .int s_failed, .ref m3, .ref m4, .ref m5, .int s_isProgram, .int s_half, .ref m6, .ref m7, .ref m8, .ref m9, .ref m10, .ref m11, .ref m12, .ref m13, .ref m14, .ref m15, .ref m16, .ref m17, .ref m18, .ref m19, .ref m20, .int s_signs, .ref m21, .int s_stacked, .ref m22, .int s_name, .int s_shift, .int s_statements, .int s_ifs, .int s_whiles, .int s_variants, .int s_open, .ref m23, .int s_isMade, .int s_conditions, .ref m24, .ref m25, .ref m26, .ref m27, .int s_kept, .ref m28, .int s_tops, .ref m29, .int s_used, .ref m30, .ref m31, .int s_looked, .int s_rows, .int s_firstRow, .ref m32, .ref m33, .ref m34, .ref m35, .ref m36, .ref m37, .ref m38, .ref m39, .ref m40, .int s_isBroken, .ref m41, .int s_atoms, .ref m42])), (m1, .inl (ax 0, 400, .inl (fun j => nI (g j))))] sz) := by
  refine Met.ofW (cc := b_Model_byteAt) (maxL := 2) (ret := (some .int)) (by decide) rfl ?_
  intro p e s m args below meth c s₁ B hml hv
  obtain ⟨rfl, hsz, hP, hK, hD0⟩ := hv
  have hx := B.exec
  have hb := B.bytes
  have hr := B.returns
  have hts := xw_hts B.pre
  have hown : s.vm.findClass R_Model = some m.cls := findClass_of_methodNamed B.named
  have hlocks := B.notSynchronized
  subst hsz
  have hD := hD0.self (sz := s.heap.size)
  have hN := xz_entry hP
  generalize hAe : va_A [(m0, .inr (11, [.int s_thrown, .int s_taped, .ref m1, .int (nI n), .int s_outSize, .ref m2, .int s_kind, .int s_value, .int s_begin, .int s_end, .int s_failed, .ref m3, .ref m4, .ref m5, .int s_isProgram, .int s_half, .ref m6, .ref m7, .ref m8, .ref m9, .ref m10, .ref m11, .ref m12, .ref m13, .ref m14, .ref m15, .ref m16, .ref m17, .ref m18, .ref m19, .ref m20, .int s_signs, .ref m21, .int s_stacked, .ref m22, .int s_name, .int s_shift, .int s_statements, .int s_ifs, .int s_whiles, .int s_variants, .int s_open, .ref m23, .int s_isMade, .int s_conditions, .ref m24, .ref m25, .ref m26, .ref m27, .int s_kept, .ref m28, .int s_tops, .ref m29, .int s_used, .ref m30, .ref m31, .int s_looked, .int s_rows, .int s_firstRow, .ref m32, .ref m33, .ref m34, .ref m35, .ref m36, .ref m37, .ref m38, .ref m39, .ref m40, .int s_isBroken, .ref m41, .int s_atoms, .ref m42])), (m1, .inl (ax 0, 400, .inl (fun j => nI (g j))))] s.heap.size = A at hD hN ⊢
  have hA : ∀ q : Nat, s.heap.size ≤ q → A q := fun q h => by rw [← hAe]; exact Or.inr h
  have hS : va_S A s.heap s.heap [] := va_S.rf
  have hl0 := lv_entry ([.ref m0, .int (nI q)]) (n := 2) (Nat.le_of_ble_eq_true rfl)
  rw [lg_entry_eq]
  generalize (lg_sl ([.ref m0, .int (nI q)]) ++ List.replicate (2 - (lg_sl ([.ref m0, .int (nI q)])).length) Slot.unset).toArray = ls at hl0 ⊢
  have hl1 : lv_has ls 2 [(0, .ref m0), (1, .int (nI q))] := hl0
  refine xw_gen (fun Z9 hQe => ?_)
  refine lv_iload_n hx hb d_Model_byteAt_0 rfl (lv_at hl1 1 rfl) ?_
  refine lv_aload_n hx hb d_Model_byteAt_1 rfl (lv_at hl1 0 rfl) ?_
  refine va_get (D := D) (ci := 11) (v := .int (nI n)) (C := R_Model) (T := F_Model) (N := 72) hx hb hts i_Model hown hK.1 hP 0 rfl rfl 3 (by decide) (hts _ wd_1039) (fun _ h9 => h9) rfl d_Model_byteAt_2 ?_
  refine lv_icmp_ge (tgt := 17) hx hb d_Model_byteAt_5 (by decide) (fun c_1 => ?_) (fun c_1 => ?_)
  · replace c_1 : n ≤ q := (nI_leI (a := n) (b := q) (by first | exact Nat.lt_of_lt_of_le (by assumption) (by decide) | exact Nat.lt_of_le_of_lt (by assumption) (by decide) | omega) (by first | exact Nat.lt_of_lt_of_le (by assumption) (by decide) | exact Nat.lt_of_le_of_lt (by assumption) (by decide) | omega)).mp c_1
    refine lv_iconst (v := 0) hx hb d_Model_byteAt_17 (by decide) ?_
    rw [← hQe]
    obtain ⟨hP9, hD9⟩ := xw_sub2 (wc := (fun u : Nat → Nat => [(m0, .inr (11, [.int s_thrown, .int s_taped, .ref m1, .int (nI n), .int s_outSize, .ref m2, .int s_kind, .int s_value, .int s_begin, .int s_end, .int s_failed, .ref m3, .ref m4, .ref m5, .int s_isProgram, .int s_half, .ref m6, .ref m7, .ref m8, .ref m9, .ref m10, .ref m11, .ref m12, .ref m13, .ref m14, .ref m15, .ref m16, .ref m17, .ref m18, .ref m19, .ref m20, .int s_signs, .ref m21, .int s_stacked, .ref m22, .int s_name, .int s_shift, .int s_statements, .int s_ifs, .int s_whiles, .int s_variants, .int s_open, .ref m23, .int s_isMade, .int s_conditions, .ref m24, .ref m25, .ref m26, .ref m27, .int s_kept, .ref m28, .int s_tops, .ref m29, .int s_used, .ref m30, .ref m31, .int s_looked, .int s_rows, .int s_firstRow, .ref m32, .ref m33, .ref m34, .ref m35, .ref m36, .ref m37, .ref m38, .ref m39, .ref m40, .int s_isBroken, .ref m41, .int s_atoms, .ref m42])), (m1, .inl (ax 0, 400, .inl (fun j => nI (g j))))]) (ixn [])) hP hD [0, 1] (by decide) rfl
    exact W.iret (v := 0) hx hb hr (fun t ht hW => ⟨⟨0, ixn [], rfl, (congrArg nI (by unfold bt; split <;> omega)), ⟨by rw [ht]; exact hP9, hD9⟩⟩, hS.F ht⟩) hS.2.2 d_Model_byteAt_18
  · replace c_1 : ¬ n ≤ q := fun hq9 => c_1 ((nI_leI (a := n) (b := q) (by first | exact Nat.lt_of_lt_of_le (by assumption) (by decide) | exact Nat.lt_of_le_of_lt (by assumption) (by decide) | omega) (by first | exact Nat.lt_of_lt_of_le (by assumption) (by decide) | exact Nat.lt_of_le_of_lt (by assumption) (by decide) | omega)).mpr hq9)
    refine lv_aload_n hx hb d_Model_byteAt_8 rfl (lv_at hl1 0 rfl) ?_
    refine va_get (D := D) (ci := 11) (v := .ref m1) (C := R_Model) (T := F_Model) (N := 72) hx hb hts i_Model hown hK.1 hP 0 rfl rfl 2 (by decide) (hts _ wd_1038) (fun _ h9 => h9) rfl d_Model_byteAt_9 ?_
    refine lv_iload_n hx hb d_Model_byteAt_12 rfl (lv_at hl1 1 rfl) ?_
    refine va_iald hx hb hK.1 hP 1 0 rfl rfl (vp_in_nI (by first | assumption | omega) (by decide)) d_Model_byteAt_13 ?_
    refine W.eq (g2 := F0 m 14 ls [.int (nI (g q))]) (by rw [nI_clamp (by first | exact Nat.lt_of_lt_of_le (by assumption) (by decide) | exact Nat.lt_of_le_of_lt (by assumption) (by decide) | omega)]) ?_
    refine lv_goto (tgt := 18) hx hb d_Model_byteAt_14 (by decide) ?_
    rw [← hQe]
    obtain ⟨hP9, hD9⟩ := xw_sub2 (wc := (fun u : Nat → Nat => [(m0, .inr (11, [.int s_thrown, .int s_taped, .ref m1, .int (nI n), .int s_outSize, .ref m2, .int s_kind, .int s_value, .int s_begin, .int s_end, .int s_failed, .ref m3, .ref m4, .ref m5, .int s_isProgram, .int s_half, .ref m6, .ref m7, .ref m8, .ref m9, .ref m10, .ref m11, .ref m12, .ref m13, .ref m14, .ref m15, .ref m16, .ref m17, .ref m18, .ref m19, .ref m20, .int s_signs, .ref m21, .int s_stacked, .ref m22, .int s_name, .int s_shift, .int s_statements, .int s_ifs, .int s_whiles, .int s_variants, .int s_open, .ref m23, .int s_isMade, .int s_conditions, .ref m24, .ref m25, .ref m26, .ref m27, .int s_kept, .ref m28, .int s_tops, .ref m29, .int s_used, .ref m30, .ref m31, .int s_looked, .int s_rows, .int s_firstRow, .ref m32, .ref m33, .ref m34, .ref m35, .ref m36, .ref m37, .ref m38, .ref m39, .ref m40, .int s_isBroken, .ref m41, .int s_atoms, .ref m42])), (m1, .inl (ax 0, 400, .inl (fun j => nI (g j))))]) (ixn [])) hP hD [0, 1] (by decide) rfl
    exact W.iret (v := nI (g q)) hx hb hr (fun t ht hW => ⟨⟨nI (g q), ixn [], rfl, (congrArg nI (by unfold bt; split <;> omega)), ⟨by rw [ht]; exact hP9, hD9⟩⟩, hS.F ht⟩) hS.2.2 d_Model_byteAt_18
abbrev b_Model_isLetter : ByteArray := prog_13_method_5_code
def y_Model_isLetter : MethodName := ⟨R_Model, "isLetter", "(I)Z"⟩
theorem d_Model_isLetter_0 : decode b_Model_isLetter 0 = .ok (.iload_n 0, 1) := by decide +kernel
theorem d_Model_isLetter_1 : decode b_Model_isLetter 1 = .ok (.bipush 97, 2) := by decide +kernel
theorem d_Model_isLetter_3 : decode b_Model_isLetter 3 = .ok (.if_icmp .lt 13, 3) := by decide +kernel
theorem d_Model_isLetter_6 : decode b_Model_isLetter 6 = .ok (.iload_n 0, 1) := by decide +kernel
theorem d_Model_isLetter_7 : decode b_Model_isLetter 7 = .ok (.bipush 122, 2) := by decide +kernel
theorem d_Model_isLetter_9 : decode b_Model_isLetter 9 = .ok (.if_icmp .gt 7, 3) := by decide +kernel
theorem d_Model_isLetter_12 : decode b_Model_isLetter 12 = .ok (.iconst 1, 1) := by decide +kernel
theorem d_Model_isLetter_13 : decode b_Model_isLetter 13 = .ok (.goto 4, 3) := by decide +kernel
theorem d_Model_isLetter_16 : decode b_Model_isLetter 16 = .ok (.iconst 0, 1) := by decide +kernel
theorem d_Model_isLetter_17 : decode b_Model_isLetter 17 = .ok (.ireturn, 1) := by decide +kernel
set_option maxHeartbeats 40000000 in
set_option maxRecDepth 100000 in
theorem c_M_isLetter (l : Launch) (D : va_G) (ax : Nat → ClassId) (q : Nat) (sz : Nat) (hq : q < 256) : Met l y_Model_isLetter (xws (.code y_Model_isLetter b_Model_isLetter 1 (some .boolean))) ({ frames := 10, cells := 0, slots := 0, locals := 400 }) (va_Pc [.int (nI q)] (xo D ax [] sz)) ((va_Qi (fun (r : Int32) (u : Nat → Nat) => r = zb (97 ≤ q ∧ q ≤ 122)) (xb D (va_A [] sz) (fun u => [])) (va_A [] sz))) 0 0 (va_A [] sz) := by
  refine Met.ofW (cc := b_Model_isLetter) (maxL := 1) (ret := (some .boolean)) (by decide) rfl ?_
  intro p e s m args below meth c s₁ B hml hv
  obtain ⟨rfl, hsz, hP, hK, hD0⟩ := hv
  have hx := B.exec
  have hb := B.bytes
  have hr := B.returns
  have hts := xw_hts B.pre
  have hown : s.vm.findClass R_Model = some m.cls := findClass_of_methodNamed B.named
  have hlocks := B.notSynchronized
  subst hsz
  have hD := hD0.self (sz := s.heap.size)
  have hN := xz_entry hP
  generalize hAe : va_A [] s.heap.size = A at hD hN ⊢
  have hA : ∀ q : Nat, s.heap.size ≤ q → A q := fun q h => by rw [← hAe]; exact Or.inr h
  have hS : va_S A s.heap s.heap [] := va_S.rf
  have hl0 := lv_entry ([.int (nI q)]) (n := 1) (Nat.le_of_ble_eq_true rfl)
  rw [lg_entry_eq]
  generalize (lg_sl ([.int (nI q)]) ++ List.replicate (1 - (lg_sl ([.int (nI q)])).length) Slot.unset).toArray = ls at hl0 ⊢
  have hl1 : lv_has ls 1 [(0, .int (nI q))] := hl0
  refine xw_gen (fun Z9 hQe => ?_)
  refine lv_iload_n hx hb d_Model_isLetter_0 rfl (lv_at hl1 0 rfl) ?_
  refine lv_bipush (v := 97) hx hb d_Model_isLetter_1 (by decide) ?_
  refine lv_icmp_lt (tgt := 16) hx hb d_Model_isLetter_3 (by decide) (fun c_1 => ?_) (fun c_1 => ?_)
  · replace c_1 : q < 97 := (nI_ltI (a := q) (b := 97) (by first | exact Nat.lt_of_lt_of_le (by assumption) (by decide) | exact Nat.lt_of_le_of_lt (by assumption) (by decide) | omega) (by decide)).mp c_1
    refine lv_iconst (v := 0) hx hb d_Model_isLetter_16 (by decide) ?_
    rw [← hQe]
    obtain ⟨hP9, hD9⟩ := xw_sub2 (wc := (fun u : Nat → Nat => []) (ixn [])) hP hD [] (by decide) rfl
    exact W.zret (v := 0) hx hb hr rfl (fun t ht hW => ⟨⟨0, ixn [], rfl, (by unfold zb; split <;> first | rfl | (exfalso; omega)), ⟨by rw [ht]; exact hP9, hD9⟩⟩, hS.F ht⟩) hS.2.2 d_Model_isLetter_17
  · replace c_1 : ¬ q < 97 := fun hq9 => c_1 ((nI_ltI (a := q) (b := 97) (by first | exact Nat.lt_of_lt_of_le (by assumption) (by decide) | exact Nat.lt_of_le_of_lt (by assumption) (by decide) | omega) (by decide)).mpr hq9)
    refine lv_iload_n hx hb d_Model_isLetter_6 rfl (lv_at hl1 0 rfl) ?_
    refine lv_bipush (v := 122) hx hb d_Model_isLetter_7 (by decide) ?_
    refine lv_icmp_gt (tgt := 16) hx hb d_Model_isLetter_9 (by decide) (fun c_2 => ?_) (fun c_2 => ?_)
    · replace c_2 : 122 < q := (nI_ltI (a := 122) (b := q) (by decide) (by first | exact Nat.lt_of_lt_of_le (by assumption) (by decide) | exact Nat.lt_of_le_of_lt (by assumption) (by decide) | omega)).mp c_2
      refine lv_iconst (v := 0) hx hb d_Model_isLetter_16 (by decide) ?_
      rw [← hQe]
      obtain ⟨hP9, hD9⟩ := xw_sub2 (wc := (fun u : Nat → Nat => []) (ixn [])) hP hD [] (by decide) rfl
      exact W.zret (v := 0) hx hb hr rfl (fun t ht hW => ⟨⟨0, ixn [], rfl, (by unfold zb; split <;> first | rfl | (exfalso; omega)), ⟨by rw [ht]; exact hP9, hD9⟩⟩, hS.F ht⟩) hS.2.2 d_Model_isLetter_17
    · replace c_2 : ¬ 122 < q := fun hq9 => c_2 ((nI_ltI (a := 122) (b := q) (by decide) (by first | exact Nat.lt_of_lt_of_le (by assumption) (by decide) | exact Nat.lt_of_le_of_lt (by assumption) (by decide) | omega)).mpr hq9)
      refine lv_iconst (v := 1) hx hb d_Model_isLetter_12 (by decide) ?_
      refine lv_goto (tgt := 17) hx hb d_Model_isLetter_13 (by decide) ?_
      rw [← hQe]
      obtain ⟨hP9, hD9⟩ := xw_sub2 (wc := (fun u : Nat → Nat => []) (ixn [])) hP hD [] (by decide) rfl
      exact W.zret (v := 1) hx hb hr rfl (fun t ht hW => ⟨⟨1, ixn [], rfl, (by unfold zb; split <;> first | rfl | (exfalso; omega)), ⟨by rw [ht]; exact hP9, hD9⟩⟩, hS.F ht⟩) hS.2.2 d_Model_isLetter_17
abbrev b_Model_isDigit : ByteArray := prog_13_method_6_code
def y_Model_isDigit : MethodName := ⟨R_Model, "isDigit", "(I)Z"⟩
theorem d_Model_isDigit_0 : decode b_Model_isDigit 0 = .ok (.iload_n 0, 1) := by decide +kernel
theorem d_Model_isDigit_1 : decode b_Model_isDigit 1 = .ok (.bipush 48, 2) := by decide +kernel
theorem d_Model_isDigit_3 : decode b_Model_isDigit 3 = .ok (.if_icmp .lt 13, 3) := by decide +kernel
theorem d_Model_isDigit_6 : decode b_Model_isDigit 6 = .ok (.iload_n 0, 1) := by decide +kernel
theorem d_Model_isDigit_7 : decode b_Model_isDigit 7 = .ok (.bipush 57, 2) := by decide +kernel
theorem d_Model_isDigit_9 : decode b_Model_isDigit 9 = .ok (.if_icmp .gt 7, 3) := by decide +kernel
theorem d_Model_isDigit_12 : decode b_Model_isDigit 12 = .ok (.iconst 1, 1) := by decide +kernel
theorem d_Model_isDigit_13 : decode b_Model_isDigit 13 = .ok (.goto 4, 3) := by decide +kernel
theorem d_Model_isDigit_16 : decode b_Model_isDigit 16 = .ok (.iconst 0, 1) := by decide +kernel
theorem d_Model_isDigit_17 : decode b_Model_isDigit 17 = .ok (.ireturn, 1) := by decide +kernel
set_option maxHeartbeats 40000000 in
set_option maxRecDepth 100000 in
theorem c_M_isDigit (l : Launch) (D : va_G) (ax : Nat → ClassId) (q : Nat) (sz : Nat) (hq : q < 256) : Met l y_Model_isDigit (xws (.code y_Model_isDigit b_Model_isDigit 1 (some .boolean))) ({ frames := 10, cells := 0, slots := 0, locals := 400 }) (va_Pc [.int (nI q)] (xo D ax [] sz)) ((va_Qi (fun (r : Int32) (u : Nat → Nat) => r = zb (48 ≤ q ∧ q ≤ 57)) (xb D (va_A [] sz) (fun u => [])) (va_A [] sz))) 0 0 (va_A [] sz) := by
  refine Met.ofW (cc := b_Model_isDigit) (maxL := 1) (ret := (some .boolean)) (by decide) rfl ?_
  intro p e s m args below meth c s₁ B hml hv
  obtain ⟨rfl, hsz, hP, hK, hD0⟩ := hv
  have hx := B.exec
  have hb := B.bytes
  have hr := B.returns
  have hts := xw_hts B.pre
  have hown : s.vm.findClass R_Model = some m.cls := findClass_of_methodNamed B.named
  have hlocks := B.notSynchronized
  subst hsz
  have hD := hD0.self (sz := s.heap.size)
  have hN := xz_entry hP
  generalize hAe : va_A [] s.heap.size = A at hD hN ⊢
  have hA : ∀ q : Nat, s.heap.size ≤ q → A q := fun q h => by rw [← hAe]; exact Or.inr h
  have hS : va_S A s.heap s.heap [] := va_S.rf
  have hl0 := lv_entry ([.int (nI q)]) (n := 1) (Nat.le_of_ble_eq_true rfl)
  rw [lg_entry_eq]
  generalize (lg_sl ([.int (nI q)]) ++ List.replicate (1 - (lg_sl ([.int (nI q)])).length) Slot.unset).toArray = ls at hl0 ⊢
  have hl1 : lv_has ls 1 [(0, .int (nI q))] := hl0
  refine xw_gen (fun Z9 hQe => ?_)
  refine lv_iload_n hx hb d_Model_isDigit_0 rfl (lv_at hl1 0 rfl) ?_
  refine lv_bipush (v := 48) hx hb d_Model_isDigit_1 (by decide) ?_
  refine lv_icmp_lt (tgt := 16) hx hb d_Model_isDigit_3 (by decide) (fun c_1 => ?_) (fun c_1 => ?_)
  · replace c_1 : q < 48 := (nI_ltI (a := q) (b := 48) (by first | exact Nat.lt_of_lt_of_le (by assumption) (by decide) | exact Nat.lt_of_le_of_lt (by assumption) (by decide) | omega) (by decide)).mp c_1
    refine lv_iconst (v := 0) hx hb d_Model_isDigit_16 (by decide) ?_
    rw [← hQe]
    obtain ⟨hP9, hD9⟩ := xw_sub2 (wc := (fun u : Nat → Nat => []) (ixn [])) hP hD [] (by decide) rfl
    exact W.zret (v := 0) hx hb hr rfl (fun t ht hW => ⟨⟨0, ixn [], rfl, (by unfold zb; split <;> first | rfl | (exfalso; omega)), ⟨by rw [ht]; exact hP9, hD9⟩⟩, hS.F ht⟩) hS.2.2 d_Model_isDigit_17
  · replace c_1 : ¬ q < 48 := fun hq9 => c_1 ((nI_ltI (a := q) (b := 48) (by first | exact Nat.lt_of_lt_of_le (by assumption) (by decide) | exact Nat.lt_of_le_of_lt (by assumption) (by decide) | omega) (by decide)).mpr hq9)
    refine lv_iload_n hx hb d_Model_isDigit_6 rfl (lv_at hl1 0 rfl) ?_
    refine lv_bipush (v := 57) hx hb d_Model_isDigit_7 (by decide) ?_
    refine lv_icmp_gt (tgt := 16) hx hb d_Model_isDigit_9 (by decide) (fun c_2 => ?_) (fun c_2 => ?_)
    · replace c_2 : 57 < q := (nI_ltI (a := 57) (b := q) (by decide) (by first | exact Nat.lt_of_lt_of_le (by assumption) (by decide) | exact Nat.lt_of_le_of_lt (by assumption) (by decide) | omega)).mp c_2
      refine lv_iconst (v := 0) hx hb d_Model_isDigit_16 (by decide) ?_
      rw [← hQe]
      obtain ⟨hP9, hD9⟩ := xw_sub2 (wc := (fun u : Nat → Nat => []) (ixn [])) hP hD [] (by decide) rfl
      exact W.zret (v := 0) hx hb hr rfl (fun t ht hW => ⟨⟨0, ixn [], rfl, (by unfold zb; split <;> first | rfl | (exfalso; omega)), ⟨by rw [ht]; exact hP9, hD9⟩⟩, hS.F ht⟩) hS.2.2 d_Model_isDigit_17
    · replace c_2 : ¬ 57 < q := fun hq9 => c_2 ((nI_ltI (a := 57) (b := q) (by decide) (by first | exact Nat.lt_of_lt_of_le (by assumption) (by decide) | exact Nat.lt_of_le_of_lt (by assumption) (by decide) | omega)).mpr hq9)
      refine lv_iconst (v := 1) hx hb d_Model_isDigit_12 (by decide) ?_
      refine lv_goto (tgt := 17) hx hb d_Model_isDigit_13 (by decide) ?_
      rw [← hQe]
      obtain ⟨hP9, hD9⟩ := xw_sub2 (wc := (fun u : Nat → Nat => []) (ixn [])) hP hD [] (by decide) rfl
      exact W.zret (v := 1) hx hb hr rfl (fun t ht hW => ⟨⟨1, ixn [], rfl, (by unfold zb; split <;> first | rfl | (exfalso; omega)), ⟨by rw [ht]; exact hP9, hD9⟩⟩, hS.F ht⟩) hS.2.2 d_Model_isDigit_17
abbrev b_Model_isSign : ByteArray := prog_13_method_11_code
def y_Model_isSign : MethodName := ⟨R_Model, "isSign", "(I)Z"⟩
theorem d_Model_isSign_0 : decode b_Model_isSign 0 = .ok (.iload_n 0, 1) := by decide +kernel
theorem d_Model_isSign_1 : decode b_Model_isSign 1 = .ok (.bipush 60, 2) := by decide +kernel
theorem d_Model_isSign_3 : decode b_Model_isSign 3 = .ok (.if_icmp .eq 81, 3) := by decide +kernel
theorem d_Model_isSign_6 : decode b_Model_isSign 6 = .ok (.iload_n 0, 1) := by decide +kernel
theorem d_Model_isSign_7 : decode b_Model_isSign 7 = .ok (.bipush 62, 2) := by decide +kernel
theorem d_Model_isSign_9 : decode b_Model_isSign 9 = .ok (.if_icmp .eq 75, 3) := by decide +kernel
theorem d_Model_isSign_12 : decode b_Model_isSign 12 = .ok (.iload_n 0, 1) := by decide +kernel
theorem d_Model_isSign_13 : decode b_Model_isSign 13 = .ok (.bipush 61, 2) := by decide +kernel
theorem d_Model_isSign_15 : decode b_Model_isSign 15 = .ok (.if_icmp .eq 69, 3) := by decide +kernel
theorem d_Model_isSign_18 : decode b_Model_isSign 18 = .ok (.iload_n 0, 1) := by decide +kernel
theorem d_Model_isSign_19 : decode b_Model_isSign 19 = .ok (.bipush 35, 2) := by decide +kernel
theorem d_Model_isSign_21 : decode b_Model_isSign 21 = .ok (.if_icmp .eq 63, 3) := by decide +kernel
theorem d_Model_isSign_24 : decode b_Model_isSign 24 = .ok (.iload_n 0, 1) := by decide +kernel
theorem d_Model_isSign_25 : decode b_Model_isSign 25 = .ok (.bipush 38, 2) := by decide +kernel
theorem d_Model_isSign_27 : decode b_Model_isSign 27 = .ok (.if_icmp .eq 57, 3) := by decide +kernel
theorem d_Model_isSign_30 : decode b_Model_isSign 30 = .ok (.iload_n 0, 1) := by decide +kernel
theorem d_Model_isSign_31 : decode b_Model_isSign 31 = .ok (.bipush 124, 2) := by decide +kernel
theorem d_Model_isSign_33 : decode b_Model_isSign 33 = .ok (.if_icmp .eq 51, 3) := by decide +kernel
theorem d_Model_isSign_36 : decode b_Model_isSign 36 = .ok (.iload_n 0, 1) := by decide +kernel
theorem d_Model_isSign_37 : decode b_Model_isSign 37 = .ok (.bipush 33, 2) := by decide +kernel
theorem d_Model_isSign_39 : decode b_Model_isSign 39 = .ok (.if_icmp .eq 45, 3) := by decide +kernel
theorem d_Model_isSign_42 : decode b_Model_isSign 42 = .ok (.iload_n 0, 1) := by decide +kernel
theorem d_Model_isSign_43 : decode b_Model_isSign 43 = .ok (.bipush 40, 2) := by decide +kernel
theorem d_Model_isSign_45 : decode b_Model_isSign 45 = .ok (.if_icmp .eq 39, 3) := by decide +kernel
theorem d_Model_isSign_48 : decode b_Model_isSign 48 = .ok (.iload_n 0, 1) := by decide +kernel
theorem d_Model_isSign_49 : decode b_Model_isSign 49 = .ok (.bipush 41, 2) := by decide +kernel
theorem d_Model_isSign_51 : decode b_Model_isSign 51 = .ok (.if_icmp .eq 33, 3) := by decide +kernel
theorem d_Model_isSign_54 : decode b_Model_isSign 54 = .ok (.iload_n 0, 1) := by decide +kernel
theorem d_Model_isSign_55 : decode b_Model_isSign 55 = .ok (.bipush 123, 2) := by decide +kernel
theorem d_Model_isSign_57 : decode b_Model_isSign 57 = .ok (.if_icmp .eq 27, 3) := by decide +kernel
theorem d_Model_isSign_60 : decode b_Model_isSign 60 = .ok (.iload_n 0, 1) := by decide +kernel
theorem d_Model_isSign_61 : decode b_Model_isSign 61 = .ok (.bipush 125, 2) := by decide +kernel
theorem d_Model_isSign_63 : decode b_Model_isSign 63 = .ok (.if_icmp .eq 21, 3) := by decide +kernel
theorem d_Model_isSign_66 : decode b_Model_isSign 66 = .ok (.iload_n 0, 1) := by decide +kernel
theorem d_Model_isSign_67 : decode b_Model_isSign 67 = .ok (.bipush 59, 2) := by decide +kernel
theorem d_Model_isSign_69 : decode b_Model_isSign 69 = .ok (.if_icmp .eq 15, 3) := by decide +kernel
theorem d_Model_isSign_72 : decode b_Model_isSign 72 = .ok (.iload_n 0, 1) := by decide +kernel
theorem d_Model_isSign_73 : decode b_Model_isSign 73 = .ok (.bipush 43, 2) := by decide +kernel
theorem d_Model_isSign_75 : decode b_Model_isSign 75 = .ok (.if_icmp .eq 9, 3) := by decide +kernel
theorem d_Model_isSign_78 : decode b_Model_isSign 78 = .ok (.iload_n 0, 1) := by decide +kernel
theorem d_Model_isSign_79 : decode b_Model_isSign 79 = .ok (.bipush 45, 2) := by decide +kernel
theorem d_Model_isSign_81 : decode b_Model_isSign 81 = .ok (.if_icmp .ne 7, 3) := by decide +kernel
theorem d_Model_isSign_84 : decode b_Model_isSign 84 = .ok (.iconst 1, 1) := by decide +kernel
theorem d_Model_isSign_85 : decode b_Model_isSign 85 = .ok (.goto 4, 3) := by decide +kernel
theorem d_Model_isSign_88 : decode b_Model_isSign 88 = .ok (.iconst 0, 1) := by decide +kernel
theorem d_Model_isSign_89 : decode b_Model_isSign 89 = .ok (.ireturn, 1) := by decide +kernel
set_option maxHeartbeats 40000000 in
set_option maxRecDepth 100000 in
theorem c_M_isSign (l : Launch) (D : va_G) (ax : Nat → ClassId) (q : Nat) (sz : Nat) (hq : q < 256) : Met l y_Model_isSign (xws (.code y_Model_isSign b_Model_isSign 1 (some .boolean))) ({ frames := 10, cells := 0, slots := 0, locals := 400 }) (va_Pc [.int (nI q)] (xo D ax [] sz)) ((va_Qi (fun (r : Int32) (u : Nat → Nat) => r = zb (q = 60 ∨ q = 62 ∨ q = 61 ∨ q = 35 ∨ q = 38 ∨ q = 124 ∨ q = 33 ∨ q = 40 ∨ q = 41 ∨ q = 123 ∨ q = 125 ∨ q = 59 ∨ q = 43 ∨ q = 45)) (xb D (va_A [] sz) (fun u => [])) (va_A [] sz))) 0 0 (va_A [] sz) := by
  refine Met.ofW (cc := b_Model_isSign) (maxL := 1) (ret := (some .boolean)) (by decide) rfl ?_
  intro p e s m args below meth c s₁ B hml hv
  obtain ⟨rfl, hsz, hP, hK, hD0⟩ := hv
  have hx := B.exec
  have hb := B.bytes
  have hr := B.returns
  have hts := xw_hts B.pre
  have hown : s.vm.findClass R_Model = some m.cls := findClass_of_methodNamed B.named
  have hlocks := B.notSynchronized
  subst hsz
  have hD := hD0.self (sz := s.heap.size)
  have hN := xz_entry hP
  generalize hAe : va_A [] s.heap.size = A at hD hN ⊢
  have hA : ∀ q : Nat, s.heap.size ≤ q → A q := fun q h => by rw [← hAe]; exact Or.inr h
  have hS : va_S A s.heap s.heap [] := va_S.rf
  have hl0 := lv_entry ([.int (nI q)]) (n := 1) (Nat.le_of_ble_eq_true rfl)
  rw [lg_entry_eq]
  generalize (lg_sl ([.int (nI q)]) ++ List.replicate (1 - (lg_sl ([.int (nI q)])).length) Slot.unset).toArray = ls at hl0 ⊢
  have hl1 : lv_has ls 1 [(0, .int (nI q))] := hl0
  refine xw_gen (fun Z9 hQe => ?_)
  refine lv_iload_n hx hb d_Model_isSign_0 rfl (lv_at hl1 0 rfl) ?_
  refine lv_bipush (v := 60) hx hb d_Model_isSign_1 (by decide) ?_
  refine lv_icmp_eq (tgt := 84) hx hb d_Model_isSign_3 (by decide) (fun c_1 => ?_) (fun c_1 => ?_)
  · replace c_1 : q = 60 := (nI_eq (a := q) (b := 60) (by first | exact Nat.lt_of_lt_of_le (by assumption) (by decide) | exact Nat.lt_of_le_of_lt (by assumption) (by decide) | omega) (by decide)).mp c_1
    refine lv_iconst (v := 1) hx hb d_Model_isSign_84 (by decide) ?_
    refine lv_goto (tgt := 89) hx hb d_Model_isSign_85 (by decide) ?_
    rw [← hQe]
    obtain ⟨hP9, hD9⟩ := xw_sub2 (wc := (fun u : Nat → Nat => []) (ixn [])) hP hD [] (by decide) rfl
    exact W.zret (v := 1) hx hb hr rfl (fun t ht hW => ⟨⟨1, ixn [], rfl, (by unfold zb; split <;> first | rfl | (exfalso; omega)), ⟨by rw [ht]; exact hP9, hD9⟩⟩, hS.F ht⟩) hS.2.2 d_Model_isSign_89
  · replace c_1 : ¬ q = 60 := fun hq9 => c_1 ((nI_eq (a := q) (b := 60) (by first | exact Nat.lt_of_lt_of_le (by assumption) (by decide) | exact Nat.lt_of_le_of_lt (by assumption) (by decide) | omega) (by decide)).mpr hq9)
    refine lv_iload_n hx hb d_Model_isSign_6 rfl (lv_at hl1 0 rfl) ?_
    refine lv_bipush (v := 62) hx hb d_Model_isSign_7 (by decide) ?_
    refine lv_icmp_eq (tgt := 84) hx hb d_Model_isSign_9 (by decide) (fun c_2 => ?_) (fun c_2 => ?_)
    · replace c_2 : q = 62 := (nI_eq (a := q) (b := 62) (by first | exact Nat.lt_of_lt_of_le (by assumption) (by decide) | exact Nat.lt_of_le_of_lt (by assumption) (by decide) | omega) (by decide)).mp c_2
      refine lv_iconst (v := 1) hx hb d_Model_isSign_84 (by decide) ?_
      refine lv_goto (tgt := 89) hx hb d_Model_isSign_85 (by decide) ?_
      rw [← hQe]
      obtain ⟨hP9, hD9⟩ := xw_sub2 (wc := (fun u : Nat → Nat => []) (ixn [])) hP hD [] (by decide) rfl
      exact W.zret (v := 1) hx hb hr rfl (fun t ht hW => ⟨⟨1, ixn [], rfl, (by unfold zb; split <;> first | rfl | (exfalso; omega)), ⟨by rw [ht]; exact hP9, hD9⟩⟩, hS.F ht⟩) hS.2.2 d_Model_isSign_89
    · replace c_2 : ¬ q = 62 := fun hq9 => c_2 ((nI_eq (a := q) (b := 62) (by first | exact Nat.lt_of_lt_of_le (by assumption) (by decide) | exact Nat.lt_of_le_of_lt (by assumption) (by decide) | omega) (by decide)).mpr hq9)
      refine lv_iload_n hx hb d_Model_isSign_12 rfl (lv_at hl1 0 rfl) ?_
      refine lv_bipush (v := 61) hx hb d_Model_isSign_13 (by decide) ?_
      refine lv_icmp_eq (tgt := 84) hx hb d_Model_isSign_15 (by decide) (fun c_3 => ?_) (fun c_3 => ?_)
      · replace c_3 : q = 61 := (nI_eq (a := q) (b := 61) (by first | exact Nat.lt_of_lt_of_le (by assumption) (by decide) | exact Nat.lt_of_le_of_lt (by assumption) (by decide) | omega) (by decide)).mp c_3
        refine lv_iconst (v := 1) hx hb d_Model_isSign_84 (by decide) ?_
        refine lv_goto (tgt := 89) hx hb d_Model_isSign_85 (by decide) ?_
        rw [← hQe]
        obtain ⟨hP9, hD9⟩ := xw_sub2 (wc := (fun u : Nat → Nat => []) (ixn [])) hP hD [] (by decide) rfl
        exact W.zret (v := 1) hx hb hr rfl (fun t ht hW => ⟨⟨1, ixn [], rfl, (by unfold zb; split <;> first | rfl | (exfalso; omega)), ⟨by rw [ht]; exact hP9, hD9⟩⟩, hS.F ht⟩) hS.2.2 d_Model_isSign_89
      · replace c_3 : ¬ q = 61 := fun hq9 => c_3 ((nI_eq (a := q) (b := 61) (by first | exact Nat.lt_of_lt_of_le (by assumption) (by decide) | exact Nat.lt_of_le_of_lt (by assumption) (by decide) | omega) (by decide)).mpr hq9)
        refine lv_iload_n hx hb d_Model_isSign_18 rfl (lv_at hl1 0 rfl) ?_
        refine lv_bipush (v := 35) hx hb d_Model_isSign_19 (by decide) ?_
        refine lv_icmp_eq (tgt := 84) hx hb d_Model_isSign_21 (by decide) (fun c_4 => ?_) (fun c_4 => ?_)
        · replace c_4 : q = 35 := (nI_eq (a := q) (b := 35) (by first | exact Nat.lt_of_lt_of_le (by assumption) (by decide) | exact Nat.lt_of_le_of_lt (by assumption) (by decide) | omega) (by decide)).mp c_4
          refine lv_iconst (v := 1) hx hb d_Model_isSign_84 (by decide) ?_
          refine lv_goto (tgt := 89) hx hb d_Model_isSign_85 (by decide) ?_
          rw [← hQe]
          obtain ⟨hP9, hD9⟩ := xw_sub2 (wc := (fun u : Nat → Nat => []) (ixn [])) hP hD [] (by decide) rfl
          exact W.zret (v := 1) hx hb hr rfl (fun t ht hW => ⟨⟨1, ixn [], rfl, (by unfold zb; split <;> first | rfl | (exfalso; omega)), ⟨by rw [ht]; exact hP9, hD9⟩⟩, hS.F ht⟩) hS.2.2 d_Model_isSign_89
        · replace c_4 : ¬ q = 35 := fun hq9 => c_4 ((nI_eq (a := q) (b := 35) (by first | exact Nat.lt_of_lt_of_le (by assumption) (by decide) | exact Nat.lt_of_le_of_lt (by assumption) (by decide) | omega) (by decide)).mpr hq9)
          refine lv_iload_n hx hb d_Model_isSign_24 rfl (lv_at hl1 0 rfl) ?_
          refine lv_bipush (v := 38) hx hb d_Model_isSign_25 (by decide) ?_
          refine lv_icmp_eq (tgt := 84) hx hb d_Model_isSign_27 (by decide) (fun c_5 => ?_) (fun c_5 => ?_)
          · replace c_5 : q = 38 := (nI_eq (a := q) (b := 38) (by first | exact Nat.lt_of_lt_of_le (by assumption) (by decide) | exact Nat.lt_of_le_of_lt (by assumption) (by decide) | omega) (by decide)).mp c_5
            refine lv_iconst (v := 1) hx hb d_Model_isSign_84 (by decide) ?_
            refine lv_goto (tgt := 89) hx hb d_Model_isSign_85 (by decide) ?_
            rw [← hQe]
            obtain ⟨hP9, hD9⟩ := xw_sub2 (wc := (fun u : Nat → Nat => []) (ixn [])) hP hD [] (by decide) rfl
            exact W.zret (v := 1) hx hb hr rfl (fun t ht hW => ⟨⟨1, ixn [], rfl, (by unfold zb; split <;> first | rfl | (exfalso; omega)), ⟨by rw [ht]; exact hP9, hD9⟩⟩, hS.F ht⟩) hS.2.2 d_Model_isSign_89
          · replace c_5 : ¬ q = 38 := fun hq9 => c_5 ((nI_eq (a := q) (b := 38) (by first | exact Nat.lt_of_lt_of_le (by assumption) (by decide) | exact Nat.lt_of_le_of_lt (by assumption) (by decide) | omega) (by decide)).mpr hq9)
            refine lv_iload_n hx hb d_Model_isSign_30 rfl (lv_at hl1 0 rfl) ?_
            refine lv_bipush (v := 124) hx hb d_Model_isSign_31 (by decide) ?_
            refine lv_icmp_eq (tgt := 84) hx hb d_Model_isSign_33 (by decide) (fun c_6 => ?_) (fun c_6 => ?_)
            · replace c_6 : q = 124 := (nI_eq (a := q) (b := 124) (by first | exact Nat.lt_of_lt_of_le (by assumption) (by decide) | exact Nat.lt_of_le_of_lt (by assumption) (by decide) | omega) (by decide)).mp c_6
              refine lv_iconst (v := 1) hx hb d_Model_isSign_84 (by decide) ?_
              refine lv_goto (tgt := 89) hx hb d_Model_isSign_85 (by decide) ?_
              rw [← hQe]
              obtain ⟨hP9, hD9⟩ := xw_sub2 (wc := (fun u : Nat → Nat => []) (ixn [])) hP hD [] (by decide) rfl
              exact W.zret (v := 1) hx hb hr rfl (fun t ht hW => ⟨⟨1, ixn [], rfl, (by unfold zb; split <;> first | rfl | (exfalso; omega)), ⟨by rw [ht]; exact hP9, hD9⟩⟩, hS.F ht⟩) hS.2.2 d_Model_isSign_89
            · replace c_6 : ¬ q = 124 := fun hq9 => c_6 ((nI_eq (a := q) (b := 124) (by first | exact Nat.lt_of_lt_of_le (by assumption) (by decide) | exact Nat.lt_of_le_of_lt (by assumption) (by decide) | omega) (by decide)).mpr hq9)
              refine lv_iload_n hx hb d_Model_isSign_36 rfl (lv_at hl1 0 rfl) ?_
              refine lv_bipush (v := 33) hx hb d_Model_isSign_37 (by decide) ?_
              refine lv_icmp_eq (tgt := 84) hx hb d_Model_isSign_39 (by decide) (fun c_7 => ?_) (fun c_7 => ?_)
              · replace c_7 : q = 33 := (nI_eq (a := q) (b := 33) (by first | exact Nat.lt_of_lt_of_le (by assumption) (by decide) | exact Nat.lt_of_le_of_lt (by assumption) (by decide) | omega) (by decide)).mp c_7
                refine lv_iconst (v := 1) hx hb d_Model_isSign_84 (by decide) ?_
                refine lv_goto (tgt := 89) hx hb d_Model_isSign_85 (by decide) ?_
                rw [← hQe]
                obtain ⟨hP9, hD9⟩ := xw_sub2 (wc := (fun u : Nat → Nat => []) (ixn [])) hP hD [] (by decide) rfl
                exact W.zret (v := 1) hx hb hr rfl (fun t ht hW => ⟨⟨1, ixn [], rfl, (by unfold zb; split <;> first | rfl | (exfalso; omega)), ⟨by rw [ht]; exact hP9, hD9⟩⟩, hS.F ht⟩) hS.2.2 d_Model_isSign_89
              · replace c_7 : ¬ q = 33 := fun hq9 => c_7 ((nI_eq (a := q) (b := 33) (by first | exact Nat.lt_of_lt_of_le (by assumption) (by decide) | exact Nat.lt_of_le_of_lt (by assumption) (by decide) | omega) (by decide)).mpr hq9)
                refine lv_iload_n hx hb d_Model_isSign_42 rfl (lv_at hl1 0 rfl) ?_
                refine lv_bipush (v := 40) hx hb d_Model_isSign_43 (by decide) ?_
                refine lv_icmp_eq (tgt := 84) hx hb d_Model_isSign_45 (by decide) (fun c_8 => ?_) (fun c_8 => ?_)
                · replace c_8 : q = 40 := (nI_eq (a := q) (b := 40) (by first | exact Nat.lt_of_lt_of_le (by assumption) (by decide) | exact Nat.lt_of_le_of_lt (by assumption) (by decide) | omega) (by decide)).mp c_8
                  refine lv_iconst (v := 1) hx hb d_Model_isSign_84 (by decide) ?_
                  refine lv_goto (tgt := 89) hx hb d_Model_isSign_85 (by decide) ?_
                  rw [← hQe]
                  obtain ⟨hP9, hD9⟩ := xw_sub2 (wc := (fun u : Nat → Nat => []) (ixn [])) hP hD [] (by decide) rfl
                  exact W.zret (v := 1) hx hb hr rfl (fun t ht hW => ⟨⟨1, ixn [], rfl, (by unfold zb; split <;> first | rfl | (exfalso; omega)), ⟨by rw [ht]; exact hP9, hD9⟩⟩, hS.F ht⟩) hS.2.2 d_Model_isSign_89
                · replace c_8 : ¬ q = 40 := fun hq9 => c_8 ((nI_eq (a := q) (b := 40) (by first | exact Nat.lt_of_lt_of_le (by assumption) (by decide) | exact Nat.lt_of_le_of_lt (by assumption) (by decide) | omega) (by decide)).mpr hq9)
                  refine lv_iload_n hx hb d_Model_isSign_48 rfl (lv_at hl1 0 rfl) ?_
                  refine lv_bipush (v := 41) hx hb d_Model_isSign_49 (by decide) ?_
                  refine lv_icmp_eq (tgt := 84) hx hb d_Model_isSign_51 (by decide) (fun c_9 => ?_) (fun c_9 => ?_)
                  · replace c_9 : q = 41 := (nI_eq (a := q) (b := 41) (by first | exact Nat.lt_of_lt_of_le (by assumption) (by decide) | exact Nat.lt_of_le_of_lt (by assumption) (by decide) | omega) (by decide)).mp c_9
                    refine lv_iconst (v := 1) hx hb d_Model_isSign_84 (by decide) ?_
                    refine lv_goto (tgt := 89) hx hb d_Model_isSign_85 (by decide) ?_
                    rw [← hQe]
                    obtain ⟨hP9, hD9⟩ := xw_sub2 (wc := (fun u : Nat → Nat => []) (ixn [])) hP hD [] (by decide) rfl
                    exact W.zret (v := 1) hx hb hr rfl (fun t ht hW => ⟨⟨1, ixn [], rfl, (by unfold zb; split <;> first | rfl | (exfalso; omega)), ⟨by rw [ht]; exact hP9, hD9⟩⟩, hS.F ht⟩) hS.2.2 d_Model_isSign_89
                  · replace c_9 : ¬ q = 41 := fun hq9 => c_9 ((nI_eq (a := q) (b := 41) (by first | exact Nat.lt_of_lt_of_le (by assumption) (by decide) | exact Nat.lt_of_le_of_lt (by assumption) (by decide) | omega) (by decide)).mpr hq9)
                    refine lv_iload_n hx hb d_Model_isSign_54 rfl (lv_at hl1 0 rfl) ?_
                    refine lv_bipush (v := 123) hx hb d_Model_isSign_55 (by decide) ?_
                    refine lv_icmp_eq (tgt := 84) hx hb d_Model_isSign_57 (by decide) (fun c_10 => ?_) (fun c_10 => ?_)
                    · replace c_10 : q = 123 := (nI_eq (a := q) (b := 123) (by first | exact Nat.lt_of_lt_of_le (by assumption) (by decide) | exact Nat.lt_of_le_of_lt (by assumption) (by decide) | omega) (by decide)).mp c_10
                      refine lv_iconst (v := 1) hx hb d_Model_isSign_84 (by decide) ?_
                      refine lv_goto (tgt := 89) hx hb d_Model_isSign_85 (by decide) ?_
                      rw [← hQe]
                      obtain ⟨hP9, hD9⟩ := xw_sub2 (wc := (fun u : Nat → Nat => []) (ixn [])) hP hD [] (by decide) rfl
                      exact W.zret (v := 1) hx hb hr rfl (fun t ht hW => ⟨⟨1, ixn [], rfl, (by unfold zb; split <;> first | rfl | (exfalso; omega)), ⟨by rw [ht]; exact hP9, hD9⟩⟩, hS.F ht⟩) hS.2.2 d_Model_isSign_89
                    · replace c_10 : ¬ q = 123 := fun hq9 => c_10 ((nI_eq (a := q) (b := 123) (by first | exact Nat.lt_of_lt_of_le (by assumption) (by decide) | exact Nat.lt_of_le_of_lt (by assumption) (by decide) | omega) (by decide)).mpr hq9)
                      refine lv_iload_n hx hb d_Model_isSign_60 rfl (lv_at hl1 0 rfl) ?_
                      refine lv_bipush (v := 125) hx hb d_Model_isSign_61 (by decide) ?_
                      refine lv_icmp_eq (tgt := 84) hx hb d_Model_isSign_63 (by decide) (fun c_11 => ?_) (fun c_11 => ?_)
                      · replace c_11 : q = 125 := (nI_eq (a := q) (b := 125) (by first | exact Nat.lt_of_lt_of_le (by assumption) (by decide) | exact Nat.lt_of_le_of_lt (by assumption) (by decide) | omega) (by decide)).mp c_11
                        refine lv_iconst (v := 1) hx hb d_Model_isSign_84 (by decide) ?_
                        refine lv_goto (tgt := 89) hx hb d_Model_isSign_85 (by decide) ?_
                        rw [← hQe]
                        obtain ⟨hP9, hD9⟩ := xw_sub2 (wc := (fun u : Nat → Nat => []) (ixn [])) hP hD [] (by decide) rfl
                        exact W.zret (v := 1) hx hb hr rfl (fun t ht hW => ⟨⟨1, ixn [], rfl, (by unfold zb; split <;> first | rfl | (exfalso; omega)), ⟨by rw [ht]; exact hP9, hD9⟩⟩, hS.F ht⟩) hS.2.2 d_Model_isSign_89
                      · replace c_11 : ¬ q = 125 := fun hq9 => c_11 ((nI_eq (a := q) (b := 125) (by first | exact Nat.lt_of_lt_of_le (by assumption) (by decide) | exact Nat.lt_of_le_of_lt (by assumption) (by decide) | omega) (by decide)).mpr hq9)
                        refine lv_iload_n hx hb d_Model_isSign_66 rfl (lv_at hl1 0 rfl) ?_
                        refine lv_bipush (v := 59) hx hb d_Model_isSign_67 (by decide) ?_
                        refine lv_icmp_eq (tgt := 84) hx hb d_Model_isSign_69 (by decide) (fun c_12 => ?_) (fun c_12 => ?_)
                        · replace c_12 : q = 59 := (nI_eq (a := q) (b := 59) (by first | exact Nat.lt_of_lt_of_le (by assumption) (by decide) | exact Nat.lt_of_le_of_lt (by assumption) (by decide) | omega) (by decide)).mp c_12
                          refine lv_iconst (v := 1) hx hb d_Model_isSign_84 (by decide) ?_
                          refine lv_goto (tgt := 89) hx hb d_Model_isSign_85 (by decide) ?_
                          rw [← hQe]
                          obtain ⟨hP9, hD9⟩ := xw_sub2 (wc := (fun u : Nat → Nat => []) (ixn [])) hP hD [] (by decide) rfl
                          exact W.zret (v := 1) hx hb hr rfl (fun t ht hW => ⟨⟨1, ixn [], rfl, (by unfold zb; split <;> first | rfl | (exfalso; omega)), ⟨by rw [ht]; exact hP9, hD9⟩⟩, hS.F ht⟩) hS.2.2 d_Model_isSign_89
                        · replace c_12 : ¬ q = 59 := fun hq9 => c_12 ((nI_eq (a := q) (b := 59) (by first | exact Nat.lt_of_lt_of_le (by assumption) (by decide) | exact Nat.lt_of_le_of_lt (by assumption) (by decide) | omega) (by decide)).mpr hq9)
                          refine lv_iload_n hx hb d_Model_isSign_72 rfl (lv_at hl1 0 rfl) ?_
                          refine lv_bipush (v := 43) hx hb d_Model_isSign_73 (by decide) ?_
                          refine lv_icmp_eq (tgt := 84) hx hb d_Model_isSign_75 (by decide) (fun c_13 => ?_) (fun c_13 => ?_)
                          · replace c_13 : q = 43 := (nI_eq (a := q) (b := 43) (by first | exact Nat.lt_of_lt_of_le (by assumption) (by decide) | exact Nat.lt_of_le_of_lt (by assumption) (by decide) | omega) (by decide)).mp c_13
                            refine lv_iconst (v := 1) hx hb d_Model_isSign_84 (by decide) ?_
                            refine lv_goto (tgt := 89) hx hb d_Model_isSign_85 (by decide) ?_
                            rw [← hQe]
                            obtain ⟨hP9, hD9⟩ := xw_sub2 (wc := (fun u : Nat → Nat => []) (ixn [])) hP hD [] (by decide) rfl
                            exact W.zret (v := 1) hx hb hr rfl (fun t ht hW => ⟨⟨1, ixn [], rfl, (by unfold zb; split <;> first | rfl | (exfalso; omega)), ⟨by rw [ht]; exact hP9, hD9⟩⟩, hS.F ht⟩) hS.2.2 d_Model_isSign_89
                          · replace c_13 : ¬ q = 43 := fun hq9 => c_13 ((nI_eq (a := q) (b := 43) (by first | exact Nat.lt_of_lt_of_le (by assumption) (by decide) | exact Nat.lt_of_le_of_lt (by assumption) (by decide) | omega) (by decide)).mpr hq9)
                            refine lv_iload_n hx hb d_Model_isSign_78 rfl (lv_at hl1 0 rfl) ?_
                            refine lv_bipush (v := 45) hx hb d_Model_isSign_79 (by decide) ?_
                            refine lv_icmp_ne (tgt := 88) hx hb d_Model_isSign_81 (by decide) (fun c_14 => ?_) (fun c_14 => ?_)
                            · replace c_14 : ¬ q = 45 := fun hq9 => c_14 ((nI_eq (a := q) (b := 45) (by first | exact Nat.lt_of_lt_of_le (by assumption) (by decide) | exact Nat.lt_of_le_of_lt (by assumption) (by decide) | omega) (by decide)).mpr hq9)
                              refine lv_iconst (v := 0) hx hb d_Model_isSign_88 (by decide) ?_
                              rw [← hQe]
                              obtain ⟨hP9, hD9⟩ := xw_sub2 (wc := (fun u : Nat → Nat => []) (ixn [])) hP hD [] (by decide) rfl
                              exact W.zret (v := 0) hx hb hr rfl (fun t ht hW => ⟨⟨0, ixn [], rfl, (by unfold zb; split <;> first | rfl | (exfalso; omega)), ⟨by rw [ht]; exact hP9, hD9⟩⟩, hS.F ht⟩) hS.2.2 d_Model_isSign_89
                            · replace c_14 : q = 45 := (nI_eq (a := q) (b := 45) (by first | exact Nat.lt_of_lt_of_le (by assumption) (by decide) | exact Nat.lt_of_le_of_lt (by assumption) (by decide) | omega) (by decide)).mp c_14
                              refine lv_iconst (v := 1) hx hb d_Model_isSign_84 (by decide) ?_
                              refine lv_goto (tgt := 89) hx hb d_Model_isSign_85 (by decide) ?_
                              rw [← hQe]
                              obtain ⟨hP9, hD9⟩ := xw_sub2 (wc := (fun u : Nat → Nat => []) (ixn [])) hP hD [] (by decide) rfl
                              exact W.zret (v := 1) hx hb hr rfl (fun t ht hW => ⟨⟨1, ixn [], rfl, (by unfold zb; split <;> first | rfl | (exfalso; omega)), ⟨by rw [ht]; exact hP9, hD9⟩⟩, hS.F ht⟩) hS.2.2 d_Model_isSign_89
