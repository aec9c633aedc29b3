def hpn (st : Nat → Nat) : Nat → Nat
  | 0 => 0
  | k + 1 => if st k = 9 then 1 else hpn st k
theorem hp_b {st : Nat → Nat} {q : Nat} (h : st q = 9) : (1 : Int32) = zb (hpn st (q + 1) = 1) := by
  unfold zb; rw [if_pos (show hpn st (q + 1) = 1 from if_pos h)]
theorem hp_a {st : Nat → Nat} {q : Nat} {b1 : Int32} (hb : b1 = zb (hpn st q = 1)) (h : ¬ b1 = 0) : (1 : Int32) = zb (hpn st (q + 1) = 1) := by
  rw [hb] at h
  have h1 := zb_y h
  by_cases h2 : st q = 9
  · exact hp_b h2
  · unfold zb; rw [if_pos (show hpn st (q + 1) = 1 from (if_neg h2).trans h1)]
theorem hp_c {st : Nat → Nat} {q : Nat} {b1 : Int32} (hb : b1 = zb (hpn st q = 1)) (h : b1 = 0) (h2 : ¬ st q = 9) : (0 : Int32) = zb (hpn st (q + 1) = 1) := by
  rw [hb] at h
  have h1 := zb_n h
  unfold zb; rw [if_neg (show ¬ hpn st (q + 1) = 1 from fun e => h1 ((if_neg h2).symm.trans e))]
abbrev b_Model_hasParen : ByteArray := prog_13_method_23_code
def y_Model_hasParen : MethodName := ⟨R_Model, "hasParen", "()Z"⟩
theorem d_Model_hasParen_0 : decode b_Model_hasParen 0 = .ok (.iconst 0, 1) := by decide +kernel
theorem d_Model_hasParen_1 : decode b_Model_hasParen 1 = .ok (.istore_n 1, 1) := by decide +kernel
theorem d_Model_hasParen_2 : decode b_Model_hasParen 2 = .ok (.iconst 0, 1) := by decide +kernel
theorem d_Model_hasParen_3 : decode b_Model_hasParen 3 = .ok (.istore_n 2, 1) := by decide +kernel
theorem d_Model_hasParen_4 : decode b_Model_hasParen 4 = .ok (.iload_n 2, 1) := by decide +kernel
theorem d_Model_hasParen_5 : decode b_Model_hasParen 5 = .ok (.aload_n 0, 1) := by decide +kernel
theorem d_Model_hasParen_6 : decode b_Model_hasParen 6 = .ok (.getfield 229, 3) := by decide +kernel
theorem d_Model_hasParen_9 : decode b_Model_hasParen 9 = .ok (.if_icmp .ge 30, 3) := by decide +kernel
theorem d_Model_hasParen_12 : decode b_Model_hasParen 12 = .ok (.iload_n 1, 1) := by decide +kernel
theorem d_Model_hasParen_13 : decode b_Model_hasParen 13 = .ok (.ifCond .ne 14, 3) := by decide +kernel
theorem d_Model_hasParen_16 : decode b_Model_hasParen 16 = .ok (.aload_n 0, 1) := by decide +kernel
theorem d_Model_hasParen_17 : decode b_Model_hasParen 17 = .ok (.getfield 75, 3) := by decide +kernel
theorem d_Model_hasParen_20 : decode b_Model_hasParen 20 = .ok (.iload_n 2, 1) := by decide +kernel
theorem d_Model_hasParen_21 : decode b_Model_hasParen 21 = .ok (.iaload, 1) := by decide +kernel
theorem d_Model_hasParen_22 : decode b_Model_hasParen 22 = .ok (.bipush 9, 2) := by decide +kernel
theorem d_Model_hasParen_24 : decode b_Model_hasParen 24 = .ok (.if_icmp .ne 7, 3) := by decide +kernel
theorem d_Model_hasParen_27 : decode b_Model_hasParen 27 = .ok (.iconst 1, 1) := by decide +kernel
theorem d_Model_hasParen_28 : decode b_Model_hasParen 28 = .ok (.goto 4, 3) := by decide +kernel
theorem d_Model_hasParen_31 : decode b_Model_hasParen 31 = .ok (.iconst 0, 1) := by decide +kernel
theorem d_Model_hasParen_32 : decode b_Model_hasParen 32 = .ok (.istore_n 1, 1) := by decide +kernel
theorem d_Model_hasParen_33 : decode b_Model_hasParen 33 = .ok (.iinc 2 1, 3) := by decide +kernel
theorem d_Model_hasParen_36 : decode b_Model_hasParen 36 = .ok (.goto (-32), 3) := by decide +kernel
theorem d_Model_hasParen_39 : decode b_Model_hasParen 39 = .ok (.iload_n 1, 1) := by decide +kernel
theorem d_Model_hasParen_40 : decode b_Model_hasParen 40 = .ok (.ireturn, 1) := by decide +kernel
set_option maxHeartbeats 40000000 in
set_option maxRecDepth 100000 in
theorem c_M_hasParen (l : Launch) (D : va_G) (ax : Nat → ClassId) (m0 m1 m2 m3 m4 m5 m6 m7 m8 m9 m10 m11 m12 m13 m14 m15 m16 m17 m18 m19 m20 m21 m22 m23 m24 m25 m26 m27 m28 m29 m30 m31 m32 m33 m34 m35 m36 m37 m38 m39 m40 m41 m42 : Nat) (s_thrown s_taped s_size s_outSize s_kind s_value s_begin s_end s_failed s_isProgram s_half s_signs s_name s_shift s_statements s_ifs s_whiles s_variants s_open s_isMade s_conditions s_kept s_tops s_used s_looked s_rows s_firstRow s_isBroken s_atoms : Int32) (sd : Nat) (st : Nat → Nat) (sz : Nat) (ht2 : sd ≤ 64) (hst : ∀ j, st j < 100) : Met l y_Model_hasParen (xws (.code y_Model_hasParen b_Model_hasParen 3 (some .boolean))) ({ frames := 10, cells := 0, slots := 0, locals := 400 }) (va_Pc [.ref m0] (xo D ax [(m0, .inr (11, [.int s_thrown, .int s_taped, .ref m1, .int s_size, .int s_outSize, .ref m2, .int s_kind, .int s_value, .int s_begin, .int s_end, .int s_failed, .ref m3, .ref m4, .ref m5, .int s_isProgram, .int s_half, .ref m6, .ref m7, .ref m8, .ref m9, .ref m10, .ref m11, .ref m12, .ref m13, .ref m14, .ref m15, .ref m16, .ref m17, .ref m18, .ref m19, .ref m20, .int s_signs, .ref m21, .int (nI sd), .ref m22, .int s_name, .int s_shift, .int s_statements, .int s_ifs, .int s_whiles, .int s_variants, .int s_open, .ref m23, .int s_isMade, .int s_conditions, .ref m24, .ref m25, .ref m26, .ref m27, .int s_kept, .ref m28, .int s_tops, .ref m29, .int s_used, .ref m30, .ref m31, .int s_looked, .int s_rows, .int s_firstRow, .ref m32, .ref m33, .ref m34, .ref m35, .ref m36, .ref m37, .ref m38, .ref m39, .ref m40, .int s_isBroken, .ref m41, .int s_atoms, .ref m42])), (m22, .inl (ax 0, 64, .inl (fun j => nI (st j))))] sz)) ((va_Qi (fun (r : Int32) (u : Nat → Nat) => r = zb (hpn st sd = 1)) (xb D (va_A [(m0, .inr (11, [.int s_thrown, .int s_taped, .ref m1, .int s_size, .int s_outSize, .ref m2, .int s_kind, .int s_value, .int s_begin, .int s_end, .int s_failed, .ref m3, .ref m4, .ref m5, .int s_isProgram, .int s_half, .ref m6, .ref m7, .ref m8, .ref m9, .ref m10, .ref m11, .ref m12, .ref m13, .ref m14, .ref m15, .ref m16, .ref m17, .ref m18, .ref m19, .ref m20, .int s_signs, .ref m21, .int (nI sd), .ref m22, .int s_name, .int s_shift, .int s_statements, .int s_ifs, .int s_whiles, .int s_variants, .int s_open, .ref m23, .int s_isMade, .int s_conditions, .ref m24, .ref m25, .ref m26, .ref m27, .int s_kept, .ref m28, .int s_tops, .ref m29, .int s_used, .ref m30, .ref m31, .int s_looked, .int s_rows, .int s_firstRow, .ref m32, .ref m33, .ref m34, .ref m35, .ref m36, .ref m37, .ref m38, .ref m39, .ref m40, .int s_isBroken, .ref m41, .int s_atoms, .ref m42])), (m22, .inl (ax 0, 64, .inl (fun j => nI (st j))))] sz) (fun u => [(m0, .inr (11, [.int s_thrown, .int s_taped, .ref m1, .int s_size, .int s_outSize, .ref m2, .int s_kind, .int s_value, .int s_begin, .int s_end, .int s_failed, .ref m3, .ref m4, .ref m5, .int s_isProgram, .int s_half, .ref m6, .ref m7, .ref m8, .ref m9, .ref m10, .ref m11, .ref m12, .ref m13, .ref m14, .ref m15, .ref m16, .ref m17, .ref m18, .ref m19, .ref m20, .int s_signs, .ref m21, .int (nI sd), .ref m22, .int s_name, .int s_shift, .int s_statements, .int s_ifs, .int s_whiles, .int s_variants, .int s_open, .ref m23, .int s_isMade, .int s_conditions, .ref m24, .ref m25, .ref m26, .ref m27, .int s_kept, .ref m28, .int s_tops, .ref m29, .int s_used, .ref m30, .ref m31, .int s_looked, .int s_rows, .int s_firstRow, .ref m32, .ref m33, .ref m34, .ref m35, .ref m36, .ref m37, .ref m38, .ref m39, .ref m40, .int s_isBroken, .ref m41, .int s_atoms, .ref m42])), (m22, .inl (ax 0, 64, .inl (fun j => nI (st j))))])) (va_A [(m0, .inr (11, [.int s_thrown, .int s_taped, .ref m1, .int s_size, .int s_outSize, .ref m2, .int s_kind, .int s_value, .int s_begin, .int s_end, .int s_failed, .ref m3, .ref m4, .ref m5, .int s_isProgram, .int s_half, .ref m6, .ref m7, .ref m8, .ref m9, .ref m10, .ref m11, .ref m12, .ref m13, .ref m14, .ref m15, .ref m16, .ref m17, .ref m18, .ref m19, .ref m20, .int s_signs, .ref m21, .int (nI sd), .ref m22, .int s_name, .int s_shift, .int s_statements, .int s_ifs, .int s_whiles, .int s_variants, .int s_open, .ref m23, .int s_isMade, .int s_conditions, .ref m24, .ref m25, .ref m26, .ref m27, .int s_kept, .ref m28, .int s_tops, .ref m29, .int s_used, .ref m30, .ref m31, .int s_looked, .int s_rows, .int s_firstRow, .ref m32, .ref m33, .ref m34, .ref m35, .ref m36, .ref m37, .ref m38, .ref m39, .ref m40, .int s_isBroken, .ref m41, .int s_atoms, .ref m42])), (m22, .inl (ax 0, 64, .inl (fun j => nI (st j))))] sz))) 0 0 (va_A [(m0, .inr (11, [.int s_thrown, .int s_taped, .ref m1, .int s_size, .int s_outSize, .ref m2, .int s_kind, .int s_value, .int s_begin, .int s_end, .int s_failed, .ref m3, .ref m4, .ref m5, .int s_isProgram, .int s_half, .ref m6, .ref m7, .ref m8, .ref m9, .ref m10, .ref m11, .ref m12, .ref m13, .ref m14, .ref m15, .ref m16, .ref m17, .ref m18, .ref m19, .ref m20, .int s_signs, .ref m21, .int (nI sd), .ref m22, .int s_name, .int s_shift, .int s_statements, .int s_ifs, .int s_whiles, .int s_variants, .int s_open, .ref m23, .int s_isMade, .int s_conditions, .ref m24, .ref m25, .ref m26, .ref m27, .int s_kept, .ref m28, .int s_tops, .ref m29, .int s_used, .ref m30, .ref m31, .int s_looked, .int s_rows, .int s_firstRow, .ref m32, .ref m33, .ref m34, .ref m35, .ref m36, .ref m37, .ref m38, .ref m39, .ref m40, .int s_isBroken, .ref m41, .int s_atoms, .ref m42])), (m22, .inl (ax 0, 64, .inl (fun j => nI (st j))))] sz) := by
  refine Met.ofW (cc := b_Model_hasParen) (maxL := 3) (ret := (some .boolean)) (by decide) rfl ?_
  intro p e s m args below meth c s₁ B hml hv
  obtain ⟨rfl, hsz, hP, hK, hD0⟩ := hv
  have hx := B.exec
  have hb := B.bytes
  have hr := B.returns
  have hts := xw_hts B.pre
  have hown : s.vm.findClass R_Model = some m.cls := findClass_of_methodNamed B.named
  have hlocks := B.notSynchronized
  subst hsz
  have hD := hD0.self (sz := s.heap.size)
  have hN := xz_entry hP
  generalize hAe : va_A [(m0, .inr (11, [.int s_thrown, .int s_taped, .ref m1, .int s_size, .int s_outSize, .ref m2, .int s_kind, .int s_value, .int s_begin, .int s_end, .int s_failed, .ref m3, .ref m4, .ref m5, .int s_isProgram, .int s_half, .ref m6, .ref m7, .ref m8, .ref m9, .ref m10, .ref m11, .ref m12, .ref m13, .ref m14, .ref m15, .ref m16, .ref m17, .ref m18, .ref m19, .ref m20, .int s_signs, .ref m21, .int (nI sd), .ref m22, .int s_name, .int s_shift, .int s_statements, .int s_ifs, .int s_whiles, .int s_variants, .int s_open, .ref m23, .int s_isMade, .int s_conditions, .ref m24, .ref m25, .ref m26, .ref m27, .int s_kept, .ref m28, .int s_tops, .ref m29, .int s_used, .ref m30, .ref m31, .int s_looked, .int s_rows, .int s_firstRow, .ref m32, .ref m33, .ref m34, .ref m35, .ref m36, .ref m37, .ref m38, .ref m39, .ref m40, .int s_isBroken, .ref m41, .int s_atoms, .ref m42])), (m22, .inl (ax 0, 64, .inl (fun j => nI (st j))))] s.heap.size = A at hD hN ⊢
  have hA : ∀ q : Nat, s.heap.size ≤ q → A q := fun q h => by rw [← hAe]; exact Or.inr h
  have hS : va_S A s.heap s.heap [] := va_S.rf
  have hl0 := lv_entry ([.ref m0]) (n := 3) (Nat.le_of_ble_eq_true rfl)
  rw [lg_entry_eq]
  generalize (lg_sl ([.ref m0]) ++ List.replicate (3 - (lg_sl ([.ref m0])).length) Slot.unset).toArray = ls at hl0 ⊢
  have hl1 : lv_has ls 3 [(0, .ref m0)] := hl0
  refine xw_gen (fun Z9 hQe => ?_)
  refine lv_iconst (v := 0) hx hb d_Model_hasParen_0 (by decide) ?_
  refine lv_istore_n (lv' := [(1, .int 0), (0, .ref m0)]) hx hb d_Model_hasParen_1 rfl hl1 (by decide) rfl (fun ls hl2 => ?_)
  clear hl1; have hl1 := hl2; clear hl2
  refine lv_iconst (v := 0) hx hb d_Model_hasParen_2 (by decide) ?_
  refine lv_istore_n (lv' := [(2, .int 0), (1, .int 0), (0, .ref m0)]) hx hb d_Model_hasParen_3 rfl hl1 (by decide) rfl (fun ls hl2 => ?_)
  clear hl1; have hl1 := hl2; clear hl2
  suffices key_1 : ∀ (k : Nat) (q : Nat) (b1 : Int32), sd - q < k → q ≤ sd → b1 = zb (hpn st q = 1) → ∀ (H : Heap) (locs : List Loc) (ls : Array Slot), va_P D classes [(m0, .inr (11, [.int s_thrown, .int s_taped, .ref m1, .int s_size, .int s_outSize, .ref m2, .int s_kind, .int s_value, .int s_begin, .int s_end, .int s_failed, .ref m3, .ref m4, .ref m5, .int s_isProgram, .int s_half, .ref m6, .ref m7, .ref m8, .ref m9, .ref m10, .ref m11, .ref m12, .ref m13, .ref m14, .ref m15, .ref m16, .ref m17, .ref m18, .ref m19, .ref m20, .int s_signs, .ref m21, .int (nI sd), .ref m22, .int s_name, .int s_shift, .int s_statements, .int s_ifs, .int s_whiles, .int s_variants, .int s_open, .ref m23, .int s_isMade, .int s_conditions, .ref m24, .ref m25, .ref m26, .ref m27, .int s_kept, .ref m28, .int s_tops, .ref m29, .int s_used, .ref m30, .ref m31, .int s_looked, .int s_rows, .int s_firstRow, .ref m32, .ref m33, .ref m34, .ref m35, .ref m36, .ref m37, .ref m38, .ref m39, .ref m40, .int s_isBroken, .ref m41, .int s_atoms, .ref m42])), (m22, .inl (ax 0, 64, .inl (fun j => nI (st j))))] H → va_D A [(m0, .inr (11, [.int s_thrown, .int s_taped, .ref m1, .int s_size, .int s_outSize, .ref m2, .int s_kind, .int s_value, .int s_begin, .int s_end, .int s_failed, .ref m3, .ref m4, .ref m5, .int s_isProgram, .int s_half, .ref m6, .ref m7, .ref m8, .ref m9, .ref m10, .ref m11, .ref m12, .ref m13, .ref m14, .ref m15, .ref m16, .ref m17, .ref m18, .ref m19, .ref m20, .int s_signs, .ref m21, .int (nI sd), .ref m22, .int s_name, .int s_shift, .int s_statements, .int s_ifs, .int s_whiles, .int s_variants, .int s_open, .ref m23, .int s_isMade, .int s_conditions, .ref m24, .ref m25, .ref m26, .ref m27, .int s_kept, .ref m28, .int s_tops, .ref m29, .int s_used, .ref m30, .ref m31, .int s_looked, .int s_rows, .int s_firstRow, .ref m32, .ref m33, .ref m34, .ref m35, .ref m36, .ref m37, .ref m38, .ref m39, .ref m40, .int s_isBroken, .ref m41, .int s_atoms, .ref m42])), (m22, .inl (ax 0, 64, .inl (fun j => nI (st j))))] → va_S A s.heap H locs → lv_has ls 3 [(2, .int (nI q)), (1, .int b1), (0, .ref m0)] → W p l e (headSpec (xws (.code y_Model_hasParen b_Model_hasParen 3 (some .boolean))) ({ frames := 10, cells := 0, slots := 0, locals := 400 })).room s m ([.ref m0] : List Value).toArray below meth c H locs 0 0 Z9 (F0 m 4 ls []) from key_1 (sd - 0 + 1) 0 0 (Nat.lt_succ_self _) (by first | assumption | omega) (by unfold zb; exact (if_neg (show ¬ hpn st 0 = 1 from fun e => absurd (show (0 : Nat) = 1 from e) (by decide))).symm) _ _ _ (hP) (hD) hS (lv_sub hl1 [0, 1, 2] rfl)
  intro k_2
  induction k_2 with
  | zero =>
    intro q b1 hk_4
    exact absurd hk_4 (Nat.not_lt_zero _)
  | succ k_2 ih_3 =>
    clear hP hD hS hl1
    intro q b1 hk_4 hq hb1 H locs ls hP hD hS hl1
    refine lv_iload_n hx hb d_Model_hasParen_4 rfl (lv_at hl1 0 rfl) ?_
    refine lv_aload_n hx hb d_Model_hasParen_5 rfl (lv_at hl1 2 rfl) ?_
    refine va_get (D := D) (ci := 11) (v := .int (nI sd)) (C := R_Model) (T := F_Model) (N := 72) hx hb hts i_Model hown hK.1 hP 0 rfl rfl 33 (by decide) (hts _ wd_1069) (fun _ h9 => h9) rfl d_Model_hasParen_6 ?_
    refine lv_icmp_ge (tgt := 39) hx hb d_Model_hasParen_9 (by decide) (fun c_5 => ?_) (fun c_5 => ?_)
    · replace c_5 : sd ≤ q := (nI_leI (a := sd) (b := q) (by first | exact Nat.lt_of_lt_of_le (by assumption) (by decide) | exact Nat.lt_of_le_of_lt (by assumption) (by decide) | omega) (by first | exact Nat.lt_of_lt_of_le (by assumption) (by decide) | exact Nat.lt_of_le_of_lt (by assumption) (by decide) | omega)).mp c_5
      rw [hb1, show q = sd by omega] at hl1
      refine lv_iload_n hx hb d_Model_hasParen_39 rfl (lv_at hl1 1 rfl) ?_
      rw [← hQe]
      obtain ⟨hP9, hD9⟩ := xw_sub2 (wc := (fun u : Nat → Nat => [(m0, .inr (11, [.int s_thrown, .int s_taped, .ref m1, .int s_size, .int s_outSize, .ref m2, .int s_kind, .int s_value, .int s_begin, .int s_end, .int s_failed, .ref m3, .ref m4, .ref m5, .int s_isProgram, .int s_half, .ref m6, .ref m7, .ref m8, .ref m9, .ref m10, .ref m11, .ref m12, .ref m13, .ref m14, .ref m15, .ref m16, .ref m17, .ref m18, .ref m19, .ref m20, .int s_signs, .ref m21, .int (nI sd), .ref m22, .int s_name, .int s_shift, .int s_statements, .int s_ifs, .int s_whiles, .int s_variants, .int s_open, .ref m23, .int s_isMade, .int s_conditions, .ref m24, .ref m25, .ref m26, .ref m27, .int s_kept, .ref m28, .int s_tops, .ref m29, .int s_used, .ref m30, .ref m31, .int s_looked, .int s_rows, .int s_firstRow, .ref m32, .ref m33, .ref m34, .ref m35, .ref m36, .ref m37, .ref m38, .ref m39, .ref m40, .int s_isBroken, .ref m41, .int s_atoms, .ref m42])), (m22, .inl (ax 0, 64, .inl (fun j => nI (st j))))]) (ixn [])) hP hD [0, 1] (by decide) rfl
      exact W.zret (v := zb (hpn st sd = 1)) hx hb hr (zb_bool _) (fun t ht hW => ⟨⟨zb (hpn st sd = 1), ixn [], rfl, rfl, ⟨by rw [ht]; exact hP9, hD9⟩⟩, hS.F ht⟩) hS.2.2 d_Model_hasParen_40
    · replace c_5 : ¬ sd ≤ q := fun hq9 => c_5 ((nI_leI (a := sd) (b := q) (by first | exact Nat.lt_of_lt_of_le (by assumption) (by decide) | exact Nat.lt_of_le_of_lt (by assumption) (by decide) | omega) (by first | exact Nat.lt_of_lt_of_le (by assumption) (by decide) | exact Nat.lt_of_le_of_lt (by assumption) (by decide) | omega)).mpr hq9)
      refine lv_iload_n hx hb d_Model_hasParen_12 rfl (lv_at hl1 1 rfl) ?_
      refine lv_if_ne (tgt := 27) hx hb d_Model_hasParen_13 (by decide) (fun c_6 => ?_) (fun c_6 => ?_)
      · refine lv_iconst (v := 1) hx hb d_Model_hasParen_27 (by decide) ?_
        refine lv_goto (tgt := 32) hx hb d_Model_hasParen_28 (by decide) ?_
        refine lv_istore_n (lv' := [(1, .int 1), (2, .int (nI q)), (0, .ref m0)]) hx hb d_Model_hasParen_32 rfl hl1 (by decide) rfl (fun ls hl2 => ?_)
        clear hl1; have hl1 := hl2; clear hl2
        refine lv_iinc (v := nI (q + 1)) (lv' := [(2, .int (nI (q + 1))), (1, .int 1), (0, .ref m0)]) hx hb d_Model_hasParen_33 hl1 (k := 1) rfl (nI_add q 1) (by decide) rfl (fun ls hl2 => ?_)
        clear hl1; have hl1 := hl2; clear hl2
        refine lv_goto (tgt := 4) hx hb d_Model_hasParen_36 (by decide) ?_
        exact ih_3 (q + 1) 1 (by first | assumption | omega) (by first | assumption | omega) (by first | exact hp_a hb1 (by assumption) | exact hp_b (by assumption) | exact hp_c hb1 (by assumption) (by assumption)) _ _ _ (hP.sub [0, 1] rfl) (hD.sub [0, 1] (by decide) rfl) hS (lv_sub hl1 [0, 1, 2] rfl)
      · have hsq := hst q
        refine lv_aload_n hx hb d_Model_hasParen_16 rfl (lv_at hl1 2 rfl) ?_
        refine va_get (D := D) (ci := 11) (v := .ref m22) (C := R_Model) (T := F_Model) (N := 72) hx hb hts i_Model hown hK.1 hP 0 rfl rfl 34 (by decide) (hts _ wd_1070) (fun _ h9 => h9) rfl d_Model_hasParen_17 ?_
        refine lv_iload_n hx hb d_Model_hasParen_20 rfl (lv_at hl1 0 rfl) ?_
        refine va_iald hx hb hK.1 hP 1 0 rfl rfl (vp_in_nI (by first | assumption | omega) (by decide)) d_Model_hasParen_21 ?_
        refine W.eq (g2 := F0 m 22 ls [.int (nI (st q))]) (by rw [nI_clamp (by first | exact Nat.lt_of_lt_of_le (by assumption) (by decide) | exact Nat.lt_of_le_of_lt (by assumption) (by decide) | omega)]) ?_
        refine lv_bipush (v := 9) hx hb d_Model_hasParen_22 (by decide) ?_
        refine lv_icmp_ne (tgt := 31) hx hb d_Model_hasParen_24 (by decide) (fun c_7 => ?_) (fun c_7 => ?_)
        · replace c_7 : ¬ st q = 9 := fun hq9 => c_7 ((nI_eq (a := st q) (b := 9) (by first | exact Nat.lt_of_lt_of_le (by assumption) (by decide) | exact Nat.lt_of_le_of_lt (by assumption) (by decide) | omega) (by decide)).mpr hq9)
          refine lv_iconst (v := 0) hx hb d_Model_hasParen_31 (by decide) ?_
          refine lv_istore_n (lv' := [(1, .int 0), (2, .int (nI q)), (0, .ref m0)]) hx hb d_Model_hasParen_32 rfl hl1 (by decide) rfl (fun ls hl2 => ?_)
          clear hl1; have hl1 := hl2; clear hl2
          refine lv_iinc (v := nI (q + 1)) (lv' := [(2, .int (nI (q + 1))), (1, .int 0), (0, .ref m0)]) hx hb d_Model_hasParen_33 hl1 (k := 1) rfl (nI_add q 1) (by decide) rfl (fun ls hl2 => ?_)
          clear hl1; have hl1 := hl2; clear hl2
          refine lv_goto (tgt := 4) hx hb d_Model_hasParen_36 (by decide) ?_
          exact ih_3 (q + 1) 0 (by first | assumption | omega) (by first | assumption | omega) (by first | exact hp_a hb1 (by assumption) | exact hp_b (by assumption) | exact hp_c hb1 (by assumption) (by assumption)) _ _ _ (hP.sub [0, 1] rfl) (hD.sub [0, 1] (by decide) rfl) hS (lv_sub hl1 [0, 1, 2] rfl)
        · replace c_7 : st q = 9 := (nI_eq (a := st q) (b := 9) (by first | exact Nat.lt_of_lt_of_le (by assumption) (by decide) | exact Nat.lt_of_le_of_lt (by assumption) (by decide) | omega) (by decide)).mp c_7
          refine lv_iconst (v := 1) hx hb d_Model_hasParen_27 (by decide) ?_
          refine lv_goto (tgt := 32) hx hb d_Model_hasParen_28 (by decide) ?_
          refine lv_istore_n (lv' := [(1, .int 1), (2, .int (nI q)), (0, .ref m0)]) hx hb d_Model_hasParen_32 rfl hl1 (by decide) rfl (fun ls hl2 => ?_)
          clear hl1; have hl1 := hl2; clear hl2
          refine lv_iinc (v := nI (q + 1)) (lv' := [(2, .int (nI (q + 1))), (1, .int 1), (0, .ref m0)]) hx hb d_Model_hasParen_33 hl1 (k := 1) rfl (nI_add q 1) (by decide) rfl (fun ls hl2 => ?_)
          clear hl1; have hl1 := hl2; clear hl2
          refine lv_goto (tgt := 4) hx hb d_Model_hasParen_36 (by decide) ?_
          exact ih_3 (q + 1) 1 (by first | assumption | omega) (by first | assumption | omega) (by first | exact hp_a hb1 (by assumption) | exact hp_b (by assumption) | exact hp_c hb1 (by assumption) (by assumption)) _ _ _ (hP.sub [0, 1] rfl) (hD.sub [0, 1] (by decide) rfl) hS (lv_sub hl1 [0, 1, 2] rfl)
