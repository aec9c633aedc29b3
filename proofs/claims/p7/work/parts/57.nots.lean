theorem ps_64 : Cond.selects "TripleDeskModel" ⟨"TripleDeskModel", "emit", "()V"⟩ ⟨"TripleDeskModel", "emit", "()V"⟩ ∈ lw_gd := ps_in (q := (⟨"TripleDeskModel", "emit", "()V"⟩, 72)) (i := 64) (by decide +kernel)
theorem wd_1344 : ((Jvm.Cond.methodLink "TripleDeskModel" (232 : Nat) ({ cls := "TripleDeskModel", name := "emit", desc := "()V" } : Jvm.MethodName))) ∈ lw_gd := lw_gd_in (i := 1344) (by decide +kernel) rfl
theorem wd_1346 : ((Jvm.Cond.instanceMethod ({ cls := "TripleDeskModel", name := "emit", desc := "()V" } : Jvm.MethodName))) ∈ lw_gd := lw_gd_in (i := 1346) (by decide +kernel) rfl
theorem wd_1347 : ((Jvm.Cond.code ({ cls := "TripleDeskModel", name := "emit", desc := "()V" } : Jvm.MethodName) prog_13_method_19_code (1 : Nat) (Option.none : Option Jvm.ClassFile.FieldType))) ∈ lw_gd := lw_gd_in (i := 1347) (by decide +kernel) rfl
def ntop (st : Nat → Nat) : Nat → Nat
  | 0 => 0
  | k + 1 => if st k = 1 then ntop st k + 1 else 0
theorem ntop_le {st : Nat → Nat} : ∀ k, ntop st k ≤ k
  | 0 => Nat.le_refl _
  | k + 1 => by
    have h := ntop_le (st := st) k
    show (if st k = 1 then ntop st k + 1 else 0) ≤ k + 1
    split <;> omega
theorem ntop_y {st : Nat → Nat} {k : Nat} (h0 : 0 < k) (h : st (k - 1) = 1) : ntop st k = ntop st (k - 1) + 1 := by
  obtain ⟨j, rfl⟩ : ∃ j, k = j + 1 := ⟨k - 1, by omega⟩
  rw [Nat.add_sub_cancel] at *; exact if_pos h
theorem ntop_n {st : Nat → Nat} {k : Nat} (h : k = 0 ∨ ¬ st (k - 1) = 1) : ntop st k = 0 := by
  cases k with
  | zero => rfl
  | succ j => rw [Nat.add_sub_cancel] at h; exact if_neg (by omega)
def enF (f : Nat → Int32) (q : Nat) : Nat → Nat → Int32
  | 0 => f
  | k + 1 => upd (enF f q k) (6 * (q + k)) (nI 1)
abbrev b_Model_emitNots : ByteArray := prog_13_method_20_code
def y_Model_emitNots : MethodName := ⟨R_Model, "emitNots", "()V"⟩
theorem d_Model_emitNots_0 : decode b_Model_emitNots 0 = .ok (.aload_n 0, 1) := by decide +kernel
theorem d_Model_emitNots_1 : decode b_Model_emitNots 1 = .ok (.getfield 229, 3) := by decide +kernel
theorem d_Model_emitNots_4 : decode b_Model_emitNots 4 = .ok (.ifCond .le 25, 3) := by decide +kernel
theorem d_Model_emitNots_7 : decode b_Model_emitNots 7 = .ok (.aload_n 0, 1) := by decide +kernel
theorem d_Model_emitNots_8 : decode b_Model_emitNots 8 = .ok (.getfield 75, 3) := by decide +kernel
theorem d_Model_emitNots_11 : decode b_Model_emitNots 11 = .ok (.aload_n 0, 1) := by decide +kernel
theorem d_Model_emitNots_12 : decode b_Model_emitNots 12 = .ok (.getfield 229, 3) := by decide +kernel
theorem d_Model_emitNots_15 : decode b_Model_emitNots 15 = .ok (.iconst 1, 1) := by decide +kernel
theorem d_Model_emitNots_16 : decode b_Model_emitNots 16 = .ok (.isub, 1) := by decide +kernel
theorem d_Model_emitNots_17 : decode b_Model_emitNots 17 = .ok (.iaload, 1) := by decide +kernel
theorem d_Model_emitNots_18 : decode b_Model_emitNots 18 = .ok (.iconst 1, 1) := by decide +kernel
theorem d_Model_emitNots_19 : decode b_Model_emitNots 19 = .ok (.if_icmp .ne 10, 3) := by decide +kernel
theorem d_Model_emitNots_22 : decode b_Model_emitNots 22 = .ok (.aload_n 0, 1) := by decide +kernel
theorem d_Model_emitNots_23 : decode b_Model_emitNots 23 = .ok (.invokevirtual 232, 3) := by decide +kernel
theorem d_Model_emitNots_26 : decode b_Model_emitNots 26 = .ok (.goto (-26), 3) := by decide +kernel
theorem d_Model_emitNots_29 : decode b_Model_emitNots 29 = .ok (.return_, 1) := by decide +kernel
set_option maxHeartbeats 40000000 in
set_option maxRecDepth 100000 in
theorem c_M_emitNots (l : Launch) (D : va_G) (ax : Nat → ClassId) (m0 m1 m2 m3 m4 m5 m6 m7 m8 m9 m10 m11 m12 m13 m14 m15 m16 m17 m18 m19 m20 m21 m22 m23 m24 m25 m26 m27 m28 m29 m30 m31 m32 m33 m34 m35 m36 m37 m38 m39 m40 m41 m42 : Nat) (s_thrown s_taped s_size s_outSize s_kind s_value s_begin s_end s_failed s_isProgram s_half s_name s_shift s_statements s_ifs s_whiles s_variants s_open s_isMade s_conditions s_kept s_tops s_used s_looked s_rows s_firstRow s_isBroken s_atoms : Int32) (sd q : Nat) (st : Nat → Nat) (f : Nat → Int32) (sz : Nat) (ht2 : sd ≤ 64) (hq : q + sd ≤ 200) (hst : ∀ j, st j < 100) : Met l y_Model_emitNots (xws (.code y_Model_emitNots b_Model_emitNots 1 none)) ({ frames := 20, cells := 0, slots := 0, locals := 800 }) (va_Pc [.ref m0] (xo D ax [(m0, .inr (11, [.int s_thrown, .int s_taped, .ref m1, .int s_size, .int s_outSize, .ref m2, .int s_kind, .int s_value, .int s_begin, .int s_end, .int s_failed, .ref m3, .ref m4, .ref m5, .int s_isProgram, .int s_half, .ref m6, .ref m7, .ref m8, .ref m9, .ref m10, .ref m11, .ref m12, .ref m13, .ref m14, .ref m15, .ref m16, .ref m17, .ref m18, .ref m19, .ref m20, .int (nI q), .ref m21, .int (nI sd), .ref m22, .int s_name, .int s_shift, .int s_statements, .int s_ifs, .int s_whiles, .int s_variants, .int s_open, .ref m23, .int s_isMade, .int s_conditions, .ref m24, .ref m25, .ref m26, .ref m27, .int s_kept, .ref m28, .int s_tops, .ref m29, .int s_used, .ref m30, .ref m31, .int s_looked, .int s_rows, .int s_firstRow, .ref m32, .ref m33, .ref m34, .ref m35, .ref m36, .ref m37, .ref m38, .ref m39, .ref m40, .int s_isBroken, .ref m41, .int s_atoms, .ref m42])), (m22, .inl (ax 0, 64, .inl (fun j => nI (st j)))), (m21, .inl (ax 0, 1200, .inl f))] sz)) ((va_Qv (fun (u : Nat → Nat) => True) (xb D (va_A [(m0, .inr (11, [.int s_thrown, .int s_taped, .ref m1, .int s_size, .int s_outSize, .ref m2, .int s_kind, .int s_value, .int s_begin, .int s_end, .int s_failed, .ref m3, .ref m4, .ref m5, .int s_isProgram, .int s_half, .ref m6, .ref m7, .ref m8, .ref m9, .ref m10, .ref m11, .ref m12, .ref m13, .ref m14, .ref m15, .ref m16, .ref m17, .ref m18, .ref m19, .ref m20, .int (nI q), .ref m21, .int (nI sd), .ref m22, .int s_name, .int s_shift, .int s_statements, .int s_ifs, .int s_whiles, .int s_variants, .int s_open, .ref m23, .int s_isMade, .int s_conditions, .ref m24, .ref m25, .ref m26, .ref m27, .int s_kept, .ref m28, .int s_tops, .ref m29, .int s_used, .ref m30, .ref m31, .int s_looked, .int s_rows, .int s_firstRow, .ref m32, .ref m33, .ref m34, .ref m35, .ref m36, .ref m37, .ref m38, .ref m39, .ref m40, .int s_isBroken, .ref m41, .int s_atoms, .ref m42])), (m22, .inl (ax 0, 64, .inl (fun j => nI (st j)))), (m21, .inl (ax 0, 1200, .inl f))] sz) (fun u => [(m0, .inr (11, [.int s_thrown, .int s_taped, .ref m1, .int s_size, .int s_outSize, .ref m2, .int s_kind, .int s_value, .int s_begin, .int s_end, .int s_failed, .ref m3, .ref m4, .ref m5, .int s_isProgram, .int s_half, .ref m6, .ref m7, .ref m8, .ref m9, .ref m10, .ref m11, .ref m12, .ref m13, .ref m14, .ref m15, .ref m16, .ref m17, .ref m18, .ref m19, .ref m20, .int (nI (q + ntop st sd)), .ref m21, .int (nI (sd - ntop st sd)), .ref m22, .int s_name, .int s_shift, .int s_statements, .int s_ifs, .int s_whiles, .int s_variants, .int s_open, .ref m23, .int s_isMade, .int s_conditions, .ref m24, .ref m25, .ref m26, .ref m27, .int s_kept, .ref m28, .int s_tops, .ref m29, .int s_used, .ref m30, .ref m31, .int s_looked, .int s_rows, .int s_firstRow, .ref m32, .ref m33, .ref m34, .ref m35, .ref m36, .ref m37, .ref m38, .ref m39, .ref m40, .int s_isBroken, .ref m41, .int s_atoms, .ref m42])), (m22, .inl (ax 0, 64, .inl (fun j => nI (st j)))), (m21, .inl (ax 0, 1200, .inl (enF f q (ntop st sd))))])) (va_A [(m0, .inr (11, [.int s_thrown, .int s_taped, .ref m1, .int s_size, .int s_outSize, .ref m2, .int s_kind, .int s_value, .int s_begin, .int s_end, .int s_failed, .ref m3, .ref m4, .ref m5, .int s_isProgram, .int s_half, .ref m6, .ref m7, .ref m8, .ref m9, .ref m10, .ref m11, .ref m12, .ref m13, .ref m14, .ref m15, .ref m16, .ref m17, .ref m18, .ref m19, .ref m20, .int (nI q), .ref m21, .int (nI sd), .ref m22, .int s_name, .int s_shift, .int s_statements, .int s_ifs, .int s_whiles, .int s_variants, .int s_open, .ref m23, .int s_isMade, .int s_conditions, .ref m24, .ref m25, .ref m26, .ref m27, .int s_kept, .ref m28, .int s_tops, .ref m29, .int s_used, .ref m30, .ref m31, .int s_looked, .int s_rows, .int s_firstRow, .ref m32, .ref m33, .ref m34, .ref m35, .ref m36, .ref m37, .ref m38, .ref m39, .ref m40, .int s_isBroken, .ref m41, .int s_atoms, .ref m42])), (m22, .inl (ax 0, 64, .inl (fun j => nI (st j)))), (m21, .inl (ax 0, 1200, .inl f))] sz))) 0 0 (va_A [(m0, .inr (11, [.int s_thrown, .int s_taped, .ref m1, .int s_size, .int s_outSize, .ref m2, .int s_kind, .int s_value, .int s_begin, .int s_end, .int s_failed, .ref m3, .ref m4, .ref m5, .int s_isProgram, .int s_half, .ref m6, .ref m7, .ref m8, .ref m9, .ref m10, .ref m11, .ref m12, .ref m13, .ref m14, .ref m15, .ref m16, .ref m17, .ref m18, .ref m19, .ref m20, .int (nI q), .ref m21, .int (nI sd), .ref m22, .int s_name, .int s_shift, .int s_statements, .int s_ifs, .int s_whiles, .int s_variants, .int s_open, .ref m23, .int s_isMade, .int s_conditions, .ref m24, .ref m25, .ref m26, .ref m27, .int s_kept, .ref m28, .int s_tops, .ref m29, .int s_used, .ref m30, .ref m31, .int s_looked, .int s_rows, .int s_firstRow, .ref m32, .ref m33, .ref m34, .ref m35, .ref m36, .ref m37, .ref m38, .ref m39, .ref m40, .int s_isBroken, .ref m41, .int s_atoms, .ref m42])), (m22, .inl (ax 0, 64, .inl (fun j => nI (st j)))), (m21, .inl (ax 0, 1200, .inl f))] sz) := by
  refine Met.ofW (cc := b_Model_emitNots) (maxL := 1) (ret := none) (by decide) rfl ?_
  intro p e s m args below meth c s₁ B hml hv
  obtain ⟨rfl, hsz, hP, hK, hD0⟩ := hv
  have hx := B.exec
  have hb := B.bytes
  have hr := B.returns
  have hts := xw_hts B.pre
  have hown : s.vm.findClass R_Model = some m.cls := findClass_of_methodNamed B.named
  have hlocks := B.notSynchronized
  subst hsz
  have hD := hD0.self (sz := s.heap.size)
  have hN := xz_entry hP
  generalize hAe : va_A [(m0, .inr (11, [.int s_thrown, .int s_taped, .ref m1, .int s_size, .int s_outSize, .ref m2, .int s_kind, .int s_value, .int s_begin, .int s_end, .int s_failed, .ref m3, .ref m4, .ref m5, .int s_isProgram, .int s_half, .ref m6, .ref m7, .ref m8, .ref m9, .ref m10, .ref m11, .ref m12, .ref m13, .ref m14, .ref m15, .ref m16, .ref m17, .ref m18, .ref m19, .ref m20, .int (nI q), .ref m21, .int (nI sd), .ref m22, .int s_name, .int s_shift, .int s_statements, .int s_ifs, .int s_whiles, .int s_variants, .int s_open, .ref m23, .int s_isMade, .int s_conditions, .ref m24, .ref m25, .ref m26, .ref m27, .int s_kept, .ref m28, .int s_tops, .ref m29, .int s_used, .ref m30, .ref m31, .int s_looked, .int s_rows, .int s_firstRow, .ref m32, .ref m33, .ref m34, .ref m35, .ref m36, .ref m37, .ref m38, .ref m39, .ref m40, .int s_isBroken, .ref m41, .int s_atoms, .ref m42])), (m22, .inl (ax 0, 64, .inl (fun j => nI (st j)))), (m21, .inl (ax 0, 1200, .inl f))] s.heap.size = A at hD hN ⊢
  have hA : ∀ q : Nat, s.heap.size ≤ q → A q := fun q h => by rw [← hAe]; exact Or.inr h
  have hS : va_S A s.heap s.heap [] := va_S.rf
  have hl0 := lv_entry ([.ref m0]) (n := 1) (Nat.le_of_ble_eq_true rfl)
  rw [lg_entry_eq]
  generalize (lg_sl ([.ref m0]) ++ List.replicate (1 - (lg_sl ([.ref m0])).length) Slot.unset).toArray = ls at hl0 ⊢
  have hl1 : lv_has ls 1 [(0, .ref m0)] := hl0
  refine xw_gen (fun Z9 hQe => ?_)
  suffices key_1 : ∀ (k : Nat) (t1 q1 : Nat) (f1 : Nat → Int32), t1 < k → t1 ≤ sd → q1 + t1 = q + sd → ntop st t1 + (sd - t1) = ntop st sd → f1 = enF f q (sd - t1) → ∀ (H : Heap) (locs : List Loc) (ls : Array Slot), va_P D classes [(m0, .inr (11, [.int s_thrown, .int s_taped, .ref m1, .int s_size, .int s_outSize, .ref m2, .int s_kind, .int s_value, .int s_begin, .int s_end, .int s_failed, .ref m3, .ref m4, .ref m5, .int s_isProgram, .int s_half, .ref m6, .ref m7, .ref m8, .ref m9, .ref m10, .ref m11, .ref m12, .ref m13, .ref m14, .ref m15, .ref m16, .ref m17, .ref m18, .ref m19, .ref m20, .int (nI q1), .ref m21, .int (nI t1), .ref m22, .int s_name, .int s_shift, .int s_statements, .int s_ifs, .int s_whiles, .int s_variants, .int s_open, .ref m23, .int s_isMade, .int s_conditions, .ref m24, .ref m25, .ref m26, .ref m27, .int s_kept, .ref m28, .int s_tops, .ref m29, .int s_used, .ref m30, .ref m31, .int s_looked, .int s_rows, .int s_firstRow, .ref m32, .ref m33, .ref m34, .ref m35, .ref m36, .ref m37, .ref m38, .ref m39, .ref m40, .int s_isBroken, .ref m41, .int s_atoms, .ref m42])), (m22, .inl (ax 0, 64, .inl (fun j => nI (st j)))), (m21, .inl (ax 0, 1200, .inl f1))] H → va_D A [(m0, .inr (11, [.int s_thrown, .int s_taped, .ref m1, .int s_size, .int s_outSize, .ref m2, .int s_kind, .int s_value, .int s_begin, .int s_end, .int s_failed, .ref m3, .ref m4, .ref m5, .int s_isProgram, .int s_half, .ref m6, .ref m7, .ref m8, .ref m9, .ref m10, .ref m11, .ref m12, .ref m13, .ref m14, .ref m15, .ref m16, .ref m17, .ref m18, .ref m19, .ref m20, .int (nI q1), .ref m21, .int (nI t1), .ref m22, .int s_name, .int s_shift, .int s_statements, .int s_ifs, .int s_whiles, .int s_variants, .int s_open, .ref m23, .int s_isMade, .int s_conditions, .ref m24, .ref m25, .ref m26, .ref m27, .int s_kept, .ref m28, .int s_tops, .ref m29, .int s_used, .ref m30, .ref m31, .int s_looked, .int s_rows, .int s_firstRow, .ref m32, .ref m33, .ref m34, .ref m35, .ref m36, .ref m37, .ref m38, .ref m39, .ref m40, .int s_isBroken, .ref m41, .int s_atoms, .ref m42])), (m22, .inl (ax 0, 64, .inl (fun j => nI (st j)))), (m21, .inl (ax 0, 1200, .inl f1))] → va_S A s.heap H locs → lv_has ls 1 [(0, .ref m0)] → W p l e (headSpec (xws (.code y_Model_emitNots b_Model_emitNots 1 none)) ({ frames := 20, cells := 0, slots := 0, locals := 800 })).room s m ([.ref m0] : List Value).toArray below meth c H locs 0 0 Z9 (F0 m 0 ls []) from key_1 (sd + 1) sd q f (Nat.lt_succ_self _) (by first | assumption | omega) (by first | assumption | omega) (by first | assumption | omega) (by rw [Nat.sub_self]; rfl) _ _ _ (hP) (hD) hS (lv_sub hl1 [0] rfl)
  intro k_2
  induction k_2 with
  | zero =>
    intro t1 q1 f1 hk_4
    exact absurd hk_4 (Nat.not_lt_zero _)
  | succ k_2 ih_3 =>
    clear hP hD hS hl1
    intro t1 q1 f1 hk_4 ht1 hq1 hn1 hf1 H locs ls hP hD hS hl1
    refine lv_aload_n hx hb d_Model_emitNots_0 rfl (lv_at hl1 0 rfl) ?_
    refine va_get (D := D) (ci := 11) (v := .int (nI t1)) (C := R_Model) (T := F_Model) (N := 72) hx hb hts i_Model hown hK.1 hP 0 rfl rfl 33 (by decide) (hts _ wd_1069) (fun _ h9 => h9) rfl d_Model_emitNots_1 ?_
    refine lv_if_le (tgt := 29) hx hb d_Model_emitNots_4 (by decide) (fun c_5 => ?_) (fun c_5 => ?_)
    · replace c_5 : t1 ≤ 0 := (nI_leI (a := t1) (b := 0) (by first | exact Nat.lt_of_lt_of_le (by assumption) (by decide) | exact Nat.lt_of_le_of_lt (by assumption) (by decide) | omega) (by decide)).mp c_5
      have hn2 : ntop st t1 = 0 := ntop_n (by first | assumption | omega)
      have hn3 := ntop_le (st := st) sd
      rw [hf1, show sd - t1 = ntop st sd by omega, show t1 = sd - ntop st sd by omega, show q1 = q + ntop st sd by omega] at hP hD
      rw [← hQe]
      obtain ⟨hP9, hD9⟩ := xw_sub2 (wc := (fun u : Nat → Nat => [(m0, .inr (11, [.int s_thrown, .int s_taped, .ref m1, .int s_size, .int s_outSize, .ref m2, .int s_kind, .int s_value, .int s_begin, .int s_end, .int s_failed, .ref m3, .ref m4, .ref m5, .int s_isProgram, .int s_half, .ref m6, .ref m7, .ref m8, .ref m9, .ref m10, .ref m11, .ref m12, .ref m13, .ref m14, .ref m15, .ref m16, .ref m17, .ref m18, .ref m19, .ref m20, .int (nI (q + ntop st sd)), .ref m21, .int (nI (sd - ntop st sd)), .ref m22, .int s_name, .int s_shift, .int s_statements, .int s_ifs, .int s_whiles, .int s_variants, .int s_open, .ref m23, .int s_isMade, .int s_conditions, .ref m24, .ref m25, .ref m26, .ref m27, .int s_kept, .ref m28, .int s_tops, .ref m29, .int s_used, .ref m30, .ref m31, .int s_looked, .int s_rows, .int s_firstRow, .ref m32, .ref m33, .ref m34, .ref m35, .ref m36, .ref m37, .ref m38, .ref m39, .ref m40, .int s_isBroken, .ref m41, .int s_atoms, .ref m42])), (m22, .inl (ax 0, 64, .inl (fun j => nI (st j)))), (m21, .inl (ax 0, 1200, .inl (enF f q (ntop st sd))))]) (ixn [])) hP hD [0, 1, 2] (by decide) rfl
      exact W.vret hx hb hr (fun t ht hW => ⟨⟨ixn [], rfl, trivial, ⟨by rw [ht]; exact hP9, hD9⟩⟩, hS.F ht⟩) hS.2.2 d_Model_emitNots_29
    · replace c_5 : ¬ t1 ≤ 0 := fun hq9 => c_5 ((nI_leI (a := t1) (b := 0) (by first | exact Nat.lt_of_lt_of_le (by assumption) (by decide) | exact Nat.lt_of_le_of_lt (by assumption) (by decide) | omega) (by decide)).mpr hq9)
      have hsq := hst (t1 - 1)
      refine lv_aload_n hx hb d_Model_emitNots_7 rfl (lv_at hl1 0 rfl) ?_
      refine va_get (D := D) (ci := 11) (v := .ref m22) (C := R_Model) (T := F_Model) (N := 72) hx hb hts i_Model hown hK.1 hP 0 rfl rfl 34 (by decide) (hts _ wd_1070) (fun _ h9 => h9) rfl d_Model_emitNots_8 ?_
      refine lv_aload_n hx hb d_Model_emitNots_11 rfl (lv_at hl1 0 rfl) ?_
      refine va_get (D := D) (ci := 11) (v := .int (nI t1)) (C := R_Model) (T := F_Model) (N := 72) hx hb hts i_Model hown hK.1 hP 0 rfl rfl 33 (by decide) (hts _ wd_1069) (fun _ h9 => h9) rfl d_Model_emitNots_12 ?_
      refine lv_iconst (v := 1) hx hb d_Model_emitNots_15 (by decide) ?_
      refine lv_isub hx hb d_Model_emitNots_16 ?_
      refine lv_topi (fun z_6 ez_6 => ?_)
      have ez_6 : z_6 = nI (t1 - 1) := ez_6.trans (pk_sub (a := t1) (b := 1) (by first | assumption | omega))
      subst ez_6
      refine va_iald hx hb hK.1 hP 1 0 rfl rfl (vp_in_nI (by first | assumption | omega) (by decide)) d_Model_emitNots_17 ?_
      refine W.eq (g2 := F0 m 18 ls [.int (nI (st (t1 - 1)))]) (by rw [nI_clamp (by first | exact Nat.lt_of_lt_of_le (by assumption) (by decide) | exact Nat.lt_of_le_of_lt (by assumption) (by decide) | omega)]) ?_
      refine lv_iconst (v := 1) hx hb d_Model_emitNots_18 (by decide) ?_
      refine lv_icmp_ne (tgt := 29) hx hb d_Model_emitNots_19 (by decide) (fun c_7 => ?_) (fun c_7 => ?_)
      · replace c_7 : ¬ st (t1 - 1) = 1 := fun hq9 => c_7 ((nI_eq (a := st (t1 - 1)) (b := 1) (by first | exact Nat.lt_of_lt_of_le (by assumption) (by decide) | exact Nat.lt_of_le_of_lt (by assumption) (by decide) | omega) (by decide)).mpr hq9)
        have hn2 : ntop st t1 = 0 := ntop_n (by first | assumption | omega)
        have hn3 := ntop_le (st := st) sd
        rw [hf1, show sd - t1 = ntop st sd by omega, show t1 = sd - ntop st sd by omega, show q1 = q + ntop st sd by omega] at hP hD
        rw [← hQe]
        obtain ⟨hP9, hD9⟩ := xw_sub2 (wc := (fun u : Nat → Nat => [(m0, .inr (11, [.int s_thrown, .int s_taped, .ref m1, .int s_size, .int s_outSize, .ref m2, .int s_kind, .int s_value, .int s_begin, .int s_end, .int s_failed, .ref m3, .ref m4, .ref m5, .int s_isProgram, .int s_half, .ref m6, .ref m7, .ref m8, .ref m9, .ref m10, .ref m11, .ref m12, .ref m13, .ref m14, .ref m15, .ref m16, .ref m17, .ref m18, .ref m19, .ref m20, .int (nI (q + ntop st sd)), .ref m21, .int (nI (sd - ntop st sd)), .ref m22, .int s_name, .int s_shift, .int s_statements, .int s_ifs, .int s_whiles, .int s_variants, .int s_open, .ref m23, .int s_isMade, .int s_conditions, .ref m24, .ref m25, .ref m26, .ref m27, .int s_kept, .ref m28, .int s_tops, .ref m29, .int s_used, .ref m30, .ref m31, .int s_looked, .int s_rows, .int s_firstRow, .ref m32, .ref m33, .ref m34, .ref m35, .ref m36, .ref m37, .ref m38, .ref m39, .ref m40, .int s_isBroken, .ref m41, .int s_atoms, .ref m42])), (m22, .inl (ax 0, 64, .inl (fun j => nI (st j)))), (m21, .inl (ax 0, 1200, .inl (enF f q (ntop st sd))))]) (ixn [])) hP hD [0, 1, 2] (by decide) rfl
        exact W.vret hx hb hr (fun t ht hW => ⟨⟨ixn [], rfl, trivial, ⟨by rw [ht]; exact hP9, hD9⟩⟩, hS.F ht⟩) hS.2.2 d_Model_emitNots_29
      · replace c_7 : st (t1 - 1) = 1 := (nI_eq (a := st (t1 - 1)) (b := 1) (by first | exact Nat.lt_of_lt_of_le (by assumption) (by decide) | exact Nat.lt_of_le_of_lt (by assumption) (by decide) | omega) (by decide)).mp c_7
        refine lv_aload_n hx hb d_Model_emitNots_22 rfl (lv_at hl1 0 rfl) ?_
        obtain ⟨hPc, hDc, hFc, hCs⟩ := xw_sub3 (wc := [(m0, .inr (11, [.int s_thrown, .int s_taped, .ref m1, .int s_size, .int s_outSize, .ref m2, .int s_kind, .int s_value, .int s_begin, .int s_end, .int s_failed, .ref m3, .ref m4, .ref m5, .int s_isProgram, .int s_half, .ref m6, .ref m7, .ref m8, .ref m9, .ref m10, .ref m11, .ref m12, .ref m13, .ref m14, .ref m15, .ref m16, .ref m17, .ref m18, .ref m19, .ref m20, .int (nI q1), .ref m21, .int (nI t1), .ref m22, .int s_name, .int s_shift, .int s_statements, .int s_ifs, .int s_whiles, .int s_variants, .int s_open, .ref m23, .int s_isMade, .int s_conditions, .ref m24, .ref m25, .ref m26, .ref m27, .int s_kept, .ref m28, .int s_tops, .ref m29, .int s_used, .ref m30, .ref m31, .int s_looked, .int s_rows, .int s_firstRow, .ref m32, .ref m33, .ref m34, .ref m35, .ref m36, .ref m37, .ref m38, .ref m39, .ref m40, .int s_isBroken, .ref m41, .int s_atoms, .ref m42])), (m22, .inl (ax 0, 64, .inl (fun j => nI (st j)))), (m21, .inl (ax 0, 1200, .inl f1))]) hP hD hS hA [0, 1, 2] (by decide) rfl
        have hz := xz_of hN hS
        refine va_callv (va_runV (As := []) (rest := []) ⟨hx, hb, hml, hown, hts⟩ (c_M_emit l D ax m0 m1 m2 m3 m4 m5 m6 m7 m8 m9 m10 m11 m12 m13 m14 m15 m16 m17 m18 m19 m20 m21 m22 m23 m24 m25 m26 m27 m28 m29 m30 m31 m32 m33 m34 m35 m36 m37 m38 m39 m40 m41 m42 s_thrown s_taped s_size s_outSize s_kind s_value s_begin s_end s_failed s_isProgram s_half s_name s_shift s_statements s_ifs s_whiles s_variants s_open s_isMade s_conditions s_kept s_tops s_used s_looked s_rows s_firstRow s_isBroken s_atoms t1 q1 st f1 H.size (by first | assumption | omega) (by first | assumption | omega) (by first | assumption | omega)) (xcV (n := 0) hts wd_1347 wd_15 wd_1344 wd_1346 ps_64 rfl rfl (by decide +kernel) ⟨Nat.le_of_ble_eq_true rfl, Nat.le_of_ble_eq_true rfl⟩) (xpV (ci := 11) (q0 := 0) (As := []) hPc hK hz hDc rfl rfl) rfl rfl hl1.1 rfl (lv_room (Nat.le_of_ble_eq_true rfl)) d_Model_emitNots_23 ⟨Nat.le_of_ble_eq_true rfl, Nat.le_of_ble_eq_true rfl⟩) hS (fun q _ h => hFc q h) hFc (fun u_8 t H_9 locs ht hvm hw hB hz1 hk1 hS1 => ?_)
        try dsimp only at hw
        obtain ⟨hP1, hD1⟩ := hB
        rw [ht] at hP1
        have hjn := xw_join3 (wl := [(m0, .inr (11, [.int s_thrown, .int s_taped, .ref m1, .int s_size, .int s_outSize, .ref m2, .int s_kind, .int s_value, .int s_begin, .int s_end, .int s_failed, .ref m3, .ref m4, .ref m5, .int s_isProgram, .int s_half, .ref m6, .ref m7, .ref m8, .ref m9, .ref m10, .ref m11, .ref m12, .ref m13, .ref m14, .ref m15, .ref m16, .ref m17, .ref m18, .ref m19, .ref m20, .int (nI (q1 + 1)), .ref m21, .int (nI (t1 - 1)), .ref m22, .int s_name, .int s_shift, .int s_statements, .int s_ifs, .int s_whiles, .int s_variants, .int s_open, .ref m23, .int s_isMade, .int s_conditions, .ref m24, .ref m25, .ref m26, .ref m27, .int s_kept, .ref m28, .int s_tops, .ref m29, .int s_used, .ref m30, .ref m31, .int s_looked, .int s_rows, .int s_firstRow, .ref m32, .ref m33, .ref m34, .ref m35, .ref m36, .ref m37, .ref m38, .ref m39, .ref m40, .int s_isBroken, .ref m41, .int s_atoms, .ref m42])), (m22, .inl (ax 0, 64, .inl (fun j => nI (st j)))), (m21, .inl (ax 0, 1200, .inl (upd f1 (6 * q1) (nI (st (t1 - 1))))))]) hP hD [0, 1, 2] [] hCs (by decide) (by decide) hk1 hFc hP1 hD1 rfl
        clear hP1 hD1
        clear hPc hDc hFc hCs hz hz1 hk1 ht hvm
        clear hP hD hS
        have hS := hS1
        obtain ⟨hP, hD⟩ := hjn
        clear hS1
        refine lv_goto (tgt := 0) hx hb d_Model_emitNots_26 (by decide) ?_
        exact ih_3 (t1 - 1) (q1 + 1) (upd f1 (6 * q1) (nI (st (t1 - 1)))) (by first | assumption | omega) (by first | assumption | omega) (by first | assumption | omega) (by rw [← hn1, ntop_y (k := t1) (by first | assumption | omega) (by first | assumption | omega)]; omega) (by rw [hf1, show sd - (t1 - 1) = (sd - t1) + 1 by omega, show st (t1 - 1) = 1 by omega, show q1 = q + (sd - t1) by omega]; rfl) _ _ _ (hP.sub [0, 1, 2] rfl) (hD.sub [0, 1, 2] (by decide) rfl) hS (lv_sub hl1 [0] rfl)
