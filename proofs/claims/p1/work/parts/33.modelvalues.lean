theorem xi_56 {x : Int32} (h : x ≤ 5) : x < 6 := by
  rw [Int32.lt_iff_toInt_lt]
  rw [Int32.le_iff_toInt_le] at h
  have h5 : (5 : Int32).toInt = 5 := by decide
  have h6 : (6 : Int32).toInt = 6 := by decide
  omega
theorem xi_01 {x : Int32} (h : ¬ x < 0) (h0 : ¬ x = 0) (h1 : ¬ x = 1) : ¬ x ≤ 1 := by
  intro hle
  rw [Int32.lt_iff_toInt_lt] at h
  rw [Int32.le_iff_toInt_le] at hle
  have a0 : (0 : Int32).toInt = 0 := by decide
  have a1 : (1 : Int32).toInt = 1 := by decide
  rcases (show x.toInt = 0 ∨ x.toInt = 1 by omega) with q | q
  · exact h0 (Int32.toInt_inj.mp (q.trans a0.symm))
  · exact h1 (Int32.toInt_inj.mp (q.trans a1.symm))
abbrev b_Model_out : ByteArray := prog_13_method_84_code
def y_Model_out : MethodName := ⟨R_Model, "out", "(I)I"⟩
theorem d_Model_out_0 : decode b_Model_out 0 = .ok (.aload_n 0, 1) := by decide +kernel
theorem d_Model_out_1 : decode b_Model_out 1 = .ok (.iload_n 1, 1) := by decide +kernel
theorem d_Model_out_2 : decode b_Model_out 2 = .ok (.ifCond .lt 11, 3) := by decide +kernel
theorem d_Model_out_5 : decode b_Model_out 5 = .ok (.iload_n 1, 1) := by decide +kernel
theorem d_Model_out_6 : decode b_Model_out 6 = .ok (.aload_n 0, 1) := by decide +kernel
theorem d_Model_out_7 : decode b_Model_out 7 = .ok (.getfield 452, 3) := by decide +kernel
theorem d_Model_out_10 : decode b_Model_out 10 = .ok (.if_icmp .lt 7, 3) := by decide +kernel
theorem d_Model_out_13 : decode b_Model_out 13 = .ok (.iconst 1, 1) := by decide +kernel
theorem d_Model_out_14 : decode b_Model_out 14 = .ok (.goto 4, 3) := by decide +kernel
theorem d_Model_out_18 : decode b_Model_out 18 = .ok (.putfield 148, 3) := by decide +kernel
theorem d_Model_out_21 : decode b_Model_out 21 = .ok (.aload_n 0, 1) := by decide +kernel
theorem d_Model_out_22 : decode b_Model_out 22 = .ok (.getfield 148, 3) := by decide +kernel
theorem d_Model_out_25 : decode b_Model_out 25 = .ok (.ifCond .le 7, 3) := by decide +kernel
theorem d_Model_out_28 : decode b_Model_out 28 = .ok (.iconst 0, 1) := by decide +kernel
theorem d_Model_out_29 : decode b_Model_out 29 = .ok (.goto 9, 3) := by decide +kernel
theorem d_Model_out_38 : decode b_Model_out 38 = .ok (.ireturn, 1) := by decide +kernel
set_option maxHeartbeats 4000000 in
set_option maxRecDepth 100000 in
theorem c_Model_out (l : Launch) (D : va_G) (ax : Nat → ClassId) (m0 m1 m2 m3 m4 m5 m6 m7 m8 m9 m10 m11 m12 m13 m14 m15 m16 m17 m18 m19 m20 m21 m22 m23 m24 m25 m26 m27 m28 m29 m30 m31 m32 m33 m34 m35 m36 m37 m38 m39 m40 m41 m42 : Nat) (x1 : Int32) (sz : Nat) : Met l y_Model_out (xws (.code y_Model_out b_Model_out 2 (some .int))) ({ frames := 10, cells := 0, slots := 0, locals := 400 }) (va_Pc [.ref m0, .int x1] (xo D ax [(m0, .inr (11, [.int 0, .int 0, .ref m1, .int 0, .int 0, .ref m2, .int 0, .int 0, .int 0, .int 0, .int 0, .ref m42, .ref m3, .ref m4, .int 0, .int 0, .ref m5, .ref m6, .ref m7, .ref m8, .ref m9, .ref m10, .ref m11, .ref m12, .ref m13, .ref m14, .ref m15, .ref m16, .ref m17, .ref m18, .ref m19, .int 0, .ref m20, .int 0, .ref m21, .int 0, .int 0, .int 0, .int 0, .int 0, .int 0, .int 0, .ref m22, .int 0, .int 0, .ref m23, .ref m24, .ref m25, .ref m26, .int 0, .ref m27, .int 0, .ref m28, .int 0, .ref m29, .ref m30, .int (-1), .int 0, .int 0, .ref m31, .ref m32, .ref m33, .ref m34, .ref m35, .ref m36, .ref m37, .ref m38, .ref m39, .int 0, .ref m40, .int 0, .ref m41]))] sz)) ((va_Qi (fun (r : Int32) (u : Nat → Nat) => r = 0) (xb D (va_A [(m0, .inr (11, [.int 0, .int 0, .ref m1, .int 0, .int 0, .ref m2, .int 0, .int 0, .int 0, .int 0, .int 0, .ref m42, .ref m3, .ref m4, .int 0, .int 0, .ref m5, .ref m6, .ref m7, .ref m8, .ref m9, .ref m10, .ref m11, .ref m12, .ref m13, .ref m14, .ref m15, .ref m16, .ref m17, .ref m18, .ref m19, .int 0, .ref m20, .int 0, .ref m21, .int 0, .int 0, .int 0, .int 0, .int 0, .int 0, .int 0, .ref m22, .int 0, .int 0, .ref m23, .ref m24, .ref m25, .ref m26, .int 0, .ref m27, .int 0, .ref m28, .int 0, .ref m29, .ref m30, .int (-1), .int 0, .int 0, .ref m31, .ref m32, .ref m33, .ref m34, .ref m35, .ref m36, .ref m37, .ref m38, .ref m39, .int 0, .ref m40, .int 0, .ref m41]))] sz) (fun u => [(m0, .inr (11, [.int 1, .int 0, .ref m1, .int 0, .int 0, .ref m2, .int 0, .int 0, .int 0, .int 0, .int 0, .ref m42, .ref m3, .ref m4, .int 0, .int 0, .ref m5, .ref m6, .ref m7, .ref m8, .ref m9, .ref m10, .ref m11, .ref m12, .ref m13, .ref m14, .ref m15, .ref m16, .ref m17, .ref m18, .ref m19, .int 0, .ref m20, .int 0, .ref m21, .int 0, .int 0, .int 0, .int 0, .int 0, .int 0, .int 0, .ref m22, .int 0, .int 0, .ref m23, .ref m24, .ref m25, .ref m26, .int 0, .ref m27, .int 0, .ref m28, .int 0, .ref m29, .ref m30, .int (-1), .int 0, .int 0, .ref m31, .ref m32, .ref m33, .ref m34, .ref m35, .ref m36, .ref m37, .ref m38, .ref m39, .int 0, .ref m40, .int 0, .ref m41]))])) (va_A [(m0, .inr (11, [.int 0, .int 0, .ref m1, .int 0, .int 0, .ref m2, .int 0, .int 0, .int 0, .int 0, .int 0, .ref m42, .ref m3, .ref m4, .int 0, .int 0, .ref m5, .ref m6, .ref m7, .ref m8, .ref m9, .ref m10, .ref m11, .ref m12, .ref m13, .ref m14, .ref m15, .ref m16, .ref m17, .ref m18, .ref m19, .int 0, .ref m20, .int 0, .ref m21, .int 0, .int 0, .int 0, .int 0, .int 0, .int 0, .int 0, .ref m22, .int 0, .int 0, .ref m23, .ref m24, .ref m25, .ref m26, .int 0, .ref m27, .int 0, .ref m28, .int 0, .ref m29, .ref m30, .int (-1), .int 0, .int 0, .ref m31, .ref m32, .ref m33, .ref m34, .ref m35, .ref m36, .ref m37, .ref m38, .ref m39, .int 0, .ref m40, .int 0, .ref m41]))] sz))) 0 0 (va_A [(m0, .inr (11, [.int 0, .int 0, .ref m1, .int 0, .int 0, .ref m2, .int 0, .int 0, .int 0, .int 0, .int 0, .ref m42, .ref m3, .ref m4, .int 0, .int 0, .ref m5, .ref m6, .ref m7, .ref m8, .ref m9, .ref m10, .ref m11, .ref m12, .ref m13, .ref m14, .ref m15, .ref m16, .ref m17, .ref m18, .ref m19, .int 0, .ref m20, .int 0, .ref m21, .int 0, .int 0, .int 0, .int 0, .int 0, .int 0, .int 0, .ref m22, .int 0, .int 0, .ref m23, .ref m24, .ref m25, .ref m26, .int 0, .ref m27, .int 0, .ref m28, .int 0, .ref m29, .ref m30, .int (-1), .int 0, .int 0, .ref m31, .ref m32, .ref m33, .ref m34, .ref m35, .ref m36, .ref m37, .ref m38, .ref m39, .int 0, .ref m40, .int 0, .ref m41]))] sz) := by
  refine Met.ofW (cc := b_Model_out) (maxL := 2) (ret := (some .int)) (by decide) rfl ?_
  intro p e s m args below meth c s₁ B hml hv
  obtain ⟨rfl, hsz, hP, hK, hD0⟩ := hv
  have hx := B.exec
  have hb := B.bytes
  have hr := B.returns
  have hts := xw_hts B.pre
  have hown : s.vm.findClass R_Model = some m.cls := findClass_of_methodNamed B.named
  have hlocks := B.notSynchronized
  subst hsz
  have hD := hD0.self (sz := s.heap.size)
  have hN := xz_entry hP
  generalize hAe : va_A [(m0, .inr (11, [.int 0, .int 0, .ref m1, .int 0, .int 0, .ref m2, .int 0, .int 0, .int 0, .int 0, .int 0, .ref m42, .ref m3, .ref m4, .int 0, .int 0, .ref m5, .ref m6, .ref m7, .ref m8, .ref m9, .ref m10, .ref m11, .ref m12, .ref m13, .ref m14, .ref m15, .ref m16, .ref m17, .ref m18, .ref m19, .int 0, .ref m20, .int 0, .ref m21, .int 0, .int 0, .int 0, .int 0, .int 0, .int 0, .int 0, .ref m22, .int 0, .int 0, .ref m23, .ref m24, .ref m25, .ref m26, .int 0, .ref m27, .int 0, .ref m28, .int 0, .ref m29, .ref m30, .int (-1), .int 0, .int 0, .ref m31, .ref m32, .ref m33, .ref m34, .ref m35, .ref m36, .ref m37, .ref m38, .ref m39, .int 0, .ref m40, .int 0, .ref m41]))] s.heap.size = A at hD hN ⊢
  have hA : ∀ q : Nat, s.heap.size ≤ q → A q := fun q h => by rw [← hAe]; exact Or.inr h
  have hS : va_S A s.heap s.heap [] := va_S.rf
  have hl0 := lv_entry ([.ref m0, .int x1]) (n := 2) (Nat.le_of_ble_eq_true rfl)
  rw [lg_entry_eq]
  generalize (lg_sl ([.ref m0, .int x1]) ++ List.replicate (2 - (lg_sl ([.ref m0, .int x1])).length) Slot.unset).toArray = ls at hl0 ⊢
  have hl1 : lv_has ls 2 [(0, .ref m0), (1, .int x1)] := hl0
  refine lv_aload_n hx hb d_Model_out_0 rfl (lv_at hl1 0 rfl) ?_
  refine lv_iload_n hx hb d_Model_out_1 rfl (lv_at hl1 1 rfl) ?_
  refine lv_if_lt (tgt := 13) hx hb d_Model_out_2 (by decide) (fun c_1 => ?_) (fun c_1 => ?_)
  · refine lv_iconst (v := 1) hx hb d_Model_out_13 (by decide) ?_
    refine lv_goto (tgt := 18) hx hb d_Model_out_14 (by decide) ?_
    refine va_put (D := D) (ci := 11) (v := .int 1) (ty := .int) (C := R_Model) (T := F_Model) (N := 72) hx hb hts i_Model t_Model t_Model_ok n_Model hown hK.1 hP hD hS 0 rfl rfl 0 (by decide) (hts _ wd_1036) (fun _ h9 => h9) rfl (by decide +kernel) rfl rfl (Nat.le_of_ble_eq_true rfl) d_Model_out_18 (fun H_2 locs hP hD hS => ?_)
    have hP : va_P D classes [(m0, .inr (11, [.int 1, .int 0, .ref m1, .int 0, .int 0, .ref m2, .int 0, .int 0, .int 0, .int 0, .int 0, .ref m42, .ref m3, .ref m4, .int 0, .int 0, .ref m5, .ref m6, .ref m7, .ref m8, .ref m9, .ref m10, .ref m11, .ref m12, .ref m13, .ref m14, .ref m15, .ref m16, .ref m17, .ref m18, .ref m19, .int 0, .ref m20, .int 0, .ref m21, .int 0, .int 0, .int 0, .int 0, .int 0, .int 0, .int 0, .ref m22, .int 0, .int 0, .ref m23, .ref m24, .ref m25, .ref m26, .int 0, .ref m27, .int 0, .ref m28, .int 0, .ref m29, .ref m30, .int (-1), .int 0, .int 0, .ref m31, .ref m32, .ref m33, .ref m34, .ref m35, .ref m36, .ref m37, .ref m38, .ref m39, .int 0, .ref m40, .int 0, .ref m41]))] H_2 := hP
    have hD : va_D A [(m0, .inr (11, [.int 1, .int 0, .ref m1, .int 0, .int 0, .ref m2, .int 0, .int 0, .int 0, .int 0, .int 0, .ref m42, .ref m3, .ref m4, .int 0, .int 0, .ref m5, .ref m6, .ref m7, .ref m8, .ref m9, .ref m10, .ref m11, .ref m12, .ref m13, .ref m14, .ref m15, .ref m16, .ref m17, .ref m18, .ref m19, .int 0, .ref m20, .int 0, .ref m21, .int 0, .int 0, .int 0, .int 0, .int 0, .int 0, .int 0, .ref m22, .int 0, .int 0, .ref m23, .ref m24, .ref m25, .ref m26, .int 0, .ref m27, .int 0, .ref m28, .int 0, .ref m29, .ref m30, .int (-1), .int 0, .int 0, .ref m31, .ref m32, .ref m33, .ref m34, .ref m35, .ref m36, .ref m37, .ref m38, .ref m39, .int 0, .ref m40, .int 0, .ref m41]))] := hD
    refine lv_aload_n hx hb d_Model_out_21 rfl (lv_at hl1 0 rfl) ?_
    refine va_get (D := D) (ci := 11) (v := .int 1) (C := R_Model) (T := F_Model) (N := 72) hx hb hts i_Model hown hK.1 hP 0 rfl rfl 0 (by decide) (hts _ wd_1036) (fun _ h9 => h9) rfl d_Model_out_22 ?_
    refine lv_if_le (tgt := 32) hx hb d_Model_out_25 (by decide) (fun c_3 => ?_) (fun c_3 => ?_)
    · first | exact absurd c_3 (by decide) | exact absurd (by decide) c_3
    refine lv_iconst (v := 0) hx hb d_Model_out_28 (by decide) ?_
    refine lv_goto (tgt := 38) hx hb d_Model_out_29 (by decide) ?_
    have hP9 := hP.sub (ws' := (fun u : Nat → Nat => [(m0, .inr (11, [.int 1, .int 0, .ref m1, .int 0, .int 0, .ref m2, .int 0, .int 0, .int 0, .int 0, .int 0, .ref m42, .ref m3, .ref m4, .int 0, .int 0, .ref m5, .ref m6, .ref m7, .ref m8, .ref m9, .ref m10, .ref m11, .ref m12, .ref m13, .ref m14, .ref m15, .ref m16, .ref m17, .ref m18, .ref m19, .int 0, .ref m20, .int 0, .ref m21, .int 0, .int 0, .int 0, .int 0, .int 0, .int 0, .int 0, .ref m22, .int 0, .int 0, .ref m23, .ref m24, .ref m25, .ref m26, .int 0, .ref m27, .int 0, .ref m28, .int 0, .ref m29, .ref m30, .int (-1), .int 0, .int 0, .ref m31, .ref m32, .ref m33, .ref m34, .ref m35, .ref m36, .ref m37, .ref m38, .ref m39, .int 0, .ref m40, .int 0, .ref m41]))]) (ixn [])) [0] rfl
    have hD9 := hD.sub (ws' := (fun u : Nat → Nat => [(m0, .inr (11, [.int 1, .int 0, .ref m1, .int 0, .int 0, .ref m2, .int 0, .int 0, .int 0, .int 0, .int 0, .ref m42, .ref m3, .ref m4, .int 0, .int 0, .ref m5, .ref m6, .ref m7, .ref m8, .ref m9, .ref m10, .ref m11, .ref m12, .ref m13, .ref m14, .ref m15, .ref m16, .ref m17, .ref m18, .ref m19, .int 0, .ref m20, .int 0, .ref m21, .int 0, .int 0, .int 0, .int 0, .int 0, .int 0, .int 0, .ref m22, .int 0, .int 0, .ref m23, .ref m24, .ref m25, .ref m26, .int 0, .ref m27, .int 0, .ref m28, .int 0, .ref m29, .ref m30, .int (-1), .int 0, .int 0, .ref m31, .ref m32, .ref m33, .ref m34, .ref m35, .ref m36, .ref m37, .ref m38, .ref m39, .int 0, .ref m40, .int 0, .ref m41]))]) (ixn [])) [0] (by decide) rfl
    exact W.iret (v := 0) hx hb hr (fun t ht hW => ⟨⟨0, ixn [], rfl, rfl, ⟨by rw [ht]; exact hP9, hD9⟩⟩, hS.F ht⟩) hS.2.2 d_Model_out_38
  · refine lv_iload_n hx hb d_Model_out_5 rfl (lv_at hl1 1 rfl) ?_
    refine lv_aload_n hx hb d_Model_out_6 rfl (lv_at hl1 0 rfl) ?_
    refine va_get (D := D) (ci := 11) (v := .int 0) (C := R_Model) (T := F_Model) (N := 72) hx hb hts i_Model hown hK.1 hP 0 rfl rfl 4 (by decide) (hts _ wd_1040) (fun _ h9 => h9) rfl d_Model_out_7 ?_
    refine lv_icmp_lt (tgt := 17) hx hb d_Model_out_10 (by decide) (fun c_4 => ?_) (fun c_4 => ?_)
    · contradiction
    refine lv_iconst (v := 1) hx hb d_Model_out_13 (by decide) ?_
    refine lv_goto (tgt := 18) hx hb d_Model_out_14 (by decide) ?_
    refine va_put (D := D) (ci := 11) (v := .int 1) (ty := .int) (C := R_Model) (T := F_Model) (N := 72) hx hb hts i_Model t_Model t_Model_ok n_Model hown hK.1 hP hD hS 0 rfl rfl 0 (by decide) (hts _ wd_1036) (fun _ h9 => h9) rfl (by decide +kernel) rfl rfl (Nat.le_of_ble_eq_true rfl) d_Model_out_18 (fun H_5 locs hP hD hS => ?_)
    have hP : va_P D classes [(m0, .inr (11, [.int 1, .int 0, .ref m1, .int 0, .int 0, .ref m2, .int 0, .int 0, .int 0, .int 0, .int 0, .ref m42, .ref m3, .ref m4, .int 0, .int 0, .ref m5, .ref m6, .ref m7, .ref m8, .ref m9, .ref m10, .ref m11, .ref m12, .ref m13, .ref m14, .ref m15, .ref m16, .ref m17, .ref m18, .ref m19, .int 0, .ref m20, .int 0, .ref m21, .int 0, .int 0, .int 0, .int 0, .int 0, .int 0, .int 0, .ref m22, .int 0, .int 0, .ref m23, .ref m24, .ref m25, .ref m26, .int 0, .ref m27, .int 0, .ref m28, .int 0, .ref m29, .ref m30, .int (-1), .int 0, .int 0, .ref m31, .ref m32, .ref m33, .ref m34, .ref m35, .ref m36, .ref m37, .ref m38, .ref m39, .int 0, .ref m40, .int 0, .ref m41]))] H_5 := hP
    have hD : va_D A [(m0, .inr (11, [.int 1, .int 0, .ref m1, .int 0, .int 0, .ref m2, .int 0, .int 0, .int 0, .int 0, .int 0, .ref m42, .ref m3, .ref m4, .int 0, .int 0, .ref m5, .ref m6, .ref m7, .ref m8, .ref m9, .ref m10, .ref m11, .ref m12, .ref m13, .ref m14, .ref m15, .ref m16, .ref m17, .ref m18, .ref m19, .int 0, .ref m20, .int 0, .ref m21, .int 0, .int 0, .int 0, .int 0, .int 0, .int 0, .int 0, .ref m22, .int 0, .int 0, .ref m23, .ref m24, .ref m25, .ref m26, .int 0, .ref m27, .int 0, .ref m28, .int 0, .ref m29, .ref m30, .int (-1), .int 0, .int 0, .ref m31, .ref m32, .ref m33, .ref m34, .ref m35, .ref m36, .ref m37, .ref m38, .ref m39, .int 0, .ref m40, .int 0, .ref m41]))] := hD
    refine lv_aload_n hx hb d_Model_out_21 rfl (lv_at hl1 0 rfl) ?_
    refine va_get (D := D) (ci := 11) (v := .int 1) (C := R_Model) (T := F_Model) (N := 72) hx hb hts i_Model hown hK.1 hP 0 rfl rfl 0 (by decide) (hts _ wd_1036) (fun _ h9 => h9) rfl d_Model_out_22 ?_
    refine lv_if_le (tgt := 32) hx hb d_Model_out_25 (by decide) (fun c_6 => ?_) (fun c_6 => ?_)
    · first | exact absurd c_6 (by decide) | exact absurd (by decide) c_6
    refine lv_iconst (v := 0) hx hb d_Model_out_28 (by decide) ?_
    refine lv_goto (tgt := 38) hx hb d_Model_out_29 (by decide) ?_
    have hP9 := hP.sub (ws' := (fun u : Nat → Nat => [(m0, .inr (11, [.int 1, .int 0, .ref m1, .int 0, .int 0, .ref m2, .int 0, .int 0, .int 0, .int 0, .int 0, .ref m42, .ref m3, .ref m4, .int 0, .int 0, .ref m5, .ref m6, .ref m7, .ref m8, .ref m9, .ref m10, .ref m11, .ref m12, .ref m13, .ref m14, .ref m15, .ref m16, .ref m17, .ref m18, .ref m19, .int 0, .ref m20, .int 0, .ref m21, .int 0, .int 0, .int 0, .int 0, .int 0, .int 0, .int 0, .ref m22, .int 0, .int 0, .ref m23, .ref m24, .ref m25, .ref m26, .int 0, .ref m27, .int 0, .ref m28, .int 0, .ref m29, .ref m30, .int (-1), .int 0, .int 0, .ref m31, .ref m32, .ref m33, .ref m34, .ref m35, .ref m36, .ref m37, .ref m38, .ref m39, .int 0, .ref m40, .int 0, .ref m41]))]) (ixn [])) [0] rfl
    have hD9 := hD.sub (ws' := (fun u : Nat → Nat => [(m0, .inr (11, [.int 1, .int 0, .ref m1, .int 0, .int 0, .ref m2, .int 0, .int 0, .int 0, .int 0, .int 0, .ref m42, .ref m3, .ref m4, .int 0, .int 0, .ref m5, .ref m6, .ref m7, .ref m8, .ref m9, .ref m10, .ref m11, .ref m12, .ref m13, .ref m14, .ref m15, .ref m16, .ref m17, .ref m18, .ref m19, .int 0, .ref m20, .int 0, .ref m21, .int 0, .int 0, .int 0, .int 0, .int 0, .int 0, .int 0, .ref m22, .int 0, .int 0, .ref m23, .ref m24, .ref m25, .ref m26, .int 0, .ref m27, .int 0, .ref m28, .int 0, .ref m29, .ref m30, .int (-1), .int 0, .int 0, .ref m31, .ref m32, .ref m33, .ref m34, .ref m35, .ref m36, .ref m37, .ref m38, .ref m39, .int 0, .ref m40, .int 0, .ref m41]))]) (ixn [])) [0] (by decide) rfl
    exact W.iret (v := 0) hx hb hr (fun t ht hW => ⟨⟨0, ixn [], rfl, rfl, ⟨by rw [ht]; exact hP9, hD9⟩⟩, hS.F ht⟩) hS.2.2 d_Model_out_38
abbrev b_Model_start : ByteArray := prog_13_method_88_code
def y_Model_start : MethodName := ⟨R_Model, "start", "(II)V"⟩
theorem d_Model_start_0 : decode b_Model_start 0 = .ok (.aload_n 0, 1) := by decide +kernel
theorem d_Model_start_1 : decode b_Model_start 1 = .ok (.iload_n 1, 1) := by decide +kernel
theorem d_Model_start_2 : decode b_Model_start 2 = .ok (.ifCond .lt 8, 3) := by decide +kernel
theorem d_Model_start_5 : decode b_Model_start 5 = .ok (.iload_n 1, 1) := by decide +kernel
theorem d_Model_start_6 : decode b_Model_start 6 = .ok (.iconst 5, 1) := by decide +kernel
theorem d_Model_start_7 : decode b_Model_start 7 = .ok (.if_icmp .le 7, 3) := by decide +kernel
theorem d_Model_start_10 : decode b_Model_start 10 = .ok (.iconst 1, 1) := by decide +kernel
theorem d_Model_start_11 : decode b_Model_start 11 = .ok (.goto 4, 3) := by decide +kernel
theorem d_Model_start_14 : decode b_Model_start 14 = .ok (.iconst 0, 1) := by decide +kernel
theorem d_Model_start_15 : decode b_Model_start 15 = .ok (.putfield 148, 3) := by decide +kernel
theorem d_Model_start_18 : decode b_Model_start 18 = .ok (.aload_n 0, 1) := by decide +kernel
theorem d_Model_start_19 : decode b_Model_start 19 = .ok (.getfield 148, 3) := by decide +kernel
theorem d_Model_start_22 : decode b_Model_start 22 = .ok (.ifCond .ne 11, 3) := by decide +kernel
theorem d_Model_start_25 : decode b_Model_start 25 = .ok (.aload_n 0, 1) := by decide +kernel
theorem d_Model_start_26 : decode b_Model_start 26 = .ok (.getfield 137, 3) := by decide +kernel
theorem d_Model_start_29 : decode b_Model_start 29 = .ok (.iload_n 1, 1) := by decide +kernel
theorem d_Model_start_30 : decode b_Model_start 30 = .ok (.iload_n 2, 1) := by decide +kernel
theorem d_Model_start_31 : decode b_Model_start 31 = .ok (.i2l, 1) := by decide +kernel
theorem d_Model_start_32 : decode b_Model_start 32 = .ok (.lastore, 1) := by decide +kernel
theorem d_Model_start_33 : decode b_Model_start 33 = .ok (.return_, 1) := by decide +kernel
set_option maxHeartbeats 4000000 in
set_option maxRecDepth 100000 in
theorem c_Model_start_bad (l : Launch) (D : va_G) (ax : Nat → ClassId) (m0 m1 m2 m3 m4 m5 m6 m7 m8 m9 m10 m11 m12 m13 m14 m15 m16 m17 m18 m19 m20 m21 m22 m23 m24 m25 m26 m27 m28 m29 m30 m31 m32 m33 m34 m35 m36 m37 m38 m39 m40 m41 m42 : Nat) (x1 x2 : Int32) (sz : Nat) (hq0 : ¬ (¬ x1 < 0 ∧ x1 < 6)) : Met l y_Model_start (xws (.code y_Model_start b_Model_start 3 none)) ({ frames := 10, cells := 0, slots := 0, locals := 400 }) (va_Pc [.ref m0, .int x1, .int x2] (xo D ax [(m0, .inr (11, [.int 0, .int 0, .ref m1, .int 0, .int 0, .ref m2, .int 0, .int 0, .int 0, .int 0, .int 0, .ref m42, .ref m3, .ref m4, .int 0, .int 0, .ref m5, .ref m6, .ref m7, .ref m8, .ref m9, .ref m10, .ref m11, .ref m12, .ref m13, .ref m14, .ref m15, .ref m16, .ref m17, .ref m18, .ref m19, .int 0, .ref m20, .int 0, .ref m21, .int 0, .int 0, .int 0, .int 0, .int 0, .int 0, .int 0, .ref m22, .int 0, .int 0, .ref m23, .ref m24, .ref m25, .ref m26, .int 0, .ref m27, .int 0, .ref m28, .int 0, .ref m29, .ref m30, .int (-1), .int 0, .int 0, .ref m31, .ref m32, .ref m33, .ref m34, .ref m35, .ref m36, .ref m37, .ref m38, .ref m39, .int 0, .ref m40, .int 0, .ref m41]))] sz)) ((va_Qv (fun (u : Nat → Nat) => True) (xb D (va_A [(m0, .inr (11, [.int 0, .int 0, .ref m1, .int 0, .int 0, .ref m2, .int 0, .int 0, .int 0, .int 0, .int 0, .ref m42, .ref m3, .ref m4, .int 0, .int 0, .ref m5, .ref m6, .ref m7, .ref m8, .ref m9, .ref m10, .ref m11, .ref m12, .ref m13, .ref m14, .ref m15, .ref m16, .ref m17, .ref m18, .ref m19, .int 0, .ref m20, .int 0, .ref m21, .int 0, .int 0, .int 0, .int 0, .int 0, .int 0, .int 0, .ref m22, .int 0, .int 0, .ref m23, .ref m24, .ref m25, .ref m26, .int 0, .ref m27, .int 0, .ref m28, .int 0, .ref m29, .ref m30, .int (-1), .int 0, .int 0, .ref m31, .ref m32, .ref m33, .ref m34, .ref m35, .ref m36, .ref m37, .ref m38, .ref m39, .int 0, .ref m40, .int 0, .ref m41]))] sz) (fun u => [(m0, .inr (11, [.int 1, .int 0, .ref m1, .int 0, .int 0, .ref m2, .int 0, .int 0, .int 0, .int 0, .int 0, .ref m42, .ref m3, .ref m4, .int 0, .int 0, .ref m5, .ref m6, .ref m7, .ref m8, .ref m9, .ref m10, .ref m11, .ref m12, .ref m13, .ref m14, .ref m15, .ref m16, .ref m17, .ref m18, .ref m19, .int 0, .ref m20, .int 0, .ref m21, .int 0, .int 0, .int 0, .int 0, .int 0, .int 0, .int 0, .ref m22, .int 0, .int 0, .ref m23, .ref m24, .ref m25, .ref m26, .int 0, .ref m27, .int 0, .ref m28, .int 0, .ref m29, .ref m30, .int (-1), .int 0, .int 0, .ref m31, .ref m32, .ref m33, .ref m34, .ref m35, .ref m36, .ref m37, .ref m38, .ref m39, .int 0, .ref m40, .int 0, .ref m41]))])) (va_A [(m0, .inr (11, [.int 0, .int 0, .ref m1, .int 0, .int 0, .ref m2, .int 0, .int 0, .int 0, .int 0, .int 0, .ref m42, .ref m3, .ref m4, .int 0, .int 0, .ref m5, .ref m6, .ref m7, .ref m8, .ref m9, .ref m10, .ref m11, .ref m12, .ref m13, .ref m14, .ref m15, .ref m16, .ref m17, .ref m18, .ref m19, .int 0, .ref m20, .int 0, .ref m21, .int 0, .int 0, .int 0, .int 0, .int 0, .int 0, .int 0, .ref m22, .int 0, .int 0, .ref m23, .ref m24, .ref m25, .ref m26, .int 0, .ref m27, .int 0, .ref m28, .int 0, .ref m29, .ref m30, .int (-1), .int 0, .int 0, .ref m31, .ref m32, .ref m33, .ref m34, .ref m35, .ref m36, .ref m37, .ref m38, .ref m39, .int 0, .ref m40, .int 0, .ref m41]))] sz))) 0 0 (va_A [(m0, .inr (11, [.int 0, .int 0, .ref m1, .int 0, .int 0, .ref m2, .int 0, .int 0, .int 0, .int 0, .int 0, .ref m42, .ref m3, .ref m4, .int 0, .int 0, .ref m5, .ref m6, .ref m7, .ref m8, .ref m9, .ref m10, .ref m11, .ref m12, .ref m13, .ref m14, .ref m15, .ref m16, .ref m17, .ref m18, .ref m19, .int 0, .ref m20, .int 0, .ref m21, .int 0, .int 0, .int 0, .int 0, .int 0, .int 0, .int 0, .ref m22, .int 0, .int 0, .ref m23, .ref m24, .ref m25, .ref m26, .int 0, .ref m27, .int 0, .ref m28, .int 0, .ref m29, .ref m30, .int (-1), .int 0, .int 0, .ref m31, .ref m32, .ref m33, .ref m34, .ref m35, .ref m36, .ref m37, .ref m38, .ref m39, .int 0, .ref m40, .int 0, .ref m41]))] sz) := by
  refine Met.ofW (cc := b_Model_start) (maxL := 3) (ret := none) (by decide) rfl ?_
  intro p e s m args below meth c s₁ B hml hv
  obtain ⟨rfl, hsz, hP, hK, hD0⟩ := hv
  have hx := B.exec
  have hb := B.bytes
  have hr := B.returns
  have hts := xw_hts B.pre
  have hown : s.vm.findClass R_Model = some m.cls := findClass_of_methodNamed B.named
  have hlocks := B.notSynchronized
  subst hsz
  have hD := hD0.self (sz := s.heap.size)
  have hN := xz_entry hP
  generalize hAe : va_A [(m0, .inr (11, [.int 0, .int 0, .ref m1, .int 0, .int 0, .ref m2, .int 0, .int 0, .int 0, .int 0, .int 0, .ref m42, .ref m3, .ref m4, .int 0, .int 0, .ref m5, .ref m6, .ref m7, .ref m8, .ref m9, .ref m10, .ref m11, .ref m12, .ref m13, .ref m14, .ref m15, .ref m16, .ref m17, .ref m18, .ref m19, .int 0, .ref m20, .int 0, .ref m21, .int 0, .int 0, .int 0, .int 0, .int 0, .int 0, .int 0, .ref m22, .int 0, .int 0, .ref m23, .ref m24, .ref m25, .ref m26, .int 0, .ref m27, .int 0, .ref m28, .int 0, .ref m29, .ref m30, .int (-1), .int 0, .int 0, .ref m31, .ref m32, .ref m33, .ref m34, .ref m35, .ref m36, .ref m37, .ref m38, .ref m39, .int 0, .ref m40, .int 0, .ref m41]))] s.heap.size = A at hD hN ⊢
  have hA : ∀ q : Nat, s.heap.size ≤ q → A q := fun q h => by rw [← hAe]; exact Or.inr h
  have hS : va_S A s.heap s.heap [] := va_S.rf
  have hl0 := lv_entry ([.ref m0, .int x1, .int x2]) (n := 3) (Nat.le_of_ble_eq_true rfl)
  rw [lg_entry_eq]
  generalize (lg_sl ([.ref m0, .int x1, .int x2]) ++ List.replicate (3 - (lg_sl ([.ref m0, .int x1, .int x2])).length) Slot.unset).toArray = ls at hl0 ⊢
  have hl1 : lv_has ls 3 [(0, .ref m0), (1, .int x1), (2, .int x2)] := hl0
  refine lv_aload_n hx hb d_Model_start_0 rfl (lv_at hl1 0 rfl) ?_
  refine lv_iload_n hx hb d_Model_start_1 rfl (lv_at hl1 1 rfl) ?_
  refine lv_if_lt (tgt := 10) hx hb d_Model_start_2 (by decide) (fun c_1 => ?_) (fun c_1 => ?_)
  · refine lv_iconst (v := 1) hx hb d_Model_start_10 (by decide) ?_
    refine lv_goto (tgt := 15) hx hb d_Model_start_11 (by decide) ?_
    refine va_put (D := D) (ci := 11) (v := .int 1) (ty := .int) (C := R_Model) (T := F_Model) (N := 72) hx hb hts i_Model t_Model t_Model_ok n_Model hown hK.1 hP hD hS 0 rfl rfl 0 (by decide) (hts _ wd_1036) (fun _ h9 => h9) rfl (by decide +kernel) rfl rfl (Nat.le_of_ble_eq_true rfl) d_Model_start_15 (fun H_2 locs hP hD hS => ?_)
    have hP : va_P D classes [(m0, .inr (11, [.int 1, .int 0, .ref m1, .int 0, .int 0, .ref m2, .int 0, .int 0, .int 0, .int 0, .int 0, .ref m42, .ref m3, .ref m4, .int 0, .int 0, .ref m5, .ref m6, .ref m7, .ref m8, .ref m9, .ref m10, .ref m11, .ref m12, .ref m13, .ref m14, .ref m15, .ref m16, .ref m17, .ref m18, .ref m19, .int 0, .ref m20, .int 0, .ref m21, .int 0, .int 0, .int 0, .int 0, .int 0, .int 0, .int 0, .ref m22, .int 0, .int 0, .ref m23, .ref m24, .ref m25, .ref m26, .int 0, .ref m27, .int 0, .ref m28, .int 0, .ref m29, .ref m30, .int (-1), .int 0, .int 0, .ref m31, .ref m32, .ref m33, .ref m34, .ref m35, .ref m36, .ref m37, .ref m38, .ref m39, .int 0, .ref m40, .int 0, .ref m41]))] H_2 := hP
    have hD : va_D A [(m0, .inr (11, [.int 1, .int 0, .ref m1, .int 0, .int 0, .ref m2, .int 0, .int 0, .int 0, .int 0, .int 0, .ref m42, .ref m3, .ref m4, .int 0, .int 0, .ref m5, .ref m6, .ref m7, .ref m8, .ref m9, .ref m10, .ref m11, .ref m12, .ref m13, .ref m14, .ref m15, .ref m16, .ref m17, .ref m18, .ref m19, .int 0, .ref m20, .int 0, .ref m21, .int 0, .int 0, .int 0, .int 0, .int 0, .int 0, .int 0, .ref m22, .int 0, .int 0, .ref m23, .ref m24, .ref m25, .ref m26, .int 0, .ref m27, .int 0, .ref m28, .int 0, .ref m29, .ref m30, .int (-1), .int 0, .int 0, .ref m31, .ref m32, .ref m33, .ref m34, .ref m35, .ref m36, .ref m37, .ref m38, .ref m39, .int 0, .ref m40, .int 0, .ref m41]))] := hD
    refine lv_aload_n hx hb d_Model_start_18 rfl (lv_at hl1 0 rfl) ?_
    refine va_get (D := D) (ci := 11) (v := .int 1) (C := R_Model) (T := F_Model) (N := 72) hx hb hts i_Model hown hK.1 hP 0 rfl rfl 0 (by decide) (hts _ wd_1036) (fun _ h9 => h9) rfl d_Model_start_19 ?_
    refine lv_if_ne (tgt := 33) hx hb d_Model_start_22 (by decide) (fun c_3 => ?_) (fun c_3 => ?_)
    rotate_left
    · first | exact absurd c_3 (by decide) | exact absurd (by decide) c_3
    have hP9 := hP.sub (ws' := (fun u : Nat → Nat => [(m0, .inr (11, [.int 1, .int 0, .ref m1, .int 0, .int 0, .ref m2, .int 0, .int 0, .int 0, .int 0, .int 0, .ref m42, .ref m3, .ref m4, .int 0, .int 0, .ref m5, .ref m6, .ref m7, .ref m8, .ref m9, .ref m10, .ref m11, .ref m12, .ref m13, .ref m14, .ref m15, .ref m16, .ref m17, .ref m18, .ref m19, .int 0, .ref m20, .int 0, .ref m21, .int 0, .int 0, .int 0, .int 0, .int 0, .int 0, .int 0, .ref m22, .int 0, .int 0, .ref m23, .ref m24, .ref m25, .ref m26, .int 0, .ref m27, .int 0, .ref m28, .int 0, .ref m29, .ref m30, .int (-1), .int 0, .int 0, .ref m31, .ref m32, .ref m33, .ref m34, .ref m35, .ref m36, .ref m37, .ref m38, .ref m39, .int 0, .ref m40, .int 0, .ref m41]))]) (ixn [])) [0] rfl
    have hD9 := hD.sub (ws' := (fun u : Nat → Nat => [(m0, .inr (11, [.int 1, .int 0, .ref m1, .int 0, .int 0, .ref m2, .int 0, .int 0, .int 0, .int 0, .int 0, .ref m42, .ref m3, .ref m4, .int 0, .int 0, .ref m5, .ref m6, .ref m7, .ref m8, .ref m9, .ref m10, .ref m11, .ref m12, .ref m13, .ref m14, .ref m15, .ref m16, .ref m17, .ref m18, .ref m19, .int 0, .ref m20, .int 0, .ref m21, .int 0, .int 0, .int 0, .int 0, .int 0, .int 0, .int 0, .ref m22, .int 0, .int 0, .ref m23, .ref m24, .ref m25, .ref m26, .int 0, .ref m27, .int 0, .ref m28, .int 0, .ref m29, .ref m30, .int (-1), .int 0, .int 0, .ref m31, .ref m32, .ref m33, .ref m34, .ref m35, .ref m36, .ref m37, .ref m38, .ref m39, .int 0, .ref m40, .int 0, .ref m41]))]) (ixn [])) [0] (by decide) rfl
    exact W.vret hx hb hr (fun t ht hW => ⟨⟨ixn [], rfl, trivial, ⟨by rw [ht]; exact hP9, hD9⟩⟩, hS.F ht⟩) hS.2.2 d_Model_start_33
  · refine lv_iload_n hx hb d_Model_start_5 rfl (lv_at hl1 1 rfl) ?_
    refine lv_iconst (v := 5) hx hb d_Model_start_6 (by decide) ?_
    refine lv_icmp_le (tgt := 14) hx hb d_Model_start_7 (by decide) (fun c_4 => ?_) (fun c_4 => ?_)
    · exact absurd ⟨by assumption, xi_56 c_4⟩ hq0
    refine lv_iconst (v := 1) hx hb d_Model_start_10 (by decide) ?_
    refine lv_goto (tgt := 15) hx hb d_Model_start_11 (by decide) ?_
    refine va_put (D := D) (ci := 11) (v := .int 1) (ty := .int) (C := R_Model) (T := F_Model) (N := 72) hx hb hts i_Model t_Model t_Model_ok n_Model hown hK.1 hP hD hS 0 rfl rfl 0 (by decide) (hts _ wd_1036) (fun _ h9 => h9) rfl (by decide +kernel) rfl rfl (Nat.le_of_ble_eq_true rfl) d_Model_start_15 (fun H_5 locs hP hD hS => ?_)
    have hP : va_P D classes [(m0, .inr (11, [.int 1, .int 0, .ref m1, .int 0, .int 0, .ref m2, .int 0, .int 0, .int 0, .int 0, .int 0, .ref m42, .ref m3, .ref m4, .int 0, .int 0, .ref m5, .ref m6, .ref m7, .ref m8, .ref m9, .ref m10, .ref m11, .ref m12, .ref m13, .ref m14, .ref m15, .ref m16, .ref m17, .ref m18, .ref m19, .int 0, .ref m20, .int 0, .ref m21, .int 0, .int 0, .int 0, .int 0, .int 0, .int 0, .int 0, .ref m22, .int 0, .int 0, .ref m23, .ref m24, .ref m25, .ref m26, .int 0, .ref m27, .int 0, .ref m28, .int 0, .ref m29, .ref m30, .int (-1), .int 0, .int 0, .ref m31, .ref m32, .ref m33, .ref m34, .ref m35, .ref m36, .ref m37, .ref m38, .ref m39, .int 0, .ref m40, .int 0, .ref m41]))] H_5 := hP
    have hD : va_D A [(m0, .inr (11, [.int 1, .int 0, .ref m1, .int 0, .int 0, .ref m2, .int 0, .int 0, .int 0, .int 0, .int 0, .ref m42, .ref m3, .ref m4, .int 0, .int 0, .ref m5, .ref m6, .ref m7, .ref m8, .ref m9, .ref m10, .ref m11, .ref m12, .ref m13, .ref m14, .ref m15, .ref m16, .ref m17, .ref m18, .ref m19, .int 0, .ref m20, .int 0, .ref m21, .int 0, .int 0, .int 0, .int 0, .int 0, .int 0, .int 0, .ref m22, .int 0, .int 0, .ref m23, .ref m24, .ref m25, .ref m26, .int 0, .ref m27, .int 0, .ref m28, .int 0, .ref m29, .ref m30, .int (-1), .int 0, .int 0, .ref m31, .ref m32, .ref m33, .ref m34, .ref m35, .ref m36, .ref m37, .ref m38, .ref m39, .int 0, .ref m40, .int 0, .ref m41]))] := hD
    refine lv_aload_n hx hb d_Model_start_18 rfl (lv_at hl1 0 rfl) ?_
    refine va_get (D := D) (ci := 11) (v := .int 1) (C := R_Model) (T := F_Model) (N := 72) hx hb hts i_Model hown hK.1 hP 0 rfl rfl 0 (by decide) (hts _ wd_1036) (fun _ h9 => h9) rfl d_Model_start_19 ?_
    refine lv_if_ne (tgt := 33) hx hb d_Model_start_22 (by decide) (fun c_6 => ?_) (fun c_6 => ?_)
    rotate_left
    · first | exact absurd c_6 (by decide) | exact absurd (by decide) c_6
    have hP9 := hP.sub (ws' := (fun u : Nat → Nat => [(m0, .inr (11, [.int 1, .int 0, .ref m1, .int 0, .int 0, .ref m2, .int 0, .int 0, .int 0, .int 0, .int 0, .ref m42, .ref m3, .ref m4, .int 0, .int 0, .ref m5, .ref m6, .ref m7, .ref m8, .ref m9, .ref m10, .ref m11, .ref m12, .ref m13, .ref m14, .ref m15, .ref m16, .ref m17, .ref m18, .ref m19, .int 0, .ref m20, .int 0, .ref m21, .int 0, .int 0, .int 0, .int 0, .int 0, .int 0, .int 0, .ref m22, .int 0, .int 0, .ref m23, .ref m24, .ref m25, .ref m26, .int 0, .ref m27, .int 0, .ref m28, .int 0, .ref m29, .ref m30, .int (-1), .int 0, .int 0, .ref m31, .ref m32, .ref m33, .ref m34, .ref m35, .ref m36, .ref m37, .ref m38, .ref m39, .int 0, .ref m40, .int 0, .ref m41]))]) (ixn [])) [0] rfl
    have hD9 := hD.sub (ws' := (fun u : Nat → Nat => [(m0, .inr (11, [.int 1, .int 0, .ref m1, .int 0, .int 0, .ref m2, .int 0, .int 0, .int 0, .int 0, .int 0, .ref m42, .ref m3, .ref m4, .int 0, .int 0, .ref m5, .ref m6, .ref m7, .ref m8, .ref m9, .ref m10, .ref m11, .ref m12, .ref m13, .ref m14, .ref m15, .ref m16, .ref m17, .ref m18, .ref m19, .int 0, .ref m20, .int 0, .ref m21, .int 0, .int 0, .int 0, .int 0, .int 0, .int 0, .int 0, .ref m22, .int 0, .int 0, .ref m23, .ref m24, .ref m25, .ref m26, .int 0, .ref m27, .int 0, .ref m28, .int 0, .ref m29, .ref m30, .int (-1), .int 0, .int 0, .ref m31, .ref m32, .ref m33, .ref m34, .ref m35, .ref m36, .ref m37, .ref m38, .ref m39, .int 0, .ref m40, .int 0, .ref m41]))]) (ixn [])) [0] (by decide) rfl
    exact W.vret hx hb hr (fun t ht hW => ⟨⟨ixn [], rfl, trivial, ⟨by rw [ht]; exact hP9, hD9⟩⟩, hS.F ht⟩) hS.2.2 d_Model_start_33
abbrev b_Model_value : ByteArray := prog_13_method_91_code
def y_Model_value : MethodName := ⟨R_Model, "value", "(I)J"⟩
theorem d_Model_value_0 : decode b_Model_value 0 = .ok (.aload_n 0, 1) := by decide +kernel
theorem d_Model_value_1 : decode b_Model_value 1 = .ok (.iload_n 1, 1) := by decide +kernel
theorem d_Model_value_2 : decode b_Model_value 2 = .ok (.ifCond .lt 8, 3) := by decide +kernel
theorem d_Model_value_5 : decode b_Model_value 5 = .ok (.iload_n 1, 1) := by decide +kernel
theorem d_Model_value_6 : decode b_Model_value 6 = .ok (.iconst 5, 1) := by decide +kernel
theorem d_Model_value_7 : decode b_Model_value 7 = .ok (.if_icmp .le 7, 3) := by decide +kernel
theorem d_Model_value_10 : decode b_Model_value 10 = .ok (.iconst 1, 1) := by decide +kernel
theorem d_Model_value_11 : decode b_Model_value 11 = .ok (.goto 4, 3) := by decide +kernel
theorem d_Model_value_14 : decode b_Model_value 14 = .ok (.iconst 0, 1) := by decide +kernel
theorem d_Model_value_15 : decode b_Model_value 15 = .ok (.putfield 148, 3) := by decide +kernel
theorem d_Model_value_18 : decode b_Model_value 18 = .ok (.aload_n 0, 1) := by decide +kernel
theorem d_Model_value_19 : decode b_Model_value 19 = .ok (.getfield 148, 3) := by decide +kernel
theorem d_Model_value_22 : decode b_Model_value 22 = .ok (.ifCond .le 7, 3) := by decide +kernel
theorem d_Model_value_25 : decode b_Model_value 25 = .ok (.lconst 0, 1) := by decide +kernel
theorem d_Model_value_26 : decode b_Model_value 26 = .ok (.goto 9, 3) := by decide +kernel
theorem d_Model_value_29 : decode b_Model_value 29 = .ok (.aload_n 0, 1) := by decide +kernel
theorem d_Model_value_30 : decode b_Model_value 30 = .ok (.getfield 137, 3) := by decide +kernel
theorem d_Model_value_33 : decode b_Model_value 33 = .ok (.iload_n 1, 1) := by decide +kernel
theorem d_Model_value_34 : decode b_Model_value 34 = .ok (.laload, 1) := by decide +kernel
theorem d_Model_value_35 : decode b_Model_value 35 = .ok (.lreturn, 1) := by decide +kernel
set_option maxHeartbeats 4000000 in
set_option maxRecDepth 100000 in
theorem c_Model_value_bad (l : Launch) (D : va_G) (ax : Nat → ClassId) (m0 m1 m2 m3 m4 m5 m6 m7 m8 m9 m10 m11 m12 m13 m14 m15 m16 m17 m18 m19 m20 m21 m22 m23 m24 m25 m26 m27 m28 m29 m30 m31 m32 m33 m34 m35 m36 m37 m38 m39 m40 m41 m42 : Nat) (x1 : Int32) (sz : Nat) (hq0 : ¬ (¬ x1 < 0 ∧ x1 < 6)) : Met l y_Model_value (xws (.code y_Model_value b_Model_value 2 (some .long))) ({ frames := 10, cells := 0, slots := 0, locals := 400 }) (va_Pc [.ref m0, .int x1] (xo D ax [(m0, .inr (11, [.int 0, .int 0, .ref m1, .int 0, .int 0, .ref m2, .int 0, .int 0, .int 0, .int 0, .int 0, .ref m42, .ref m3, .ref m4, .int 0, .int 0, .ref m5, .ref m6, .ref m7, .ref m8, .ref m9, .ref m10, .ref m11, .ref m12, .ref m13, .ref m14, .ref m15, .ref m16, .ref m17, .ref m18, .ref m19, .int 0, .ref m20, .int 0, .ref m21, .int 0, .int 0, .int 0, .int 0, .int 0, .int 0, .int 0, .ref m22, .int 0, .int 0, .ref m23, .ref m24, .ref m25, .ref m26, .int 0, .ref m27, .int 0, .ref m28, .int 0, .ref m29, .ref m30, .int (-1), .int 0, .int 0, .ref m31, .ref m32, .ref m33, .ref m34, .ref m35, .ref m36, .ref m37, .ref m38, .ref m39, .int 0, .ref m40, .int 0, .ref m41]))] sz)) ((va_Ql (fun (r : Int64) (u : Nat → Nat) => r = 0) (xb D (va_A [(m0, .inr (11, [.int 0, .int 0, .ref m1, .int 0, .int 0, .ref m2, .int 0, .int 0, .int 0, .int 0, .int 0, .ref m42, .ref m3, .ref m4, .int 0, .int 0, .ref m5, .ref m6, .ref m7, .ref m8, .ref m9, .ref m10, .ref m11, .ref m12, .ref m13, .ref m14, .ref m15, .ref m16, .ref m17, .ref m18, .ref m19, .int 0, .ref m20, .int 0, .ref m21, .int 0, .int 0, .int 0, .int 0, .int 0, .int 0, .int 0, .ref m22, .int 0, .int 0, .ref m23, .ref m24, .ref m25, .ref m26, .int 0, .ref m27, .int 0, .ref m28, .int 0, .ref m29, .ref m30, .int (-1), .int 0, .int 0, .ref m31, .ref m32, .ref m33, .ref m34, .ref m35, .ref m36, .ref m37, .ref m38, .ref m39, .int 0, .ref m40, .int 0, .ref m41]))] sz) (fun u => [(m0, .inr (11, [.int 1, .int 0, .ref m1, .int 0, .int 0, .ref m2, .int 0, .int 0, .int 0, .int 0, .int 0, .ref m42, .ref m3, .ref m4, .int 0, .int 0, .ref m5, .ref m6, .ref m7, .ref m8, .ref m9, .ref m10, .ref m11, .ref m12, .ref m13, .ref m14, .ref m15, .ref m16, .ref m17, .ref m18, .ref m19, .int 0, .ref m20, .int 0, .ref m21, .int 0, .int 0, .int 0, .int 0, .int 0, .int 0, .int 0, .ref m22, .int 0, .int 0, .ref m23, .ref m24, .ref m25, .ref m26, .int 0, .ref m27, .int 0, .ref m28, .int 0, .ref m29, .ref m30, .int (-1), .int 0, .int 0, .ref m31, .ref m32, .ref m33, .ref m34, .ref m35, .ref m36, .ref m37, .ref m38, .ref m39, .int 0, .ref m40, .int 0, .ref m41]))])) (va_A [(m0, .inr (11, [.int 0, .int 0, .ref m1, .int 0, .int 0, .ref m2, .int 0, .int 0, .int 0, .int 0, .int 0, .ref m42, .ref m3, .ref m4, .int 0, .int 0, .ref m5, .ref m6, .ref m7, .ref m8, .ref m9, .ref m10, .ref m11, .ref m12, .ref m13, .ref m14, .ref m15, .ref m16, .ref m17, .ref m18, .ref m19, .int 0, .ref m20, .int 0, .ref m21, .int 0, .int 0, .int 0, .int 0, .int 0, .int 0, .int 0, .ref m22, .int 0, .int 0, .ref m23, .ref m24, .ref m25, .ref m26, .int 0, .ref m27, .int 0, .ref m28, .int 0, .ref m29, .ref m30, .int (-1), .int 0, .int 0, .ref m31, .ref m32, .ref m33, .ref m34, .ref m35, .ref m36, .ref m37, .ref m38, .ref m39, .int 0, .ref m40, .int 0, .ref m41]))] sz))) 0 0 (va_A [(m0, .inr (11, [.int 0, .int 0, .ref m1, .int 0, .int 0, .ref m2, .int 0, .int 0, .int 0, .int 0, .int 0, .ref m42, .ref m3, .ref m4, .int 0, .int 0, .ref m5, .ref m6, .ref m7, .ref m8, .ref m9, .ref m10, .ref m11, .ref m12, .ref m13, .ref m14, .ref m15, .ref m16, .ref m17, .ref m18, .ref m19, .int 0, .ref m20, .int 0, .ref m21, .int 0, .int 0, .int 0, .int 0, .int 0, .int 0, .int 0, .ref m22, .int 0, .int 0, .ref m23, .ref m24, .ref m25, .ref m26, .int 0, .ref m27, .int 0, .ref m28, .int 0, .ref m29, .ref m30, .int (-1), .int 0, .int 0, .ref m31, .ref m32, .ref m33, .ref m34, .ref m35, .ref m36, .ref m37, .ref m38, .ref m39, .int 0, .ref m40, .int 0, .ref m41]))] sz) := by
  refine Met.ofW (cc := b_Model_value) (maxL := 2) (ret := (some .long)) (by decide) rfl ?_
  intro p e s m args below meth c s₁ B hml hv
  obtain ⟨rfl, hsz, hP, hK, hD0⟩ := hv
  have hx := B.exec
  have hb := B.bytes
  have hr := B.returns
  have hts := xw_hts B.pre
  have hown : s.vm.findClass R_Model = some m.cls := findClass_of_methodNamed B.named
  have hlocks := B.notSynchronized
  subst hsz
  have hD := hD0.self (sz := s.heap.size)
  have hN := xz_entry hP
  generalize hAe : va_A [(m0, .inr (11, [.int 0, .int 0, .ref m1, .int 0, .int 0, .ref m2, .int 0, .int 0, .int 0, .int 0, .int 0, .ref m42, .ref m3, .ref m4, .int 0, .int 0, .ref m5, .ref m6, .ref m7, .ref m8, .ref m9, .ref m10, .ref m11, .ref m12, .ref m13, .ref m14, .ref m15, .ref m16, .ref m17, .ref m18, .ref m19, .int 0, .ref m20, .int 0, .ref m21, .int 0, .int 0, .int 0, .int 0, .int 0, .int 0, .int 0, .ref m22, .int 0, .int 0, .ref m23, .ref m24, .ref m25, .ref m26, .int 0, .ref m27, .int 0, .ref m28, .int 0, .ref m29, .ref m30, .int (-1), .int 0, .int 0, .ref m31, .ref m32, .ref m33, .ref m34, .ref m35, .ref m36, .ref m37, .ref m38, .ref m39, .int 0, .ref m40, .int 0, .ref m41]))] s.heap.size = A at hD hN ⊢
  have hA : ∀ q : Nat, s.heap.size ≤ q → A q := fun q h => by rw [← hAe]; exact Or.inr h
  have hS : va_S A s.heap s.heap [] := va_S.rf
  have hl0 := lv_entry ([.ref m0, .int x1]) (n := 2) (Nat.le_of_ble_eq_true rfl)
  rw [lg_entry_eq]
  generalize (lg_sl ([.ref m0, .int x1]) ++ List.replicate (2 - (lg_sl ([.ref m0, .int x1])).length) Slot.unset).toArray = ls at hl0 ⊢
  have hl1 : lv_has ls 2 [(0, .ref m0), (1, .int x1)] := hl0
  refine lv_aload_n hx hb d_Model_value_0 rfl (lv_at hl1 0 rfl) ?_
  refine lv_iload_n hx hb d_Model_value_1 rfl (lv_at hl1 1 rfl) ?_
  refine lv_if_lt (tgt := 10) hx hb d_Model_value_2 (by decide) (fun c_1 => ?_) (fun c_1 => ?_)
  · refine lv_iconst (v := 1) hx hb d_Model_value_10 (by decide) ?_
    refine lv_goto (tgt := 15) hx hb d_Model_value_11 (by decide) ?_
    refine va_put (D := D) (ci := 11) (v := .int 1) (ty := .int) (C := R_Model) (T := F_Model) (N := 72) hx hb hts i_Model t_Model t_Model_ok n_Model hown hK.1 hP hD hS 0 rfl rfl 0 (by decide) (hts _ wd_1036) (fun _ h9 => h9) rfl (by decide +kernel) rfl rfl (Nat.le_of_ble_eq_true rfl) d_Model_value_15 (fun H_2 locs hP hD hS => ?_)
    have hP : va_P D classes [(m0, .inr (11, [.int 1, .int 0, .ref m1, .int 0, .int 0, .ref m2, .int 0, .int 0, .int 0, .int 0, .int 0, .ref m42, .ref m3, .ref m4, .int 0, .int 0, .ref m5, .ref m6, .ref m7, .ref m8, .ref m9, .ref m10, .ref m11, .ref m12, .ref m13, .ref m14, .ref m15, .ref m16, .ref m17, .ref m18, .ref m19, .int 0, .ref m20, .int 0, .ref m21, .int 0, .int 0, .int 0, .int 0, .int 0, .int 0, .int 0, .ref m22, .int 0, .int 0, .ref m23, .ref m24, .ref m25, .ref m26, .int 0, .ref m27, .int 0, .ref m28, .int 0, .ref m29, .ref m30, .int (-1), .int 0, .int 0, .ref m31, .ref m32, .ref m33, .ref m34, .ref m35, .ref m36, .ref m37, .ref m38, .ref m39, .int 0, .ref m40, .int 0, .ref m41]))] H_2 := hP
    have hD : va_D A [(m0, .inr (11, [.int 1, .int 0, .ref m1, .int 0, .int 0, .ref m2, .int 0, .int 0, .int 0, .int 0, .int 0, .ref m42, .ref m3, .ref m4, .int 0, .int 0, .ref m5, .ref m6, .ref m7, .ref m8, .ref m9, .ref m10, .ref m11, .ref m12, .ref m13, .ref m14, .ref m15, .ref m16, .ref m17, .ref m18, .ref m19, .int 0, .ref m20, .int 0, .ref m21, .int 0, .int 0, .int 0, .int 0, .int 0, .int 0, .int 0, .ref m22, .int 0, .int 0, .ref m23, .ref m24, .ref m25, .ref m26, .int 0, .ref m27, .int 0, .ref m28, .int 0, .ref m29, .ref m30, .int (-1), .int 0, .int 0, .ref m31, .ref m32, .ref m33, .ref m34, .ref m35, .ref m36, .ref m37, .ref m38, .ref m39, .int 0, .ref m40, .int 0, .ref m41]))] := hD
    refine lv_aload_n hx hb d_Model_value_18 rfl (lv_at hl1 0 rfl) ?_
    refine va_get (D := D) (ci := 11) (v := .int 1) (C := R_Model) (T := F_Model) (N := 72) hx hb hts i_Model hown hK.1 hP 0 rfl rfl 0 (by decide) (hts _ wd_1036) (fun _ h9 => h9) rfl d_Model_value_19 ?_
    refine lv_if_le (tgt := 29) hx hb d_Model_value_22 (by decide) (fun c_3 => ?_) (fun c_3 => ?_)
    · first | exact absurd c_3 (by decide) | exact absurd (by decide) c_3
    refine lv_lconst (v := 0) hx hb d_Model_value_25 (by decide) ?_
    refine lv_goto (tgt := 35) hx hb d_Model_value_26 (by decide) ?_
    have hP9 := hP.sub (ws' := (fun u : Nat → Nat => [(m0, .inr (11, [.int 1, .int 0, .ref m1, .int 0, .int 0, .ref m2, .int 0, .int 0, .int 0, .int 0, .int 0, .ref m42, .ref m3, .ref m4, .int 0, .int 0, .ref m5, .ref m6, .ref m7, .ref m8, .ref m9, .ref m10, .ref m11, .ref m12, .ref m13, .ref m14, .ref m15, .ref m16, .ref m17, .ref m18, .ref m19, .int 0, .ref m20, .int 0, .ref m21, .int 0, .int 0, .int 0, .int 0, .int 0, .int 0, .int 0, .ref m22, .int 0, .int 0, .ref m23, .ref m24, .ref m25, .ref m26, .int 0, .ref m27, .int 0, .ref m28, .int 0, .ref m29, .ref m30, .int (-1), .int 0, .int 0, .ref m31, .ref m32, .ref m33, .ref m34, .ref m35, .ref m36, .ref m37, .ref m38, .ref m39, .int 0, .ref m40, .int 0, .ref m41]))]) (ixn [])) [0] rfl
    have hD9 := hD.sub (ws' := (fun u : Nat → Nat => [(m0, .inr (11, [.int 1, .int 0, .ref m1, .int 0, .int 0, .ref m2, .int 0, .int 0, .int 0, .int 0, .int 0, .ref m42, .ref m3, .ref m4, .int 0, .int 0, .ref m5, .ref m6, .ref m7, .ref m8, .ref m9, .ref m10, .ref m11, .ref m12, .ref m13, .ref m14, .ref m15, .ref m16, .ref m17, .ref m18, .ref m19, .int 0, .ref m20, .int 0, .ref m21, .int 0, .int 0, .int 0, .int 0, .int 0, .int 0, .int 0, .ref m22, .int 0, .int 0, .ref m23, .ref m24, .ref m25, .ref m26, .int 0, .ref m27, .int 0, .ref m28, .int 0, .ref m29, .ref m30, .int (-1), .int 0, .int 0, .ref m31, .ref m32, .ref m33, .ref m34, .ref m35, .ref m36, .ref m37, .ref m38, .ref m39, .int 0, .ref m40, .int 0, .ref m41]))]) (ixn [])) [0] (by decide) rfl
    exact W.lret (v := 0) hx hb hr (fun t ht hW => ⟨⟨0, ixn [], rfl, rfl, ⟨by rw [ht]; exact hP9, hD9⟩⟩, hS.F ht⟩) hS.2.2 d_Model_value_35
  · refine lv_iload_n hx hb d_Model_value_5 rfl (lv_at hl1 1 rfl) ?_
    refine lv_iconst (v := 5) hx hb d_Model_value_6 (by decide) ?_
    refine lv_icmp_le (tgt := 14) hx hb d_Model_value_7 (by decide) (fun c_4 => ?_) (fun c_4 => ?_)
    · exact absurd ⟨by assumption, xi_56 c_4⟩ hq0
    refine lv_iconst (v := 1) hx hb d_Model_value_10 (by decide) ?_
    refine lv_goto (tgt := 15) hx hb d_Model_value_11 (by decide) ?_
    refine va_put (D := D) (ci := 11) (v := .int 1) (ty := .int) (C := R_Model) (T := F_Model) (N := 72) hx hb hts i_Model t_Model t_Model_ok n_Model hown hK.1 hP hD hS 0 rfl rfl 0 (by decide) (hts _ wd_1036) (fun _ h9 => h9) rfl (by decide +kernel) rfl rfl (Nat.le_of_ble_eq_true rfl) d_Model_value_15 (fun H_5 locs hP hD hS => ?_)
    have hP : va_P D classes [(m0, .inr (11, [.int 1, .int 0, .ref m1, .int 0, .int 0, .ref m2, .int 0, .int 0, .int 0, .int 0, .int 0, .ref m42, .ref m3, .ref m4, .int 0, .int 0, .ref m5, .ref m6, .ref m7, .ref m8, .ref m9, .ref m10, .ref m11, .ref m12, .ref m13, .ref m14, .ref m15, .ref m16, .ref m17, .ref m18, .ref m19, .int 0, .ref m20, .int 0, .ref m21, .int 0, .int 0, .int 0, .int 0, .int 0, .int 0, .int 0, .ref m22, .int 0, .int 0, .ref m23, .ref m24, .ref m25, .ref m26, .int 0, .ref m27, .int 0, .ref m28, .int 0, .ref m29, .ref m30, .int (-1), .int 0, .int 0, .ref m31, .ref m32, .ref m33, .ref m34, .ref m35, .ref m36, .ref m37, .ref m38, .ref m39, .int 0, .ref m40, .int 0, .ref m41]))] H_5 := hP
    have hD : va_D A [(m0, .inr (11, [.int 1, .int 0, .ref m1, .int 0, .int 0, .ref m2, .int 0, .int 0, .int 0, .int 0, .int 0, .ref m42, .ref m3, .ref m4, .int 0, .int 0, .ref m5, .ref m6, .ref m7, .ref m8, .ref m9, .ref m10, .ref m11, .ref m12, .ref m13, .ref m14, .ref m15, .ref m16, .ref m17, .ref m18, .ref m19, .int 0, .ref m20, .int 0, .ref m21, .int 0, .int 0, .int 0, .int 0, .int 0, .int 0, .int 0, .ref m22, .int 0, .int 0, .ref m23, .ref m24, .ref m25, .ref m26, .int 0, .ref m27, .int 0, .ref m28, .int 0, .ref m29, .ref m30, .int (-1), .int 0, .int 0, .ref m31, .ref m32, .ref m33, .ref m34, .ref m35, .ref m36, .ref m37, .ref m38, .ref m39, .int 0, .ref m40, .int 0, .ref m41]))] := hD
    refine lv_aload_n hx hb d_Model_value_18 rfl (lv_at hl1 0 rfl) ?_
    refine va_get (D := D) (ci := 11) (v := .int 1) (C := R_Model) (T := F_Model) (N := 72) hx hb hts i_Model hown hK.1 hP 0 rfl rfl 0 (by decide) (hts _ wd_1036) (fun _ h9 => h9) rfl d_Model_value_19 ?_
    refine lv_if_le (tgt := 29) hx hb d_Model_value_22 (by decide) (fun c_6 => ?_) (fun c_6 => ?_)
    · first | exact absurd c_6 (by decide) | exact absurd (by decide) c_6
    refine lv_lconst (v := 0) hx hb d_Model_value_25 (by decide) ?_
    refine lv_goto (tgt := 35) hx hb d_Model_value_26 (by decide) ?_
    have hP9 := hP.sub (ws' := (fun u : Nat → Nat => [(m0, .inr (11, [.int 1, .int 0, .ref m1, .int 0, .int 0, .ref m2, .int 0, .int 0, .int 0, .int 0, .int 0, .ref m42, .ref m3, .ref m4, .int 0, .int 0, .ref m5, .ref m6, .ref m7, .ref m8, .ref m9, .ref m10, .ref m11, .ref m12, .ref m13, .ref m14, .ref m15, .ref m16, .ref m17, .ref m18, .ref m19, .int 0, .ref m20, .int 0, .ref m21, .int 0, .int 0, .int 0, .int 0, .int 0, .int 0, .int 0, .ref m22, .int 0, .int 0, .ref m23, .ref m24, .ref m25, .ref m26, .int 0, .ref m27, .int 0, .ref m28, .int 0, .ref m29, .ref m30, .int (-1), .int 0, .int 0, .ref m31, .ref m32, .ref m33, .ref m34, .ref m35, .ref m36, .ref m37, .ref m38, .ref m39, .int 0, .ref m40, .int 0, .ref m41]))]) (ixn [])) [0] rfl
    have hD9 := hD.sub (ws' := (fun u : Nat → Nat => [(m0, .inr (11, [.int 1, .int 0, .ref m1, .int 0, .int 0, .ref m2, .int 0, .int 0, .int 0, .int 0, .int 0, .ref m42, .ref m3, .ref m4, .int 0, .int 0, .ref m5, .ref m6, .ref m7, .ref m8, .ref m9, .ref m10, .ref m11, .ref m12, .ref m13, .ref m14, .ref m15, .ref m16, .ref m17, .ref m18, .ref m19, .int 0, .ref m20, .int 0, .ref m21, .int 0, .int 0, .int 0, .int 0, .int 0, .int 0, .int 0, .ref m22, .int 0, .int 0, .ref m23, .ref m24, .ref m25, .ref m26, .int 0, .ref m27, .int 0, .ref m28, .int 0, .ref m29, .ref m30, .int (-1), .int 0, .int 0, .ref m31, .ref m32, .ref m33, .ref m34, .ref m35, .ref m36, .ref m37, .ref m38, .ref m39, .int 0, .ref m40, .int 0, .ref m41]))]) (ixn [])) [0] (by decide) rfl
    exact W.lret (v := 0) hx hb hr (fun t ht hW => ⟨⟨0, ixn [], rfl, rfl, ⟨by rw [ht]; exact hP9, hD9⟩⟩, hS.F ht⟩) hS.2.2 d_Model_value_35
abbrev b_Model_holds : ByteArray := prog_13_method_92_code
def y_Model_holds : MethodName := ⟨R_Model, "holds", "(I)Z"⟩
theorem d_Model_holds_0 : decode b_Model_holds 0 = .ok (.aload_n 0, 1) := by decide +kernel
theorem d_Model_holds_1 : decode b_Model_holds 1 = .ok (.iload_n 1, 1) := by decide +kernel
theorem d_Model_holds_2 : decode b_Model_holds 2 = .ok (.ifCond .lt 8, 3) := by decide +kernel
theorem d_Model_holds_5 : decode b_Model_holds 5 = .ok (.iload_n 1, 1) := by decide +kernel
theorem d_Model_holds_6 : decode b_Model_holds 6 = .ok (.iconst 1, 1) := by decide +kernel
theorem d_Model_holds_7 : decode b_Model_holds 7 = .ok (.if_icmp .le 7, 3) := by decide +kernel
theorem d_Model_holds_10 : decode b_Model_holds 10 = .ok (.iconst 1, 1) := by decide +kernel
theorem d_Model_holds_11 : decode b_Model_holds 11 = .ok (.goto 4, 3) := by decide +kernel
theorem d_Model_holds_14 : decode b_Model_holds 14 = .ok (.iconst 0, 1) := by decide +kernel
theorem d_Model_holds_15 : decode b_Model_holds 15 = .ok (.putfield 148, 3) := by decide +kernel
theorem d_Model_holds_18 : decode b_Model_holds 18 = .ok (.aload_n 0, 1) := by decide +kernel
theorem d_Model_holds_19 : decode b_Model_holds 19 = .ok (.getfield 148, 3) := by decide +kernel
theorem d_Model_holds_22 : decode b_Model_holds 22 = .ok (.ifCond .ne 39, 3) := by decide +kernel
theorem d_Model_holds_25 : decode b_Model_holds 25 = .ok (.aload_n 0, 1) := by decide +kernel
theorem d_Model_holds_26 : decode b_Model_holds 26 = .ok (.aload_n 0, 1) := by decide +kernel
theorem d_Model_holds_27 : decode b_Model_holds 27 = .ok (.getfield 17, 3) := by decide +kernel
theorem d_Model_holds_30 : decode b_Model_holds 30 = .ok (.sipush 768, 3) := by decide +kernel
theorem d_Model_holds_33 : decode b_Model_holds 33 = .ok (.aload_n 0, 1) := by decide +kernel
theorem d_Model_holds_34 : decode b_Model_holds 34 = .ok (.getfield 23, 3) := by decide +kernel
theorem d_Model_holds_37 : decode b_Model_holds 37 = .ok (.iload_n 1, 1) := by decide +kernel
theorem d_Model_holds_38 : decode b_Model_holds 38 = .ok (.iaload, 1) := by decide +kernel
theorem d_Model_holds_39 : decode b_Model_holds 39 = .ok (.imul, 1) := by decide +kernel
theorem d_Model_holds_40 : decode b_Model_holds 40 = .ok (.aload_n 0, 1) := by decide +kernel
theorem d_Model_holds_41 : decode b_Model_holds 41 = .ok (.getfield 20, 3) := by decide +kernel
theorem d_Model_holds_44 : decode b_Model_holds 44 = .ok (.aload_n 0, 1) := by decide +kernel
theorem d_Model_holds_45 : decode b_Model_holds 45 = .ok (.getfield 23, 3) := by decide +kernel
theorem d_Model_holds_48 : decode b_Model_holds 48 = .ok (.iload_n 1, 1) := by decide +kernel
theorem d_Model_holds_49 : decode b_Model_holds 49 = .ok (.iaload, 1) := by decide +kernel
theorem d_Model_holds_50 : decode b_Model_holds 50 = .ok (.iaload, 1) := by decide +kernel
theorem d_Model_holds_51 : decode b_Model_holds 51 = .ok (.invokevirtual 475, 3) := by decide +kernel
theorem d_Model_holds_54 : decode b_Model_holds 54 = .ok (.ifCond .eq 7, 3) := by decide +kernel
theorem d_Model_holds_57 : decode b_Model_holds 57 = .ok (.iconst 1, 1) := by decide +kernel
theorem d_Model_holds_58 : decode b_Model_holds 58 = .ok (.goto 4, 3) := by decide +kernel
theorem d_Model_holds_61 : decode b_Model_holds 61 = .ok (.iconst 0, 1) := by decide +kernel
theorem d_Model_holds_62 : decode b_Model_holds 62 = .ok (.ireturn, 1) := by decide +kernel
set_option maxHeartbeats 4000000 in
set_option maxRecDepth 100000 in
theorem c_Model_holds_bad (l : Launch) (D : va_G) (ax : Nat → ClassId) (m0 m1 m2 m3 m4 m5 m6 m7 m8 m9 m10 m11 m12 m13 m14 m15 m16 m17 m18 m19 m20 m21 m22 m23 m24 m25 m26 m27 m28 m29 m30 m31 m32 m33 m34 m35 m36 m37 m38 m39 m40 m41 m42 : Nat) (x1 : Int32) (sz : Nat) (hq0 : ¬ x1 = 0) (hq1 : ¬ x1 = 1) : Met l y_Model_holds (xws (.code y_Model_holds b_Model_holds 2 (some .boolean))) ({ frames := 10, cells := 0, slots := 0, locals := 400 }) (va_Pc [.ref m0, .int x1] (xo D ax [(m0, .inr (11, [.int 0, .int 0, .ref m1, .int 0, .int 0, .ref m2, .int 0, .int 0, .int 0, .int 0, .int 0, .ref m42, .ref m3, .ref m4, .int 0, .int 0, .ref m5, .ref m6, .ref m7, .ref m8, .ref m9, .ref m10, .ref m11, .ref m12, .ref m13, .ref m14, .ref m15, .ref m16, .ref m17, .ref m18, .ref m19, .int 0, .ref m20, .int 0, .ref m21, .int 0, .int 0, .int 0, .int 0, .int 0, .int 0, .int 0, .ref m22, .int 0, .int 0, .ref m23, .ref m24, .ref m25, .ref m26, .int 0, .ref m27, .int 0, .ref m28, .int 0, .ref m29, .ref m30, .int (-1), .int 0, .int 0, .ref m31, .ref m32, .ref m33, .ref m34, .ref m35, .ref m36, .ref m37, .ref m38, .ref m39, .int 0, .ref m40, .int 0, .ref m41]))] sz)) ((va_Qi (fun (r : Int32) (u : Nat → Nat) => r = 0) (xb D (va_A [(m0, .inr (11, [.int 0, .int 0, .ref m1, .int 0, .int 0, .ref m2, .int 0, .int 0, .int 0, .int 0, .int 0, .ref m42, .ref m3, .ref m4, .int 0, .int 0, .ref m5, .ref m6, .ref m7, .ref m8, .ref m9, .ref m10, .ref m11, .ref m12, .ref m13, .ref m14, .ref m15, .ref m16, .ref m17, .ref m18, .ref m19, .int 0, .ref m20, .int 0, .ref m21, .int 0, .int 0, .int 0, .int 0, .int 0, .int 0, .int 0, .ref m22, .int 0, .int 0, .ref m23, .ref m24, .ref m25, .ref m26, .int 0, .ref m27, .int 0, .ref m28, .int 0, .ref m29, .ref m30, .int (-1), .int 0, .int 0, .ref m31, .ref m32, .ref m33, .ref m34, .ref m35, .ref m36, .ref m37, .ref m38, .ref m39, .int 0, .ref m40, .int 0, .ref m41]))] sz) (fun u => [(m0, .inr (11, [.int 1, .int 0, .ref m1, .int 0, .int 0, .ref m2, .int 0, .int 0, .int 0, .int 0, .int 0, .ref m42, .ref m3, .ref m4, .int 0, .int 0, .ref m5, .ref m6, .ref m7, .ref m8, .ref m9, .ref m10, .ref m11, .ref m12, .ref m13, .ref m14, .ref m15, .ref m16, .ref m17, .ref m18, .ref m19, .int 0, .ref m20, .int 0, .ref m21, .int 0, .int 0, .int 0, .int 0, .int 0, .int 0, .int 0, .ref m22, .int 0, .int 0, .ref m23, .ref m24, .ref m25, .ref m26, .int 0, .ref m27, .int 0, .ref m28, .int 0, .ref m29, .ref m30, .int (-1), .int 0, .int 0, .ref m31, .ref m32, .ref m33, .ref m34, .ref m35, .ref m36, .ref m37, .ref m38, .ref m39, .int 0, .ref m40, .int 0, .ref m41]))])) (va_A [(m0, .inr (11, [.int 0, .int 0, .ref m1, .int 0, .int 0, .ref m2, .int 0, .int 0, .int 0, .int 0, .int 0, .ref m42, .ref m3, .ref m4, .int 0, .int 0, .ref m5, .ref m6, .ref m7, .ref m8, .ref m9, .ref m10, .ref m11, .ref m12, .ref m13, .ref m14, .ref m15, .ref m16, .ref m17, .ref m18, .ref m19, .int 0, .ref m20, .int 0, .ref m21, .int 0, .int 0, .int 0, .int 0, .int 0, .int 0, .int 0, .ref m22, .int 0, .int 0, .ref m23, .ref m24, .ref m25, .ref m26, .int 0, .ref m27, .int 0, .ref m28, .int 0, .ref m29, .ref m30, .int (-1), .int 0, .int 0, .ref m31, .ref m32, .ref m33, .ref m34, .ref m35, .ref m36, .ref m37, .ref m38, .ref m39, .int 0, .ref m40, .int 0, .ref m41]))] sz))) 0 0 (va_A [(m0, .inr (11, [.int 0, .int 0, .ref m1, .int 0, .int 0, .ref m2, .int 0, .int 0, .int 0, .int 0, .int 0, .ref m42, .ref m3, .ref m4, .int 0, .int 0, .ref m5, .ref m6, .ref m7, .ref m8, .ref m9, .ref m10, .ref m11, .ref m12, .ref m13, .ref m14, .ref m15, .ref m16, .ref m17, .ref m18, .ref m19, .int 0, .ref m20, .int 0, .ref m21, .int 0, .int 0, .int 0, .int 0, .int 0, .int 0, .int 0, .ref m22, .int 0, .int 0, .ref m23, .ref m24, .ref m25, .ref m26, .int 0, .ref m27, .int 0, .ref m28, .int 0, .ref m29, .ref m30, .int (-1), .int 0, .int 0, .ref m31, .ref m32, .ref m33, .ref m34, .ref m35, .ref m36, .ref m37, .ref m38, .ref m39, .int 0, .ref m40, .int 0, .ref m41]))] sz) := by
  refine Met.ofW (cc := b_Model_holds) (maxL := 2) (ret := (some .boolean)) (by decide) rfl ?_
  intro p e s m args below meth c s₁ B hml hv
  obtain ⟨rfl, hsz, hP, hK, hD0⟩ := hv
  have hx := B.exec
  have hb := B.bytes
  have hr := B.returns
  have hts := xw_hts B.pre
  have hown : s.vm.findClass R_Model = some m.cls := findClass_of_methodNamed B.named
  have hlocks := B.notSynchronized
  subst hsz
  have hD := hD0.self (sz := s.heap.size)
  have hN := xz_entry hP
  generalize hAe : va_A [(m0, .inr (11, [.int 0, .int 0, .ref m1, .int 0, .int 0, .ref m2, .int 0, .int 0, .int 0, .int 0, .int 0, .ref m42, .ref m3, .ref m4, .int 0, .int 0, .ref m5, .ref m6, .ref m7, .ref m8, .ref m9, .ref m10, .ref m11, .ref m12, .ref m13, .ref m14, .ref m15, .ref m16, .ref m17, .ref m18, .ref m19, .int 0, .ref m20, .int 0, .ref m21, .int 0, .int 0, .int 0, .int 0, .int 0, .int 0, .int 0, .ref m22, .int 0, .int 0, .ref m23, .ref m24, .ref m25, .ref m26, .int 0, .ref m27, .int 0, .ref m28, .int 0, .ref m29, .ref m30, .int (-1), .int 0, .int 0, .ref m31, .ref m32, .ref m33, .ref m34, .ref m35, .ref m36, .ref m37, .ref m38, .ref m39, .int 0, .ref m40, .int 0, .ref m41]))] s.heap.size = A at hD hN ⊢
  have hA : ∀ q : Nat, s.heap.size ≤ q → A q := fun q h => by rw [← hAe]; exact Or.inr h
  have hS : va_S A s.heap s.heap [] := va_S.rf
  have hl0 := lv_entry ([.ref m0, .int x1]) (n := 2) (Nat.le_of_ble_eq_true rfl)
  rw [lg_entry_eq]
  generalize (lg_sl ([.ref m0, .int x1]) ++ List.replicate (2 - (lg_sl ([.ref m0, .int x1])).length) Slot.unset).toArray = ls at hl0 ⊢
  have hl1 : lv_has ls 2 [(0, .ref m0), (1, .int x1)] := hl0
  refine lv_aload_n hx hb d_Model_holds_0 rfl (lv_at hl1 0 rfl) ?_
  refine lv_iload_n hx hb d_Model_holds_1 rfl (lv_at hl1 1 rfl) ?_
  refine lv_if_lt (tgt := 10) hx hb d_Model_holds_2 (by decide) (fun c_1 => ?_) (fun c_1 => ?_)
  · refine lv_iconst (v := 1) hx hb d_Model_holds_10 (by decide) ?_
    refine lv_goto (tgt := 15) hx hb d_Model_holds_11 (by decide) ?_
    refine va_put (D := D) (ci := 11) (v := .int 1) (ty := .int) (C := R_Model) (T := F_Model) (N := 72) hx hb hts i_Model t_Model t_Model_ok n_Model hown hK.1 hP hD hS 0 rfl rfl 0 (by decide) (hts _ wd_1036) (fun _ h9 => h9) rfl (by decide +kernel) rfl rfl (Nat.le_of_ble_eq_true rfl) d_Model_holds_15 (fun H_2 locs hP hD hS => ?_)
    have hP : va_P D classes [(m0, .inr (11, [.int 1, .int 0, .ref m1, .int 0, .int 0, .ref m2, .int 0, .int 0, .int 0, .int 0, .int 0, .ref m42, .ref m3, .ref m4, .int 0, .int 0, .ref m5, .ref m6, .ref m7, .ref m8, .ref m9, .ref m10, .ref m11, .ref m12, .ref m13, .ref m14, .ref m15, .ref m16, .ref m17, .ref m18, .ref m19, .int 0, .ref m20, .int 0, .ref m21, .int 0, .int 0, .int 0, .int 0, .int 0, .int 0, .int 0, .ref m22, .int 0, .int 0, .ref m23, .ref m24, .ref m25, .ref m26, .int 0, .ref m27, .int 0, .ref m28, .int 0, .ref m29, .ref m30, .int (-1), .int 0, .int 0, .ref m31, .ref m32, .ref m33, .ref m34, .ref m35, .ref m36, .ref m37, .ref m38, .ref m39, .int 0, .ref m40, .int 0, .ref m41]))] H_2 := hP
    have hD : va_D A [(m0, .inr (11, [.int 1, .int 0, .ref m1, .int 0, .int 0, .ref m2, .int 0, .int 0, .int 0, .int 0, .int 0, .ref m42, .ref m3, .ref m4, .int 0, .int 0, .ref m5, .ref m6, .ref m7, .ref m8, .ref m9, .ref m10, .ref m11, .ref m12, .ref m13, .ref m14, .ref m15, .ref m16, .ref m17, .ref m18, .ref m19, .int 0, .ref m20, .int 0, .ref m21, .int 0, .int 0, .int 0, .int 0, .int 0, .int 0, .int 0, .ref m22, .int 0, .int 0, .ref m23, .ref m24, .ref m25, .ref m26, .int 0, .ref m27, .int 0, .ref m28, .int 0, .ref m29, .ref m30, .int (-1), .int 0, .int 0, .ref m31, .ref m32, .ref m33, .ref m34, .ref m35, .ref m36, .ref m37, .ref m38, .ref m39, .int 0, .ref m40, .int 0, .ref m41]))] := hD
    refine lv_aload_n hx hb d_Model_holds_18 rfl (lv_at hl1 0 rfl) ?_
    refine va_get (D := D) (ci := 11) (v := .int 1) (C := R_Model) (T := F_Model) (N := 72) hx hb hts i_Model hown hK.1 hP 0 rfl rfl 0 (by decide) (hts _ wd_1036) (fun _ h9 => h9) rfl d_Model_holds_19 ?_
    refine lv_if_ne (tgt := 61) hx hb d_Model_holds_22 (by decide) (fun c_3 => ?_) (fun c_3 => ?_)
    rotate_left
    · first | exact absurd c_3 (by decide) | exact absurd (by decide) c_3
    refine lv_iconst (v := 0) hx hb d_Model_holds_61 (by decide) ?_
    have hP9 := hP.sub (ws' := (fun u : Nat → Nat => [(m0, .inr (11, [.int 1, .int 0, .ref m1, .int 0, .int 0, .ref m2, .int 0, .int 0, .int 0, .int 0, .int 0, .ref m42, .ref m3, .ref m4, .int 0, .int 0, .ref m5, .ref m6, .ref m7, .ref m8, .ref m9, .ref m10, .ref m11, .ref m12, .ref m13, .ref m14, .ref m15, .ref m16, .ref m17, .ref m18, .ref m19, .int 0, .ref m20, .int 0, .ref m21, .int 0, .int 0, .int 0, .int 0, .int 0, .int 0, .int 0, .ref m22, .int 0, .int 0, .ref m23, .ref m24, .ref m25, .ref m26, .int 0, .ref m27, .int 0, .ref m28, .int 0, .ref m29, .ref m30, .int (-1), .int 0, .int 0, .ref m31, .ref m32, .ref m33, .ref m34, .ref m35, .ref m36, .ref m37, .ref m38, .ref m39, .int 0, .ref m40, .int 0, .ref m41]))]) (ixn [])) [0] rfl
    have hD9 := hD.sub (ws' := (fun u : Nat → Nat => [(m0, .inr (11, [.int 1, .int 0, .ref m1, .int 0, .int 0, .ref m2, .int 0, .int 0, .int 0, .int 0, .int 0, .ref m42, .ref m3, .ref m4, .int 0, .int 0, .ref m5, .ref m6, .ref m7, .ref m8, .ref m9, .ref m10, .ref m11, .ref m12, .ref m13, .ref m14, .ref m15, .ref m16, .ref m17, .ref m18, .ref m19, .int 0, .ref m20, .int 0, .ref m21, .int 0, .int 0, .int 0, .int 0, .int 0, .int 0, .int 0, .ref m22, .int 0, .int 0, .ref m23, .ref m24, .ref m25, .ref m26, .int 0, .ref m27, .int 0, .ref m28, .int 0, .ref m29, .ref m30, .int (-1), .int 0, .int 0, .ref m31, .ref m32, .ref m33, .ref m34, .ref m35, .ref m36, .ref m37, .ref m38, .ref m39, .int 0, .ref m40, .int 0, .ref m41]))]) (ixn [])) [0] (by decide) rfl
    exact W.zret (v := 0) hx hb hr rfl (fun t ht hW => ⟨⟨0, ixn [], rfl, rfl, ⟨by rw [ht]; exact hP9, hD9⟩⟩, hS.F ht⟩) hS.2.2 d_Model_holds_62
  · refine lv_iload_n hx hb d_Model_holds_5 rfl (lv_at hl1 1 rfl) ?_
    refine lv_iconst (v := 1) hx hb d_Model_holds_6 (by decide) ?_
    refine lv_icmp_le (tgt := 14) hx hb d_Model_holds_7 (by decide) (fun c_4 => ?_) (fun c_4 => ?_)
    · exact absurd c_4 (xi_01 (by assumption) hq0 hq1)
    refine lv_iconst (v := 1) hx hb d_Model_holds_10 (by decide) ?_
    refine lv_goto (tgt := 15) hx hb d_Model_holds_11 (by decide) ?_
    refine va_put (D := D) (ci := 11) (v := .int 1) (ty := .int) (C := R_Model) (T := F_Model) (N := 72) hx hb hts i_Model t_Model t_Model_ok n_Model hown hK.1 hP hD hS 0 rfl rfl 0 (by decide) (hts _ wd_1036) (fun _ h9 => h9) rfl (by decide +kernel) rfl rfl (Nat.le_of_ble_eq_true rfl) d_Model_holds_15 (fun H_5 locs hP hD hS => ?_)
    have hP : va_P D classes [(m0, .inr (11, [.int 1, .int 0, .ref m1, .int 0, .int 0, .ref m2, .int 0, .int 0, .int 0, .int 0, .int 0, .ref m42, .ref m3, .ref m4, .int 0, .int 0, .ref m5, .ref m6, .ref m7, .ref m8, .ref m9, .ref m10, .ref m11, .ref m12, .ref m13, .ref m14, .ref m15, .ref m16, .ref m17, .ref m18, .ref m19, .int 0, .ref m20, .int 0, .ref m21, .int 0, .int 0, .int 0, .int 0, .int 0, .int 0, .int 0, .ref m22, .int 0, .int 0, .ref m23, .ref m24, .ref m25, .ref m26, .int 0, .ref m27, .int 0, .ref m28, .int 0, .ref m29, .ref m30, .int (-1), .int 0, .int 0, .ref m31, .ref m32, .ref m33, .ref m34, .ref m35, .ref m36, .ref m37, .ref m38, .ref m39, .int 0, .ref m40, .int 0, .ref m41]))] H_5 := hP
    have hD : va_D A [(m0, .inr (11, [.int 1, .int 0, .ref m1, .int 0, .int 0, .ref m2, .int 0, .int 0, .int 0, .int 0, .int 0, .ref m42, .ref m3, .ref m4, .int 0, .int 0, .ref m5, .ref m6, .ref m7, .ref m8, .ref m9, .ref m10, .ref m11, .ref m12, .ref m13, .ref m14, .ref m15, .ref m16, .ref m17, .ref m18, .ref m19, .int 0, .ref m20, .int 0, .ref m21, .int 0, .int 0, .int 0, .int 0, .int 0, .int 0, .int 0, .ref m22, .int 0, .int 0, .ref m23, .ref m24, .ref m25, .ref m26, .int 0, .ref m27, .int 0, .ref m28, .int 0, .ref m29, .ref m30, .int (-1), .int 0, .int 0, .ref m31, .ref m32, .ref m33, .ref m34, .ref m35, .ref m36, .ref m37, .ref m38, .ref m39, .int 0, .ref m40, .int 0, .ref m41]))] := hD
    refine lv_aload_n hx hb d_Model_holds_18 rfl (lv_at hl1 0 rfl) ?_
    refine va_get (D := D) (ci := 11) (v := .int 1) (C := R_Model) (T := F_Model) (N := 72) hx hb hts i_Model hown hK.1 hP 0 rfl rfl 0 (by decide) (hts _ wd_1036) (fun _ h9 => h9) rfl d_Model_holds_19 ?_
    refine lv_if_ne (tgt := 61) hx hb d_Model_holds_22 (by decide) (fun c_6 => ?_) (fun c_6 => ?_)
    rotate_left
    · first | exact absurd c_6 (by decide) | exact absurd (by decide) c_6
    refine lv_iconst (v := 0) hx hb d_Model_holds_61 (by decide) ?_
    have hP9 := hP.sub (ws' := (fun u : Nat → Nat => [(m0, .inr (11, [.int 1, .int 0, .ref m1, .int 0, .int 0, .ref m2, .int 0, .int 0, .int 0, .int 0, .int 0, .ref m42, .ref m3, .ref m4, .int 0, .int 0, .ref m5, .ref m6, .ref m7, .ref m8, .ref m9, .ref m10, .ref m11, .ref m12, .ref m13, .ref m14, .ref m15, .ref m16, .ref m17, .ref m18, .ref m19, .int 0, .ref m20, .int 0, .ref m21, .int 0, .int 0, .int 0, .int 0, .int 0, .int 0, .int 0, .ref m22, .int 0, .int 0, .ref m23, .ref m24, .ref m25, .ref m26, .int 0, .ref m27, .int 0, .ref m28, .int 0, .ref m29, .ref m30, .int (-1), .int 0, .int 0, .ref m31, .ref m32, .ref m33, .ref m34, .ref m35, .ref m36, .ref m37, .ref m38, .ref m39, .int 0, .ref m40, .int 0, .ref m41]))]) (ixn [])) [0] rfl
    have hD9 := hD.sub (ws' := (fun u : Nat → Nat => [(m0, .inr (11, [.int 1, .int 0, .ref m1, .int 0, .int 0, .ref m2, .int 0, .int 0, .int 0, .int 0, .int 0, .ref m42, .ref m3, .ref m4, .int 0, .int 0, .ref m5, .ref m6, .ref m7, .ref m8, .ref m9, .ref m10, .ref m11, .ref m12, .ref m13, .ref m14, .ref m15, .ref m16, .ref m17, .ref m18, .ref m19, .int 0, .ref m20, .int 0, .ref m21, .int 0, .int 0, .int 0, .int 0, .int 0, .int 0, .int 0, .ref m22, .int 0, .int 0, .ref m23, .ref m24, .ref m25, .ref m26, .int 0, .ref m27, .int 0, .ref m28, .int 0, .ref m29, .ref m30, .int (-1), .int 0, .int 0, .ref m31, .ref m32, .ref m33, .ref m34, .ref m35, .ref m36, .ref m37, .ref m38, .ref m39, .int 0, .ref m40, .int 0, .ref m41]))]) (ixn [])) [0] (by decide) rfl
    exact W.zret (v := 0) hx hb hr rfl (fun t ht hW => ⟨⟨0, ixn [], rfl, rfl, ⟨by rw [ht]; exact hP9, hD9⟩⟩, hS.F ht⟩) hS.2.2 d_Model_holds_62
set_option maxHeartbeats 4000000 in
set_option maxRecDepth 100000 in
theorem c_Model_start_0 (l : Launch) (D : va_G) (ax : Nat → ClassId) (m0 m1 m2 m3 m4 m5 m6 m7 m8 m9 m10 m11 m12 m13 m14 m15 m16 m17 m18 m19 m20 m21 m22 m23 m24 m25 m26 m27 m28 m29 m30 m31 m32 m33 m34 m35 m36 m37 m38 m39 m40 m41 m42 : Nat) (x2 : Int32) (sz : Nat) : Met l y_Model_start (xws (.code y_Model_start b_Model_start 3 none)) ({ frames := 10, cells := 0, slots := 0, locals := 400 }) (va_Pc [.ref m0, .int 0, .int x2] (xo D ax [(m0, .inr (11, [.int 0, .int 0, .ref m1, .int 0, .int 0, .ref m2, .int 0, .int 0, .int 0, .int 0, .int 0, .ref m42, .ref m3, .ref m4, .int 0, .int 0, .ref m5, .ref m6, .ref m7, .ref m8, .ref m9, .ref m10, .ref m11, .ref m12, .ref m13, .ref m14, .ref m15, .ref m16, .ref m17, .ref m18, .ref m19, .int 0, .ref m20, .int 0, .ref m21, .int 0, .int 0, .int 0, .int 0, .int 0, .int 0, .int 0, .ref m22, .int 0, .int 0, .ref m23, .ref m24, .ref m25, .ref m26, .int 0, .ref m27, .int 0, .ref m28, .int 0, .ref m29, .ref m30, .int (-1), .int 0, .int 0, .ref m31, .ref m32, .ref m33, .ref m34, .ref m35, .ref m36, .ref m37, .ref m38, .ref m39, .int 0, .ref m40, .int 0, .ref m41])), (m40, .inl (ax 4, 6, .inr (.inl (fun _ => 0))))] sz)) ((va_Qv (fun (u : Nat → Nat) => True) (xb D (va_A [(m0, .inr (11, [.int 0, .int 0, .ref m1, .int 0, .int 0, .ref m2, .int 0, .int 0, .int 0, .int 0, .int 0, .ref m42, .ref m3, .ref m4, .int 0, .int 0, .ref m5, .ref m6, .ref m7, .ref m8, .ref m9, .ref m10, .ref m11, .ref m12, .ref m13, .ref m14, .ref m15, .ref m16, .ref m17, .ref m18, .ref m19, .int 0, .ref m20, .int 0, .ref m21, .int 0, .int 0, .int 0, .int 0, .int 0, .int 0, .int 0, .ref m22, .int 0, .int 0, .ref m23, .ref m24, .ref m25, .ref m26, .int 0, .ref m27, .int 0, .ref m28, .int 0, .ref m29, .ref m30, .int (-1), .int 0, .int 0, .ref m31, .ref m32, .ref m33, .ref m34, .ref m35, .ref m36, .ref m37, .ref m38, .ref m39, .int 0, .ref m40, .int 0, .ref m41])), (m40, .inl (ax 4, 6, .inr (.inl (fun _ => 0))))] sz) (fun u => [(m0, .inr (11, [.int 0, .int 0, .ref m1, .int 0, .int 0, .ref m2, .int 0, .int 0, .int 0, .int 0, .int 0, .ref m42, .ref m3, .ref m4, .int 0, .int 0, .ref m5, .ref m6, .ref m7, .ref m8, .ref m9, .ref m10, .ref m11, .ref m12, .ref m13, .ref m14, .ref m15, .ref m16, .ref m17, .ref m18, .ref m19, .int 0, .ref m20, .int 0, .ref m21, .int 0, .int 0, .int 0, .int 0, .int 0, .int 0, .int 0, .ref m22, .int 0, .int 0, .ref m23, .ref m24, .ref m25, .ref m26, .int 0, .ref m27, .int 0, .ref m28, .int 0, .ref m29, .ref m30, .int (-1), .int 0, .int 0, .ref m31, .ref m32, .ref m33, .ref m34, .ref m35, .ref m36, .ref m37, .ref m38, .ref m39, .int 0, .ref m40, .int 0, .ref m41]))])) (va_A [(m0, .inr (11, [.int 0, .int 0, .ref m1, .int 0, .int 0, .ref m2, .int 0, .int 0, .int 0, .int 0, .int 0, .ref m42, .ref m3, .ref m4, .int 0, .int 0, .ref m5, .ref m6, .ref m7, .ref m8, .ref m9, .ref m10, .ref m11, .ref m12, .ref m13, .ref m14, .ref m15, .ref m16, .ref m17, .ref m18, .ref m19, .int 0, .ref m20, .int 0, .ref m21, .int 0, .int 0, .int 0, .int 0, .int 0, .int 0, .int 0, .ref m22, .int 0, .int 0, .ref m23, .ref m24, .ref m25, .ref m26, .int 0, .ref m27, .int 0, .ref m28, .int 0, .ref m29, .ref m30, .int (-1), .int 0, .int 0, .ref m31, .ref m32, .ref m33, .ref m34, .ref m35, .ref m36, .ref m37, .ref m38, .ref m39, .int 0, .ref m40, .int 0, .ref m41])), (m40, .inl (ax 4, 6, .inr (.inl (fun _ => 0))))] sz))) 0 0 (va_A [(m0, .inr (11, [.int 0, .int 0, .ref m1, .int 0, .int 0, .ref m2, .int 0, .int 0, .int 0, .int 0, .int 0, .ref m42, .ref m3, .ref m4, .int 0, .int 0, .ref m5, .ref m6, .ref m7, .ref m8, .ref m9, .ref m10, .ref m11, .ref m12, .ref m13, .ref m14, .ref m15, .ref m16, .ref m17, .ref m18, .ref m19, .int 0, .ref m20, .int 0, .ref m21, .int 0, .int 0, .int 0, .int 0, .int 0, .int 0, .int 0, .ref m22, .int 0, .int 0, .ref m23, .ref m24, .ref m25, .ref m26, .int 0, .ref m27, .int 0, .ref m28, .int 0, .ref m29, .ref m30, .int (-1), .int 0, .int 0, .ref m31, .ref m32, .ref m33, .ref m34, .ref m35, .ref m36, .ref m37, .ref m38, .ref m39, .int 0, .ref m40, .int 0, .ref m41])), (m40, .inl (ax 4, 6, .inr (.inl (fun _ => 0))))] sz) := by
  refine Met.ofW (cc := b_Model_start) (maxL := 3) (ret := none) (by decide) rfl ?_
  intro p e s m args below meth c s₁ B hml hv
  obtain ⟨rfl, hsz, hP, hK, hD0⟩ := hv
  have hx := B.exec
  have hb := B.bytes
  have hr := B.returns
  have hts := xw_hts B.pre
  have hown : s.vm.findClass R_Model = some m.cls := findClass_of_methodNamed B.named
  have hlocks := B.notSynchronized
  subst hsz
  have hD := hD0.self (sz := s.heap.size)
  have hN := xz_entry hP
  generalize hAe : va_A [(m0, .inr (11, [.int 0, .int 0, .ref m1, .int 0, .int 0, .ref m2, .int 0, .int 0, .int 0, .int 0, .int 0, .ref m42, .ref m3, .ref m4, .int 0, .int 0, .ref m5, .ref m6, .ref m7, .ref m8, .ref m9, .ref m10, .ref m11, .ref m12, .ref m13, .ref m14, .ref m15, .ref m16, .ref m17, .ref m18, .ref m19, .int 0, .ref m20, .int 0, .ref m21, .int 0, .int 0, .int 0, .int 0, .int 0, .int 0, .int 0, .ref m22, .int 0, .int 0, .ref m23, .ref m24, .ref m25, .ref m26, .int 0, .ref m27, .int 0, .ref m28, .int 0, .ref m29, .ref m30, .int (-1), .int 0, .int 0, .ref m31, .ref m32, .ref m33, .ref m34, .ref m35, .ref m36, .ref m37, .ref m38, .ref m39, .int 0, .ref m40, .int 0, .ref m41])), (m40, .inl (ax 4, 6, .inr (.inl (fun _ => 0))))] s.heap.size = A at hD hN ⊢
  have hA : ∀ q : Nat, s.heap.size ≤ q → A q := fun q h => by rw [← hAe]; exact Or.inr h
  have hS : va_S A s.heap s.heap [] := va_S.rf
  have hl0 := lv_entry ([.ref m0, .int 0, .int x2]) (n := 3) (Nat.le_of_ble_eq_true rfl)
  rw [lg_entry_eq]
  generalize (lg_sl ([.ref m0, .int 0, .int x2]) ++ List.replicate (3 - (lg_sl ([.ref m0, .int 0, .int x2])).length) Slot.unset).toArray = ls at hl0 ⊢
  have hl1 : lv_has ls 3 [(0, .ref m0), (1, .int 0), (2, .int x2)] := hl0
  refine lv_aload_n hx hb d_Model_start_0 rfl (lv_at hl1 0 rfl) ?_
  refine lv_iload_n hx hb d_Model_start_1 rfl (lv_at hl1 1 rfl) ?_
  refine lv_if_lt (tgt := 10) hx hb d_Model_start_2 (by decide) (fun c_1 => ?_) (fun c_1 => ?_)
  · first | exact absurd c_1 (by decide) | exact absurd (by decide) c_1
  refine lv_iload_n hx hb d_Model_start_5 rfl (lv_at hl1 1 rfl) ?_
  refine lv_iconst (v := 5) hx hb d_Model_start_6 (by decide) ?_
  refine lv_icmp_le (tgt := 14) hx hb d_Model_start_7 (by decide) (fun c_2 => ?_) (fun c_2 => ?_)
  rotate_left
  · first | exact absurd c_2 (by decide) | exact absurd (by decide) c_2
  refine lv_iconst (v := 0) hx hb d_Model_start_14 (by decide) ?_
  refine va_put (D := D) (ci := 11) (v := .int 0) (ty := .int) (C := R_Model) (T := F_Model) (N := 72) hx hb hts i_Model t_Model t_Model_ok n_Model hown hK.1 hP hD hS 0 rfl rfl 0 (by decide) (hts _ wd_1036) (fun _ h9 => h9) rfl (by decide +kernel) rfl rfl (Nat.le_of_ble_eq_true rfl) d_Model_start_15 (fun H_3 locs hP hD hS => ?_)
  have hP : va_P D classes [(m0, .inr (11, [.int 0, .int 0, .ref m1, .int 0, .int 0, .ref m2, .int 0, .int 0, .int 0, .int 0, .int 0, .ref m42, .ref m3, .ref m4, .int 0, .int 0, .ref m5, .ref m6, .ref m7, .ref m8, .ref m9, .ref m10, .ref m11, .ref m12, .ref m13, .ref m14, .ref m15, .ref m16, .ref m17, .ref m18, .ref m19, .int 0, .ref m20, .int 0, .ref m21, .int 0, .int 0, .int 0, .int 0, .int 0, .int 0, .int 0, .ref m22, .int 0, .int 0, .ref m23, .ref m24, .ref m25, .ref m26, .int 0, .ref m27, .int 0, .ref m28, .int 0, .ref m29, .ref m30, .int (-1), .int 0, .int 0, .ref m31, .ref m32, .ref m33, .ref m34, .ref m35, .ref m36, .ref m37, .ref m38, .ref m39, .int 0, .ref m40, .int 0, .ref m41])), (m40, .inl (ax 4, 6, .inr (.inl (fun _ => 0))))] H_3 := hP
  have hD : va_D A [(m0, .inr (11, [.int 0, .int 0, .ref m1, .int 0, .int 0, .ref m2, .int 0, .int 0, .int 0, .int 0, .int 0, .ref m42, .ref m3, .ref m4, .int 0, .int 0, .ref m5, .ref m6, .ref m7, .ref m8, .ref m9, .ref m10, .ref m11, .ref m12, .ref m13, .ref m14, .ref m15, .ref m16, .ref m17, .ref m18, .ref m19, .int 0, .ref m20, .int 0, .ref m21, .int 0, .int 0, .int 0, .int 0, .int 0, .int 0, .int 0, .ref m22, .int 0, .int 0, .ref m23, .ref m24, .ref m25, .ref m26, .int 0, .ref m27, .int 0, .ref m28, .int 0, .ref m29, .ref m30, .int (-1), .int 0, .int 0, .ref m31, .ref m32, .ref m33, .ref m34, .ref m35, .ref m36, .ref m37, .ref m38, .ref m39, .int 0, .ref m40, .int 0, .ref m41])), (m40, .inl (ax 4, 6, .inr (.inl (fun _ => 0))))] := hD
  refine lv_aload_n hx hb d_Model_start_18 rfl (lv_at hl1 0 rfl) ?_
  refine va_get (D := D) (ci := 11) (v := .int 0) (C := R_Model) (T := F_Model) (N := 72) hx hb hts i_Model hown hK.1 hP 0 rfl rfl 0 (by decide) (hts _ wd_1036) (fun _ h9 => h9) rfl d_Model_start_19 ?_
  refine lv_if_ne (tgt := 33) hx hb d_Model_start_22 (by decide) (fun c_4 => ?_) (fun c_4 => ?_)
  · first | exact absurd c_4 (by decide) | exact absurd (by decide) c_4
  refine lv_aload_n hx hb d_Model_start_25 rfl (lv_at hl1 0 rfl) ?_
  refine va_get (D := D) (ci := 11) (v := .ref m40) (C := R_Model) (T := F_Model) (N := 72) hx hb hts i_Model hown hK.1 hP 0 rfl rfl 69 (by decide) (hts _ wd_1105) (fun _ h9 => h9) rfl d_Model_start_26 ?_
  refine lv_iload_n hx hb d_Model_start_29 rfl (lv_at hl1 1 rfl) ?_
  refine lv_iload_n hx hb d_Model_start_30 rfl (lv_at hl1 2 rfl) ?_
  refine lv_i2l hx hb d_Model_start_31 rfl ?_
  refine lv_topl (fun z_5 ez_5 => ?_)
  refine va_last hx hb hK.1 hP hD hS 1 4 rfl rfl (by unfold vp_in; decide) d_Model_start_32 (fun H_6 locs hP hD hS => ?_)
  have hP : va_P D classes [(m0, .inr (11, [.int 0, .int 0, .ref m1, .int 0, .int 0, .ref m2, .int 0, .int 0, .int 0, .int 0, .int 0, .ref m42, .ref m3, .ref m4, .int 0, .int 0, .ref m5, .ref m6, .ref m7, .ref m8, .ref m9, .ref m10, .ref m11, .ref m12, .ref m13, .ref m14, .ref m15, .ref m16, .ref m17, .ref m18, .ref m19, .int 0, .ref m20, .int 0, .ref m21, .int 0, .int 0, .int 0, .int 0, .int 0, .int 0, .int 0, .ref m22, .int 0, .int 0, .ref m23, .ref m24, .ref m25, .ref m26, .int 0, .ref m27, .int 0, .ref m28, .int 0, .ref m29, .ref m30, .int (-1), .int 0, .int 0, .ref m31, .ref m32, .ref m33, .ref m34, .ref m35, .ref m36, .ref m37, .ref m38, .ref m39, .int 0, .ref m40, .int 0, .ref m41])), (m40, .inl (ax 4, 6, .inr (.inl (vp_updL (fun _ => 0) 0 z_5))))] H_6 := hP
  have hD : va_D A [(m0, .inr (11, [.int 0, .int 0, .ref m1, .int 0, .int 0, .ref m2, .int 0, .int 0, .int 0, .int 0, .int 0, .ref m42, .ref m3, .ref m4, .int 0, .int 0, .ref m5, .ref m6, .ref m7, .ref m8, .ref m9, .ref m10, .ref m11, .ref m12, .ref m13, .ref m14, .ref m15, .ref m16, .ref m17, .ref m18, .ref m19, .int 0, .ref m20, .int 0, .ref m21, .int 0, .int 0, .int 0, .int 0, .int 0, .int 0, .int 0, .ref m22, .int 0, .int 0, .ref m23, .ref m24, .ref m25, .ref m26, .int 0, .ref m27, .int 0, .ref m28, .int 0, .ref m29, .ref m30, .int (-1), .int 0, .int 0, .ref m31, .ref m32, .ref m33, .ref m34, .ref m35, .ref m36, .ref m37, .ref m38, .ref m39, .int 0, .ref m40, .int 0, .ref m41])), (m40, .inl (ax 4, 6, .inr (.inl (vp_updL (fun _ => 0) 0 z_5))))] := hD
  have hP9 := hP.sub (ws' := (fun u : Nat → Nat => [(m0, .inr (11, [.int 0, .int 0, .ref m1, .int 0, .int 0, .ref m2, .int 0, .int 0, .int 0, .int 0, .int 0, .ref m42, .ref m3, .ref m4, .int 0, .int 0, .ref m5, .ref m6, .ref m7, .ref m8, .ref m9, .ref m10, .ref m11, .ref m12, .ref m13, .ref m14, .ref m15, .ref m16, .ref m17, .ref m18, .ref m19, .int 0, .ref m20, .int 0, .ref m21, .int 0, .int 0, .int 0, .int 0, .int 0, .int 0, .int 0, .ref m22, .int 0, .int 0, .ref m23, .ref m24, .ref m25, .ref m26, .int 0, .ref m27, .int 0, .ref m28, .int 0, .ref m29, .ref m30, .int (-1), .int 0, .int 0, .ref m31, .ref m32, .ref m33, .ref m34, .ref m35, .ref m36, .ref m37, .ref m38, .ref m39, .int 0, .ref m40, .int 0, .ref m41]))]) (ixn [])) [0] rfl
  have hD9 := hD.sub (ws' := (fun u : Nat → Nat => [(m0, .inr (11, [.int 0, .int 0, .ref m1, .int 0, .int 0, .ref m2, .int 0, .int 0, .int 0, .int 0, .int 0, .ref m42, .ref m3, .ref m4, .int 0, .int 0, .ref m5, .ref m6, .ref m7, .ref m8, .ref m9, .ref m10, .ref m11, .ref m12, .ref m13, .ref m14, .ref m15, .ref m16, .ref m17, .ref m18, .ref m19, .int 0, .ref m20, .int 0, .ref m21, .int 0, .int 0, .int 0, .int 0, .int 0, .int 0, .int 0, .ref m22, .int 0, .int 0, .ref m23, .ref m24, .ref m25, .ref m26, .int 0, .ref m27, .int 0, .ref m28, .int 0, .ref m29, .ref m30, .int (-1), .int 0, .int 0, .ref m31, .ref m32, .ref m33, .ref m34, .ref m35, .ref m36, .ref m37, .ref m38, .ref m39, .int 0, .ref m40, .int 0, .ref m41]))]) (ixn [])) [0] (by decide) rfl
  exact W.vret hx hb hr (fun t ht hW => ⟨⟨ixn [], rfl, trivial, ⟨by rw [ht]; exact hP9, hD9⟩⟩, hS.F ht⟩) hS.2.2 d_Model_start_33
set_option maxHeartbeats 4000000 in
set_option maxRecDepth 100000 in
theorem c_Model_value_0 (l : Launch) (D : va_G) (ax : Nat → ClassId) (m0 m1 m2 m3 m4 m5 m6 m7 m8 m9 m10 m11 m12 m13 m14 m15 m16 m17 m18 m19 m20 m21 m22 m23 m24 m25 m26 m27 m28 m29 m30 m31 m32 m33 m34 m35 m36 m37 m38 m39 m40 m41 m42 : Nat) (sz : Nat) : Met l y_Model_value (xws (.code y_Model_value b_Model_value 2 (some .long))) ({ frames := 10, cells := 0, slots := 0, locals := 400 }) (va_Pc [.ref m0, .int 0] (xo D ax [(m0, .inr (11, [.int 0, .int 0, .ref m1, .int 0, .int 0, .ref m2, .int 0, .int 0, .int 0, .int 0, .int 0, .ref m42, .ref m3, .ref m4, .int 0, .int 0, .ref m5, .ref m6, .ref m7, .ref m8, .ref m9, .ref m10, .ref m11, .ref m12, .ref m13, .ref m14, .ref m15, .ref m16, .ref m17, .ref m18, .ref m19, .int 0, .ref m20, .int 0, .ref m21, .int 0, .int 0, .int 0, .int 0, .int 0, .int 0, .int 0, .ref m22, .int 0, .int 0, .ref m23, .ref m24, .ref m25, .ref m26, .int 0, .ref m27, .int 0, .ref m28, .int 0, .ref m29, .ref m30, .int (-1), .int 0, .int 0, .ref m31, .ref m32, .ref m33, .ref m34, .ref m35, .ref m36, .ref m37, .ref m38, .ref m39, .int 0, .ref m40, .int 0, .ref m41])), (m40, .inl (ax 4, 6, .inr (.inl (fun _ => 0))))] sz)) ((va_Ql (fun (r : Int64) (u : Nat → Nat) => r = 0) (xb D (va_A [(m0, .inr (11, [.int 0, .int 0, .ref m1, .int 0, .int 0, .ref m2, .int 0, .int 0, .int 0, .int 0, .int 0, .ref m42, .ref m3, .ref m4, .int 0, .int 0, .ref m5, .ref m6, .ref m7, .ref m8, .ref m9, .ref m10, .ref m11, .ref m12, .ref m13, .ref m14, .ref m15, .ref m16, .ref m17, .ref m18, .ref m19, .int 0, .ref m20, .int 0, .ref m21, .int 0, .int 0, .int 0, .int 0, .int 0, .int 0, .int 0, .ref m22, .int 0, .int 0, .ref m23, .ref m24, .ref m25, .ref m26, .int 0, .ref m27, .int 0, .ref m28, .int 0, .ref m29, .ref m30, .int (-1), .int 0, .int 0, .ref m31, .ref m32, .ref m33, .ref m34, .ref m35, .ref m36, .ref m37, .ref m38, .ref m39, .int 0, .ref m40, .int 0, .ref m41])), (m40, .inl (ax 4, 6, .inr (.inl (fun _ => 0))))] sz) (fun u => [(m0, .inr (11, [.int 0, .int 0, .ref m1, .int 0, .int 0, .ref m2, .int 0, .int 0, .int 0, .int 0, .int 0, .ref m42, .ref m3, .ref m4, .int 0, .int 0, .ref m5, .ref m6, .ref m7, .ref m8, .ref m9, .ref m10, .ref m11, .ref m12, .ref m13, .ref m14, .ref m15, .ref m16, .ref m17, .ref m18, .ref m19, .int 0, .ref m20, .int 0, .ref m21, .int 0, .int 0, .int 0, .int 0, .int 0, .int 0, .int 0, .ref m22, .int 0, .int 0, .ref m23, .ref m24, .ref m25, .ref m26, .int 0, .ref m27, .int 0, .ref m28, .int 0, .ref m29, .ref m30, .int (-1), .int 0, .int 0, .ref m31, .ref m32, .ref m33, .ref m34, .ref m35, .ref m36, .ref m37, .ref m38, .ref m39, .int 0, .ref m40, .int 0, .ref m41])), (m40, .inl (ax 4, 6, .inr (.inl (fun _ => 0))))])) (va_A [(m0, .inr (11, [.int 0, .int 0, .ref m1, .int 0, .int 0, .ref m2, .int 0, .int 0, .int 0, .int 0, .int 0, .ref m42, .ref m3, .ref m4, .int 0, .int 0, .ref m5, .ref m6, .ref m7, .ref m8, .ref m9, .ref m10, .ref m11, .ref m12, .ref m13, .ref m14, .ref m15, .ref m16, .ref m17, .ref m18, .ref m19, .int 0, .ref m20, .int 0, .ref m21, .int 0, .int 0, .int 0, .int 0, .int 0, .int 0, .int 0, .ref m22, .int 0, .int 0, .ref m23, .ref m24, .ref m25, .ref m26, .int 0, .ref m27, .int 0, .ref m28, .int 0, .ref m29, .ref m30, .int (-1), .int 0, .int 0, .ref m31, .ref m32, .ref m33, .ref m34, .ref m35, .ref m36, .ref m37, .ref m38, .ref m39, .int 0, .ref m40, .int 0, .ref m41])), (m40, .inl (ax 4, 6, .inr (.inl (fun _ => 0))))] sz))) 0 0 (va_A [(m0, .inr (11, [.int 0, .int 0, .ref m1, .int 0, .int 0, .ref m2, .int 0, .int 0, .int 0, .int 0, .int 0, .ref m42, .ref m3, .ref m4, .int 0, .int 0, .ref m5, .ref m6, .ref m7, .ref m8, .ref m9, .ref m10, .ref m11, .ref m12, .ref m13, .ref m14, .ref m15, .ref m16, .ref m17, .ref m18, .ref m19, .int 0, .ref m20, .int 0, .ref m21, .int 0, .int 0, .int 0, .int 0, .int 0, .int 0, .int 0, .ref m22, .int 0, .int 0, .ref m23, .ref m24, .ref m25, .ref m26, .int 0, .ref m27, .int 0, .ref m28, .int 0, .ref m29, .ref m30, .int (-1), .int 0, .int 0, .ref m31, .ref m32, .ref m33, .ref m34, .ref m35, .ref m36, .ref m37, .ref m38, .ref m39, .int 0, .ref m40, .int 0, .ref m41])), (m40, .inl (ax 4, 6, .inr (.inl (fun _ => 0))))] sz) := by
  refine Met.ofW (cc := b_Model_value) (maxL := 2) (ret := (some .long)) (by decide) rfl ?_
  intro p e s m args below meth c s₁ B hml hv
  obtain ⟨rfl, hsz, hP, hK, hD0⟩ := hv
  have hx := B.exec
  have hb := B.bytes
  have hr := B.returns
  have hts := xw_hts B.pre
  have hown : s.vm.findClass R_Model = some m.cls := findClass_of_methodNamed B.named
  have hlocks := B.notSynchronized
  subst hsz
  have hD := hD0.self (sz := s.heap.size)
  have hN := xz_entry hP
  generalize hAe : va_A [(m0, .inr (11, [.int 0, .int 0, .ref m1, .int 0, .int 0, .ref m2, .int 0, .int 0, .int 0, .int 0, .int 0, .ref m42, .ref m3, .ref m4, .int 0, .int 0, .ref m5, .ref m6, .ref m7, .ref m8, .ref m9, .ref m10, .ref m11, .ref m12, .ref m13, .ref m14, .ref m15, .ref m16, .ref m17, .ref m18, .ref m19, .int 0, .ref m20, .int 0, .ref m21, .int 0, .int 0, .int 0, .int 0, .int 0, .int 0, .int 0, .ref m22, .int 0, .int 0, .ref m23, .ref m24, .ref m25, .ref m26, .int 0, .ref m27, .int 0, .ref m28, .int 0, .ref m29, .ref m30, .int (-1), .int 0, .int 0, .ref m31, .ref m32, .ref m33, .ref m34, .ref m35, .ref m36, .ref m37, .ref m38, .ref m39, .int 0, .ref m40, .int 0, .ref m41])), (m40, .inl (ax 4, 6, .inr (.inl (fun _ => 0))))] s.heap.size = A at hD hN ⊢
  have hA : ∀ q : Nat, s.heap.size ≤ q → A q := fun q h => by rw [← hAe]; exact Or.inr h
  have hS : va_S A s.heap s.heap [] := va_S.rf
  have hl0 := lv_entry ([.ref m0, .int 0]) (n := 2) (Nat.le_of_ble_eq_true rfl)
  rw [lg_entry_eq]
  generalize (lg_sl ([.ref m0, .int 0]) ++ List.replicate (2 - (lg_sl ([.ref m0, .int 0])).length) Slot.unset).toArray = ls at hl0 ⊢
  have hl1 : lv_has ls 2 [(0, .ref m0), (1, .int 0)] := hl0
  refine lv_aload_n hx hb d_Model_value_0 rfl (lv_at hl1 0 rfl) ?_
  refine lv_iload_n hx hb d_Model_value_1 rfl (lv_at hl1 1 rfl) ?_
  refine lv_if_lt (tgt := 10) hx hb d_Model_value_2 (by decide) (fun c_1 => ?_) (fun c_1 => ?_)
  · first | exact absurd c_1 (by decide) | exact absurd (by decide) c_1
  refine lv_iload_n hx hb d_Model_value_5 rfl (lv_at hl1 1 rfl) ?_
  refine lv_iconst (v := 5) hx hb d_Model_value_6 (by decide) ?_
  refine lv_icmp_le (tgt := 14) hx hb d_Model_value_7 (by decide) (fun c_2 => ?_) (fun c_2 => ?_)
  rotate_left
  · first | exact absurd c_2 (by decide) | exact absurd (by decide) c_2
  refine lv_iconst (v := 0) hx hb d_Model_value_14 (by decide) ?_
  refine va_put (D := D) (ci := 11) (v := .int 0) (ty := .int) (C := R_Model) (T := F_Model) (N := 72) hx hb hts i_Model t_Model t_Model_ok n_Model hown hK.1 hP hD hS 0 rfl rfl 0 (by decide) (hts _ wd_1036) (fun _ h9 => h9) rfl (by decide +kernel) rfl rfl (Nat.le_of_ble_eq_true rfl) d_Model_value_15 (fun H_3 locs hP hD hS => ?_)
  have hP : va_P D classes [(m0, .inr (11, [.int 0, .int 0, .ref m1, .int 0, .int 0, .ref m2, .int 0, .int 0, .int 0, .int 0, .int 0, .ref m42, .ref m3, .ref m4, .int 0, .int 0, .ref m5, .ref m6, .ref m7, .ref m8, .ref m9, .ref m10, .ref m11, .ref m12, .ref m13, .ref m14, .ref m15, .ref m16, .ref m17, .ref m18, .ref m19, .int 0, .ref m20, .int 0, .ref m21, .int 0, .int 0, .int 0, .int 0, .int 0, .int 0, .int 0, .ref m22, .int 0, .int 0, .ref m23, .ref m24, .ref m25, .ref m26, .int 0, .ref m27, .int 0, .ref m28, .int 0, .ref m29, .ref m30, .int (-1), .int 0, .int 0, .ref m31, .ref m32, .ref m33, .ref m34, .ref m35, .ref m36, .ref m37, .ref m38, .ref m39, .int 0, .ref m40, .int 0, .ref m41])), (m40, .inl (ax 4, 6, .inr (.inl (fun _ => 0))))] H_3 := hP
  have hD : va_D A [(m0, .inr (11, [.int 0, .int 0, .ref m1, .int 0, .int 0, .ref m2, .int 0, .int 0, .int 0, .int 0, .int 0, .ref m42, .ref m3, .ref m4, .int 0, .int 0, .ref m5, .ref m6, .ref m7, .ref m8, .ref m9, .ref m10, .ref m11, .ref m12, .ref m13, .ref m14, .ref m15, .ref m16, .ref m17, .ref m18, .ref m19, .int 0, .ref m20, .int 0, .ref m21, .int 0, .int 0, .int 0, .int 0, .int 0, .int 0, .int 0, .ref m22, .int 0, .int 0, .ref m23, .ref m24, .ref m25, .ref m26, .int 0, .ref m27, .int 0, .ref m28, .int 0, .ref m29, .ref m30, .int (-1), .int 0, .int 0, .ref m31, .ref m32, .ref m33, .ref m34, .ref m35, .ref m36, .ref m37, .ref m38, .ref m39, .int 0, .ref m40, .int 0, .ref m41])), (m40, .inl (ax 4, 6, .inr (.inl (fun _ => 0))))] := hD
  refine lv_aload_n hx hb d_Model_value_18 rfl (lv_at hl1 0 rfl) ?_
  refine va_get (D := D) (ci := 11) (v := .int 0) (C := R_Model) (T := F_Model) (N := 72) hx hb hts i_Model hown hK.1 hP 0 rfl rfl 0 (by decide) (hts _ wd_1036) (fun _ h9 => h9) rfl d_Model_value_19 ?_
  refine lv_if_le (tgt := 29) hx hb d_Model_value_22 (by decide) (fun c_4 => ?_) (fun c_4 => ?_)
  rotate_left
  · first | exact absurd c_4 (by decide) | exact absurd (by decide) c_4
  refine lv_aload_n hx hb d_Model_value_29 rfl (lv_at hl1 0 rfl) ?_
  refine va_get (D := D) (ci := 11) (v := .ref m40) (C := R_Model) (T := F_Model) (N := 72) hx hb hts i_Model hown hK.1 hP 0 rfl rfl 69 (by decide) (hts _ wd_1105) (fun _ h9 => h9) rfl d_Model_value_30 ?_
  refine lv_iload_n hx hb d_Model_value_33 rfl (lv_at hl1 1 rfl) ?_
  refine va_lald hx hb hK.1 hP 1 4 rfl rfl (by unfold vp_in; decide) d_Model_value_34 ?_
  refine lv_topl (fun z_5 ez_5 => ?_)
  have ez_5 : z_5 = 0 := ez_5.trans (by first | rfl | decide)
  subst ez_5
  have hP9 := hP.sub (ws' := (fun u : Nat → Nat => [(m0, .inr (11, [.int 0, .int 0, .ref m1, .int 0, .int 0, .ref m2, .int 0, .int 0, .int 0, .int 0, .int 0, .ref m42, .ref m3, .ref m4, .int 0, .int 0, .ref m5, .ref m6, .ref m7, .ref m8, .ref m9, .ref m10, .ref m11, .ref m12, .ref m13, .ref m14, .ref m15, .ref m16, .ref m17, .ref m18, .ref m19, .int 0, .ref m20, .int 0, .ref m21, .int 0, .int 0, .int 0, .int 0, .int 0, .int 0, .int 0, .ref m22, .int 0, .int 0, .ref m23, .ref m24, .ref m25, .ref m26, .int 0, .ref m27, .int 0, .ref m28, .int 0, .ref m29, .ref m30, .int (-1), .int 0, .int 0, .ref m31, .ref m32, .ref m33, .ref m34, .ref m35, .ref m36, .ref m37, .ref m38, .ref m39, .int 0, .ref m40, .int 0, .ref m41])), (m40, .inl (ax 4, 6, .inr (.inl (fun _ => 0))))]) (ixn [])) [0, 1] rfl
  have hD9 := hD.sub (ws' := (fun u : Nat → Nat => [(m0, .inr (11, [.int 0, .int 0, .ref m1, .int 0, .int 0, .ref m2, .int 0, .int 0, .int 0, .int 0, .int 0, .ref m42, .ref m3, .ref m4, .int 0, .int 0, .ref m5, .ref m6, .ref m7, .ref m8, .ref m9, .ref m10, .ref m11, .ref m12, .ref m13, .ref m14, .ref m15, .ref m16, .ref m17, .ref m18, .ref m19, .int 0, .ref m20, .int 0, .ref m21, .int 0, .int 0, .int 0, .int 0, .int 0, .int 0, .int 0, .ref m22, .int 0, .int 0, .ref m23, .ref m24, .ref m25, .ref m26, .int 0, .ref m27, .int 0, .ref m28, .int 0, .ref m29, .ref m30, .int (-1), .int 0, .int 0, .ref m31, .ref m32, .ref m33, .ref m34, .ref m35, .ref m36, .ref m37, .ref m38, .ref m39, .int 0, .ref m40, .int 0, .ref m41])), (m40, .inl (ax 4, 6, .inr (.inl (fun _ => 0))))]) (ixn [])) [0, 1] (by decide) rfl
  exact W.lret (v := 0) hx hb hr (fun t ht hW => ⟨⟨0, ixn [], rfl, rfl, ⟨by rw [ht]; exact hP9, hD9⟩⟩, hS.F ht⟩) hS.2.2 d_Model_value_35
set_option maxHeartbeats 4000000 in
set_option maxRecDepth 100000 in
theorem c_Model_start_1 (l : Launch) (D : va_G) (ax : Nat → ClassId) (m0 m1 m2 m3 m4 m5 m6 m7 m8 m9 m10 m11 m12 m13 m14 m15 m16 m17 m18 m19 m20 m21 m22 m23 m24 m25 m26 m27 m28 m29 m30 m31 m32 m33 m34 m35 m36 m37 m38 m39 m40 m41 m42 : Nat) (x2 : Int32) (sz : Nat) : Met l y_Model_start (xws (.code y_Model_start b_Model_start 3 none)) ({ frames := 10, cells := 0, slots := 0, locals := 400 }) (va_Pc [.ref m0, .int 1, .int x2] (xo D ax [(m0, .inr (11, [.int 0, .int 0, .ref m1, .int 0, .int 0, .ref m2, .int 0, .int 0, .int 0, .int 0, .int 0, .ref m42, .ref m3, .ref m4, .int 0, .int 0, .ref m5, .ref m6, .ref m7, .ref m8, .ref m9, .ref m10, .ref m11, .ref m12, .ref m13, .ref m14, .ref m15, .ref m16, .ref m17, .ref m18, .ref m19, .int 0, .ref m20, .int 0, .ref m21, .int 0, .int 0, .int 0, .int 0, .int 0, .int 0, .int 0, .ref m22, .int 0, .int 0, .ref m23, .ref m24, .ref m25, .ref m26, .int 0, .ref m27, .int 0, .ref m28, .int 0, .ref m29, .ref m30, .int (-1), .int 0, .int 0, .ref m31, .ref m32, .ref m33, .ref m34, .ref m35, .ref m36, .ref m37, .ref m38, .ref m39, .int 0, .ref m40, .int 0, .ref m41])), (m40, .inl (ax 4, 6, .inr (.inl (fun _ => 0))))] sz)) ((va_Qv (fun (u : Nat → Nat) => True) (xb D (va_A [(m0, .inr (11, [.int 0, .int 0, .ref m1, .int 0, .int 0, .ref m2, .int 0, .int 0, .int 0, .int 0, .int 0, .ref m42, .ref m3, .ref m4, .int 0, .int 0, .ref m5, .ref m6, .ref m7, .ref m8, .ref m9, .ref m10, .ref m11, .ref m12, .ref m13, .ref m14, .ref m15, .ref m16, .ref m17, .ref m18, .ref m19, .int 0, .ref m20, .int 0, .ref m21, .int 0, .int 0, .int 0, .int 0, .int 0, .int 0, .int 0, .ref m22, .int 0, .int 0, .ref m23, .ref m24, .ref m25, .ref m26, .int 0, .ref m27, .int 0, .ref m28, .int 0, .ref m29, .ref m30, .int (-1), .int 0, .int 0, .ref m31, .ref m32, .ref m33, .ref m34, .ref m35, .ref m36, .ref m37, .ref m38, .ref m39, .int 0, .ref m40, .int 0, .ref m41])), (m40, .inl (ax 4, 6, .inr (.inl (fun _ => 0))))] sz) (fun u => [(m0, .inr (11, [.int 0, .int 0, .ref m1, .int 0, .int 0, .ref m2, .int 0, .int 0, .int 0, .int 0, .int 0, .ref m42, .ref m3, .ref m4, .int 0, .int 0, .ref m5, .ref m6, .ref m7, .ref m8, .ref m9, .ref m10, .ref m11, .ref m12, .ref m13, .ref m14, .ref m15, .ref m16, .ref m17, .ref m18, .ref m19, .int 0, .ref m20, .int 0, .ref m21, .int 0, .int 0, .int 0, .int 0, .int 0, .int 0, .int 0, .ref m22, .int 0, .int 0, .ref m23, .ref m24, .ref m25, .ref m26, .int 0, .ref m27, .int 0, .ref m28, .int 0, .ref m29, .ref m30, .int (-1), .int 0, .int 0, .ref m31, .ref m32, .ref m33, .ref m34, .ref m35, .ref m36, .ref m37, .ref m38, .ref m39, .int 0, .ref m40, .int 0, .ref m41]))])) (va_A [(m0, .inr (11, [.int 0, .int 0, .ref m1, .int 0, .int 0, .ref m2, .int 0, .int 0, .int 0, .int 0, .int 0, .ref m42, .ref m3, .ref m4, .int 0, .int 0, .ref m5, .ref m6, .ref m7, .ref m8, .ref m9, .ref m10, .ref m11, .ref m12, .ref m13, .ref m14, .ref m15, .ref m16, .ref m17, .ref m18, .ref m19, .int 0, .ref m20, .int 0, .ref m21, .int 0, .int 0, .int 0, .int 0, .int 0, .int 0, .int 0, .ref m22, .int 0, .int 0, .ref m23, .ref m24, .ref m25, .ref m26, .int 0, .ref m27, .int 0, .ref m28, .int 0, .ref m29, .ref m30, .int (-1), .int 0, .int 0, .ref m31, .ref m32, .ref m33, .ref m34, .ref m35, .ref m36, .ref m37, .ref m38, .ref m39, .int 0, .ref m40, .int 0, .ref m41])), (m40, .inl (ax 4, 6, .inr (.inl (fun _ => 0))))] sz))) 0 0 (va_A [(m0, .inr (11, [.int 0, .int 0, .ref m1, .int 0, .int 0, .ref m2, .int 0, .int 0, .int 0, .int 0, .int 0, .ref m42, .ref m3, .ref m4, .int 0, .int 0, .ref m5, .ref m6, .ref m7, .ref m8, .ref m9, .ref m10, .ref m11, .ref m12, .ref m13, .ref m14, .ref m15, .ref m16, .ref m17, .ref m18, .ref m19, .int 0, .ref m20, .int 0, .ref m21, .int 0, .int 0, .int 0, .int 0, .int 0, .int 0, .int 0, .ref m22, .int 0, .int 0, .ref m23, .ref m24, .ref m25, .ref m26, .int 0, .ref m27, .int 0, .ref m28, .int 0, .ref m29, .ref m30, .int (-1), .int 0, .int 0, .ref m31, .ref m32, .ref m33, .ref m34, .ref m35, .ref m36, .ref m37, .ref m38, .ref m39, .int 0, .ref m40, .int 0, .ref m41])), (m40, .inl (ax 4, 6, .inr (.inl (fun _ => 0))))] sz) := by
  refine Met.ofW (cc := b_Model_start) (maxL := 3) (ret := none) (by decide) rfl ?_
  intro p e s m args below meth c s₁ B hml hv
  obtain ⟨rfl, hsz, hP, hK, hD0⟩ := hv
  have hx := B.exec
  have hb := B.bytes
  have hr := B.returns
  have hts := xw_hts B.pre
  have hown : s.vm.findClass R_Model = some m.cls := findClass_of_methodNamed B.named
  have hlocks := B.notSynchronized
  subst hsz
  have hD := hD0.self (sz := s.heap.size)
  have hN := xz_entry hP
  generalize hAe : va_A [(m0, .inr (11, [.int 0, .int 0, .ref m1, .int 0, .int 0, .ref m2, .int 0, .int 0, .int 0, .int 0, .int 0, .ref m42, .ref m3, .ref m4, .int 0, .int 0, .ref m5, .ref m6, .ref m7, .ref m8, .ref m9, .ref m10, .ref m11, .ref m12, .ref m13, .ref m14, .ref m15, .ref m16, .ref m17, .ref m18, .ref m19, .int 0, .ref m20, .int 0, .ref m21, .int 0, .int 0, .int 0, .int 0, .int 0, .int 0, .int 0, .ref m22, .int 0, .int 0, .ref m23, .ref m24, .ref m25, .ref m26, .int 0, .ref m27, .int 0, .ref m28, .int 0, .ref m29, .ref m30, .int (-1), .int 0, .int 0, .ref m31, .ref m32, .ref m33, .ref m34, .ref m35, .ref m36, .ref m37, .ref m38, .ref m39, .int 0, .ref m40, .int 0, .ref m41])), (m40, .inl (ax 4, 6, .inr (.inl (fun _ => 0))))] s.heap.size = A at hD hN ⊢
  have hA : ∀ q : Nat, s.heap.size ≤ q → A q := fun q h => by rw [← hAe]; exact Or.inr h
  have hS : va_S A s.heap s.heap [] := va_S.rf
  have hl0 := lv_entry ([.ref m0, .int 1, .int x2]) (n := 3) (Nat.le_of_ble_eq_true rfl)
  rw [lg_entry_eq]
  generalize (lg_sl ([.ref m0, .int 1, .int x2]) ++ List.replicate (3 - (lg_sl ([.ref m0, .int 1, .int x2])).length) Slot.unset).toArray = ls at hl0 ⊢
  have hl1 : lv_has ls 3 [(0, .ref m0), (1, .int 1), (2, .int x2)] := hl0
  refine lv_aload_n hx hb d_Model_start_0 rfl (lv_at hl1 0 rfl) ?_
  refine lv_iload_n hx hb d_Model_start_1 rfl (lv_at hl1 1 rfl) ?_
  refine lv_if_lt (tgt := 10) hx hb d_Model_start_2 (by decide) (fun c_1 => ?_) (fun c_1 => ?_)
  · first | exact absurd c_1 (by decide) | exact absurd (by decide) c_1
  refine lv_iload_n hx hb d_Model_start_5 rfl (lv_at hl1 1 rfl) ?_
  refine lv_iconst (v := 5) hx hb d_Model_start_6 (by decide) ?_
  refine lv_icmp_le (tgt := 14) hx hb d_Model_start_7 (by decide) (fun c_2 => ?_) (fun c_2 => ?_)
  rotate_left
  · first | exact absurd c_2 (by decide) | exact absurd (by decide) c_2
  refine lv_iconst (v := 0) hx hb d_Model_start_14 (by decide) ?_
  refine va_put (D := D) (ci := 11) (v := .int 0) (ty := .int) (C := R_Model) (T := F_Model) (N := 72) hx hb hts i_Model t_Model t_Model_ok n_Model hown hK.1 hP hD hS 0 rfl rfl 0 (by decide) (hts _ wd_1036) (fun _ h9 => h9) rfl (by decide +kernel) rfl rfl (Nat.le_of_ble_eq_true rfl) d_Model_start_15 (fun H_3 locs hP hD hS => ?_)
  have hP : va_P D classes [(m0, .inr (11, [.int 0, .int 0, .ref m1, .int 0, .int 0, .ref m2, .int 0, .int 0, .int 0, .int 0, .int 0, .ref m42, .ref m3, .ref m4, .int 0, .int 0, .ref m5, .ref m6, .ref m7, .ref m8, .ref m9, .ref m10, .ref m11, .ref m12, .ref m13, .ref m14, .ref m15, .ref m16, .ref m17, .ref m18, .ref m19, .int 0, .ref m20, .int 0, .ref m21, .int 0, .int 0, .int 0, .int 0, .int 0, .int 0, .int 0, .ref m22, .int 0, .int 0, .ref m23, .ref m24, .ref m25, .ref m26, .int 0, .ref m27, .int 0, .ref m28, .int 0, .ref m29, .ref m30, .int (-1), .int 0, .int 0, .ref m31, .ref m32, .ref m33, .ref m34, .ref m35, .ref m36, .ref m37, .ref m38, .ref m39, .int 0, .ref m40, .int 0, .ref m41])), (m40, .inl (ax 4, 6, .inr (.inl (fun _ => 0))))] H_3 := hP
  have hD : va_D A [(m0, .inr (11, [.int 0, .int 0, .ref m1, .int 0, .int 0, .ref m2, .int 0, .int 0, .int 0, .int 0, .int 0, .ref m42, .ref m3, .ref m4, .int 0, .int 0, .ref m5, .ref m6, .ref m7, .ref m8, .ref m9, .ref m10, .ref m11, .ref m12, .ref m13, .ref m14, .ref m15, .ref m16, .ref m17, .ref m18, .ref m19, .int 0, .ref m20, .int 0, .ref m21, .int 0, .int 0, .int 0, .int 0, .int 0, .int 0, .int 0, .ref m22, .int 0, .int 0, .ref m23, .ref m24, .ref m25, .ref m26, .int 0, .ref m27, .int 0, .ref m28, .int 0, .ref m29, .ref m30, .int (-1), .int 0, .int 0, .ref m31, .ref m32, .ref m33, .ref m34, .ref m35, .ref m36, .ref m37, .ref m38, .ref m39, .int 0, .ref m40, .int 0, .ref m41])), (m40, .inl (ax 4, 6, .inr (.inl (fun _ => 0))))] := hD
  refine lv_aload_n hx hb d_Model_start_18 rfl (lv_at hl1 0 rfl) ?_
  refine va_get (D := D) (ci := 11) (v := .int 0) (C := R_Model) (T := F_Model) (N := 72) hx hb hts i_Model hown hK.1 hP 0 rfl rfl 0 (by decide) (hts _ wd_1036) (fun _ h9 => h9) rfl d_Model_start_19 ?_
  refine lv_if_ne (tgt := 33) hx hb d_Model_start_22 (by decide) (fun c_4 => ?_) (fun c_4 => ?_)
  · first | exact absurd c_4 (by decide) | exact absurd (by decide) c_4
  refine lv_aload_n hx hb d_Model_start_25 rfl (lv_at hl1 0 rfl) ?_
  refine va_get (D := D) (ci := 11) (v := .ref m40) (C := R_Model) (T := F_Model) (N := 72) hx hb hts i_Model hown hK.1 hP 0 rfl rfl 69 (by decide) (hts _ wd_1105) (fun _ h9 => h9) rfl d_Model_start_26 ?_
  refine lv_iload_n hx hb d_Model_start_29 rfl (lv_at hl1 1 rfl) ?_
  refine lv_iload_n hx hb d_Model_start_30 rfl (lv_at hl1 2 rfl) ?_
  refine lv_i2l hx hb d_Model_start_31 rfl ?_
  refine lv_topl (fun z_5 ez_5 => ?_)
  refine va_last hx hb hK.1 hP hD hS 1 4 rfl rfl (by unfold vp_in; decide) d_Model_start_32 (fun H_6 locs hP hD hS => ?_)
  have hP : va_P D classes [(m0, .inr (11, [.int 0, .int 0, .ref m1, .int 0, .int 0, .ref m2, .int 0, .int 0, .int 0, .int 0, .int 0, .ref m42, .ref m3, .ref m4, .int 0, .int 0, .ref m5, .ref m6, .ref m7, .ref m8, .ref m9, .ref m10, .ref m11, .ref m12, .ref m13, .ref m14, .ref m15, .ref m16, .ref m17, .ref m18, .ref m19, .int 0, .ref m20, .int 0, .ref m21, .int 0, .int 0, .int 0, .int 0, .int 0, .int 0, .int 0, .ref m22, .int 0, .int 0, .ref m23, .ref m24, .ref m25, .ref m26, .int 0, .ref m27, .int 0, .ref m28, .int 0, .ref m29, .ref m30, .int (-1), .int 0, .int 0, .ref m31, .ref m32, .ref m33, .ref m34, .ref m35, .ref m36, .ref m37, .ref m38, .ref m39, .int 0, .ref m40, .int 0, .ref m41])), (m40, .inl (ax 4, 6, .inr (.inl (vp_updL (fun _ => 0) 1 z_5))))] H_6 := hP
  have hD : va_D A [(m0, .inr (11, [.int 0, .int 0, .ref m1, .int 0, .int 0, .ref m2, .int 0, .int 0, .int 0, .int 0, .int 0, .ref m42, .ref m3, .ref m4, .int 0, .int 0, .ref m5, .ref m6, .ref m7, .ref m8, .ref m9, .ref m10, .ref m11, .ref m12, .ref m13, .ref m14, .ref m15, .ref m16, .ref m17, .ref m18, .ref m19, .int 0, .ref m20, .int 0, .ref m21, .int 0, .int 0, .int 0, .int 0, .int 0, .int 0, .int 0, .ref m22, .int 0, .int 0, .ref m23, .ref m24, .ref m25, .ref m26, .int 0, .ref m27, .int 0, .ref m28, .int 0, .ref m29, .ref m30, .int (-1), .int 0, .int 0, .ref m31, .ref m32, .ref m33, .ref m34, .ref m35, .ref m36, .ref m37, .ref m38, .ref m39, .int 0, .ref m40, .int 0, .ref m41])), (m40, .inl (ax 4, 6, .inr (.inl (vp_updL (fun _ => 0) 1 z_5))))] := hD
  have hP9 := hP.sub (ws' := (fun u : Nat → Nat => [(m0, .inr (11, [.int 0, .int 0, .ref m1, .int 0, .int 0, .ref m2, .int 0, .int 0, .int 0, .int 0, .int 0, .ref m42, .ref m3, .ref m4, .int 0, .int 0, .ref m5, .ref m6, .ref m7, .ref m8, .ref m9, .ref m10, .ref m11, .ref m12, .ref m13, .ref m14, .ref m15, .ref m16, .ref m17, .ref m18, .ref m19, .int 0, .ref m20, .int 0, .ref m21, .int 0, .int 0, .int 0, .int 0, .int 0, .int 0, .int 0, .ref m22, .int 0, .int 0, .ref m23, .ref m24, .ref m25, .ref m26, .int 0, .ref m27, .int 0, .ref m28, .int 0, .ref m29, .ref m30, .int (-1), .int 0, .int 0, .ref m31, .ref m32, .ref m33, .ref m34, .ref m35, .ref m36, .ref m37, .ref m38, .ref m39, .int 0, .ref m40, .int 0, .ref m41]))]) (ixn [])) [0] rfl
  have hD9 := hD.sub (ws' := (fun u : Nat → Nat => [(m0, .inr (11, [.int 0, .int 0, .ref m1, .int 0, .int 0, .ref m2, .int 0, .int 0, .int 0, .int 0, .int 0, .ref m42, .ref m3, .ref m4, .int 0, .int 0, .ref m5, .ref m6, .ref m7, .ref m8, .ref m9, .ref m10, .ref m11, .ref m12, .ref m13, .ref m14, .ref m15, .ref m16, .ref m17, .ref m18, .ref m19, .int 0, .ref m20, .int 0, .ref m21, .int 0, .int 0, .int 0, .int 0, .int 0, .int 0, .int 0, .ref m22, .int 0, .int 0, .ref m23, .ref m24, .ref m25, .ref m26, .int 0, .ref m27, .int 0, .ref m28, .int 0, .ref m29, .ref m30, .int (-1), .int 0, .int 0, .ref m31, .ref m32, .ref m33, .ref m34, .ref m35, .ref m36, .ref m37, .ref m38, .ref m39, .int 0, .ref m40, .int 0, .ref m41]))]) (ixn [])) [0] (by decide) rfl
  exact W.vret hx hb hr (fun t ht hW => ⟨⟨ixn [], rfl, trivial, ⟨by rw [ht]; exact hP9, hD9⟩⟩, hS.F ht⟩) hS.2.2 d_Model_start_33
set_option maxHeartbeats 4000000 in
set_option maxRecDepth 100000 in
theorem c_Model_value_1 (l : Launch) (D : va_G) (ax : Nat → ClassId) (m0 m1 m2 m3 m4 m5 m6 m7 m8 m9 m10 m11 m12 m13 m14 m15 m16 m17 m18 m19 m20 m21 m22 m23 m24 m25 m26 m27 m28 m29 m30 m31 m32 m33 m34 m35 m36 m37 m38 m39 m40 m41 m42 : Nat) (sz : Nat) : Met l y_Model_value (xws (.code y_Model_value b_Model_value 2 (some .long))) ({ frames := 10, cells := 0, slots := 0, locals := 400 }) (va_Pc [.ref m0, .int 1] (xo D ax [(m0, .inr (11, [.int 0, .int 0, .ref m1, .int 0, .int 0, .ref m2, .int 0, .int 0, .int 0, .int 0, .int 0, .ref m42, .ref m3, .ref m4, .int 0, .int 0, .ref m5, .ref m6, .ref m7, .ref m8, .ref m9, .ref m10, .ref m11, .ref m12, .ref m13, .ref m14, .ref m15, .ref m16, .ref m17, .ref m18, .ref m19, .int 0, .ref m20, .int 0, .ref m21, .int 0, .int 0, .int 0, .int 0, .int 0, .int 0, .int 0, .ref m22, .int 0, .int 0, .ref m23, .ref m24, .ref m25, .ref m26, .int 0, .ref m27, .int 0, .ref m28, .int 0, .ref m29, .ref m30, .int (-1), .int 0, .int 0, .ref m31, .ref m32, .ref m33, .ref m34, .ref m35, .ref m36, .ref m37, .ref m38, .ref m39, .int 0, .ref m40, .int 0, .ref m41])), (m40, .inl (ax 4, 6, .inr (.inl (fun _ => 0))))] sz)) ((va_Ql (fun (r : Int64) (u : Nat → Nat) => r = 0) (xb D (va_A [(m0, .inr (11, [.int 0, .int 0, .ref m1, .int 0, .int 0, .ref m2, .int 0, .int 0, .int 0, .int 0, .int 0, .ref m42, .ref m3, .ref m4, .int 0, .int 0, .ref m5, .ref m6, .ref m7, .ref m8, .ref m9, .ref m10, .ref m11, .ref m12, .ref m13, .ref m14, .ref m15, .ref m16, .ref m17, .ref m18, .ref m19, .int 0, .ref m20, .int 0, .ref m21, .int 0, .int 0, .int 0, .int 0, .int 0, .int 0, .int 0, .ref m22, .int 0, .int 0, .ref m23, .ref m24, .ref m25, .ref m26, .int 0, .ref m27, .int 0, .ref m28, .int 0, .ref m29, .ref m30, .int (-1), .int 0, .int 0, .ref m31, .ref m32, .ref m33, .ref m34, .ref m35, .ref m36, .ref m37, .ref m38, .ref m39, .int 0, .ref m40, .int 0, .ref m41])), (m40, .inl (ax 4, 6, .inr (.inl (fun _ => 0))))] sz) (fun u => [(m0, .inr (11, [.int 0, .int 0, .ref m1, .int 0, .int 0, .ref m2, .int 0, .int 0, .int 0, .int 0, .int 0, .ref m42, .ref m3, .ref m4, .int 0, .int 0, .ref m5, .ref m6, .ref m7, .ref m8, .ref m9, .ref m10, .ref m11, .ref m12, .ref m13, .ref m14, .ref m15, .ref m16, .ref m17, .ref m18, .ref m19, .int 0, .ref m20, .int 0, .ref m21, .int 0, .int 0, .int 0, .int 0, .int 0, .int 0, .int 0, .ref m22, .int 0, .int 0, .ref m23, .ref m24, .ref m25, .ref m26, .int 0, .ref m27, .int 0, .ref m28, .int 0, .ref m29, .ref m30, .int (-1), .int 0, .int 0, .ref m31, .ref m32, .ref m33, .ref m34, .ref m35, .ref m36, .ref m37, .ref m38, .ref m39, .int 0, .ref m40, .int 0, .ref m41])), (m40, .inl (ax 4, 6, .inr (.inl (fun _ => 0))))])) (va_A [(m0, .inr (11, [.int 0, .int 0, .ref m1, .int 0, .int 0, .ref m2, .int 0, .int 0, .int 0, .int 0, .int 0, .ref m42, .ref m3, .ref m4, .int 0, .int 0, .ref m5, .ref m6, .ref m7, .ref m8, .ref m9, .ref m10, .ref m11, .ref m12, .ref m13, .ref m14, .ref m15, .ref m16, .ref m17, .ref m18, .ref m19, .int 0, .ref m20, .int 0, .ref m21, .int 0, .int 0, .int 0, .int 0, .int 0, .int 0, .int 0, .ref m22, .int 0, .int 0, .ref m23, .ref m24, .ref m25, .ref m26, .int 0, .ref m27, .int 0, .ref m28, .int 0, .ref m29, .ref m30, .int (-1), .int 0, .int 0, .ref m31, .ref m32, .ref m33, .ref m34, .ref m35, .ref m36, .ref m37, .ref m38, .ref m39, .int 0, .ref m40, .int 0, .ref m41])), (m40, .inl (ax 4, 6, .inr (.inl (fun _ => 0))))] sz))) 0 0 (va_A [(m0, .inr (11, [.int 0, .int 0, .ref m1, .int 0, .int 0, .ref m2, .int 0, .int 0, .int 0, .int 0, .int 0, .ref m42, .ref m3, .ref m4, .int 0, .int 0, .ref m5, .ref m6, .ref m7, .ref m8, .ref m9, .ref m10, .ref m11, .ref m12, .ref m13, .ref m14, .ref m15, .ref m16, .ref m17, .ref m18, .ref m19, .int 0, .ref m20, .int 0, .ref m21, .int 0, .int 0, .int 0, .int 0, .int 0, .int 0, .int 0, .ref m22, .int 0, .int 0, .ref m23, .ref m24, .ref m25, .ref m26, .int 0, .ref m27, .int 0, .ref m28, .int 0, .ref m29, .ref m30, .int (-1), .int 0, .int 0, .ref m31, .ref m32, .ref m33, .ref m34, .ref m35, .ref m36, .ref m37, .ref m38, .ref m39, .int 0, .ref m40, .int 0, .ref m41])), (m40, .inl (ax 4, 6, .inr (.inl (fun _ => 0))))] sz) := by
  refine Met.ofW (cc := b_Model_value) (maxL := 2) (ret := (some .long)) (by decide) rfl ?_
  intro p e s m args below meth c s₁ B hml hv
  obtain ⟨rfl, hsz, hP, hK, hD0⟩ := hv
  have hx := B.exec
  have hb := B.bytes
  have hr := B.returns
  have hts := xw_hts B.pre
  have hown : s.vm.findClass R_Model = some m.cls := findClass_of_methodNamed B.named
  have hlocks := B.notSynchronized
  subst hsz
  have hD := hD0.self (sz := s.heap.size)
  have hN := xz_entry hP
  generalize hAe : va_A [(m0, .inr (11, [.int 0, .int 0, .ref m1, .int 0, .int 0, .ref m2, .int 0, .int 0, .int 0, .int 0, .int 0, .ref m42, .ref m3, .ref m4, .int 0, .int 0, .ref m5, .ref m6, .ref m7, .ref m8, .ref m9, .ref m10, .ref m11, .ref m12, .ref m13, .ref m14, .ref m15, .ref m16, .ref m17, .ref m18, .ref m19, .int 0, .ref m20, .int 0, .ref m21, .int 0, .int 0, .int 0, .int 0, .int 0, .int 0, .int 0, .ref m22, .int 0, .int 0, .ref m23, .ref m24, .ref m25, .ref m26, .int 0, .ref m27, .int 0, .ref m28, .int 0, .ref m29, .ref m30, .int (-1), .int 0, .int 0, .ref m31, .ref m32, .ref m33, .ref m34, .ref m35, .ref m36, .ref m37, .ref m38, .ref m39, .int 0, .ref m40, .int 0, .ref m41])), (m40, .inl (ax 4, 6, .inr (.inl (fun _ => 0))))] s.heap.size = A at hD hN ⊢
  have hA : ∀ q : Nat, s.heap.size ≤ q → A q := fun q h => by rw [← hAe]; exact Or.inr h
  have hS : va_S A s.heap s.heap [] := va_S.rf
  have hl0 := lv_entry ([.ref m0, .int 1]) (n := 2) (Nat.le_of_ble_eq_true rfl)
  rw [lg_entry_eq]
  generalize (lg_sl ([.ref m0, .int 1]) ++ List.replicate (2 - (lg_sl ([.ref m0, .int 1])).length) Slot.unset).toArray = ls at hl0 ⊢
  have hl1 : lv_has ls 2 [(0, .ref m0), (1, .int 1)] := hl0
  refine lv_aload_n hx hb d_Model_value_0 rfl (lv_at hl1 0 rfl) ?_
  refine lv_iload_n hx hb d_Model_value_1 rfl (lv_at hl1 1 rfl) ?_
  refine lv_if_lt (tgt := 10) hx hb d_Model_value_2 (by decide) (fun c_1 => ?_) (fun c_1 => ?_)
  · first | exact absurd c_1 (by decide) | exact absurd (by decide) c_1
  refine lv_iload_n hx hb d_Model_value_5 rfl (lv_at hl1 1 rfl) ?_
  refine lv_iconst (v := 5) hx hb d_Model_value_6 (by decide) ?_
  refine lv_icmp_le (tgt := 14) hx hb d_Model_value_7 (by decide) (fun c_2 => ?_) (fun c_2 => ?_)
  rotate_left
  · first | exact absurd c_2 (by decide) | exact absurd (by decide) c_2
  refine lv_iconst (v := 0) hx hb d_Model_value_14 (by decide) ?_
  refine va_put (D := D) (ci := 11) (v := .int 0) (ty := .int) (C := R_Model) (T := F_Model) (N := 72) hx hb hts i_Model t_Model t_Model_ok n_Model hown hK.1 hP hD hS 0 rfl rfl 0 (by decide) (hts _ wd_1036) (fun _ h9 => h9) rfl (by decide +kernel) rfl rfl (Nat.le_of_ble_eq_true rfl) d_Model_value_15 (fun H_3 locs hP hD hS => ?_)
  have hP : va_P D classes [(m0, .inr (11, [.int 0, .int 0, .ref m1, .int 0, .int 0, .ref m2, .int 0, .int 0, .int 0, .int 0, .int 0, .ref m42, .ref m3, .ref m4, .int 0, .int 0, .ref m5, .ref m6, .ref m7, .ref m8, .ref m9, .ref m10, .ref m11, .ref m12, .ref m13, .ref m14, .ref m15, .ref m16, .ref m17, .ref m18, .ref m19, .int 0, .ref m20, .int 0, .ref m21, .int 0, .int 0, .int 0, .int 0, .int 0, .int 0, .int 0, .ref m22, .int 0, .int 0, .ref m23, .ref m24, .ref m25, .ref m26, .int 0, .ref m27, .int 0, .ref m28, .int 0, .ref m29, .ref m30, .int (-1), .int 0, .int 0, .ref m31, .ref m32, .ref m33, .ref m34, .ref m35, .ref m36, .ref m37, .ref m38, .ref m39, .int 0, .ref m40, .int 0, .ref m41])), (m40, .inl (ax 4, 6, .inr (.inl (fun _ => 0))))] H_3 := hP
  have hD : va_D A [(m0, .inr (11, [.int 0, .int 0, .ref m1, .int 0, .int 0, .ref m2, .int 0, .int 0, .int 0, .int 0, .int 0, .ref m42, .ref m3, .ref m4, .int 0, .int 0, .ref m5, .ref m6, .ref m7, .ref m8, .ref m9, .ref m10, .ref m11, .ref m12, .ref m13, .ref m14, .ref m15, .ref m16, .ref m17, .ref m18, .ref m19, .int 0, .ref m20, .int 0, .ref m21, .int 0, .int 0, .int 0, .int 0, .int 0, .int 0, .int 0, .ref m22, .int 0, .int 0, .ref m23, .ref m24, .ref m25, .ref m26, .int 0, .ref m27, .int 0, .ref m28, .int 0, .ref m29, .ref m30, .int (-1), .int 0, .int 0, .ref m31, .ref m32, .ref m33, .ref m34, .ref m35, .ref m36, .ref m37, .ref m38, .ref m39, .int 0, .ref m40, .int 0, .ref m41])), (m40, .inl (ax 4, 6, .inr (.inl (fun _ => 0))))] := hD
  refine lv_aload_n hx hb d_Model_value_18 rfl (lv_at hl1 0 rfl) ?_
  refine va_get (D := D) (ci := 11) (v := .int 0) (C := R_Model) (T := F_Model) (N := 72) hx hb hts i_Model hown hK.1 hP 0 rfl rfl 0 (by decide) (hts _ wd_1036) (fun _ h9 => h9) rfl d_Model_value_19 ?_
  refine lv_if_le (tgt := 29) hx hb d_Model_value_22 (by decide) (fun c_4 => ?_) (fun c_4 => ?_)
  rotate_left
  · first | exact absurd c_4 (by decide) | exact absurd (by decide) c_4
  refine lv_aload_n hx hb d_Model_value_29 rfl (lv_at hl1 0 rfl) ?_
  refine va_get (D := D) (ci := 11) (v := .ref m40) (C := R_Model) (T := F_Model) (N := 72) hx hb hts i_Model hown hK.1 hP 0 rfl rfl 69 (by decide) (hts _ wd_1105) (fun _ h9 => h9) rfl d_Model_value_30 ?_
  refine lv_iload_n hx hb d_Model_value_33 rfl (lv_at hl1 1 rfl) ?_
  refine va_lald hx hb hK.1 hP 1 4 rfl rfl (by unfold vp_in; decide) d_Model_value_34 ?_
  refine lv_topl (fun z_5 ez_5 => ?_)
  have ez_5 : z_5 = 0 := ez_5.trans (by first | rfl | decide)
  subst ez_5
  have hP9 := hP.sub (ws' := (fun u : Nat → Nat => [(m0, .inr (11, [.int 0, .int 0, .ref m1, .int 0, .int 0, .ref m2, .int 0, .int 0, .int 0, .int 0, .int 0, .ref m42, .ref m3, .ref m4, .int 0, .int 0, .ref m5, .ref m6, .ref m7, .ref m8, .ref m9, .ref m10, .ref m11, .ref m12, .ref m13, .ref m14, .ref m15, .ref m16, .ref m17, .ref m18, .ref m19, .int 0, .ref m20, .int 0, .ref m21, .int 0, .int 0, .int 0, .int 0, .int 0, .int 0, .int 0, .ref m22, .int 0, .int 0, .ref m23, .ref m24, .ref m25, .ref m26, .int 0, .ref m27, .int 0, .ref m28, .int 0, .ref m29, .ref m30, .int (-1), .int 0, .int 0, .ref m31, .ref m32, .ref m33, .ref m34, .ref m35, .ref m36, .ref m37, .ref m38, .ref m39, .int 0, .ref m40, .int 0, .ref m41])), (m40, .inl (ax 4, 6, .inr (.inl (fun _ => 0))))]) (ixn [])) [0, 1] rfl
  have hD9 := hD.sub (ws' := (fun u : Nat → Nat => [(m0, .inr (11, [.int 0, .int 0, .ref m1, .int 0, .int 0, .ref m2, .int 0, .int 0, .int 0, .int 0, .int 0, .ref m42, .ref m3, .ref m4, .int 0, .int 0, .ref m5, .ref m6, .ref m7, .ref m8, .ref m9, .ref m10, .ref m11, .ref m12, .ref m13, .ref m14, .ref m15, .ref m16, .ref m17, .ref m18, .ref m19, .int 0, .ref m20, .int 0, .ref m21, .int 0, .int 0, .int 0, .int 0, .int 0, .int 0, .int 0, .ref m22, .int 0, .int 0, .ref m23, .ref m24, .ref m25, .ref m26, .int 0, .ref m27, .int 0, .ref m28, .int 0, .ref m29, .ref m30, .int (-1), .int 0, .int 0, .ref m31, .ref m32, .ref m33, .ref m34, .ref m35, .ref m36, .ref m37, .ref m38, .ref m39, .int 0, .ref m40, .int 0, .ref m41])), (m40, .inl (ax 4, 6, .inr (.inl (fun _ => 0))))]) (ixn [])) [0, 1] (by decide) rfl
  exact W.lret (v := 0) hx hb hr (fun t ht hW => ⟨⟨0, ixn [], rfl, rfl, ⟨by rw [ht]; exact hP9, hD9⟩⟩, hS.F ht⟩) hS.2.2 d_Model_value_35
set_option maxHeartbeats 4000000 in
set_option maxRecDepth 100000 in
theorem c_Model_start_2 (l : Launch) (D : va_G) (ax : Nat → ClassId) (m0 m1 m2 m3 m4 m5 m6 m7 m8 m9 m10 m11 m12 m13 m14 m15 m16 m17 m18 m19 m20 m21 m22 m23 m24 m25 m26 m27 m28 m29 m30 m31 m32 m33 m34 m35 m36 m37 m38 m39 m40 m41 m42 : Nat) (x2 : Int32) (sz : Nat) : Met l y_Model_start (xws (.code y_Model_start b_Model_start 3 none)) ({ frames := 10, cells := 0, slots := 0, locals := 400 }) (va_Pc [.ref m0, .int 2, .int x2] (xo D ax [(m0, .inr (11, [.int 0, .int 0, .ref m1, .int 0, .int 0, .ref m2, .int 0, .int 0, .int 0, .int 0, .int 0, .ref m42, .ref m3, .ref m4, .int 0, .int 0, .ref m5, .ref m6, .ref m7, .ref m8, .ref m9, .ref m10, .ref m11, .ref m12, .ref m13, .ref m14, .ref m15, .ref m16, .ref m17, .ref m18, .ref m19, .int 0, .ref m20, .int 0, .ref m21, .int 0, .int 0, .int 0, .int 0, .int 0, .int 0, .int 0, .ref m22, .int 0, .int 0, .ref m23, .ref m24, .ref m25, .ref m26, .int 0, .ref m27, .int 0, .ref m28, .int 0, .ref m29, .ref m30, .int (-1), .int 0, .int 0, .ref m31, .ref m32, .ref m33, .ref m34, .ref m35, .ref m36, .ref m37, .ref m38, .ref m39, .int 0, .ref m40, .int 0, .ref m41])), (m40, .inl (ax 4, 6, .inr (.inl (fun _ => 0))))] sz)) ((va_Qv (fun (u : Nat → Nat) => True) (xb D (va_A [(m0, .inr (11, [.int 0, .int 0, .ref m1, .int 0, .int 0, .ref m2, .int 0, .int 0, .int 0, .int 0, .int 0, .ref m42, .ref m3, .ref m4, .int 0, .int 0, .ref m5, .ref m6, .ref m7, .ref m8, .ref m9, .ref m10, .ref m11, .ref m12, .ref m13, .ref m14, .ref m15, .ref m16, .ref m17, .ref m18, .ref m19, .int 0, .ref m20, .int 0, .ref m21, .int 0, .int 0, .int 0, .int 0, .int 0, .int 0, .int 0, .ref m22, .int 0, .int 0, .ref m23, .ref m24, .ref m25, .ref m26, .int 0, .ref m27, .int 0, .ref m28, .int 0, .ref m29, .ref m30, .int (-1), .int 0, .int 0, .ref m31, .ref m32, .ref m33, .ref m34, .ref m35, .ref m36, .ref m37, .ref m38, .ref m39, .int 0, .ref m40, .int 0, .ref m41])), (m40, .inl (ax 4, 6, .inr (.inl (fun _ => 0))))] sz) (fun u => [(m0, .inr (11, [.int 0, .int 0, .ref m1, .int 0, .int 0, .ref m2, .int 0, .int 0, .int 0, .int 0, .int 0, .ref m42, .ref m3, .ref m4, .int 0, .int 0, .ref m5, .ref m6, .ref m7, .ref m8, .ref m9, .ref m10, .ref m11, .ref m12, .ref m13, .ref m14, .ref m15, .ref m16, .ref m17, .ref m18, .ref m19, .int 0, .ref m20, .int 0, .ref m21, .int 0, .int 0, .int 0, .int 0, .int 0, .int 0, .int 0, .ref m22, .int 0, .int 0, .ref m23, .ref m24, .ref m25, .ref m26, .int 0, .ref m27, .int 0, .ref m28, .int 0, .ref m29, .ref m30, .int (-1), .int 0, .int 0, .ref m31, .ref m32, .ref m33, .ref m34, .ref m35, .ref m36, .ref m37, .ref m38, .ref m39, .int 0, .ref m40, .int 0, .ref m41]))])) (va_A [(m0, .inr (11, [.int 0, .int 0, .ref m1, .int 0, .int 0, .ref m2, .int 0, .int 0, .int 0, .int 0, .int 0, .ref m42, .ref m3, .ref m4, .int 0, .int 0, .ref m5, .ref m6, .ref m7, .ref m8, .ref m9, .ref m10, .ref m11, .ref m12, .ref m13, .ref m14, .ref m15, .ref m16, .ref m17, .ref m18, .ref m19, .int 0, .ref m20, .int 0, .ref m21, .int 0, .int 0, .int 0, .int 0, .int 0, .int 0, .int 0, .ref m22, .int 0, .int 0, .ref m23, .ref m24, .ref m25, .ref m26, .int 0, .ref m27, .int 0, .ref m28, .int 0, .ref m29, .ref m30, .int (-1), .int 0, .int 0, .ref m31, .ref m32, .ref m33, .ref m34, .ref m35, .ref m36, .ref m37, .ref m38, .ref m39, .int 0, .ref m40, .int 0, .ref m41])), (m40, .inl (ax 4, 6, .inr (.inl (fun _ => 0))))] sz))) 0 0 (va_A [(m0, .inr (11, [.int 0, .int 0, .ref m1, .int 0, .int 0, .ref m2, .int 0, .int 0, .int 0, .int 0, .int 0, .ref m42, .ref m3, .ref m4, .int 0, .int 0, .ref m5, .ref m6, .ref m7, .ref m8, .ref m9, .ref m10, .ref m11, .ref m12, .ref m13, .ref m14, .ref m15, .ref m16, .ref m17, .ref m18, .ref m19, .int 0, .ref m20, .int 0, .ref m21, .int 0, .int 0, .int 0, .int 0, .int 0, .int 0, .int 0, .ref m22, .int 0, .int 0, .ref m23, .ref m24, .ref m25, .ref m26, .int 0, .ref m27, .int 0, .ref m28, .int 0, .ref m29, .ref m30, .int (-1), .int 0, .int 0, .ref m31, .ref m32, .ref m33, .ref m34, .ref m35, .ref m36, .ref m37, .ref m38, .ref m39, .int 0, .ref m40, .int 0, .ref m41])), (m40, .inl (ax 4, 6, .inr (.inl (fun _ => 0))))] sz) := by
  refine Met.ofW (cc := b_Model_start) (maxL := 3) (ret := none) (by decide) rfl ?_
  intro p e s m args below meth c s₁ B hml hv
  obtain ⟨rfl, hsz, hP, hK, hD0⟩ := hv
  have hx := B.exec
  have hb := B.bytes
  have hr := B.returns
  have hts := xw_hts B.pre
  have hown : s.vm.findClass R_Model = some m.cls := findClass_of_methodNamed B.named
  have hlocks := B.notSynchronized
  subst hsz
  have hD := hD0.self (sz := s.heap.size)
  have hN := xz_entry hP
  generalize hAe : va_A [(m0, .inr (11, [.int 0, .int 0, .ref m1, .int 0, .int 0, .ref m2, .int 0, .int 0, .int 0, .int 0, .int 0, .ref m42, .ref m3, .ref m4, .int 0, .int 0, .ref m5, .ref m6, .ref m7, .ref m8, .ref m9, .ref m10, .ref m11, .ref m12, .ref m13, .ref m14, .ref m15, .ref m16, .ref m17, .ref m18, .ref m19, .int 0, .ref m20, .int 0, .ref m21, .int 0, .int 0, .int 0, .int 0, .int 0, .int 0, .int 0, .ref m22, .int 0, .int 0, .ref m23, .ref m24, .ref m25, .ref m26, .int 0, .ref m27, .int 0, .ref m28, .int 0, .ref m29, .ref m30, .int (-1), .int 0, .int 0, .ref m31, .ref m32, .ref m33, .ref m34, .ref m35, .ref m36, .ref m37, .ref m38, .ref m39, .int 0, .ref m40, .int 0, .ref m41])), (m40, .inl (ax 4, 6, .inr (.inl (fun _ => 0))))] s.heap.size = A at hD hN ⊢
  have hA : ∀ q : Nat, s.heap.size ≤ q → A q := fun q h => by rw [← hAe]; exact Or.inr h
  have hS : va_S A s.heap s.heap [] := va_S.rf
  have hl0 := lv_entry ([.ref m0, .int 2, .int x2]) (n := 3) (Nat.le_of_ble_eq_true rfl)
  rw [lg_entry_eq]
  generalize (lg_sl ([.ref m0, .int 2, .int x2]) ++ List.replicate (3 - (lg_sl ([.ref m0, .int 2, .int x2])).length) Slot.unset).toArray = ls at hl0 ⊢
  have hl1 : lv_has ls 3 [(0, .ref m0), (1, .int 2), (2, .int x2)] := hl0
  refine lv_aload_n hx hb d_Model_start_0 rfl (lv_at hl1 0 rfl) ?_
  refine lv_iload_n hx hb d_Model_start_1 rfl (lv_at hl1 1 rfl) ?_
  refine lv_if_lt (tgt := 10) hx hb d_Model_start_2 (by decide) (fun c_1 => ?_) (fun c_1 => ?_)
  · first | exact absurd c_1 (by decide) | exact absurd (by decide) c_1
  refine lv_iload_n hx hb d_Model_start_5 rfl (lv_at hl1 1 rfl) ?_
  refine lv_iconst (v := 5) hx hb d_Model_start_6 (by decide) ?_
  refine lv_icmp_le (tgt := 14) hx hb d_Model_start_7 (by decide) (fun c_2 => ?_) (fun c_2 => ?_)
  rotate_left
  · first | exact absurd c_2 (by decide) | exact absurd (by decide) c_2
  refine lv_iconst (v := 0) hx hb d_Model_start_14 (by decide) ?_
  refine va_put (D := D) (ci := 11) (v := .int 0) (ty := .int) (C := R_Model) (T := F_Model) (N := 72) hx hb hts i_Model t_Model t_Model_ok n_Model hown hK.1 hP hD hS 0 rfl rfl 0 (by decide) (hts _ wd_1036) (fun _ h9 => h9) rfl (by decide +kernel) rfl rfl (Nat.le_of_ble_eq_true rfl) d_Model_start_15 (fun H_3 locs hP hD hS => ?_)
  have hP : va_P D classes [(m0, .inr (11, [.int 0, .int 0, .ref m1, .int 0, .int 0, .ref m2, .int 0, .int 0, .int 0, .int 0, .int 0, .ref m42, .ref m3, .ref m4, .int 0, .int 0, .ref m5, .ref m6, .ref m7, .ref m8, .ref m9, .ref m10, .ref m11, .ref m12, .ref m13, .ref m14, .ref m15, .ref m16, .ref m17, .ref m18, .ref m19, .int 0, .ref m20, .int 0, .ref m21, .int 0, .int 0, .int 0, .int 0, .int 0, .int 0, .int 0, .ref m22, .int 0, .int 0, .ref m23, .ref m24, .ref m25, .ref m26, .int 0, .ref m27, .int 0, .ref m28, .int 0, .ref m29, .ref m30, .int (-1), .int 0, .int 0, .ref m31, .ref m32, .ref m33, .ref m34, .ref m35, .ref m36, .ref m37, .ref m38, .ref m39, .int 0, .ref m40, .int 0, .ref m41])), (m40, .inl (ax 4, 6, .inr (.inl (fun _ => 0))))] H_3 := hP
  have hD : va_D A [(m0, .inr (11, [.int 0, .int 0, .ref m1, .int 0, .int 0, .ref m2, .int 0, .int 0, .int 0, .int 0, .int 0, .ref m42, .ref m3, .ref m4, .int 0, .int 0, .ref m5, .ref m6, .ref m7, .ref m8, .ref m9, .ref m10, .ref m11, .ref m12, .ref m13, .ref m14, .ref m15, .ref m16, .ref m17, .ref m18, .ref m19, .int 0, .ref m20, .int 0, .ref m21, .int 0, .int 0, .int 0, .int 0, .int 0, .int 0, .int 0, .ref m22, .int 0, .int 0, .ref m23, .ref m24, .ref m25, .ref m26, .int 0, .ref m27, .int 0, .ref m28, .int 0, .ref m29, .ref m30, .int (-1), .int 0, .int 0, .ref m31, .ref m32, .ref m33, .ref m34, .ref m35, .ref m36, .ref m37, .ref m38, .ref m39, .int 0, .ref m40, .int 0, .ref m41])), (m40, .inl (ax 4, 6, .inr (.inl (fun _ => 0))))] := hD
  refine lv_aload_n hx hb d_Model_start_18 rfl (lv_at hl1 0 rfl) ?_
  refine va_get (D := D) (ci := 11) (v := .int 0) (C := R_Model) (T := F_Model) (N := 72) hx hb hts i_Model hown hK.1 hP 0 rfl rfl 0 (by decide) (hts _ wd_1036) (fun _ h9 => h9) rfl d_Model_start_19 ?_
  refine lv_if_ne (tgt := 33) hx hb d_Model_start_22 (by decide) (fun c_4 => ?_) (fun c_4 => ?_)
  · first | exact absurd c_4 (by decide) | exact absurd (by decide) c_4
  refine lv_aload_n hx hb d_Model_start_25 rfl (lv_at hl1 0 rfl) ?_
  refine va_get (D := D) (ci := 11) (v := .ref m40) (C := R_Model) (T := F_Model) (N := 72) hx hb hts i_Model hown hK.1 hP 0 rfl rfl 69 (by decide) (hts _ wd_1105) (fun _ h9 => h9) rfl d_Model_start_26 ?_
  refine lv_iload_n hx hb d_Model_start_29 rfl (lv_at hl1 1 rfl) ?_
  refine lv_iload_n hx hb d_Model_start_30 rfl (lv_at hl1 2 rfl) ?_
  refine lv_i2l hx hb d_Model_start_31 rfl ?_
  refine lv_topl (fun z_5 ez_5 => ?_)
  refine va_last hx hb hK.1 hP hD hS 1 4 rfl rfl (by unfold vp_in; decide) d_Model_start_32 (fun H_6 locs hP hD hS => ?_)
  have hP : va_P D classes [(m0, .inr (11, [.int 0, .int 0, .ref m1, .int 0, .int 0, .ref m2, .int 0, .int 0, .int 0, .int 0, .int 0, .ref m42, .ref m3, .ref m4, .int 0, .int 0, .ref m5, .ref m6, .ref m7, .ref m8, .ref m9, .ref m10, .ref m11, .ref m12, .ref m13, .ref m14, .ref m15, .ref m16, .ref m17, .ref m18, .ref m19, .int 0, .ref m20, .int 0, .ref m21, .int 0, .int 0, .int 0, .int 0, .int 0, .int 0, .int 0, .ref m22, .int 0, .int 0, .ref m23, .ref m24, .ref m25, .ref m26, .int 0, .ref m27, .int 0, .ref m28, .int 0, .ref m29, .ref m30, .int (-1), .int 0, .int 0, .ref m31, .ref m32, .ref m33, .ref m34, .ref m35, .ref m36, .ref m37, .ref m38, .ref m39, .int 0, .ref m40, .int 0, .ref m41])), (m40, .inl (ax 4, 6, .inr (.inl (vp_updL (fun _ => 0) 2 z_5))))] H_6 := hP
  have hD : va_D A [(m0, .inr (11, [.int 0, .int 0, .ref m1, .int 0, .int 0, .ref m2, .int 0, .int 0, .int 0, .int 0, .int 0, .ref m42, .ref m3, .ref m4, .int 0, .int 0, .ref m5, .ref m6, .ref m7, .ref m8, .ref m9, .ref m10, .ref m11, .ref m12, .ref m13, .ref m14, .ref m15, .ref m16, .ref m17, .ref m18, .ref m19, .int 0, .ref m20, .int 0, .ref m21, .int 0, .int 0, .int 0, .int 0, .int 0, .int 0, .int 0, .ref m22, .int 0, .int 0, .ref m23, .ref m24, .ref m25, .ref m26, .int 0, .ref m27, .int 0, .ref m28, .int 0, .ref m29, .ref m30, .int (-1), .int 0, .int 0, .ref m31, .ref m32, .ref m33, .ref m34, .ref m35, .ref m36, .ref m37, .ref m38, .ref m39, .int 0, .ref m40, .int 0, .ref m41])), (m40, .inl (ax 4, 6, .inr (.inl (vp_updL (fun _ => 0) 2 z_5))))] := hD
  have hP9 := hP.sub (ws' := (fun u : Nat → Nat => [(m0, .inr (11, [.int 0, .int 0, .ref m1, .int 0, .int 0, .ref m2, .int 0, .int 0, .int 0, .int 0, .int 0, .ref m42, .ref m3, .ref m4, .int 0, .int 0, .ref m5, .ref m6, .ref m7, .ref m8, .ref m9, .ref m10, .ref m11, .ref m12, .ref m13, .ref m14, .ref m15, .ref m16, .ref m17, .ref m18, .ref m19, .int 0, .ref m20, .int 0, .ref m21, .int 0, .int 0, .int 0, .int 0, .int 0, .int 0, .int 0, .ref m22, .int 0, .int 0, .ref m23, .ref m24, .ref m25, .ref m26, .int 0, .ref m27, .int 0, .ref m28, .int 0, .ref m29, .ref m30, .int (-1), .int 0, .int 0, .ref m31, .ref m32, .ref m33, .ref m34, .ref m35, .ref m36, .ref m37, .ref m38, .ref m39, .int 0, .ref m40, .int 0, .ref m41]))]) (ixn [])) [0] rfl
  have hD9 := hD.sub (ws' := (fun u : Nat → Nat => [(m0, .inr (11, [.int 0, .int 0, .ref m1, .int 0, .int 0, .ref m2, .int 0, .int 0, .int 0, .int 0, .int 0, .ref m42, .ref m3, .ref m4, .int 0, .int 0, .ref m5, .ref m6, .ref m7, .ref m8, .ref m9, .ref m10, .ref m11, .ref m12, .ref m13, .ref m14, .ref m15, .ref m16, .ref m17, .ref m18, .ref m19, .int 0, .ref m20, .int 0, .ref m21, .int 0, .int 0, .int 0, .int 0, .int 0, .int 0, .int 0, .ref m22, .int 0, .int 0, .ref m23, .ref m24, .ref m25, .ref m26, .int 0, .ref m27, .int 0, .ref m28, .int 0, .ref m29, .ref m30, .int (-1), .int 0, .int 0, .ref m31, .ref m32, .ref m33, .ref m34, .ref m35, .ref m36, .ref m37, .ref m38, .ref m39, .int 0, .ref m40, .int 0, .ref m41]))]) (ixn [])) [0] (by decide) rfl
  exact W.vret hx hb hr (fun t ht hW => ⟨⟨ixn [], rfl, trivial, ⟨by rw [ht]; exact hP9, hD9⟩⟩, hS.F ht⟩) hS.2.2 d_Model_start_33
set_option maxHeartbeats 4000000 in
set_option maxRecDepth 100000 in
theorem c_Model_value_2 (l : Launch) (D : va_G) (ax : Nat → ClassId) (m0 m1 m2 m3 m4 m5 m6 m7 m8 m9 m10 m11 m12 m13 m14 m15 m16 m17 m18 m19 m20 m21 m22 m23 m24 m25 m26 m27 m28 m29 m30 m31 m32 m33 m34 m35 m36 m37 m38 m39 m40 m41 m42 : Nat) (sz : Nat) : Met l y_Model_value (xws (.code y_Model_value b_Model_value 2 (some .long))) ({ frames := 10, cells := 0, slots := 0, locals := 400 }) (va_Pc [.ref m0, .int 2] (xo D ax [(m0, .inr (11, [.int 0, .int 0, .ref m1, .int 0, .int 0, .ref m2, .int 0, .int 0, .int 0, .int 0, .int 0, .ref m42, .ref m3, .ref m4, .int 0, .int 0, .ref m5, .ref m6, .ref m7, .ref m8, .ref m9, .ref m10, .ref m11, .ref m12, .ref m13, .ref m14, .ref m15, .ref m16, .ref m17, .ref m18, .ref m19, .int 0, .ref m20, .int 0, .ref m21, .int 0, .int 0, .int 0, .int 0, .int 0, .int 0, .int 0, .ref m22, .int 0, .int 0, .ref m23, .ref m24, .ref m25, .ref m26, .int 0, .ref m27, .int 0, .ref m28, .int 0, .ref m29, .ref m30, .int (-1), .int 0, .int 0, .ref m31, .ref m32, .ref m33, .ref m34, .ref m35, .ref m36, .ref m37, .ref m38, .ref m39, .int 0, .ref m40, .int 0, .ref m41])), (m40, .inl (ax 4, 6, .inr (.inl (fun _ => 0))))] sz)) ((va_Ql (fun (r : Int64) (u : Nat → Nat) => r = 0) (xb D (va_A [(m0, .inr (11, [.int 0, .int 0, .ref m1, .int 0, .int 0, .ref m2, .int 0, .int 0, .int 0, .int 0, .int 0, .ref m42, .ref m3, .ref m4, .int 0, .int 0, .ref m5, .ref m6, .ref m7, .ref m8, .ref m9, .ref m10, .ref m11, .ref m12, .ref m13, .ref m14, .ref m15, .ref m16, .ref m17, .ref m18, .ref m19, .int 0, .ref m20, .int 0, .ref m21, .int 0, .int 0, .int 0, .int 0, .int 0, .int 0, .int 0, .ref m22, .int 0, .int 0, .ref m23, .ref m24, .ref m25, .ref m26, .int 0, .ref m27, .int 0, .ref m28, .int 0, .ref m29, .ref m30, .int (-1), .int 0, .int 0, .ref m31, .ref m32, .ref m33, .ref m34, .ref m35, .ref m36, .ref m37, .ref m38, .ref m39, .int 0, .ref m40, .int 0, .ref m41])), (m40, .inl (ax 4, 6, .inr (.inl (fun _ => 0))))] sz) (fun u => [(m0, .inr (11, [.int 0, .int 0, .ref m1, .int 0, .int 0, .ref m2, .int 0, .int 0, .int 0, .int 0, .int 0, .ref m42, .ref m3, .ref m4, .int 0, .int 0, .ref m5, .ref m6, .ref m7, .ref m8, .ref m9, .ref m10, .ref m11, .ref m12, .ref m13, .ref m14, .ref m15, .ref m16, .ref m17, .ref m18, .ref m19, .int 0, .ref m20, .int 0, .ref m21, .int 0, .int 0, .int 0, .int 0, .int 0, .int 0, .int 0, .ref m22, .int 0, .int 0, .ref m23, .ref m24, .ref m25, .ref m26, .int 0, .ref m27, .int 0, .ref m28, .int 0, .ref m29, .ref m30, .int (-1), .int 0, .int 0, .ref m31, .ref m32, .ref m33, .ref m34, .ref m35, .ref m36, .ref m37, .ref m38, .ref m39, .int 0, .ref m40, .int 0, .ref m41])), (m40, .inl (ax 4, 6, .inr (.inl (fun _ => 0))))])) (va_A [(m0, .inr (11, [.int 0, .int 0, .ref m1, .int 0, .int 0, .ref m2, .int 0, .int 0, .int 0, .int 0, .int 0, .ref m42, .ref m3, .ref m4, .int 0, .int 0, .ref m5, .ref m6, .ref m7, .ref m8, .ref m9, .ref m10, .ref m11, .ref m12, .ref m13, .ref m14, .ref m15, .ref m16, .ref m17, .ref m18, .ref m19, .int 0, .ref m20, .int 0, .ref m21, .int 0, .int 0, .int 0, .int 0, .int 0, .int 0, .int 0, .ref m22, .int 0, .int 0, .ref m23, .ref m24, .ref m25, .ref m26, .int 0, .ref m27, .int 0, .ref m28, .int 0, .ref m29, .ref m30, .int (-1), .int 0, .int 0, .ref m31, .ref m32, .ref m33, .ref m34, .ref m35, .ref m36, .ref m37, .ref m38, .ref m39, .int 0, .ref m40, .int 0, .ref m41])), (m40, .inl (ax 4, 6, .inr (.inl (fun _ => 0))))] sz))) 0 0 (va_A [(m0, .inr (11, [.int 0, .int 0, .ref m1, .int 0, .int 0, .ref m2, .int 0, .int 0, .int 0, .int 0, .int 0, .ref m42, .ref m3, .ref m4, .int 0, .int 0, .ref m5, .ref m6, .ref m7, .ref m8, .ref m9, .ref m10, .ref m11, .ref m12, .ref m13, .ref m14, .ref m15, .ref m16, .ref m17, .ref m18, .ref m19, .int 0, .ref m20, .int 0, .ref m21, .int 0, .int 0, .int 0, .int 0, .int 0, .int 0, .int 0, .ref m22, .int 0, .int 0, .ref m23, .ref m24, .ref m25, .ref m26, .int 0, .ref m27, .int 0, .ref m28, .int 0, .ref m29, .ref m30, .int (-1), .int 0, .int 0, .ref m31, .ref m32, .ref m33, .ref m34, .ref m35, .ref m36, .ref m37, .ref m38, .ref m39, .int 0, .ref m40, .int 0, .ref m41])), (m40, .inl (ax 4, 6, .inr (.inl (fun _ => 0))))] sz) := by
  refine Met.ofW (cc := b_Model_value) (maxL := 2) (ret := (some .long)) (by decide) rfl ?_
  intro p e s m args below meth c s₁ B hml hv
  obtain ⟨rfl, hsz, hP, hK, hD0⟩ := hv
  have hx := B.exec
  have hb := B.bytes
  have hr := B.returns
  have hts := xw_hts B.pre
  have hown : s.vm.findClass R_Model = some m.cls := findClass_of_methodNamed B.named
  have hlocks := B.notSynchronized
  subst hsz
  have hD := hD0.self (sz := s.heap.size)
  have hN := xz_entry hP
  generalize hAe : va_A [(m0, .inr (11, [.int 0, .int 0, .ref m1, .int 0, .int 0, .ref m2, .int 0, .int 0, .int 0, .int 0, .int 0, .ref m42, .ref m3, .ref m4, .int 0, .int 0, .ref m5, .ref m6, .ref m7, .ref m8, .ref m9, .ref m10, .ref m11, .ref m12, .ref m13, .ref m14, .ref m15, .ref m16, .ref m17, .ref m18, .ref m19, .int 0, .ref m20, .int 0, .ref m21, .int 0, .int 0, .int 0, .int 0, .int 0, .int 0, .int 0, .ref m22, .int 0, .int 0, .ref m23, .ref m24, .ref m25, .ref m26, .int 0, .ref m27, .int 0, .ref m28, .int 0, .ref m29, .ref m30, .int (-1), .int 0, .int 0, .ref m31, .ref m32, .ref m33, .ref m34, .ref m35, .ref m36, .ref m37, .ref m38, .ref m39, .int 0, .ref m40, .int 0, .ref m41])), (m40, .inl (ax 4, 6, .inr (.inl (fun _ => 0))))] s.heap.size = A at hD hN ⊢
  have hA : ∀ q : Nat, s.heap.size ≤ q → A q := fun q h => by rw [← hAe]; exact Or.inr h
  have hS : va_S A s.heap s.heap [] := va_S.rf
  have hl0 := lv_entry ([.ref m0, .int 2]) (n := 2) (Nat.le_of_ble_eq_true rfl)
  rw [lg_entry_eq]
  generalize (lg_sl ([.ref m0, .int 2]) ++ List.replicate (2 - (lg_sl ([.ref m0, .int 2])).length) Slot.unset).toArray = ls at hl0 ⊢
  have hl1 : lv_has ls 2 [(0, .ref m0), (1, .int 2)] := hl0
  refine lv_aload_n hx hb d_Model_value_0 rfl (lv_at hl1 0 rfl) ?_
  refine lv_iload_n hx hb d_Model_value_1 rfl (lv_at hl1 1 rfl) ?_
  refine lv_if_lt (tgt := 10) hx hb d_Model_value_2 (by decide) (fun c_1 => ?_) (fun c_1 => ?_)
  · first | exact absurd c_1 (by decide) | exact absurd (by decide) c_1
  refine lv_iload_n hx hb d_Model_value_5 rfl (lv_at hl1 1 rfl) ?_
  refine lv_iconst (v := 5) hx hb d_Model_value_6 (by decide) ?_
  refine lv_icmp_le (tgt := 14) hx hb d_Model_value_7 (by decide) (fun c_2 => ?_) (fun c_2 => ?_)
  rotate_left
  · first | exact absurd c_2 (by decide) | exact absurd (by decide) c_2
  refine lv_iconst (v := 0) hx hb d_Model_value_14 (by decide) ?_
  refine va_put (D := D) (ci := 11) (v := .int 0) (ty := .int) (C := R_Model) (T := F_Model) (N := 72) hx hb hts i_Model t_Model t_Model_ok n_Model hown hK.1 hP hD hS 0 rfl rfl 0 (by decide) (hts _ wd_1036) (fun _ h9 => h9) rfl (by decide +kernel) rfl rfl (Nat.le_of_ble_eq_true rfl) d_Model_value_15 (fun H_3 locs hP hD hS => ?_)
  have hP : va_P D classes [(m0, .inr (11, [.int 0, .int 0, .ref m1, .int 0, .int 0, .ref m2, .int 0, .int 0, .int 0, .int 0, .int 0, .ref m42, .ref m3, .ref m4, .int 0, .int 0, .ref m5, .ref m6, .ref m7, .ref m8, .ref m9, .ref m10, .ref m11, .ref m12, .ref m13, .ref m14, .ref m15, .ref m16, .ref m17, .ref m18, .ref m19, .int 0, .ref m20, .int 0, .ref m21, .int 0, .int 0, .int 0, .int 0, .int 0, .int 0, .int 0, .ref m22, .int 0, .int 0, .ref m23, .ref m24, .ref m25, .ref m26, .int 0, .ref m27, .int 0, .ref m28, .int 0, .ref m29, .ref m30, .int (-1), .int 0, .int 0, .ref m31, .ref m32, .ref m33, .ref m34, .ref m35, .ref m36, .ref m37, .ref m38, .ref m39, .int 0, .ref m40, .int 0, .ref m41])), (m40, .inl (ax 4, 6, .inr (.inl (fun _ => 0))))] H_3 := hP
  have hD : va_D A [(m0, .inr (11, [.int 0, .int 0, .ref m1, .int 0, .int 0, .ref m2, .int 0, .int 0, .int 0, .int 0, .int 0, .ref m42, .ref m3, .ref m4, .int 0, .int 0, .ref m5, .ref m6, .ref m7, .ref m8, .ref m9, .ref m10, .ref m11, .ref m12, .ref m13, .ref m14, .ref m15, .ref m16, .ref m17, .ref m18, .ref m19, .int 0, .ref m20, .int 0, .ref m21, .int 0, .int 0, .int 0, .int 0, .int 0, .int 0, .int 0, .ref m22, .int 0, .int 0, .ref m23, .ref m24, .ref m25, .ref m26, .int 0, .ref m27, .int 0, .ref m28, .int 0, .ref m29, .ref m30, .int (-1), .int 0, .int 0, .ref m31, .ref m32, .ref m33, .ref m34, .ref m35, .ref m36, .ref m37, .ref m38, .ref m39, .int 0, .ref m40, .int 0, .ref m41])), (m40, .inl (ax 4, 6, .inr (.inl (fun _ => 0))))] := hD
  refine lv_aload_n hx hb d_Model_value_18 rfl (lv_at hl1 0 rfl) ?_
  refine va_get (D := D) (ci := 11) (v := .int 0) (C := R_Model) (T := F_Model) (N := 72) hx hb hts i_Model hown hK.1 hP 0 rfl rfl 0 (by decide) (hts _ wd_1036) (fun _ h9 => h9) rfl d_Model_value_19 ?_
  refine lv_if_le (tgt := 29) hx hb d_Model_value_22 (by decide) (fun c_4 => ?_) (fun c_4 => ?_)
  rotate_left
  · first | exact absurd c_4 (by decide) | exact absurd (by decide) c_4
  refine lv_aload_n hx hb d_Model_value_29 rfl (lv_at hl1 0 rfl) ?_
  refine va_get (D := D) (ci := 11) (v := .ref m40) (C := R_Model) (T := F_Model) (N := 72) hx hb hts i_Model hown hK.1 hP 0 rfl rfl 69 (by decide) (hts _ wd_1105) (fun _ h9 => h9) rfl d_Model_value_30 ?_
  refine lv_iload_n hx hb d_Model_value_33 rfl (lv_at hl1 1 rfl) ?_
  refine va_lald hx hb hK.1 hP 1 4 rfl rfl (by unfold vp_in; decide) d_Model_value_34 ?_
  refine lv_topl (fun z_5 ez_5 => ?_)
  have ez_5 : z_5 = 0 := ez_5.trans (by first | rfl | decide)
  subst ez_5
  have hP9 := hP.sub (ws' := (fun u : Nat → Nat => [(m0, .inr (11, [.int 0, .int 0, .ref m1, .int 0, .int 0, .ref m2, .int 0, .int 0, .int 0, .int 0, .int 0, .ref m42, .ref m3, .ref m4, .int 0, .int 0, .ref m5, .ref m6, .ref m7, .ref m8, .ref m9, .ref m10, .ref m11, .ref m12, .ref m13, .ref m14, .ref m15, .ref m16, .ref m17, .ref m18, .ref m19, .int 0, .ref m20, .int 0, .ref m21, .int 0, .int 0, .int 0, .int 0, .int 0, .int 0, .int 0, .ref m22, .int 0, .int 0, .ref m23, .ref m24, .ref m25, .ref m26, .int 0, .ref m27, .int 0, .ref m28, .int 0, .ref m29, .ref m30, .int (-1), .int 0, .int 0, .ref m31, .ref m32, .ref m33, .ref m34, .ref m35, .ref m36, .ref m37, .ref m38, .ref m39, .int 0, .ref m40, .int 0, .ref m41])), (m40, .inl (ax 4, 6, .inr (.inl (fun _ => 0))))]) (ixn [])) [0, 1] rfl
  have hD9 := hD.sub (ws' := (fun u : Nat → Nat => [(m0, .inr (11, [.int 0, .int 0, .ref m1, .int 0, .int 0, .ref m2, .int 0, .int 0, .int 0, .int 0, .int 0, .ref m42, .ref m3, .ref m4, .int 0, .int 0, .ref m5, .ref m6, .ref m7, .ref m8, .ref m9, .ref m10, .ref m11, .ref m12, .ref m13, .ref m14, .ref m15, .ref m16, .ref m17, .ref m18, .ref m19, .int 0, .ref m20, .int 0, .ref m21, .int 0, .int 0, .int 0, .int 0, .int 0, .int 0, .int 0, .ref m22, .int 0, .int 0, .ref m23, .ref m24, .ref m25, .ref m26, .int 0, .ref m27, .int 0, .ref m28, .int 0, .ref m29, .ref m30, .int (-1), .int 0, .int 0, .ref m31, .ref m32, .ref m33, .ref m34, .ref m35, .ref m36, .ref m37, .ref m38, .ref m39, .int 0, .ref m40, .int 0, .ref m41])), (m40, .inl (ax 4, 6, .inr (.inl (fun _ => 0))))]) (ixn [])) [0, 1] (by decide) rfl
  exact W.lret (v := 0) hx hb hr (fun t ht hW => ⟨⟨0, ixn [], rfl, rfl, ⟨by rw [ht]; exact hP9, hD9⟩⟩, hS.F ht⟩) hS.2.2 d_Model_value_35
set_option maxHeartbeats 4000000 in
set_option maxRecDepth 100000 in
theorem c_Model_start_3 (l : Launch) (D : va_G) (ax : Nat → ClassId) (m0 m1 m2 m3 m4 m5 m6 m7 m8 m9 m10 m11 m12 m13 m14 m15 m16 m17 m18 m19 m20 m21 m22 m23 m24 m25 m26 m27 m28 m29 m30 m31 m32 m33 m34 m35 m36 m37 m38 m39 m40 m41 m42 : Nat) (x2 : Int32) (sz : Nat) : Met l y_Model_start (xws (.code y_Model_start b_Model_start 3 none)) ({ frames := 10, cells := 0, slots := 0, locals := 400 }) (va_Pc [.ref m0, .int 3, .int x2] (xo D ax [(m0, .inr (11, [.int 0, .int 0, .ref m1, .int 0, .int 0, .ref m2, .int 0, .int 0, .int 0, .int 0, .int 0, .ref m42, .ref m3, .ref m4, .int 0, .int 0, .ref m5, .ref m6, .ref m7, .ref m8, .ref m9, .ref m10, .ref m11, .ref m12, .ref m13, .ref m14, .ref m15, .ref m16, .ref m17, .ref m18, .ref m19, .int 0, .ref m20, .int 0, .ref m21, .int 0, .int 0, .int 0, .int 0, .int 0, .int 0, .int 0, .ref m22, .int 0, .int 0, .ref m23, .ref m24, .ref m25, .ref m26, .int 0, .ref m27, .int 0, .ref m28, .int 0, .ref m29, .ref m30, .int (-1), .int 0, .int 0, .ref m31, .ref m32, .ref m33, .ref m34, .ref m35, .ref m36, .ref m37, .ref m38, .ref m39, .int 0, .ref m40, .int 0, .ref m41])), (m40, .inl (ax 4, 6, .inr (.inl (fun _ => 0))))] sz)) ((va_Qv (fun (u : Nat → Nat) => True) (xb D (va_A [(m0, .inr (11, [.int 0, .int 0, .ref m1, .int 0, .int 0, .ref m2, .int 0, .int 0, .int 0, .int 0, .int 0, .ref m42, .ref m3, .ref m4, .int 0, .int 0, .ref m5, .ref m6, .ref m7, .ref m8, .ref m9, .ref m10, .ref m11, .ref m12, .ref m13, .ref m14, .ref m15, .ref m16, .ref m17, .ref m18, .ref m19, .int 0, .ref m20, .int 0, .ref m21, .int 0, .int 0, .int 0, .int 0, .int 0, .int 0, .int 0, .ref m22, .int 0, .int 0, .ref m23, .ref m24, .ref m25, .ref m26, .int 0, .ref m27, .int 0, .ref m28, .int 0, .ref m29, .ref m30, .int (-1), .int 0, .int 0, .ref m31, .ref m32, .ref m33, .ref m34, .ref m35, .ref m36, .ref m37, .ref m38, .ref m39, .int 0, .ref m40, .int 0, .ref m41])), (m40, .inl (ax 4, 6, .inr (.inl (fun _ => 0))))] sz) (fun u => [(m0, .inr (11, [.int 0, .int 0, .ref m1, .int 0, .int 0, .ref m2, .int 0, .int 0, .int 0, .int 0, .int 0, .ref m42, .ref m3, .ref m4, .int 0, .int 0, .ref m5, .ref m6, .ref m7, .ref m8, .ref m9, .ref m10, .ref m11, .ref m12, .ref m13, .ref m14, .ref m15, .ref m16, .ref m17, .ref m18, .ref m19, .int 0, .ref m20, .int 0, .ref m21, .int 0, .int 0, .int 0, .int 0, .int 0, .int 0, .int 0, .ref m22, .int 0, .int 0, .ref m23, .ref m24, .ref m25, .ref m26, .int 0, .ref m27, .int 0, .ref m28, .int 0, .ref m29, .ref m30, .int (-1), .int 0, .int 0, .ref m31, .ref m32, .ref m33, .ref m34, .ref m35, .ref m36, .ref m37, .ref m38, .ref m39, .int 0, .ref m40, .int 0, .ref m41]))])) (va_A [(m0, .inr (11, [.int 0, .int 0, .ref m1, .int 0, .int 0, .ref m2, .int 0, .int 0, .int 0, .int 0, .int 0, .ref m42, .ref m3, .ref m4, .int 0, .int 0, .ref m5, .ref m6, .ref m7, .ref m8, .ref m9, .ref m10, .ref m11, .ref m12, .ref m13, .ref m14, .ref m15, .ref m16, .ref m17, .ref m18, .ref m19, .int 0, .ref m20, .int 0, .ref m21, .int 0, .int 0, .int 0, .int 0, .int 0, .int 0, .int 0, .ref m22, .int 0, .int 0, .ref m23, .ref m24, .ref m25, .ref m26, .int 0, .ref m27, .int 0, .ref m28, .int 0, .ref m29, .ref m30, .int (-1), .int 0, .int 0, .ref m31, .ref m32, .ref m33, .ref m34, .ref m35, .ref m36, .ref m37, .ref m38, .ref m39, .int 0, .ref m40, .int 0, .ref m41])), (m40, .inl (ax 4, 6, .inr (.inl (fun _ => 0))))] sz))) 0 0 (va_A [(m0, .inr (11, [.int 0, .int 0, .ref m1, .int 0, .int 0, .ref m2, .int 0, .int 0, .int 0, .int 0, .int 0, .ref m42, .ref m3, .ref m4, .int 0, .int 0, .ref m5, .ref m6, .ref m7, .ref m8, .ref m9, .ref m10, .ref m11, .ref m12, .ref m13, .ref m14, .ref m15, .ref m16, .ref m17, .ref m18, .ref m19, .int 0, .ref m20, .int 0, .ref m21, .int 0, .int 0, .int 0, .int 0, .int 0, .int 0, .int 0, .ref m22, .int 0, .int 0, .ref m23, .ref m24, .ref m25, .ref m26, .int 0, .ref m27, .int 0, .ref m28, .int 0, .ref m29, .ref m30, .int (-1), .int 0, .int 0, .ref m31, .ref m32, .ref m33, .ref m34, .ref m35, .ref m36, .ref m37, .ref m38, .ref m39, .int 0, .ref m40, .int 0, .ref m41])), (m40, .inl (ax 4, 6, .inr (.inl (fun _ => 0))))] sz) := by
  refine Met.ofW (cc := b_Model_start) (maxL := 3) (ret := none) (by decide) rfl ?_
  intro p e s m args below meth c s₁ B hml hv
  obtain ⟨rfl, hsz, hP, hK, hD0⟩ := hv
  have hx := B.exec
  have hb := B.bytes
  have hr := B.returns
  have hts := xw_hts B.pre
  have hown : s.vm.findClass R_Model = some m.cls := findClass_of_methodNamed B.named
  have hlocks := B.notSynchronized
  subst hsz
  have hD := hD0.self (sz := s.heap.size)
  have hN := xz_entry hP
  generalize hAe : va_A [(m0, .inr (11, [.int 0, .int 0, .ref m1, .int 0, .int 0, .ref m2, .int 0, .int 0, .int 0, .int 0, .int 0, .ref m42, .ref m3, .ref m4, .int 0, .int 0, .ref m5, .ref m6, .ref m7, .ref m8, .ref m9, .ref m10, .ref m11, .ref m12, .ref m13, .ref m14, .ref m15, .ref m16, .ref m17, .ref m18, .ref m19, .int 0, .ref m20, .int 0, .ref m21, .int 0, .int 0, .int 0, .int 0, .int 0, .int 0, .int 0, .ref m22, .int 0, .int 0, .ref m23, .ref m24, .ref m25, .ref m26, .int 0, .ref m27, .int 0, .ref m28, .int 0, .ref m29, .ref m30, .int (-1), .int 0, .int 0, .ref m31, .ref m32, .ref m33, .ref m34, .ref m35, .ref m36, .ref m37, .ref m38, .ref m39, .int 0, .ref m40, .int 0, .ref m41])), (m40, .inl (ax 4, 6, .inr (.inl (fun _ => 0))))] s.heap.size = A at hD hN ⊢
  have hA : ∀ q : Nat, s.heap.size ≤ q → A q := fun q h => by rw [← hAe]; exact Or.inr h
  have hS : va_S A s.heap s.heap [] := va_S.rf
  have hl0 := lv_entry ([.ref m0, .int 3, .int x2]) (n := 3) (Nat.le_of_ble_eq_true rfl)
  rw [lg_entry_eq]
  generalize (lg_sl ([.ref m0, .int 3, .int x2]) ++ List.replicate (3 - (lg_sl ([.ref m0, .int 3, .int x2])).length) Slot.unset).toArray = ls at hl0 ⊢
  have hl1 : lv_has ls 3 [(0, .ref m0), (1, .int 3), (2, .int x2)] := hl0
  refine lv_aload_n hx hb d_Model_start_0 rfl (lv_at hl1 0 rfl) ?_
  refine lv_iload_n hx hb d_Model_start_1 rfl (lv_at hl1 1 rfl) ?_
  refine lv_if_lt (tgt := 10) hx hb d_Model_start_2 (by decide) (fun c_1 => ?_) (fun c_1 => ?_)
  · first | exact absurd c_1 (by decide) | exact absurd (by decide) c_1
  refine lv_iload_n hx hb d_Model_start_5 rfl (lv_at hl1 1 rfl) ?_
  refine lv_iconst (v := 5) hx hb d_Model_start_6 (by decide) ?_
  refine lv_icmp_le (tgt := 14) hx hb d_Model_start_7 (by decide) (fun c_2 => ?_) (fun c_2 => ?_)
  rotate_left
  · first | exact absurd c_2 (by decide) | exact absurd (by decide) c_2
  refine lv_iconst (v := 0) hx hb d_Model_start_14 (by decide) ?_
  refine va_put (D := D) (ci := 11) (v := .int 0) (ty := .int) (C := R_Model) (T := F_Model) (N := 72) hx hb hts i_Model t_Model t_Model_ok n_Model hown hK.1 hP hD hS 0 rfl rfl 0 (by decide) (hts _ wd_1036) (fun _ h9 => h9) rfl (by decide +kernel) rfl rfl (Nat.le_of_ble_eq_true rfl) d_Model_start_15 (fun H_3 locs hP hD hS => ?_)
  have hP : va_P D classes [(m0, .inr (11, [.int 0, .int 0, .ref m1, .int 0, .int 0, .ref m2, .int 0, .int 0, .int 0, .int 0, .int 0, .ref m42, .ref m3, .ref m4, .int 0, .int 0, .ref m5, .ref m6, .ref m7, .ref m8, .ref m9, .ref m10, .ref m11, .ref m12, .ref m13, .ref m14, .ref m15, .ref m16, .ref m17, .ref m18, .ref m19, .int 0, .ref m20, .int 0, .ref m21, .int 0, .int 0, .int 0, .int 0, .int 0, .int 0, .int 0, .ref m22, .int 0, .int 0, .ref m23, .ref m24, .ref m25, .ref m26, .int 0, .ref m27, .int 0, .ref m28, .int 0, .ref m29, .ref m30, .int (-1), .int 0, .int 0, .ref m31, .ref m32, .ref m33, .ref m34, .ref m35, .ref m36, .ref m37, .ref m38, .ref m39, .int 0, .ref m40, .int 0, .ref m41])), (m40, .inl (ax 4, 6, .inr (.inl (fun _ => 0))))] H_3 := hP
  have hD : va_D A [(m0, .inr (11, [.int 0, .int 0, .ref m1, .int 0, .int 0, .ref m2, .int 0, .int 0, .int 0, .int 0, .int 0, .ref m42, .ref m3, .ref m4, .int 0, .int 0, .ref m5, .ref m6, .ref m7, .ref m8, .ref m9, .ref m10, .ref m11, .ref m12, .ref m13, .ref m14, .ref m15, .ref m16, .ref m17, .ref m18, .ref m19, .int 0, .ref m20, .int 0, .ref m21, .int 0, .int 0, .int 0, .int 0, .int 0, .int 0, .int 0, .ref m22, .int 0, .int 0, .ref m23, .ref m24, .ref m25, .ref m26, .int 0, .ref m27, .int 0, .ref m28, .int 0, .ref m29, .ref m30, .int (-1), .int 0, .int 0, .ref m31, .ref m32, .ref m33, .ref m34, .ref m35, .ref m36, .ref m37, .ref m38, .ref m39, .int 0, .ref m40, .int 0, .ref m41])), (m40, .inl (ax 4, 6, .inr (.inl (fun _ => 0))))] := hD
  refine lv_aload_n hx hb d_Model_start_18 rfl (lv_at hl1 0 rfl) ?_
  refine va_get (D := D) (ci := 11) (v := .int 0) (C := R_Model) (T := F_Model) (N := 72) hx hb hts i_Model hown hK.1 hP 0 rfl rfl 0 (by decide) (hts _ wd_1036) (fun _ h9 => h9) rfl d_Model_start_19 ?_
  refine lv_if_ne (tgt := 33) hx hb d_Model_start_22 (by decide) (fun c_4 => ?_) (fun c_4 => ?_)
  · first | exact absurd c_4 (by decide) | exact absurd (by decide) c_4
  refine lv_aload_n hx hb d_Model_start_25 rfl (lv_at hl1 0 rfl) ?_
  refine va_get (D := D) (ci := 11) (v := .ref m40) (C := R_Model) (T := F_Model) (N := 72) hx hb hts i_Model hown hK.1 hP 0 rfl rfl 69 (by decide) (hts _ wd_1105) (fun _ h9 => h9) rfl d_Model_start_26 ?_
  refine lv_iload_n hx hb d_Model_start_29 rfl (lv_at hl1 1 rfl) ?_
  refine lv_iload_n hx hb d_Model_start_30 rfl (lv_at hl1 2 rfl) ?_
  refine lv_i2l hx hb d_Model_start_31 rfl ?_
  refine lv_topl (fun z_5 ez_5 => ?_)
  refine va_last hx hb hK.1 hP hD hS 1 4 rfl rfl (by unfold vp_in; decide) d_Model_start_32 (fun H_6 locs hP hD hS => ?_)
  have hP : va_P D classes [(m0, .inr (11, [.int 0, .int 0, .ref m1, .int 0, .int 0, .ref m2, .int 0, .int 0, .int 0, .int 0, .int 0, .ref m42, .ref m3, .ref m4, .int 0, .int 0, .ref m5, .ref m6, .ref m7, .ref m8, .ref m9, .ref m10, .ref m11, .ref m12, .ref m13, .ref m14, .ref m15, .ref m16, .ref m17, .ref m18, .ref m19, .int 0, .ref m20, .int 0, .ref m21, .int 0, .int 0, .int 0, .int 0, .int 0, .int 0, .int 0, .ref m22, .int 0, .int 0, .ref m23, .ref m24, .ref m25, .ref m26, .int 0, .ref m27, .int 0, .ref m28, .int 0, .ref m29, .ref m30, .int (-1), .int 0, .int 0, .ref m31, .ref m32, .ref m33, .ref m34, .ref m35, .ref m36, .ref m37, .ref m38, .ref m39, .int 0, .ref m40, .int 0, .ref m41])), (m40, .inl (ax 4, 6, .inr (.inl (vp_updL (fun _ => 0) 3 z_5))))] H_6 := hP
  have hD : va_D A [(m0, .inr (11, [.int 0, .int 0, .ref m1, .int 0, .int 0, .ref m2, .int 0, .int 0, .int 0, .int 0, .int 0, .ref m42, .ref m3, .ref m4, .int 0, .int 0, .ref m5, .ref m6, .ref m7, .ref m8, .ref m9, .ref m10, .ref m11, .ref m12, .ref m13, .ref m14, .ref m15, .ref m16, .ref m17, .ref m18, .ref m19, .int 0, .ref m20, .int 0, .ref m21, .int 0, .int 0, .int 0, .int 0, .int 0, .int 0, .int 0, .ref m22, .int 0, .int 0, .ref m23, .ref m24, .ref m25, .ref m26, .int 0, .ref m27, .int 0, .ref m28, .int 0, .ref m29, .ref m30, .int (-1), .int 0, .int 0, .ref m31, .ref m32, .ref m33, .ref m34, .ref m35, .ref m36, .ref m37, .ref m38, .ref m39, .int 0, .ref m40, .int 0, .ref m41])), (m40, .inl (ax 4, 6, .inr (.inl (vp_updL (fun _ => 0) 3 z_5))))] := hD
  have hP9 := hP.sub (ws' := (fun u : Nat → Nat => [(m0, .inr (11, [.int 0, .int 0, .ref m1, .int 0, .int 0, .ref m2, .int 0, .int 0, .int 0, .int 0, .int 0, .ref m42, .ref m3, .ref m4, .int 0, .int 0, .ref m5, .ref m6, .ref m7, .ref m8, .ref m9, .ref m10, .ref m11, .ref m12, .ref m13, .ref m14, .ref m15, .ref m16, .ref m17, .ref m18, .ref m19, .int 0, .ref m20, .int 0, .ref m21, .int 0, .int 0, .int 0, .int 0, .int 0, .int 0, .int 0, .ref m22, .int 0, .int 0, .ref m23, .ref m24, .ref m25, .ref m26, .int 0, .ref m27, .int 0, .ref m28, .int 0, .ref m29, .ref m30, .int (-1), .int 0, .int 0, .ref m31, .ref m32, .ref m33, .ref m34, .ref m35, .ref m36, .ref m37, .ref m38, .ref m39, .int 0, .ref m40, .int 0, .ref m41]))]) (ixn [])) [0] rfl
  have hD9 := hD.sub (ws' := (fun u : Nat → Nat => [(m0, .inr (11, [.int 0, .int 0, .ref m1, .int 0, .int 0, .ref m2, .int 0, .int 0, .int 0, .int 0, .int 0, .ref m42, .ref m3, .ref m4, .int 0, .int 0, .ref m5, .ref m6, .ref m7, .ref m8, .ref m9, .ref m10, .ref m11, .ref m12, .ref m13, .ref m14, .ref m15, .ref m16, .ref m17, .ref m18, .ref m19, .int 0, .ref m20, .int 0, .ref m21, .int 0, .int 0, .int 0, .int 0, .int 0, .int 0, .int 0, .ref m22, .int 0, .int 0, .ref m23, .ref m24, .ref m25, .ref m26, .int 0, .ref m27, .int 0, .ref m28, .int 0, .ref m29, .ref m30, .int (-1), .int 0, .int 0, .ref m31, .ref m32, .ref m33, .ref m34, .ref m35, .ref m36, .ref m37, .ref m38, .ref m39, .int 0, .ref m40, .int 0, .ref m41]))]) (ixn [])) [0] (by decide) rfl
  exact W.vret hx hb hr (fun t ht hW => ⟨⟨ixn [], rfl, trivial, ⟨by rw [ht]; exact hP9, hD9⟩⟩, hS.F ht⟩) hS.2.2 d_Model_start_33
set_option maxHeartbeats 4000000 in
set_option maxRecDepth 100000 in
theorem c_Model_value_3 (l : Launch) (D : va_G) (ax : Nat → ClassId) (m0 m1 m2 m3 m4 m5 m6 m7 m8 m9 m10 m11 m12 m13 m14 m15 m16 m17 m18 m19 m20 m21 m22 m23 m24 m25 m26 m27 m28 m29 m30 m31 m32 m33 m34 m35 m36 m37 m38 m39 m40 m41 m42 : Nat) (sz : Nat) : Met l y_Model_value (xws (.code y_Model_value b_Model_value 2 (some .long))) ({ frames := 10, cells := 0, slots := 0, locals := 400 }) (va_Pc [.ref m0, .int 3] (xo D ax [(m0, .inr (11, [.int 0, .int 0, .ref m1, .int 0, .int 0, .ref m2, .int 0, .int 0, .int 0, .int 0, .int 0, .ref m42, .ref m3, .ref m4, .int 0, .int 0, .ref m5, .ref m6, .ref m7, .ref m8, .ref m9, .ref m10, .ref m11, .ref m12, .ref m13, .ref m14, .ref m15, .ref m16, .ref m17, .ref m18, .ref m19, .int 0, .ref m20, .int 0, .ref m21, .int 0, .int 0, .int 0, .int 0, .int 0, .int 0, .int 0, .ref m22, .int 0, .int 0, .ref m23, .ref m24, .ref m25, .ref m26, .int 0, .ref m27, .int 0, .ref m28, .int 0, .ref m29, .ref m30, .int (-1), .int 0, .int 0, .ref m31, .ref m32, .ref m33, .ref m34, .ref m35, .ref m36, .ref m37, .ref m38, .ref m39, .int 0, .ref m40, .int 0, .ref m41])), (m40, .inl (ax 4, 6, .inr (.inl (fun _ => 0))))] sz)) ((va_Ql (fun (r : Int64) (u : Nat → Nat) => r = 0) (xb D (va_A [(m0, .inr (11, [.int 0, .int 0, .ref m1, .int 0, .int 0, .ref m2, .int 0, .int 0, .int 0, .int 0, .int 0, .ref m42, .ref m3, .ref m4, .int 0, .int 0, .ref m5, .ref m6, .ref m7, .ref m8, .ref m9, .ref m10, .ref m11, .ref m12, .ref m13, .ref m14, .ref m15, .ref m16, .ref m17, .ref m18, .ref m19, .int 0, .ref m20, .int 0, .ref m21, .int 0, .int 0, .int 0, .int 0, .int 0, .int 0, .int 0, .ref m22, .int 0, .int 0, .ref m23, .ref m24, .ref m25, .ref m26, .int 0, .ref m27, .int 0, .ref m28, .int 0, .ref m29, .ref m30, .int (-1), .int 0, .int 0, .ref m31, .ref m32, .ref m33, .ref m34, .ref m35, .ref m36, .ref m37, .ref m38, .ref m39, .int 0, .ref m40, .int 0, .ref m41])), (m40, .inl (ax 4, 6, .inr (.inl (fun _ => 0))))] sz) (fun u => [(m0, .inr (11, [.int 0, .int 0, .ref m1, .int 0, .int 0, .ref m2, .int 0, .int 0, .int 0, .int 0, .int 0, .ref m42, .ref m3, .ref m4, .int 0, .int 0, .ref m5, .ref m6, .ref m7, .ref m8, .ref m9, .ref m10, .ref m11, .ref m12, .ref m13, .ref m14, .ref m15, .ref m16, .ref m17, .ref m18, .ref m19, .int 0, .ref m20, .int 0, .ref m21, .int 0, .int 0, .int 0, .int 0, .int 0, .int 0, .int 0, .ref m22, .int 0, .int 0, .ref m23, .ref m24, .ref m25, .ref m26, .int 0, .ref m27, .int 0, .ref m28, .int 0, .ref m29, .ref m30, .int (-1), .int 0, .int 0, .ref m31, .ref m32, .ref m33, .ref m34, .ref m35, .ref m36, .ref m37, .ref m38, .ref m39, .int 0, .ref m40, .int 0, .ref m41])), (m40, .inl (ax 4, 6, .inr (.inl (fun _ => 0))))])) (va_A [(m0, .inr (11, [.int 0, .int 0, .ref m1, .int 0, .int 0, .ref m2, .int 0, .int 0, .int 0, .int 0, .int 0, .ref m42, .ref m3, .ref m4, .int 0, .int 0, .ref m5, .ref m6, .ref m7, .ref m8, .ref m9, .ref m10, .ref m11, .ref m12, .ref m13, .ref m14, .ref m15, .ref m16, .ref m17, .ref m18, .ref m19, .int 0, .ref m20, .int 0, .ref m21, .int 0, .int 0, .int 0, .int 0, .int 0, .int 0, .int 0, .ref m22, .int 0, .int 0, .ref m23, .ref m24, .ref m25, .ref m26, .int 0, .ref m27, .int 0, .ref m28, .int 0, .ref m29, .ref m30, .int (-1), .int 0, .int 0, .ref m31, .ref m32, .ref m33, .ref m34, .ref m35, .ref m36, .ref m37, .ref m38, .ref m39, .int 0, .ref m40, .int 0, .ref m41])), (m40, .inl (ax 4, 6, .inr (.inl (fun _ => 0))))] sz))) 0 0 (va_A [(m0, .inr (11, [.int 0, .int 0, .ref m1, .int 0, .int 0, .ref m2, .int 0, .int 0, .int 0, .int 0, .int 0, .ref m42, .ref m3, .ref m4, .int 0, .int 0, .ref m5, .ref m6, .ref m7, .ref m8, .ref m9, .ref m10, .ref m11, .ref m12, .ref m13, .ref m14, .ref m15, .ref m16, .ref m17, .ref m18, .ref m19, .int 0, .ref m20, .int 0, .ref m21, .int 0, .int 0, .int 0, .int 0, .int 0, .int 0, .int 0, .ref m22, .int 0, .int 0, .ref m23, .ref m24, .ref m25, .ref m26, .int 0, .ref m27, .int 0, .ref m28, .int 0, .ref m29, .ref m30, .int (-1), .int 0, .int 0, .ref m31, .ref m32, .ref m33, .ref m34, .ref m35, .ref m36, .ref m37, .ref m38, .ref m39, .int 0, .ref m40, .int 0, .ref m41])), (m40, .inl (ax 4, 6, .inr (.inl (fun _ => 0))))] sz) := by
  refine Met.ofW (cc := b_Model_value) (maxL := 2) (ret := (some .long)) (by decide) rfl ?_
  intro p e s m args below meth c s₁ B hml hv
  obtain ⟨rfl, hsz, hP, hK, hD0⟩ := hv
  have hx := B.exec
  have hb := B.bytes
  have hr := B.returns
  have hts := xw_hts B.pre
  have hown : s.vm.findClass R_Model = some m.cls := findClass_of_methodNamed B.named
  have hlocks := B.notSynchronized
  subst hsz
  have hD := hD0.self (sz := s.heap.size)
  have hN := xz_entry hP
  generalize hAe : va_A [(m0, .inr (11, [.int 0, .int 0, .ref m1, .int 0, .int 0, .ref m2, .int 0, .int 0, .int 0, .int 0, .int 0, .ref m42, .ref m3, .ref m4, .int 0, .int 0, .ref m5, .ref m6, .ref m7, .ref m8, .ref m9, .ref m10, .ref m11, .ref m12, .ref m13, .ref m14, .ref m15, .ref m16, .ref m17, .ref m18, .ref m19, .int 0, .ref m20, .int 0, .ref m21, .int 0, .int 0, .int 0, .int 0, .int 0, .int 0, .int 0, .ref m22, .int 0, .int 0, .ref m23, .ref m24, .ref m25, .ref m26, .int 0, .ref m27, .int 0, .ref m28, .int 0, .ref m29, .ref m30, .int (-1), .int 0, .int 0, .ref m31, .ref m32, .ref m33, .ref m34, .ref m35, .ref m36, .ref m37, .ref m38, .ref m39, .int 0, .ref m40, .int 0, .ref m41])), (m40, .inl (ax 4, 6, .inr (.inl (fun _ => 0))))] s.heap.size = A at hD hN ⊢
  have hA : ∀ q : Nat, s.heap.size ≤ q → A q := fun q h => by rw [← hAe]; exact Or.inr h
  have hS : va_S A s.heap s.heap [] := va_S.rf
  have hl0 := lv_entry ([.ref m0, .int 3]) (n := 2) (Nat.le_of_ble_eq_true rfl)
  rw [lg_entry_eq]
  generalize (lg_sl ([.ref m0, .int 3]) ++ List.replicate (2 - (lg_sl ([.ref m0, .int 3])).length) Slot.unset).toArray = ls at hl0 ⊢
  have hl1 : lv_has ls 2 [(0, .ref m0), (1, .int 3)] := hl0
  refine lv_aload_n hx hb d_Model_value_0 rfl (lv_at hl1 0 rfl) ?_
  refine lv_iload_n hx hb d_Model_value_1 rfl (lv_at hl1 1 rfl) ?_
  refine lv_if_lt (tgt := 10) hx hb d_Model_value_2 (by decide) (fun c_1 => ?_) (fun c_1 => ?_)
  · first | exact absurd c_1 (by decide) | exact absurd (by decide) c_1
  refine lv_iload_n hx hb d_Model_value_5 rfl (lv_at hl1 1 rfl) ?_
  refine lv_iconst (v := 5) hx hb d_Model_value_6 (by decide) ?_
  refine lv_icmp_le (tgt := 14) hx hb d_Model_value_7 (by decide) (fun c_2 => ?_) (fun c_2 => ?_)
  rotate_left
  · first | exact absurd c_2 (by decide) | exact absurd (by decide) c_2
  refine lv_iconst (v := 0) hx hb d_Model_value_14 (by decide) ?_
  refine va_put (D := D) (ci := 11) (v := .int 0) (ty := .int) (C := R_Model) (T := F_Model) (N := 72) hx hb hts i_Model t_Model t_Model_ok n_Model hown hK.1 hP hD hS 0 rfl rfl 0 (by decide) (hts _ wd_1036) (fun _ h9 => h9) rfl (by decide +kernel) rfl rfl (Nat.le_of_ble_eq_true rfl) d_Model_value_15 (fun H_3 locs hP hD hS => ?_)
  have hP : va_P D classes [(m0, .inr (11, [.int 0, .int 0, .ref m1, .int 0, .int 0, .ref m2, .int 0, .int 0, .int 0, .int 0, .int 0, .ref m42, .ref m3, .ref m4, .int 0, .int 0, .ref m5, .ref m6, .ref m7, .ref m8, .ref m9, .ref m10, .ref m11, .ref m12, .ref m13, .ref m14, .ref m15, .ref m16, .ref m17, .ref m18, .ref m19, .int 0, .ref m20, .int 0, .ref m21, .int 0, .int 0, .int 0, .int 0, .int 0, .int 0, .int 0, .ref m22, .int 0, .int 0, .ref m23, .ref m24, .ref m25, .ref m26, .int 0, .ref m27, .int 0, .ref m28, .int 0, .ref m29, .ref m30, .int (-1), .int 0, .int 0, .ref m31, .ref m32, .ref m33, .ref m34, .ref m35, .ref m36, .ref m37, .ref m38, .ref m39, .int 0, .ref m40, .int 0, .ref m41])), (m40, .inl (ax 4, 6, .inr (.inl (fun _ => 0))))] H_3 := hP
  have hD : va_D A [(m0, .inr (11, [.int 0, .int 0, .ref m1, .int 0, .int 0, .ref m2, .int 0, .int 0, .int 0, .int 0, .int 0, .ref m42, .ref m3, .ref m4, .int 0, .int 0, .ref m5, .ref m6, .ref m7, .ref m8, .ref m9, .ref m10, .ref m11, .ref m12, .ref m13, .ref m14, .ref m15, .ref m16, .ref m17, .ref m18, .ref m19, .int 0, .ref m20, .int 0, .ref m21, .int 0, .int 0, .int 0, .int 0, .int 0, .int 0, .int 0, .ref m22, .int 0, .int 0, .ref m23, .ref m24, .ref m25, .ref m26, .int 0, .ref m27, .int 0, .ref m28, .int 0, .ref m29, .ref m30, .int (-1), .int 0, .int 0, .ref m31, .ref m32, .ref m33, .ref m34, .ref m35, .ref m36, .ref m37, .ref m38, .ref m39, .int 0, .ref m40, .int 0, .ref m41])), (m40, .inl (ax 4, 6, .inr (.inl (fun _ => 0))))] := hD
  refine lv_aload_n hx hb d_Model_value_18 rfl (lv_at hl1 0 rfl) ?_
  refine va_get (D := D) (ci := 11) (v := .int 0) (C := R_Model) (T := F_Model) (N := 72) hx hb hts i_Model hown hK.1 hP 0 rfl rfl 0 (by decide) (hts _ wd_1036) (fun _ h9 => h9) rfl d_Model_value_19 ?_
  refine lv_if_le (tgt := 29) hx hb d_Model_value_22 (by decide) (fun c_4 => ?_) (fun c_4 => ?_)
  rotate_left
  · first | exact absurd c_4 (by decide) | exact absurd (by decide) c_4
  refine lv_aload_n hx hb d_Model_value_29 rfl (lv_at hl1 0 rfl) ?_
  refine va_get (D := D) (ci := 11) (v := .ref m40) (C := R_Model) (T := F_Model) (N := 72) hx hb hts i_Model hown hK.1 hP 0 rfl rfl 69 (by decide) (hts _ wd_1105) (fun _ h9 => h9) rfl d_Model_value_30 ?_
  refine lv_iload_n hx hb d_Model_value_33 rfl (lv_at hl1 1 rfl) ?_
  refine va_lald hx hb hK.1 hP 1 4 rfl rfl (by unfold vp_in; decide) d_Model_value_34 ?_
  refine lv_topl (fun z_5 ez_5 => ?_)
  have ez_5 : z_5 = 0 := ez_5.trans (by first | rfl | decide)
  subst ez_5
  have hP9 := hP.sub (ws' := (fun u : Nat → Nat => [(m0, .inr (11, [.int 0, .int 0, .ref m1, .int 0, .int 0, .ref m2, .int 0, .int 0, .int 0, .int 0, .int 0, .ref m42, .ref m3, .ref m4, .int 0, .int 0, .ref m5, .ref m6, .ref m7, .ref m8, .ref m9, .ref m10, .ref m11, .ref m12, .ref m13, .ref m14, .ref m15, .ref m16, .ref m17, .ref m18, .ref m19, .int 0, .ref m20, .int 0, .ref m21, .int 0, .int 0, .int 0, .int 0, .int 0, .int 0, .int 0, .ref m22, .int 0, .int 0, .ref m23, .ref m24, .ref m25, .ref m26, .int 0, .ref m27, .int 0, .ref m28, .int 0, .ref m29, .ref m30, .int (-1), .int 0, .int 0, .ref m31, .ref m32, .ref m33, .ref m34, .ref m35, .ref m36, .ref m37, .ref m38, .ref m39, .int 0, .ref m40, .int 0, .ref m41])), (m40, .inl (ax 4, 6, .inr (.inl (fun _ => 0))))]) (ixn [])) [0, 1] rfl
  have hD9 := hD.sub (ws' := (fun u : Nat → Nat => [(m0, .inr (11, [.int 0, .int 0, .ref m1, .int 0, .int 0, .ref m2, .int 0, .int 0, .int 0, .int 0, .int 0, .ref m42, .ref m3, .ref m4, .int 0, .int 0, .ref m5, .ref m6, .ref m7, .ref m8, .ref m9, .ref m10, .ref m11, .ref m12, .ref m13, .ref m14, .ref m15, .ref m16, .ref m17, .ref m18, .ref m19, .int 0, .ref m20, .int 0, .ref m21, .int 0, .int 0, .int 0, .int 0, .int 0, .int 0, .int 0, .ref m22, .int 0, .int 0, .ref m23, .ref m24, .ref m25, .ref m26, .int 0, .ref m27, .int 0, .ref m28, .int 0, .ref m29, .ref m30, .int (-1), .int 0, .int 0, .ref m31, .ref m32, .ref m33, .ref m34, .ref m35, .ref m36, .ref m37, .ref m38, .ref m39, .int 0, .ref m40, .int 0, .ref m41])), (m40, .inl (ax 4, 6, .inr (.inl (fun _ => 0))))]) (ixn [])) [0, 1] (by decide) rfl
  exact W.lret (v := 0) hx hb hr (fun t ht hW => ⟨⟨0, ixn [], rfl, rfl, ⟨by rw [ht]; exact hP9, hD9⟩⟩, hS.F ht⟩) hS.2.2 d_Model_value_35
set_option maxHeartbeats 4000000 in
set_option maxRecDepth 100000 in
theorem c_Model_start_4 (l : Launch) (D : va_G) (ax : Nat → ClassId) (m0 m1 m2 m3 m4 m5 m6 m7 m8 m9 m10 m11 m12 m13 m14 m15 m16 m17 m18 m19 m20 m21 m22 m23 m24 m25 m26 m27 m28 m29 m30 m31 m32 m33 m34 m35 m36 m37 m38 m39 m40 m41 m42 : Nat) (x2 : Int32) (sz : Nat) : Met l y_Model_start (xws (.code y_Model_start b_Model_start 3 none)) ({ frames := 10, cells := 0, slots := 0, locals := 400 }) (va_Pc [.ref m0, .int 4, .int x2] (xo D ax [(m0, .inr (11, [.int 0, .int 0, .ref m1, .int 0, .int 0, .ref m2, .int 0, .int 0, .int 0, .int 0, .int 0, .ref m42, .ref m3, .ref m4, .int 0, .int 0, .ref m5, .ref m6, .ref m7, .ref m8, .ref m9, .ref m10, .ref m11, .ref m12, .ref m13, .ref m14, .ref m15, .ref m16, .ref m17, .ref m18, .ref m19, .int 0, .ref m20, .int 0, .ref m21, .int 0, .int 0, .int 0, .int 0, .int 0, .int 0, .int 0, .ref m22, .int 0, .int 0, .ref m23, .ref m24, .ref m25, .ref m26, .int 0, .ref m27, .int 0, .ref m28, .int 0, .ref m29, .ref m30, .int (-1), .int 0, .int 0, .ref m31, .ref m32, .ref m33, .ref m34, .ref m35, .ref m36, .ref m37, .ref m38, .ref m39, .int 0, .ref m40, .int 0, .ref m41])), (m40, .inl (ax 4, 6, .inr (.inl (fun _ => 0))))] sz)) ((va_Qv (fun (u : Nat → Nat) => True) (xb D (va_A [(m0, .inr (11, [.int 0, .int 0, .ref m1, .int 0, .int 0, .ref m2, .int 0, .int 0, .int 0, .int 0, .int 0, .ref m42, .ref m3, .ref m4, .int 0, .int 0, .ref m5, .ref m6, .ref m7, .ref m8, .ref m9, .ref m10, .ref m11, .ref m12, .ref m13, .ref m14, .ref m15, .ref m16, .ref m17, .ref m18, .ref m19, .int 0, .ref m20, .int 0, .ref m21, .int 0, .int 0, .int 0, .int 0, .int 0, .int 0, .int 0, .ref m22, .int 0, .int 0, .ref m23, .ref m24, .ref m25, .ref m26, .int 0, .ref m27, .int 0, .ref m28, .int 0, .ref m29, .ref m30, .int (-1), .int 0, .int 0, .ref m31, .ref m32, .ref m33, .ref m34, .ref m35, .ref m36, .ref m37, .ref m38, .ref m39, .int 0, .ref m40, .int 0, .ref m41])), (m40, .inl (ax 4, 6, .inr (.inl (fun _ => 0))))] sz) (fun u => [(m0, .inr (11, [.int 0, .int 0, .ref m1, .int 0, .int 0, .ref m2, .int 0, .int 0, .int 0, .int 0, .int 0, .ref m42, .ref m3, .ref m4, .int 0, .int 0, .ref m5, .ref m6, .ref m7, .ref m8, .ref m9, .ref m10, .ref m11, .ref m12, .ref m13, .ref m14, .ref m15, .ref m16, .ref m17, .ref m18, .ref m19, .int 0, .ref m20, .int 0, .ref m21, .int 0, .int 0, .int 0, .int 0, .int 0, .int 0, .int 0, .ref m22, .int 0, .int 0, .ref m23, .ref m24, .ref m25, .ref m26, .int 0, .ref m27, .int 0, .ref m28, .int 0, .ref m29, .ref m30, .int (-1), .int 0, .int 0, .ref m31, .ref m32, .ref m33, .ref m34, .ref m35, .ref m36, .ref m37, .ref m38, .ref m39, .int 0, .ref m40, .int 0, .ref m41]))])) (va_A [(m0, .inr (11, [.int 0, .int 0, .ref m1, .int 0, .int 0, .ref m2, .int 0, .int 0, .int 0, .int 0, .int 0, .ref m42, .ref m3, .ref m4, .int 0, .int 0, .ref m5, .ref m6, .ref m7, .ref m8, .ref m9, .ref m10, .ref m11, .ref m12, .ref m13, .ref m14, .ref m15, .ref m16, .ref m17, .ref m18, .ref m19, .int 0, .ref m20, .int 0, .ref m21, .int 0, .int 0, .int 0, .int 0, .int 0, .int 0, .int 0, .ref m22, .int 0, .int 0, .ref m23, .ref m24, .ref m25, .ref m26, .int 0, .ref m27, .int 0, .ref m28, .int 0, .ref m29, .ref m30, .int (-1), .int 0, .int 0, .ref m31, .ref m32, .ref m33, .ref m34, .ref m35, .ref m36, .ref m37, .ref m38, .ref m39, .int 0, .ref m40, .int 0, .ref m41])), (m40, .inl (ax 4, 6, .inr (.inl (fun _ => 0))))] sz))) 0 0 (va_A [(m0, .inr (11, [.int 0, .int 0, .ref m1, .int 0, .int 0, .ref m2, .int 0, .int 0, .int 0, .int 0, .int 0, .ref m42, .ref m3, .ref m4, .int 0, .int 0, .ref m5, .ref m6, .ref m7, .ref m8, .ref m9, .ref m10, .ref m11, .ref m12, .ref m13, .ref m14, .ref m15, .ref m16, .ref m17, .ref m18, .ref m19, .int 0, .ref m20, .int 0, .ref m21, .int 0, .int 0, .int 0, .int 0, .int 0, .int 0, .int 0, .ref m22, .int 0, .int 0, .ref m23, .ref m24, .ref m25, .ref m26, .int 0, .ref m27, .int 0, .ref m28, .int 0, .ref m29, .ref m30, .int (-1), .int 0, .int 0, .ref m31, .ref m32, .ref m33, .ref m34, .ref m35, .ref m36, .ref m37, .ref m38, .ref m39, .int 0, .ref m40, .int 0, .ref m41])), (m40, .inl (ax 4, 6, .inr (.inl (fun _ => 0))))] sz) := by
  refine Met.ofW (cc := b_Model_start) (maxL := 3) (ret := none) (by decide) rfl ?_
  intro p e s m args below meth c s₁ B hml hv
  obtain ⟨rfl, hsz, hP, hK, hD0⟩ := hv
  have hx := B.exec
  have hb := B.bytes
  have hr := B.returns
  have hts := xw_hts B.pre
  have hown : s.vm.findClass R_Model = some m.cls := findClass_of_methodNamed B.named
  have hlocks := B.notSynchronized
  subst hsz
  have hD := hD0.self (sz := s.heap.size)
  have hN := xz_entry hP
  generalize hAe : va_A [(m0, .inr (11, [.int 0, .int 0, .ref m1, .int 0, .int 0, .ref m2, .int 0, .int 0, .int 0, .int 0, .int 0, .ref m42, .ref m3, .ref m4, .int 0, .int 0, .ref m5, .ref m6, .ref m7, .ref m8, .ref m9, .ref m10, .ref m11, .ref m12, .ref m13, .ref m14, .ref m15, .ref m16, .ref m17, .ref m18, .ref m19, .int 0, .ref m20, .int 0, .ref m21, .int 0, .int 0, .int 0, .int 0, .int 0, .int 0, .int 0, .ref m22, .int 0, .int 0, .ref m23, .ref m24, .ref m25, .ref m26, .int 0, .ref m27, .int 0, .ref m28, .int 0, .ref m29, .ref m30, .int (-1), .int 0, .int 0, .ref m31, .ref m32, .ref m33, .ref m34, .ref m35, .ref m36, .ref m37, .ref m38, .ref m39, .int 0, .ref m40, .int 0, .ref m41])), (m40, .inl (ax 4, 6, .inr (.inl (fun _ => 0))))] s.heap.size = A at hD hN ⊢
  have hA : ∀ q : Nat, s.heap.size ≤ q → A q := fun q h => by rw [← hAe]; exact Or.inr h
  have hS : va_S A s.heap s.heap [] := va_S.rf
  have hl0 := lv_entry ([.ref m0, .int 4, .int x2]) (n := 3) (Nat.le_of_ble_eq_true rfl)
  rw [lg_entry_eq]
  generalize (lg_sl ([.ref m0, .int 4, .int x2]) ++ List.replicate (3 - (lg_sl ([.ref m0, .int 4, .int x2])).length) Slot.unset).toArray = ls at hl0 ⊢
  have hl1 : lv_has ls 3 [(0, .ref m0), (1, .int 4), (2, .int x2)] := hl0
  refine lv_aload_n hx hb d_Model_start_0 rfl (lv_at hl1 0 rfl) ?_
  refine lv_iload_n hx hb d_Model_start_1 rfl (lv_at hl1 1 rfl) ?_
  refine lv_if_lt (tgt := 10) hx hb d_Model_start_2 (by decide) (fun c_1 => ?_) (fun c_1 => ?_)
  · first | exact absurd c_1 (by decide) | exact absurd (by decide) c_1
  refine lv_iload_n hx hb d_Model_start_5 rfl (lv_at hl1 1 rfl) ?_
  refine lv_iconst (v := 5) hx hb d_Model_start_6 (by decide) ?_
  refine lv_icmp_le (tgt := 14) hx hb d_Model_start_7 (by decide) (fun c_2 => ?_) (fun c_2 => ?_)
  rotate_left
  · first | exact absurd c_2 (by decide) | exact absurd (by decide) c_2
  refine lv_iconst (v := 0) hx hb d_Model_start_14 (by decide) ?_
  refine va_put (D := D) (ci := 11) (v := .int 0) (ty := .int) (C := R_Model) (T := F_Model) (N := 72) hx hb hts i_Model t_Model t_Model_ok n_Model hown hK.1 hP hD hS 0 rfl rfl 0 (by decide) (hts _ wd_1036) (fun _ h9 => h9) rfl (by decide +kernel) rfl rfl (Nat.le_of_ble_eq_true rfl) d_Model_start_15 (fun H_3 locs hP hD hS => ?_)
  have hP : va_P D classes [(m0, .inr (11, [.int 0, .int 0, .ref m1, .int 0, .int 0, .ref m2, .int 0, .int 0, .int 0, .int 0, .int 0, .ref m42, .ref m3, .ref m4, .int 0, .int 0, .ref m5, .ref m6, .ref m7, .ref m8, .ref m9, .ref m10, .ref m11, .ref m12, .ref m13, .ref m14, .ref m15, .ref m16, .ref m17, .ref m18, .ref m19, .int 0, .ref m20, .int 0, .ref m21, .int 0, .int 0, .int 0, .int 0, .int 0, .int 0, .int 0, .ref m22, .int 0, .int 0, .ref m23, .ref m24, .ref m25, .ref m26, .int 0, .ref m27, .int 0, .ref m28, .int 0, .ref m29, .ref m30, .int (-1), .int 0, .int 0, .ref m31, .ref m32, .ref m33, .ref m34, .ref m35, .ref m36, .ref m37, .ref m38, .ref m39, .int 0, .ref m40, .int 0, .ref m41])), (m40, .inl (ax 4, 6, .inr (.inl (fun _ => 0))))] H_3 := hP
  have hD : va_D A [(m0, .inr (11, [.int 0, .int 0, .ref m1, .int 0, .int 0, .ref m2, .int 0, .int 0, .int 0, .int 0, .int 0, .ref m42, .ref m3, .ref m4, .int 0, .int 0, .ref m5, .ref m6, .ref m7, .ref m8, .ref m9, .ref m10, .ref m11, .ref m12, .ref m13, .ref m14, .ref m15, .ref m16, .ref m17, .ref m18, .ref m19, .int 0, .ref m20, .int 0, .ref m21, .int 0, .int 0, .int 0, .int 0, .int 0, .int 0, .int 0, .ref m22, .int 0, .int 0, .ref m23, .ref m24, .ref m25, .ref m26, .int 0, .ref m27, .int 0, .ref m28, .int 0, .ref m29, .ref m30, .int (-1), .int 0, .int 0, .ref m31, .ref m32, .ref m33, .ref m34, .ref m35, .ref m36, .ref m37, .ref m38, .ref m39, .int 0, .ref m40, .int 0, .ref m41])), (m40, .inl (ax 4, 6, .inr (.inl (fun _ => 0))))] := hD
  refine lv_aload_n hx hb d_Model_start_18 rfl (lv_at hl1 0 rfl) ?_
  refine va_get (D := D) (ci := 11) (v := .int 0) (C := R_Model) (T := F_Model) (N := 72) hx hb hts i_Model hown hK.1 hP 0 rfl rfl 0 (by decide) (hts _ wd_1036) (fun _ h9 => h9) rfl d_Model_start_19 ?_
  refine lv_if_ne (tgt := 33) hx hb d_Model_start_22 (by decide) (fun c_4 => ?_) (fun c_4 => ?_)
  · first | exact absurd c_4 (by decide) | exact absurd (by decide) c_4
  refine lv_aload_n hx hb d_Model_start_25 rfl (lv_at hl1 0 rfl) ?_
  refine va_get (D := D) (ci := 11) (v := .ref m40) (C := R_Model) (T := F_Model) (N := 72) hx hb hts i_Model hown hK.1 hP 0 rfl rfl 69 (by decide) (hts _ wd_1105) (fun _ h9 => h9) rfl d_Model_start_26 ?_
  refine lv_iload_n hx hb d_Model_start_29 rfl (lv_at hl1 1 rfl) ?_
  refine lv_iload_n hx hb d_Model_start_30 rfl (lv_at hl1 2 rfl) ?_
  refine lv_i2l hx hb d_Model_start_31 rfl ?_
  refine lv_topl (fun z_5 ez_5 => ?_)
  refine va_last hx hb hK.1 hP hD hS 1 4 rfl rfl (by unfold vp_in; decide) d_Model_start_32 (fun H_6 locs hP hD hS => ?_)
  have hP : va_P D classes [(m0, .inr (11, [.int 0, .int 0, .ref m1, .int 0, .int 0, .ref m2, .int 0, .int 0, .int 0, .int 0, .int 0, .ref m42, .ref m3, .ref m4, .int 0, .int 0, .ref m5, .ref m6, .ref m7, .ref m8, .ref m9, .ref m10, .ref m11, .ref m12, .ref m13, .ref m14, .ref m15, .ref m16, .ref m17, .ref m18, .ref m19, .int 0, .ref m20, .int 0, .ref m21, .int 0, .int 0, .int 0, .int 0, .int 0, .int 0, .int 0, .ref m22, .int 0, .int 0, .ref m23, .ref m24, .ref m25, .ref m26, .int 0, .ref m27, .int 0, .ref m28, .int 0, .ref m29, .ref m30, .int (-1), .int 0, .int 0, .ref m31, .ref m32, .ref m33, .ref m34, .ref m35, .ref m36, .ref m37, .ref m38, .ref m39, .int 0, .ref m40, .int 0, .ref m41])), (m40, .inl (ax 4, 6, .inr (.inl (vp_updL (fun _ => 0) 4 z_5))))] H_6 := hP
  have hD : va_D A [(m0, .inr (11, [.int 0, .int 0, .ref m1, .int 0, .int 0, .ref m2, .int 0, .int 0, .int 0, .int 0, .int 0, .ref m42, .ref m3, .ref m4, .int 0, .int 0, .ref m5, .ref m6, .ref m7, .ref m8, .ref m9, .ref m10, .ref m11, .ref m12, .ref m13, .ref m14, .ref m15, .ref m16, .ref m17, .ref m18, .ref m19, .int 0, .ref m20, .int 0, .ref m21, .int 0, .int 0, .int 0, .int 0, .int 0, .int 0, .int 0, .ref m22, .int 0, .int 0, .ref m23, .ref m24, .ref m25, .ref m26, .int 0, .ref m27, .int 0, .ref m28, .int 0, .ref m29, .ref m30, .int (-1), .int 0, .int 0, .ref m31, .ref m32, .ref m33, .ref m34, .ref m35, .ref m36, .ref m37, .ref m38, .ref m39, .int 0, .ref m40, .int 0, .ref m41])), (m40, .inl (ax 4, 6, .inr (.inl (vp_updL (fun _ => 0) 4 z_5))))] := hD
  have hP9 := hP.sub (ws' := (fun u : Nat → Nat => [(m0, .inr (11, [.int 0, .int 0, .ref m1, .int 0, .int 0, .ref m2, .int 0, .int 0, .int 0, .int 0, .int 0, .ref m42, .ref m3, .ref m4, .int 0, .int 0, .ref m5, .ref m6, .ref m7, .ref m8, .ref m9, .ref m10, .ref m11, .ref m12, .ref m13, .ref m14, .ref m15, .ref m16, .ref m17, .ref m18, .ref m19, .int 0, .ref m20, .int 0, .ref m21, .int 0, .int 0, .int 0, .int 0, .int 0, .int 0, .int 0, .ref m22, .int 0, .int 0, .ref m23, .ref m24, .ref m25, .ref m26, .int 0, .ref m27, .int 0, .ref m28, .int 0, .ref m29, .ref m30, .int (-1), .int 0, .int 0, .ref m31, .ref m32, .ref m33, .ref m34, .ref m35, .ref m36, .ref m37, .ref m38, .ref m39, .int 0, .ref m40, .int 0, .ref m41]))]) (ixn [])) [0] rfl
  have hD9 := hD.sub (ws' := (fun u : Nat → Nat => [(m0, .inr (11, [.int 0, .int 0, .ref m1, .int 0, .int 0, .ref m2, .int 0, .int 0, .int 0, .int 0, .int 0, .ref m42, .ref m3, .ref m4, .int 0, .int 0, .ref m5, .ref m6, .ref m7, .ref m8, .ref m9, .ref m10, .ref m11, .ref m12, .ref m13, .ref m14, .ref m15, .ref m16, .ref m17, .ref m18, .ref m19, .int 0, .ref m20, .int 0, .ref m21, .int 0, .int 0, .int 0, .int 0, .int 0, .int 0, .int 0, .ref m22, .int 0, .int 0, .ref m23, .ref m24, .ref m25, .ref m26, .int 0, .ref m27, .int 0, .ref m28, .int 0, .ref m29, .ref m30, .int (-1), .int 0, .int 0, .ref m31, .ref m32, .ref m33, .ref m34, .ref m35, .ref m36, .ref m37, .ref m38, .ref m39, .int 0, .ref m40, .int 0, .ref m41]))]) (ixn [])) [0] (by decide) rfl
  exact W.vret hx hb hr (fun t ht hW => ⟨⟨ixn [], rfl, trivial, ⟨by rw [ht]; exact hP9, hD9⟩⟩, hS.F ht⟩) hS.2.2 d_Model_start_33
set_option maxHeartbeats 4000000 in
set_option maxRecDepth 100000 in
theorem c_Model_value_4 (l : Launch) (D : va_G) (ax : Nat → ClassId) (m0 m1 m2 m3 m4 m5 m6 m7 m8 m9 m10 m11 m12 m13 m14 m15 m16 m17 m18 m19 m20 m21 m22 m23 m24 m25 m26 m27 m28 m29 m30 m31 m32 m33 m34 m35 m36 m37 m38 m39 m40 m41 m42 : Nat) (sz : Nat) : Met l y_Model_value (xws (.code y_Model_value b_Model_value 2 (some .long))) ({ frames := 10, cells := 0, slots := 0, locals := 400 }) (va_Pc [.ref m0, .int 4] (xo D ax [(m0, .inr (11, [.int 0, .int 0, .ref m1, .int 0, .int 0, .ref m2, .int 0, .int 0, .int 0, .int 0, .int 0, .ref m42, .ref m3, .ref m4, .int 0, .int 0, .ref m5, .ref m6, .ref m7, .ref m8, .ref m9, .ref m10, .ref m11, .ref m12, .ref m13, .ref m14, .ref m15, .ref m16, .ref m17, .ref m18, .ref m19, .int 0, .ref m20, .int 0, .ref m21, .int 0, .int 0, .int 0, .int 0, .int 0, .int 0, .int 0, .ref m22, .int 0, .int 0, .ref m23, .ref m24, .ref m25, .ref m26, .int 0, .ref m27, .int 0, .ref m28, .int 0, .ref m29, .ref m30, .int (-1), .int 0, .int 0, .ref m31, .ref m32, .ref m33, .ref m34, .ref m35, .ref m36, .ref m37, .ref m38, .ref m39, .int 0, .ref m40, .int 0, .ref m41])), (m40, .inl (ax 4, 6, .inr (.inl (fun _ => 0))))] sz)) ((va_Ql (fun (r : Int64) (u : Nat → Nat) => r = 0) (xb D (va_A [(m0, .inr (11, [.int 0, .int 0, .ref m1, .int 0, .int 0, .ref m2, .int 0, .int 0, .int 0, .int 0, .int 0, .ref m42, .ref m3, .ref m4, .int 0, .int 0, .ref m5, .ref m6, .ref m7, .ref m8, .ref m9, .ref m10, .ref m11, .ref m12, .ref m13, .ref m14, .ref m15, .ref m16, .ref m17, .ref m18, .ref m19, .int 0, .ref m20, .int 0, .ref m21, .int 0, .int 0, .int 0, .int 0, .int 0, .int 0, .int 0, .ref m22, .int 0, .int 0, .ref m23, .ref m24, .ref m25, .ref m26, .int 0, .ref m27, .int 0, .ref m28, .int 0, .ref m29, .ref m30, .int (-1), .int 0, .int 0, .ref m31, .ref m32, .ref m33, .ref m34, .ref m35, .ref m36, .ref m37, .ref m38, .ref m39, .int 0, .ref m40, .int 0, .ref m41])), (m40, .inl (ax 4, 6, .inr (.inl (fun _ => 0))))] sz) (fun u => [(m0, .inr (11, [.int 0, .int 0, .ref m1, .int 0, .int 0, .ref m2, .int 0, .int 0, .int 0, .int 0, .int 0, .ref m42, .ref m3, .ref m4, .int 0, .int 0, .ref m5, .ref m6, .ref m7, .ref m8, .ref m9, .ref m10, .ref m11, .ref m12, .ref m13, .ref m14, .ref m15, .ref m16, .ref m17, .ref m18, .ref m19, .int 0, .ref m20, .int 0, .ref m21, .int 0, .int 0, .int 0, .int 0, .int 0, .int 0, .int 0, .ref m22, .int 0, .int 0, .ref m23, .ref m24, .ref m25, .ref m26, .int 0, .ref m27, .int 0, .ref m28, .int 0, .ref m29, .ref m30, .int (-1), .int 0, .int 0, .ref m31, .ref m32, .ref m33, .ref m34, .ref m35, .ref m36, .ref m37, .ref m38, .ref m39, .int 0, .ref m40, .int 0, .ref m41])), (m40, .inl (ax 4, 6, .inr (.inl (fun _ => 0))))])) (va_A [(m0, .inr (11, [.int 0, .int 0, .ref m1, .int 0, .int 0, .ref m2, .int 0, .int 0, .int 0, .int 0, .int 0, .ref m42, .ref m3, .ref m4, .int 0, .int 0, .ref m5, .ref m6, .ref m7, .ref m8, .ref m9, .ref m10, .ref m11, .ref m12, .ref m13, .ref m14, .ref m15, .ref m16, .ref m17, .ref m18, .ref m19, .int 0, .ref m20, .int 0, .ref m21, .int 0, .int 0, .int 0, .int 0, .int 0, .int 0, .int 0, .ref m22, .int 0, .int 0, .ref m23, .ref m24, .ref m25, .ref m26, .int 0, .ref m27, .int 0, .ref m28, .int 0, .ref m29, .ref m30, .int (-1), .int 0, .int 0, .ref m31, .ref m32, .ref m33, .ref m34, .ref m35, .ref m36, .ref m37, .ref m38, .ref m39, .int 0, .ref m40, .int 0, .ref m41])), (m40, .inl (ax 4, 6, .inr (.inl (fun _ => 0))))] sz))) 0 0 (va_A [(m0, .inr (11, [.int 0, .int 0, .ref m1, .int 0, .int 0, .ref m2, .int 0, .int 0, .int 0, .int 0, .int 0, .ref m42, .ref m3, .ref m4, .int 0, .int 0, .ref m5, .ref m6, .ref m7, .ref m8, .ref m9, .ref m10, .ref m11, .ref m12, .ref m13, .ref m14, .ref m15, .ref m16, .ref m17, .ref m18, .ref m19, .int 0, .ref m20, .int 0, .ref m21, .int 0, .int 0, .int 0, .int 0, .int 0, .int 0, .int 0, .ref m22, .int 0, .int 0, .ref m23, .ref m24, .ref m25, .ref m26, .int 0, .ref m27, .int 0, .ref m28, .int 0, .ref m29, .ref m30, .int (-1), .int 0, .int 0, .ref m31, .ref m32, .ref m33, .ref m34, .ref m35, .ref m36, .ref m37, .ref m38, .ref m39, .int 0, .ref m40, .int 0, .ref m41])), (m40, .inl (ax 4, 6, .inr (.inl (fun _ => 0))))] sz) := by
  refine Met.ofW (cc := b_Model_value) (maxL := 2) (ret := (some .long)) (by decide) rfl ?_
  intro p e s m args below meth c s₁ B hml hv
  obtain ⟨rfl, hsz, hP, hK, hD0⟩ := hv
  have hx := B.exec
  have hb := B.bytes
  have hr := B.returns
  have hts := xw_hts B.pre
  have hown : s.vm.findClass R_Model = some m.cls := findClass_of_methodNamed B.named
  have hlocks := B.notSynchronized
  subst hsz
  have hD := hD0.self (sz := s.heap.size)
  have hN := xz_entry hP
  generalize hAe : va_A [(m0, .inr (11, [.int 0, .int 0, .ref m1, .int 0, .int 0, .ref m2, .int 0, .int 0, .int 0, .int 0, .int 0, .ref m42, .ref m3, .ref m4, .int 0, .int 0, .ref m5, .ref m6, .ref m7, .ref m8, .ref m9, .ref m10, .ref m11, .ref m12, .ref m13, .ref m14, .ref m15, .ref m16, .ref m17, .ref m18, .ref m19, .int 0, .ref m20, .int 0, .ref m21, .int 0, .int 0, .int 0, .int 0, .int 0, .int 0, .int 0, .ref m22, .int 0, .int 0, .ref m23, .ref m24, .ref m25, .ref m26, .int 0, .ref m27, .int 0, .ref m28, .int 0, .ref m29, .ref m30, .int (-1), .int 0, .int 0, .ref m31, .ref m32, .ref m33, .ref m34, .ref m35, .ref m36, .ref m37, .ref m38, .ref m39, .int 0, .ref m40, .int 0, .ref m41])), (m40, .inl (ax 4, 6, .inr (.inl (fun _ => 0))))] s.heap.size = A at hD hN ⊢
  have hA : ∀ q : Nat, s.heap.size ≤ q → A q := fun q h => by rw [← hAe]; exact Or.inr h
  have hS : va_S A s.heap s.heap [] := va_S.rf
  have hl0 := lv_entry ([.ref m0, .int 4]) (n := 2) (Nat.le_of_ble_eq_true rfl)
  rw [lg_entry_eq]
  generalize (lg_sl ([.ref m0, .int 4]) ++ List.replicate (2 - (lg_sl ([.ref m0, .int 4])).length) Slot.unset).toArray = ls at hl0 ⊢
  have hl1 : lv_has ls 2 [(0, .ref m0), (1, .int 4)] := hl0
  refine lv_aload_n hx hb d_Model_value_0 rfl (lv_at hl1 0 rfl) ?_
  refine lv_iload_n hx hb d_Model_value_1 rfl (lv_at hl1 1 rfl) ?_
  refine lv_if_lt (tgt := 10) hx hb d_Model_value_2 (by decide) (fun c_1 => ?_) (fun c_1 => ?_)
  · first | exact absurd c_1 (by decide) | exact absurd (by decide) c_1
  refine lv_iload_n hx hb d_Model_value_5 rfl (lv_at hl1 1 rfl) ?_
  refine lv_iconst (v := 5) hx hb d_Model_value_6 (by decide) ?_
  refine lv_icmp_le (tgt := 14) hx hb d_Model_value_7 (by decide) (fun c_2 => ?_) (fun c_2 => ?_)
  rotate_left
  · first | exact absurd c_2 (by decide) | exact absurd (by decide) c_2
  refine lv_iconst (v := 0) hx hb d_Model_value_14 (by decide) ?_
  refine va_put (D := D) (ci := 11) (v := .int 0) (ty := .int) (C := R_Model) (T := F_Model) (N := 72) hx hb hts i_Model t_Model t_Model_ok n_Model hown hK.1 hP hD hS 0 rfl rfl 0 (by decide) (hts _ wd_1036) (fun _ h9 => h9) rfl (by decide +kernel) rfl rfl (Nat.le_of_ble_eq_true rfl) d_Model_value_15 (fun H_3 locs hP hD hS => ?_)
  have hP : va_P D classes [(m0, .inr (11, [.int 0, .int 0, .ref m1, .int 0, .int 0, .ref m2, .int 0, .int 0, .int 0, .int 0, .int 0, .ref m42, .ref m3, .ref m4, .int 0, .int 0, .ref m5, .ref m6, .ref m7, .ref m8, .ref m9, .ref m10, .ref m11, .ref m12, .ref m13, .ref m14, .ref m15, .ref m16, .ref m17, .ref m18, .ref m19, .int 0, .ref m20, .int 0, .ref m21, .int 0, .int 0, .int 0, .int 0, .int 0, .int 0, .int 0, .ref m22, .int 0, .int 0, .ref m23, .ref m24, .ref m25, .ref m26, .int 0, .ref m27, .int 0, .ref m28, .int 0, .ref m29, .ref m30, .int (-1), .int 0, .int 0, .ref m31, .ref m32, .ref m33, .ref m34, .ref m35, .ref m36, .ref m37, .ref m38, .ref m39, .int 0, .ref m40, .int 0, .ref m41])), (m40, .inl (ax 4, 6, .inr (.inl (fun _ => 0))))] H_3 := hP
  have hD : va_D A [(m0, .inr (11, [.int 0, .int 0, .ref m1, .int 0, .int 0, .ref m2, .int 0, .int 0, .int 0, .int 0, .int 0, .ref m42, .ref m3, .ref m4, .int 0, .int 0, .ref m5, .ref m6, .ref m7, .ref m8, .ref m9, .ref m10, .ref m11, .ref m12, .ref m13, .ref m14, .ref m15, .ref m16, .ref m17, .ref m18, .ref m19, .int 0, .ref m20, .int 0, .ref m21, .int 0, .int 0, .int 0, .int 0, .int 0, .int 0, .int 0, .ref m22, .int 0, .int 0, .ref m23, .ref m24, .ref m25, .ref m26, .int 0, .ref m27, .int 0, .ref m28, .int 0, .ref m29, .ref m30, .int (-1), .int 0, .int 0, .ref m31, .ref m32, .ref m33, .ref m34, .ref m35, .ref m36, .ref m37, .ref m38, .ref m39, .int 0, .ref m40, .int 0, .ref m41])), (m40, .inl (ax 4, 6, .inr (.inl (fun _ => 0))))] := hD
  refine lv_aload_n hx hb d_Model_value_18 rfl (lv_at hl1 0 rfl) ?_
  refine va_get (D := D) (ci := 11) (v := .int 0) (C := R_Model) (T := F_Model) (N := 72) hx hb hts i_Model hown hK.1 hP 0 rfl rfl 0 (by decide) (hts _ wd_1036) (fun _ h9 => h9) rfl d_Model_value_19 ?_
  refine lv_if_le (tgt := 29) hx hb d_Model_value_22 (by decide) (fun c_4 => ?_) (fun c_4 => ?_)
  rotate_left
  · first | exact absurd c_4 (by decide) | exact absurd (by decide) c_4
  refine lv_aload_n hx hb d_Model_value_29 rfl (lv_at hl1 0 rfl) ?_
  refine va_get (D := D) (ci := 11) (v := .ref m40) (C := R_Model) (T := F_Model) (N := 72) hx hb hts i_Model hown hK.1 hP 0 rfl rfl 69 (by decide) (hts _ wd_1105) (fun _ h9 => h9) rfl d_Model_value_30 ?_
  refine lv_iload_n hx hb d_Model_value_33 rfl (lv_at hl1 1 rfl) ?_
  refine va_lald hx hb hK.1 hP 1 4 rfl rfl (by unfold vp_in; decide) d_Model_value_34 ?_
  refine lv_topl (fun z_5 ez_5 => ?_)
  have ez_5 : z_5 = 0 := ez_5.trans (by first | rfl | decide)
  subst ez_5
  have hP9 := hP.sub (ws' := (fun u : Nat → Nat => [(m0, .inr (11, [.int 0, .int 0, .ref m1, .int 0, .int 0, .ref m2, .int 0, .int 0, .int 0, .int 0, .int 0, .ref m42, .ref m3, .ref m4, .int 0, .int 0, .ref m5, .ref m6, .ref m7, .ref m8, .ref m9, .ref m10, .ref m11, .ref m12, .ref m13, .ref m14, .ref m15, .ref m16, .ref m17, .ref m18, .ref m19, .int 0, .ref m20, .int 0, .ref m21, .int 0, .int 0, .int 0, .int 0, .int 0, .int 0, .int 0, .ref m22, .int 0, .int 0, .ref m23, .ref m24, .ref m25, .ref m26, .int 0, .ref m27, .int 0, .ref m28, .int 0, .ref m29, .ref m30, .int (-1), .int 0, .int 0, .ref m31, .ref m32, .ref m33, .ref m34, .ref m35, .ref m36, .ref m37, .ref m38, .ref m39, .int 0, .ref m40, .int 0, .ref m41])), (m40, .inl (ax 4, 6, .inr (.inl (fun _ => 0))))]) (ixn [])) [0, 1] rfl
  have hD9 := hD.sub (ws' := (fun u : Nat → Nat => [(m0, .inr (11, [.int 0, .int 0, .ref m1, .int 0, .int 0, .ref m2, .int 0, .int 0, .int 0, .int 0, .int 0, .ref m42, .ref m3, .ref m4, .int 0, .int 0, .ref m5, .ref m6, .ref m7, .ref m8, .ref m9, .ref m10, .ref m11, .ref m12, .ref m13, .ref m14, .ref m15, .ref m16, .ref m17, .ref m18, .ref m19, .int 0, .ref m20, .int 0, .ref m21, .int 0, .int 0, .int 0, .int 0, .int 0, .int 0, .int 0, .ref m22, .int 0, .int 0, .ref m23, .ref m24, .ref m25, .ref m26, .int 0, .ref m27, .int 0, .ref m28, .int 0, .ref m29, .ref m30, .int (-1), .int 0, .int 0, .ref m31, .ref m32, .ref m33, .ref m34, .ref m35, .ref m36, .ref m37, .ref m38, .ref m39, .int 0, .ref m40, .int 0, .ref m41])), (m40, .inl (ax 4, 6, .inr (.inl (fun _ => 0))))]) (ixn [])) [0, 1] (by decide) rfl
  exact W.lret (v := 0) hx hb hr (fun t ht hW => ⟨⟨0, ixn [], rfl, rfl, ⟨by rw [ht]; exact hP9, hD9⟩⟩, hS.F ht⟩) hS.2.2 d_Model_value_35
set_option maxHeartbeats 4000000 in
set_option maxRecDepth 100000 in
theorem c_Model_start_5 (l : Launch) (D : va_G) (ax : Nat → ClassId) (m0 m1 m2 m3 m4 m5 m6 m7 m8 m9 m10 m11 m12 m13 m14 m15 m16 m17 m18 m19 m20 m21 m22 m23 m24 m25 m26 m27 m28 m29 m30 m31 m32 m33 m34 m35 m36 m37 m38 m39 m40 m41 m42 : Nat) (x2 : Int32) (sz : Nat) : Met l y_Model_start (xws (.code y_Model_start b_Model_start 3 none)) ({ frames := 10, cells := 0, slots := 0, locals := 400 }) (va_Pc [.ref m0, .int 5, .int x2] (xo D ax [(m0, .inr (11, [.int 0, .int 0, .ref m1, .int 0, .int 0, .ref m2, .int 0, .int 0, .int 0, .int 0, .int 0, .ref m42, .ref m3, .ref m4, .int 0, .int 0, .ref m5, .ref m6, .ref m7, .ref m8, .ref m9, .ref m10, .ref m11, .ref m12, .ref m13, .ref m14, .ref m15, .ref m16, .ref m17, .ref m18, .ref m19, .int 0, .ref m20, .int 0, .ref m21, .int 0, .int 0, .int 0, .int 0, .int 0, .int 0, .int 0, .ref m22, .int 0, .int 0, .ref m23, .ref m24, .ref m25, .ref m26, .int 0, .ref m27, .int 0, .ref m28, .int 0, .ref m29, .ref m30, .int (-1), .int 0, .int 0, .ref m31, .ref m32, .ref m33, .ref m34, .ref m35, .ref m36, .ref m37, .ref m38, .ref m39, .int 0, .ref m40, .int 0, .ref m41])), (m40, .inl (ax 4, 6, .inr (.inl (fun _ => 0))))] sz)) ((va_Qv (fun (u : Nat → Nat) => True) (xb D (va_A [(m0, .inr (11, [.int 0, .int 0, .ref m1, .int 0, .int 0, .ref m2, .int 0, .int 0, .int 0, .int 0, .int 0, .ref m42, .ref m3, .ref m4, .int 0, .int 0, .ref m5, .ref m6, .ref m7, .ref m8, .ref m9, .ref m10, .ref m11, .ref m12, .ref m13, .ref m14, .ref m15, .ref m16, .ref m17, .ref m18, .ref m19, .int 0, .ref m20, .int 0, .ref m21, .int 0, .int 0, .int 0, .int 0, .int 0, .int 0, .int 0, .ref m22, .int 0, .int 0, .ref m23, .ref m24, .ref m25, .ref m26, .int 0, .ref m27, .int 0, .ref m28, .int 0, .ref m29, .ref m30, .int (-1), .int 0, .int 0, .ref m31, .ref m32, .ref m33, .ref m34, .ref m35, .ref m36, .ref m37, .ref m38, .ref m39, .int 0, .ref m40, .int 0, .ref m41])), (m40, .inl (ax 4, 6, .inr (.inl (fun _ => 0))))] sz) (fun u => [(m0, .inr (11, [.int 0, .int 0, .ref m1, .int 0, .int 0, .ref m2, .int 0, .int 0, .int 0, .int 0, .int 0, .ref m42, .ref m3, .ref m4, .int 0, .int 0, .ref m5, .ref m6, .ref m7, .ref m8, .ref m9, .ref m10, .ref m11, .ref m12, .ref m13, .ref m14, .ref m15, .ref m16, .ref m17, .ref m18, .ref m19, .int 0, .ref m20, .int 0, .ref m21, .int 0, .int 0, .int 0, .int 0, .int 0, .int 0, .int 0, .ref m22, .int 0, .int 0, .ref m23, .ref m24, .ref m25, .ref m26, .int 0, .ref m27, .int 0, .ref m28, .int 0, .ref m29, .ref m30, .int (-1), .int 0, .int 0, .ref m31, .ref m32, .ref m33, .ref m34, .ref m35, .ref m36, .ref m37, .ref m38, .ref m39, .int 0, .ref m40, .int 0, .ref m41]))])) (va_A [(m0, .inr (11, [.int 0, .int 0, .ref m1, .int 0, .int 0, .ref m2, .int 0, .int 0, .int 0, .int 0, .int 0, .ref m42, .ref m3, .ref m4, .int 0, .int 0, .ref m5, .ref m6, .ref m7, .ref m8, .ref m9, .ref m10, .ref m11, .ref m12, .ref m13, .ref m14, .ref m15, .ref m16, .ref m17, .ref m18, .ref m19, .int 0, .ref m20, .int 0, .ref m21, .int 0, .int 0, .int 0, .int 0, .int 0, .int 0, .int 0, .ref m22, .int 0, .int 0, .ref m23, .ref m24, .ref m25, .ref m26, .int 0, .ref m27, .int 0, .ref m28, .int 0, .ref m29, .ref m30, .int (-1), .int 0, .int 0, .ref m31, .ref m32, .ref m33, .ref m34, .ref m35, .ref m36, .ref m37, .ref m38, .ref m39, .int 0, .ref m40, .int 0, .ref m41])), (m40, .inl (ax 4, 6, .inr (.inl (fun _ => 0))))] sz))) 0 0 (va_A [(m0, .inr (11, [.int 0, .int 0, .ref m1, .int 0, .int 0, .ref m2, .int 0, .int 0, .int 0, .int 0, .int 0, .ref m42, .ref m3, .ref m4, .int 0, .int 0, .ref m5, .ref m6, .ref m7, .ref m8, .ref m9, .ref m10, .ref m11, .ref m12, .ref m13, .ref m14, .ref m15, .ref m16, .ref m17, .ref m18, .ref m19, .int 0, .ref m20, .int 0, .ref m21, .int 0, .int 0, .int 0, .int 0, .int 0, .int 0, .int 0, .ref m22, .int 0, .int 0, .ref m23, .ref m24, .ref m25, .ref m26, .int 0, .ref m27, .int 0, .ref m28, .int 0, .ref m29, .ref m30, .int (-1), .int 0, .int 0, .ref m31, .ref m32, .ref m33, .ref m34, .ref m35, .ref m36, .ref m37, .ref m38, .ref m39, .int 0, .ref m40, .int 0, .ref m41])), (m40, .inl (ax 4, 6, .inr (.inl (fun _ => 0))))] sz) := by
  refine Met.ofW (cc := b_Model_start) (maxL := 3) (ret := none) (by decide) rfl ?_
  intro p e s m args below meth c s₁ B hml hv
  obtain ⟨rfl, hsz, hP, hK, hD0⟩ := hv
  have hx := B.exec
  have hb := B.bytes
  have hr := B.returns
  have hts := xw_hts B.pre
  have hown : s.vm.findClass R_Model = some m.cls := findClass_of_methodNamed B.named
  have hlocks := B.notSynchronized
  subst hsz
  have hD := hD0.self (sz := s.heap.size)
  have hN := xz_entry hP
  generalize hAe : va_A [(m0, .inr (11, [.int 0, .int 0, .ref m1, .int 0, .int 0, .ref m2, .int 0, .int 0, .int 0, .int 0, .int 0, .ref m42, .ref m3, .ref m4, .int 0, .int 0, .ref m5, .ref m6, .ref m7, .ref m8, .ref m9, .ref m10, .ref m11, .ref m12, .ref m13, .ref m14, .ref m15, .ref m16, .ref m17, .ref m18, .ref m19, .int 0, .ref m20, .int 0, .ref m21, .int 0, .int 0, .int 0, .int 0, .int 0, .int 0, .int 0, .ref m22, .int 0, .int 0, .ref m23, .ref m24, .ref m25, .ref m26, .int 0, .ref m27, .int 0, .ref m28, .int 0, .ref m29, .ref m30, .int (-1), .int 0, .int 0, .ref m31, .ref m32, .ref m33, .ref m34, .ref m35, .ref m36, .ref m37, .ref m38, .ref m39, .int 0, .ref m40, .int 0, .ref m41])), (m40, .inl (ax 4, 6, .inr (.inl (fun _ => 0))))] s.heap.size = A at hD hN ⊢
  have hA : ∀ q : Nat, s.heap.size ≤ q → A q := fun q h => by rw [← hAe]; exact Or.inr h
  have hS : va_S A s.heap s.heap [] := va_S.rf
  have hl0 := lv_entry ([.ref m0, .int 5, .int x2]) (n := 3) (Nat.le_of_ble_eq_true rfl)
  rw [lg_entry_eq]
  generalize (lg_sl ([.ref m0, .int 5, .int x2]) ++ List.replicate (3 - (lg_sl ([.ref m0, .int 5, .int x2])).length) Slot.unset).toArray = ls at hl0 ⊢
  have hl1 : lv_has ls 3 [(0, .ref m0), (1, .int 5), (2, .int x2)] := hl0
  refine lv_aload_n hx hb d_Model_start_0 rfl (lv_at hl1 0 rfl) ?_
  refine lv_iload_n hx hb d_Model_start_1 rfl (lv_at hl1 1 rfl) ?_
  refine lv_if_lt (tgt := 10) hx hb d_Model_start_2 (by decide) (fun c_1 => ?_) (fun c_1 => ?_)
  · first | exact absurd c_1 (by decide) | exact absurd (by decide) c_1
  refine lv_iload_n hx hb d_Model_start_5 rfl (lv_at hl1 1 rfl) ?_
  refine lv_iconst (v := 5) hx hb d_Model_start_6 (by decide) ?_
  refine lv_icmp_le (tgt := 14) hx hb d_Model_start_7 (by decide) (fun c_2 => ?_) (fun c_2 => ?_)
  rotate_left
  · first | exact absurd c_2 (by decide) | exact absurd (by decide) c_2
  refine lv_iconst (v := 0) hx hb d_Model_start_14 (by decide) ?_
  refine va_put (D := D) (ci := 11) (v := .int 0) (ty := .int) (C := R_Model) (T := F_Model) (N := 72) hx hb hts i_Model t_Model t_Model_ok n_Model hown hK.1 hP hD hS 0 rfl rfl 0 (by decide) (hts _ wd_1036) (fun _ h9 => h9) rfl (by decide +kernel) rfl rfl (Nat.le_of_ble_eq_true rfl) d_Model_start_15 (fun H_3 locs hP hD hS => ?_)
  have hP : va_P D classes [(m0, .inr (11, [.int 0, .int 0, .ref m1, .int 0, .int 0, .ref m2, .int 0, .int 0, .int 0, .int 0, .int 0, .ref m42, .ref m3, .ref m4, .int 0, .int 0, .ref m5, .ref m6, .ref m7, .ref m8, .ref m9, .ref m10, .ref m11, .ref m12, .ref m13, .ref m14, .ref m15, .ref m16, .ref m17, .ref m18, .ref m19, .int 0, .ref m20, .int 0, .ref m21, .int 0, .int 0, .int 0, .int 0, .int 0, .int 0, .int 0, .ref m22, .int 0, .int 0, .ref m23, .ref m24, .ref m25, .ref m26, .int 0, .ref m27, .int 0, .ref m28, .int 0, .ref m29, .ref m30, .int (-1), .int 0, .int 0, .ref m31, .ref m32, .ref m33, .ref m34, .ref m35, .ref m36, .ref m37, .ref m38, .ref m39, .int 0, .ref m40, .int 0, .ref m41])), (m40, .inl (ax 4, 6, .inr (.inl (fun _ => 0))))] H_3 := hP
  have hD : va_D A [(m0, .inr (11, [.int 0, .int 0, .ref m1, .int 0, .int 0, .ref m2, .int 0, .int 0, .int 0, .int 0, .int 0, .ref m42, .ref m3, .ref m4, .int 0, .int 0, .ref m5, .ref m6, .ref m7, .ref m8, .ref m9, .ref m10, .ref m11, .ref m12, .ref m13, .ref m14, .ref m15, .ref m16, .ref m17, .ref m18, .ref m19, .int 0, .ref m20, .int 0, .ref m21, .int 0, .int 0, .int 0, .int 0, .int 0, .int 0, .int 0, .ref m22, .int 0, .int 0, .ref m23, .ref m24, .ref m25, .ref m26, .int 0, .ref m27, .int 0, .ref m28, .int 0, .ref m29, .ref m30, .int (-1), .int 0, .int 0, .ref m31, .ref m32, .ref m33, .ref m34, .ref m35, .ref m36, .ref m37, .ref m38, .ref m39, .int 0, .ref m40, .int 0, .ref m41])), (m40, .inl (ax 4, 6, .inr (.inl (fun _ => 0))))] := hD
  refine lv_aload_n hx hb d_Model_start_18 rfl (lv_at hl1 0 rfl) ?_
  refine va_get (D := D) (ci := 11) (v := .int 0) (C := R_Model) (T := F_Model) (N := 72) hx hb hts i_Model hown hK.1 hP 0 rfl rfl 0 (by decide) (hts _ wd_1036) (fun _ h9 => h9) rfl d_Model_start_19 ?_
  refine lv_if_ne (tgt := 33) hx hb d_Model_start_22 (by decide) (fun c_4 => ?_) (fun c_4 => ?_)
  · first | exact absurd c_4 (by decide) | exact absurd (by decide) c_4
  refine lv_aload_n hx hb d_Model_start_25 rfl (lv_at hl1 0 rfl) ?_
  refine va_get (D := D) (ci := 11) (v := .ref m40) (C := R_Model) (T := F_Model) (N := 72) hx hb hts i_Model hown hK.1 hP 0 rfl rfl 69 (by decide) (hts _ wd_1105) (fun _ h9 => h9) rfl d_Model_start_26 ?_
  refine lv_iload_n hx hb d_Model_start_29 rfl (lv_at hl1 1 rfl) ?_
  refine lv_iload_n hx hb d_Model_start_30 rfl (lv_at hl1 2 rfl) ?_
  refine lv_i2l hx hb d_Model_start_31 rfl ?_
  refine lv_topl (fun z_5 ez_5 => ?_)
  refine va_last hx hb hK.1 hP hD hS 1 4 rfl rfl (by unfold vp_in; decide) d_Model_start_32 (fun H_6 locs hP hD hS => ?_)
  have hP : va_P D classes [(m0, .inr (11, [.int 0, .int 0, .ref m1, .int 0, .int 0, .ref m2, .int 0, .int 0, .int 0, .int 0, .int 0, .ref m42, .ref m3, .ref m4, .int 0, .int 0, .ref m5, .ref m6, .ref m7, .ref m8, .ref m9, .ref m10, .ref m11, .ref m12, .ref m13, .ref m14, .ref m15, .ref m16, .ref m17, .ref m18, .ref m19, .int 0, .ref m20, .int 0, .ref m21, .int 0, .int 0, .int 0, .int 0, .int 0, .int 0, .int 0, .ref m22, .int 0, .int 0, .ref m23, .ref m24, .ref m25, .ref m26, .int 0, .ref m27, .int 0, .ref m28, .int 0, .ref m29, .ref m30, .int (-1), .int 0, .int 0, .ref m31, .ref m32, .ref m33, .ref m34, .ref m35, .ref m36, .ref m37, .ref m38, .ref m39, .int 0, .ref m40, .int 0, .ref m41])), (m40, .inl (ax 4, 6, .inr (.inl (vp_updL (fun _ => 0) 5 z_5))))] H_6 := hP
  have hD : va_D A [(m0, .inr (11, [.int 0, .int 0, .ref m1, .int 0, .int 0, .ref m2, .int 0, .int 0, .int 0, .int 0, .int 0, .ref m42, .ref m3, .ref m4, .int 0, .int 0, .ref m5, .ref m6, .ref m7, .ref m8, .ref m9, .ref m10, .ref m11, .ref m12, .ref m13, .ref m14, .ref m15, .ref m16, .ref m17, .ref m18, .ref m19, .int 0, .ref m20, .int 0, .ref m21, .int 0, .int 0, .int 0, .int 0, .int 0, .int 0, .int 0, .ref m22, .int 0, .int 0, .ref m23, .ref m24, .ref m25, .ref m26, .int 0, .ref m27, .int 0, .ref m28, .int 0, .ref m29, .ref m30, .int (-1), .int 0, .int 0, .ref m31, .ref m32, .ref m33, .ref m34, .ref m35, .ref m36, .ref m37, .ref m38, .ref m39, .int 0, .ref m40, .int 0, .ref m41])), (m40, .inl (ax 4, 6, .inr (.inl (vp_updL (fun _ => 0) 5 z_5))))] := hD
  have hP9 := hP.sub (ws' := (fun u : Nat → Nat => [(m0, .inr (11, [.int 0, .int 0, .ref m1, .int 0, .int 0, .ref m2, .int 0, .int 0, .int 0, .int 0, .int 0, .ref m42, .ref m3, .ref m4, .int 0, .int 0, .ref m5, .ref m6, .ref m7, .ref m8, .ref m9, .ref m10, .ref m11, .ref m12, .ref m13, .ref m14, .ref m15, .ref m16, .ref m17, .ref m18, .ref m19, .int 0, .ref m20, .int 0, .ref m21, .int 0, .int 0, .int 0, .int 0, .int 0, .int 0, .int 0, .ref m22, .int 0, .int 0, .ref m23, .ref m24, .ref m25, .ref m26, .int 0, .ref m27, .int 0, .ref m28, .int 0, .ref m29, .ref m30, .int (-1), .int 0, .int 0, .ref m31, .ref m32, .ref m33, .ref m34, .ref m35, .ref m36, .ref m37, .ref m38, .ref m39, .int 0, .ref m40, .int 0, .ref m41]))]) (ixn [])) [0] rfl
  have hD9 := hD.sub (ws' := (fun u : Nat → Nat => [(m0, .inr (11, [.int 0, .int 0, .ref m1, .int 0, .int 0, .ref m2, .int 0, .int 0, .int 0, .int 0, .int 0, .ref m42, .ref m3, .ref m4, .int 0, .int 0, .ref m5, .ref m6, .ref m7, .ref m8, .ref m9, .ref m10, .ref m11, .ref m12, .ref m13, .ref m14, .ref m15, .ref m16, .ref m17, .ref m18, .ref m19, .int 0, .ref m20, .int 0, .ref m21, .int 0, .int 0, .int 0, .int 0, .int 0, .int 0, .int 0, .ref m22, .int 0, .int 0, .ref m23, .ref m24, .ref m25, .ref m26, .int 0, .ref m27, .int 0, .ref m28, .int 0, .ref m29, .ref m30, .int (-1), .int 0, .int 0, .ref m31, .ref m32, .ref m33, .ref m34, .ref m35, .ref m36, .ref m37, .ref m38, .ref m39, .int 0, .ref m40, .int 0, .ref m41]))]) (ixn [])) [0] (by decide) rfl
  exact W.vret hx hb hr (fun t ht hW => ⟨⟨ixn [], rfl, trivial, ⟨by rw [ht]; exact hP9, hD9⟩⟩, hS.F ht⟩) hS.2.2 d_Model_start_33
set_option maxHeartbeats 4000000 in
set_option maxRecDepth 100000 in
theorem c_Model_value_5 (l : Launch) (D : va_G) (ax : Nat → ClassId) (m0 m1 m2 m3 m4 m5 m6 m7 m8 m9 m10 m11 m12 m13 m14 m15 m16 m17 m18 m19 m20 m21 m22 m23 m24 m25 m26 m27 m28 m29 m30 m31 m32 m33 m34 m35 m36 m37 m38 m39 m40 m41 m42 : Nat) (sz : Nat) : Met l y_Model_value (xws (.code y_Model_value b_Model_value 2 (some .long))) ({ frames := 10, cells := 0, slots := 0, locals := 400 }) (va_Pc [.ref m0, .int 5] (xo D ax [(m0, .inr (11, [.int 0, .int 0, .ref m1, .int 0, .int 0, .ref m2, .int 0, .int 0, .int 0, .int 0, .int 0, .ref m42, .ref m3, .ref m4, .int 0, .int 0, .ref m5, .ref m6, .ref m7, .ref m8, .ref m9, .ref m10, .ref m11, .ref m12, .ref m13, .ref m14, .ref m15, .ref m16, .ref m17, .ref m18, .ref m19, .int 0, .ref m20, .int 0, .ref m21, .int 0, .int 0, .int 0, .int 0, .int 0, .int 0, .int 0, .ref m22, .int 0, .int 0, .ref m23, .ref m24, .ref m25, .ref m26, .int 0, .ref m27, .int 0, .ref m28, .int 0, .ref m29, .ref m30, .int (-1), .int 0, .int 0, .ref m31, .ref m32, .ref m33, .ref m34, .ref m35, .ref m36, .ref m37, .ref m38, .ref m39, .int 0, .ref m40, .int 0, .ref m41])), (m40, .inl (ax 4, 6, .inr (.inl (fun _ => 0))))] sz)) ((va_Ql (fun (r : Int64) (u : Nat → Nat) => r = 0) (xb D (va_A [(m0, .inr (11, [.int 0, .int 0, .ref m1, .int 0, .int 0, .ref m2, .int 0, .int 0, .int 0, .int 0, .int 0, .ref m42, .ref m3, .ref m4, .int 0, .int 0, .ref m5, .ref m6, .ref m7, .ref m8, .ref m9, .ref m10, .ref m11, .ref m12, .ref m13, .ref m14, .ref m15, .ref m16, .ref m17, .ref m18, .ref m19, .int 0, .ref m20, .int 0, .ref m21, .int 0, .int 0, .int 0, .int 0, .int 0, .int 0, .int 0, .ref m22, .int 0, .int 0, .ref m23, .ref m24, .ref m25, .ref m26, .int 0, .ref m27, .int 0, .ref m28, .int 0, .ref m29, .ref m30, .int (-1), .int 0, .int 0, .ref m31, .ref m32, .ref m33, .ref m34, .ref m35, .ref m36, .ref m37, .ref m38, .ref m39, .int 0, .ref m40, .int 0, .ref m41])), (m40, .inl (ax 4, 6, .inr (.inl (fun _ => 0))))] sz) (fun u => [(m0, .inr (11, [.int 0, .int 0, .ref m1, .int 0, .int 0, .ref m2, .int 0, .int 0, .int 0, .int 0, .int 0, .ref m42, .ref m3, .ref m4, .int 0, .int 0, .ref m5, .ref m6, .ref m7, .ref m8, .ref m9, .ref m10, .ref m11, .ref m12, .ref m13, .ref m14, .ref m15, .ref m16, .ref m17, .ref m18, .ref m19, .int 0, .ref m20, .int 0, .ref m21, .int 0, .int 0, .int 0, .int 0, .int 0, .int 0, .int 0, .ref m22, .int 0, .int 0, .ref m23, .ref m24, .ref m25, .ref m26, .int 0, .ref m27, .int 0, .ref m28, .int 0, .ref m29, .ref m30, .int (-1), .int 0, .int 0, .ref m31, .ref m32, .ref m33, .ref m34, .ref m35, .ref m36, .ref m37, .ref m38, .ref m39, .int 0, .ref m40, .int 0, .ref m41])), (m40, .inl (ax 4, 6, .inr (.inl (fun _ => 0))))])) (va_A [(m0, .inr (11, [.int 0, .int 0, .ref m1, .int 0, .int 0, .ref m2, .int 0, .int 0, .int 0, .int 0, .int 0, .ref m42, .ref m3, .ref m4, .int 0, .int 0, .ref m5, .ref m6, .ref m7, .ref m8, .ref m9, .ref m10, .ref m11, .ref m12, .ref m13, .ref m14, .ref m15, .ref m16, .ref m17, .ref m18, .ref m19, .int 0, .ref m20, .int 0, .ref m21, .int 0, .int 0, .int 0, .int 0, .int 0, .int 0, .int 0, .ref m22, .int 0, .int 0, .ref m23, .ref m24, .ref m25, .ref m26, .int 0, .ref m27, .int 0, .ref m28, .int 0, .ref m29, .ref m30, .int (-1), .int 0, .int 0, .ref m31, .ref m32, .ref m33, .ref m34, .ref m35, .ref m36, .ref m37, .ref m38, .ref m39, .int 0, .ref m40, .int 0, .ref m41])), (m40, .inl (ax 4, 6, .inr (.inl (fun _ => 0))))] sz))) 0 0 (va_A [(m0, .inr (11, [.int 0, .int 0, .ref m1, .int 0, .int 0, .ref m2, .int 0, .int 0, .int 0, .int 0, .int 0, .ref m42, .ref m3, .ref m4, .int 0, .int 0, .ref m5, .ref m6, .ref m7, .ref m8, .ref m9, .ref m10, .ref m11, .ref m12, .ref m13, .ref m14, .ref m15, .ref m16, .ref m17, .ref m18, .ref m19, .int 0, .ref m20, .int 0, .ref m21, .int 0, .int 0, .int 0, .int 0, .int 0, .int 0, .int 0, .ref m22, .int 0, .int 0, .ref m23, .ref m24, .ref m25, .ref m26, .int 0, .ref m27, .int 0, .ref m28, .int 0, .ref m29, .ref m30, .int (-1), .int 0, .int 0, .ref m31, .ref m32, .ref m33, .ref m34, .ref m35, .ref m36, .ref m37, .ref m38, .ref m39, .int 0, .ref m40, .int 0, .ref m41])), (m40, .inl (ax 4, 6, .inr (.inl (fun _ => 0))))] sz) := by
  refine Met.ofW (cc := b_Model_value) (maxL := 2) (ret := (some .long)) (by decide) rfl ?_
  intro p e s m args below meth c s₁ B hml hv
  obtain ⟨rfl, hsz, hP, hK, hD0⟩ := hv
  have hx := B.exec
  have hb := B.bytes
  have hr := B.returns
  have hts := xw_hts B.pre
  have hown : s.vm.findClass R_Model = some m.cls := findClass_of_methodNamed B.named
  have hlocks := B.notSynchronized
  subst hsz
  have hD := hD0.self (sz := s.heap.size)
  have hN := xz_entry hP
  generalize hAe : va_A [(m0, .inr (11, [.int 0, .int 0, .ref m1, .int 0, .int 0, .ref m2, .int 0, .int 0, .int 0, .int 0, .int 0, .ref m42, .ref m3, .ref m4, .int 0, .int 0, .ref m5, .ref m6, .ref m7, .ref m8, .ref m9, .ref m10, .ref m11, .ref m12, .ref m13, .ref m14, .ref m15, .ref m16, .ref m17, .ref m18, .ref m19, .int 0, .ref m20, .int 0, .ref m21, .int 0, .int 0, .int 0, .int 0, .int 0, .int 0, .int 0, .ref m22, .int 0, .int 0, .ref m23, .ref m24, .ref m25, .ref m26, .int 0, .ref m27, .int 0, .ref m28, .int 0, .ref m29, .ref m30, .int (-1), .int 0, .int 0, .ref m31, .ref m32, .ref m33, .ref m34, .ref m35, .ref m36, .ref m37, .ref m38, .ref m39, .int 0, .ref m40, .int 0, .ref m41])), (m40, .inl (ax 4, 6, .inr (.inl (fun _ => 0))))] s.heap.size = A at hD hN ⊢
  have hA : ∀ q : Nat, s.heap.size ≤ q → A q := fun q h => by rw [← hAe]; exact Or.inr h
  have hS : va_S A s.heap s.heap [] := va_S.rf
  have hl0 := lv_entry ([.ref m0, .int 5]) (n := 2) (Nat.le_of_ble_eq_true rfl)
  rw [lg_entry_eq]
  generalize (lg_sl ([.ref m0, .int 5]) ++ List.replicate (2 - (lg_sl ([.ref m0, .int 5])).length) Slot.unset).toArray = ls at hl0 ⊢
  have hl1 : lv_has ls 2 [(0, .ref m0), (1, .int 5)] := hl0
  refine lv_aload_n hx hb d_Model_value_0 rfl (lv_at hl1 0 rfl) ?_
  refine lv_iload_n hx hb d_Model_value_1 rfl (lv_at hl1 1 rfl) ?_
  refine lv_if_lt (tgt := 10) hx hb d_Model_value_2 (by decide) (fun c_1 => ?_) (fun c_1 => ?_)
  · first | exact absurd c_1 (by decide) | exact absurd (by decide) c_1
  refine lv_iload_n hx hb d_Model_value_5 rfl (lv_at hl1 1 rfl) ?_
  refine lv_iconst (v := 5) hx hb d_Model_value_6 (by decide) ?_
  refine lv_icmp_le (tgt := 14) hx hb d_Model_value_7 (by decide) (fun c_2 => ?_) (fun c_2 => ?_)
  rotate_left
  · first | exact absurd c_2 (by decide) | exact absurd (by decide) c_2
  refine lv_iconst (v := 0) hx hb d_Model_value_14 (by decide) ?_
  refine va_put (D := D) (ci := 11) (v := .int 0) (ty := .int) (C := R_Model) (T := F_Model) (N := 72) hx hb hts i_Model t_Model t_Model_ok n_Model hown hK.1 hP hD hS 0 rfl rfl 0 (by decide) (hts _ wd_1036) (fun _ h9 => h9) rfl (by decide +kernel) rfl rfl (Nat.le_of_ble_eq_true rfl) d_Model_value_15 (fun H_3 locs hP hD hS => ?_)
  have hP : va_P D classes [(m0, .inr (11, [.int 0, .int 0, .ref m1, .int 0, .int 0, .ref m2, .int 0, .int 0, .int 0, .int 0, .int 0, .ref m42, .ref m3, .ref m4, .int 0, .int 0, .ref m5, .ref m6, .ref m7, .ref m8, .ref m9, .ref m10, .ref m11, .ref m12, .ref m13, .ref m14, .ref m15, .ref m16, .ref m17, .ref m18, .ref m19, .int 0, .ref m20, .int 0, .ref m21, .int 0, .int 0, .int 0, .int 0, .int 0, .int 0, .int 0, .ref m22, .int 0, .int 0, .ref m23, .ref m24, .ref m25, .ref m26, .int 0, .ref m27, .int 0, .ref m28, .int 0, .ref m29, .ref m30, .int (-1), .int 0, .int 0, .ref m31, .ref m32, .ref m33, .ref m34, .ref m35, .ref m36, .ref m37, .ref m38, .ref m39, .int 0, .ref m40, .int 0, .ref m41])), (m40, .inl (ax 4, 6, .inr (.inl (fun _ => 0))))] H_3 := hP
  have hD : va_D A [(m0, .inr (11, [.int 0, .int 0, .ref m1, .int 0, .int 0, .ref m2, .int 0, .int 0, .int 0, .int 0, .int 0, .ref m42, .ref m3, .ref m4, .int 0, .int 0, .ref m5, .ref m6, .ref m7, .ref m8, .ref m9, .ref m10, .ref m11, .ref m12, .ref m13, .ref m14, .ref m15, .ref m16, .ref m17, .ref m18, .ref m19, .int 0, .ref m20, .int 0, .ref m21, .int 0, .int 0, .int 0, .int 0, .int 0, .int 0, .int 0, .ref m22, .int 0, .int 0, .ref m23, .ref m24, .ref m25, .ref m26, .int 0, .ref m27, .int 0, .ref m28, .int 0, .ref m29, .ref m30, .int (-1), .int 0, .int 0, .ref m31, .ref m32, .ref m33, .ref m34, .ref m35, .ref m36, .ref m37, .ref m38, .ref m39, .int 0, .ref m40, .int 0, .ref m41])), (m40, .inl (ax 4, 6, .inr (.inl (fun _ => 0))))] := hD
  refine lv_aload_n hx hb d_Model_value_18 rfl (lv_at hl1 0 rfl) ?_
  refine va_get (D := D) (ci := 11) (v := .int 0) (C := R_Model) (T := F_Model) (N := 72) hx hb hts i_Model hown hK.1 hP 0 rfl rfl 0 (by decide) (hts _ wd_1036) (fun _ h9 => h9) rfl d_Model_value_19 ?_
  refine lv_if_le (tgt := 29) hx hb d_Model_value_22 (by decide) (fun c_4 => ?_) (fun c_4 => ?_)
  rotate_left
  · first | exact absurd c_4 (by decide) | exact absurd (by decide) c_4
  refine lv_aload_n hx hb d_Model_value_29 rfl (lv_at hl1 0 rfl) ?_
  refine va_get (D := D) (ci := 11) (v := .ref m40) (C := R_Model) (T := F_Model) (N := 72) hx hb hts i_Model hown hK.1 hP 0 rfl rfl 69 (by decide) (hts _ wd_1105) (fun _ h9 => h9) rfl d_Model_value_30 ?_
  refine lv_iload_n hx hb d_Model_value_33 rfl (lv_at hl1 1 rfl) ?_
  refine va_lald hx hb hK.1 hP 1 4 rfl rfl (by unfold vp_in; decide) d_Model_value_34 ?_
  refine lv_topl (fun z_5 ez_5 => ?_)
  have ez_5 : z_5 = 0 := ez_5.trans (by first | rfl | decide)
  subst ez_5
  have hP9 := hP.sub (ws' := (fun u : Nat → Nat => [(m0, .inr (11, [.int 0, .int 0, .ref m1, .int 0, .int 0, .ref m2, .int 0, .int 0, .int 0, .int 0, .int 0, .ref m42, .ref m3, .ref m4, .int 0, .int 0, .ref m5, .ref m6, .ref m7, .ref m8, .ref m9, .ref m10, .ref m11, .ref m12, .ref m13, .ref m14, .ref m15, .ref m16, .ref m17, .ref m18, .ref m19, .int 0, .ref m20, .int 0, .ref m21, .int 0, .int 0, .int 0, .int 0, .int 0, .int 0, .int 0, .ref m22, .int 0, .int 0, .ref m23, .ref m24, .ref m25, .ref m26, .int 0, .ref m27, .int 0, .ref m28, .int 0, .ref m29, .ref m30, .int (-1), .int 0, .int 0, .ref m31, .ref m32, .ref m33, .ref m34, .ref m35, .ref m36, .ref m37, .ref m38, .ref m39, .int 0, .ref m40, .int 0, .ref m41])), (m40, .inl (ax 4, 6, .inr (.inl (fun _ => 0))))]) (ixn [])) [0, 1] rfl
  have hD9 := hD.sub (ws' := (fun u : Nat → Nat => [(m0, .inr (11, [.int 0, .int 0, .ref m1, .int 0, .int 0, .ref m2, .int 0, .int 0, .int 0, .int 0, .int 0, .ref m42, .ref m3, .ref m4, .int 0, .int 0, .ref m5, .ref m6, .ref m7, .ref m8, .ref m9, .ref m10, .ref m11, .ref m12, .ref m13, .ref m14, .ref m15, .ref m16, .ref m17, .ref m18, .ref m19, .int 0, .ref m20, .int 0, .ref m21, .int 0, .int 0, .int 0, .int 0, .int 0, .int 0, .int 0, .ref m22, .int 0, .int 0, .ref m23, .ref m24, .ref m25, .ref m26, .int 0, .ref m27, .int 0, .ref m28, .int 0, .ref m29, .ref m30, .int (-1), .int 0, .int 0, .ref m31, .ref m32, .ref m33, .ref m34, .ref m35, .ref m36, .ref m37, .ref m38, .ref m39, .int 0, .ref m40, .int 0, .ref m41])), (m40, .inl (ax 4, 6, .inr (.inl (fun _ => 0))))]) (ixn [])) [0, 1] (by decide) rfl
  exact W.lret (v := 0) hx hb hr (fun t ht hW => ⟨⟨0, ixn [], rfl, rfl, ⟨by rw [ht]; exact hP9, hD9⟩⟩, hS.F ht⟩) hS.2.2 d_Model_value_35
abbrev b_Model_termOf : ByteArray := prog_13_method_85_code
def y_Model_termOf : MethodName := ⟨R_Model, "termOf", "(II)J"⟩
theorem d_Model_termOf_0 : decode b_Model_termOf 0 = .ok (.iload_n 1, 1) := by decide +kernel
theorem d_Model_termOf_1 : decode b_Model_termOf 1 = .ok (.iconst (-1), 1) := by decide +kernel
theorem d_Model_termOf_2 : decode b_Model_termOf 2 = .ok (.if_icmp .ne 8, 3) := by decide +kernel
theorem d_Model_termOf_5 : decode b_Model_termOf 5 = .ok (.iload_n 2, 1) := by decide +kernel
theorem d_Model_termOf_6 : decode b_Model_termOf 6 = .ok (.i2l, 1) := by decide +kernel
theorem d_Model_termOf_7 : decode b_Model_termOf 7 = .ok (.goto 12, 3) := by decide +kernel
theorem d_Model_termOf_19 : decode b_Model_termOf 19 = .ok (.lreturn, 1) := by decide +kernel
set_option maxHeartbeats 4000000 in
set_option maxRecDepth 100000 in
theorem c_Model_termOf (l : Launch) (D : va_G) (ax : Nat → ClassId) (m0 m1 m2 m3 m4 m5 m6 m7 m8 m9 m10 m11 m12 m13 m14 m15 m16 m17 m18 m19 m20 m21 m22 m23 m24 m25 m26 m27 m28 m29 m30 m31 m32 m33 m34 m35 m36 m37 m38 m39 m40 m41 m42 : Nat) (sz : Nat) : Met l y_Model_termOf (xws (.code y_Model_termOf b_Model_termOf 3 (some .long))) ({ frames := 10, cells := 0, slots := 0, locals := 400 }) (va_Pc [.ref m0, .int (-1), .int 0] (xo D ax [(m0, .inr (11, [.int 0, .int 0, .ref m1, .int 0, .int 0, .ref m2, .int 0, .int 0, .int 0, .int 0, .int 0, .ref m42, .ref m3, .ref m4, .int 0, .int 0, .ref m5, .ref m6, .ref m7, .ref m8, .ref m9, .ref m10, .ref m11, .ref m12, .ref m13, .ref m14, .ref m15, .ref m16, .ref m17, .ref m18, .ref m19, .int 0, .ref m20, .int 0, .ref m21, .int 0, .int 0, .int 0, .int 0, .int 0, .int 0, .int 0, .ref m22, .int 0, .int 0, .ref m23, .ref m24, .ref m25, .ref m26, .int 0, .ref m27, .int 0, .ref m28, .int 0, .ref m29, .ref m30, .int (-1), .int 0, .int 0, .ref m31, .ref m32, .ref m33, .ref m34, .ref m35, .ref m36, .ref m37, .ref m38, .ref m39, .int 0, .ref m40, .int 0, .ref m41]))] sz)) ((va_Ql (fun (r : Int64) (u : Nat → Nat) => r = 0) (xb D (va_A [(m0, .inr (11, [.int 0, .int 0, .ref m1, .int 0, .int 0, .ref m2, .int 0, .int 0, .int 0, .int 0, .int 0, .ref m42, .ref m3, .ref m4, .int 0, .int 0, .ref m5, .ref m6, .ref m7, .ref m8, .ref m9, .ref m10, .ref m11, .ref m12, .ref m13, .ref m14, .ref m15, .ref m16, .ref m17, .ref m18, .ref m19, .int 0, .ref m20, .int 0, .ref m21, .int 0, .int 0, .int 0, .int 0, .int 0, .int 0, .int 0, .ref m22, .int 0, .int 0, .ref m23, .ref m24, .ref m25, .ref m26, .int 0, .ref m27, .int 0, .ref m28, .int 0, .ref m29, .ref m30, .int (-1), .int 0, .int 0, .ref m31, .ref m32, .ref m33, .ref m34, .ref m35, .ref m36, .ref m37, .ref m38, .ref m39, .int 0, .ref m40, .int 0, .ref m41]))] sz) (fun u => [(m0, .inr (11, [.int 0, .int 0, .ref m1, .int 0, .int 0, .ref m2, .int 0, .int 0, .int 0, .int 0, .int 0, .ref m42, .ref m3, .ref m4, .int 0, .int 0, .ref m5, .ref m6, .ref m7, .ref m8, .ref m9, .ref m10, .ref m11, .ref m12, .ref m13, .ref m14, .ref m15, .ref m16, .ref m17, .ref m18, .ref m19, .int 0, .ref m20, .int 0, .ref m21, .int 0, .int 0, .int 0, .int 0, .int 0, .int 0, .int 0, .ref m22, .int 0, .int 0, .ref m23, .ref m24, .ref m25, .ref m26, .int 0, .ref m27, .int 0, .ref m28, .int 0, .ref m29, .ref m30, .int (-1), .int 0, .int 0, .ref m31, .ref m32, .ref m33, .ref m34, .ref m35, .ref m36, .ref m37, .ref m38, .ref m39, .int 0, .ref m40, .int 0, .ref m41]))])) (va_A [(m0, .inr (11, [.int 0, .int 0, .ref m1, .int 0, .int 0, .ref m2, .int 0, .int 0, .int 0, .int 0, .int 0, .ref m42, .ref m3, .ref m4, .int 0, .int 0, .ref m5, .ref m6, .ref m7, .ref m8, .ref m9, .ref m10, .ref m11, .ref m12, .ref m13, .ref m14, .ref m15, .ref m16, .ref m17, .ref m18, .ref m19, .int 0, .ref m20, .int 0, .ref m21, .int 0, .int 0, .int 0, .int 0, .int 0, .int 0, .int 0, .ref m22, .int 0, .int 0, .ref m23, .ref m24, .ref m25, .ref m26, .int 0, .ref m27, .int 0, .ref m28, .int 0, .ref m29, .ref m30, .int (-1), .int 0, .int 0, .ref m31, .ref m32, .ref m33, .ref m34, .ref m35, .ref m36, .ref m37, .ref m38, .ref m39, .int 0, .ref m40, .int 0, .ref m41]))] sz))) 0 0 (va_A [(m0, .inr (11, [.int 0, .int 0, .ref m1, .int 0, .int 0, .ref m2, .int 0, .int 0, .int 0, .int 0, .int 0, .ref m42, .ref m3, .ref m4, .int 0, .int 0, .ref m5, .ref m6, .ref m7, .ref m8, .ref m9, .ref m10, .ref m11, .ref m12, .ref m13, .ref m14, .ref m15, .ref m16, .ref m17, .ref m18, .ref m19, .int 0, .ref m20, .int 0, .ref m21, .int 0, .int 0, .int 0, .int 0, .int 0, .int 0, .int 0, .ref m22, .int 0, .int 0, .ref m23, .ref m24, .ref m25, .ref m26, .int 0, .ref m27, .int 0, .ref m28, .int 0, .ref m29, .ref m30, .int (-1), .int 0, .int 0, .ref m31, .ref m32, .ref m33, .ref m34, .ref m35, .ref m36, .ref m37, .ref m38, .ref m39, .int 0, .ref m40, .int 0, .ref m41]))] sz) := by
  refine Met.ofW (cc := b_Model_termOf) (maxL := 3) (ret := (some .long)) (by decide) rfl ?_
  intro p e s m args below meth c s₁ B hml hv
  obtain ⟨rfl, hsz, hP, hK, hD0⟩ := hv
  have hx := B.exec
  have hb := B.bytes
  have hr := B.returns
  have hts := xw_hts B.pre
  have hown : s.vm.findClass R_Model = some m.cls := findClass_of_methodNamed B.named
  have hlocks := B.notSynchronized
  subst hsz
  have hD := hD0.self (sz := s.heap.size)
  have hN := xz_entry hP
  generalize hAe : va_A [(m0, .inr (11, [.int 0, .int 0, .ref m1, .int 0, .int 0, .ref m2, .int 0, .int 0, .int 0, .int 0, .int 0, .ref m42, .ref m3, .ref m4, .int 0, .int 0, .ref m5, .ref m6, .ref m7, .ref m8, .ref m9, .ref m10, .ref m11, .ref m12, .ref m13, .ref m14, .ref m15, .ref m16, .ref m17, .ref m18, .ref m19, .int 0, .ref m20, .int 0, .ref m21, .int 0, .int 0, .int 0, .int 0, .int 0, .int 0, .int 0, .ref m22, .int 0, .int 0, .ref m23, .ref m24, .ref m25, .ref m26, .int 0, .ref m27, .int 0, .ref m28, .int 0, .ref m29, .ref m30, .int (-1), .int 0, .int 0, .ref m31, .ref m32, .ref m33, .ref m34, .ref m35, .ref m36, .ref m37, .ref m38, .ref m39, .int 0, .ref m40, .int 0, .ref m41]))] s.heap.size = A at hD hN ⊢
  have hA : ∀ q : Nat, s.heap.size ≤ q → A q := fun q h => by rw [← hAe]; exact Or.inr h
  have hS : va_S A s.heap s.heap [] := va_S.rf
  have hl0 := lv_entry ([.ref m0, .int (-1), .int 0]) (n := 3) (Nat.le_of_ble_eq_true rfl)
  rw [lg_entry_eq]
  generalize (lg_sl ([.ref m0, .int (-1), .int 0]) ++ List.replicate (3 - (lg_sl ([.ref m0, .int (-1), .int 0])).length) Slot.unset).toArray = ls at hl0 ⊢
  have hl1 : lv_has ls 3 [(0, .ref m0), (1, .int (-1)), (2, .int 0)] := hl0
  refine lv_iload_n hx hb d_Model_termOf_0 rfl (lv_at hl1 1 rfl) ?_
  refine lv_iconst (v := (-1)) hx hb d_Model_termOf_1 (by decide) ?_
  refine lv_icmp_ne (tgt := 10) hx hb d_Model_termOf_2 (by decide) (fun c_1 => ?_) (fun c_1 => ?_)
  · first | exact absurd c_1 (by decide) | exact absurd (by decide) c_1
  refine lv_iload_n hx hb d_Model_termOf_5 rfl (lv_at hl1 2 rfl) ?_
  refine lv_i2l hx hb d_Model_termOf_6 rfl ?_
  refine lv_topl (fun z_2 ez_2 => ?_)
  have ez_2 : z_2 = 0 := ez_2.trans (by first | rfl | decide)
  subst ez_2
  refine lv_goto (tgt := 19) hx hb d_Model_termOf_7 (by decide) ?_
  have hP9 := hP.sub (ws' := (fun u : Nat → Nat => [(m0, .inr (11, [.int 0, .int 0, .ref m1, .int 0, .int 0, .ref m2, .int 0, .int 0, .int 0, .int 0, .int 0, .ref m42, .ref m3, .ref m4, .int 0, .int 0, .ref m5, .ref m6, .ref m7, .ref m8, .ref m9, .ref m10, .ref m11, .ref m12, .ref m13, .ref m14, .ref m15, .ref m16, .ref m17, .ref m18, .ref m19, .int 0, .ref m20, .int 0, .ref m21, .int 0, .int 0, .int 0, .int 0, .int 0, .int 0, .int 0, .ref m22, .int 0, .int 0, .ref m23, .ref m24, .ref m25, .ref m26, .int 0, .ref m27, .int 0, .ref m28, .int 0, .ref m29, .ref m30, .int (-1), .int 0, .int 0, .ref m31, .ref m32, .ref m33, .ref m34, .ref m35, .ref m36, .ref m37, .ref m38, .ref m39, .int 0, .ref m40, .int 0, .ref m41]))]) (ixn [])) [0] rfl
  have hD9 := hD.sub (ws' := (fun u : Nat → Nat => [(m0, .inr (11, [.int 0, .int 0, .ref m1, .int 0, .int 0, .ref m2, .int 0, .int 0, .int 0, .int 0, .int 0, .ref m42, .ref m3, .ref m4, .int 0, .int 0, .ref m5, .ref m6, .ref m7, .ref m8, .ref m9, .ref m10, .ref m11, .ref m12, .ref m13, .ref m14, .ref m15, .ref m16, .ref m17, .ref m18, .ref m19, .int 0, .ref m20, .int 0, .ref m21, .int 0, .int 0, .int 0, .int 0, .int 0, .int 0, .int 0, .ref m22, .int 0, .int 0, .ref m23, .ref m24, .ref m25, .ref m26, .int 0, .ref m27, .int 0, .ref m28, .int 0, .ref m29, .ref m30, .int (-1), .int 0, .int 0, .ref m31, .ref m32, .ref m33, .ref m34, .ref m35, .ref m36, .ref m37, .ref m38, .ref m39, .int 0, .ref m40, .int 0, .ref m41]))]) (ixn [])) [0] (by decide) rfl
  exact W.lret (v := 0) hx hb hr (fun t ht hW => ⟨⟨0, ixn [], rfl, rfl, ⟨by rw [ht]; exact hP9, hD9⟩⟩, hS.F ht⟩) hS.2.2 d_Model_termOf_19
abbrev b_Model_compare : ByteArray := prog_13_method_86_code
def y_Model_compare : MethodName := ⟨R_Model, "compare", "(JIJ)Z"⟩
theorem d_Model_compare_0 : decode b_Model_compare 0 = .ok (.iload_n 2, 1) := by decide +kernel
theorem d_Model_compare_1 : decode b_Model_compare 1 = .ok (.ifCond .ne 17, 3) := by decide +kernel
theorem d_Model_compare_18 : decode b_Model_compare 18 = .ok (.iload_n 2, 1) := by decide +kernel
theorem d_Model_compare_19 : decode b_Model_compare 19 = .ok (.iconst 1, 1) := by decide +kernel
theorem d_Model_compare_20 : decode b_Model_compare 20 = .ok (.if_icmp .ne 17, 3) := by decide +kernel
theorem d_Model_compare_37 : decode b_Model_compare 37 = .ok (.iload_n 2, 1) := by decide +kernel
theorem d_Model_compare_38 : decode b_Model_compare 38 = .ok (.iconst 2, 1) := by decide +kernel
theorem d_Model_compare_39 : decode b_Model_compare 39 = .ok (.if_icmp .ne 17, 3) := by decide +kernel
theorem d_Model_compare_42 : decode b_Model_compare 42 = .ok (.lload_n 0, 1) := by decide +kernel
theorem d_Model_compare_43 : decode b_Model_compare 43 = .ok (.lload_n 3, 1) := by decide +kernel
theorem d_Model_compare_44 : decode b_Model_compare 44 = .ok (.lcmp, 1) := by decide +kernel
theorem d_Model_compare_45 : decode b_Model_compare 45 = .ok (.ifCond .ne 7, 3) := by decide +kernel
theorem d_Model_compare_48 : decode b_Model_compare 48 = .ok (.iconst 1, 1) := by decide +kernel
theorem d_Model_compare_49 : decode b_Model_compare 49 = .ok (.goto 56, 3) := by decide +kernel
theorem d_Model_compare_105 : decode b_Model_compare 105 = .ok (.ireturn, 1) := by decide +kernel
set_option maxHeartbeats 4000000 in
set_option maxRecDepth 100000 in
theorem c_Model_compare (l : Launch) (D : va_G) (ax : Nat → ClassId) (sz : Nat) : Met l y_Model_compare (xws (.code y_Model_compare b_Model_compare 5 (some .boolean))) ({ frames := 10, cells := 0, slots := 0, locals := 400 }) (va_Pc [.long 0, .int 2, .long 0] (xo D ax [] sz)) ((va_Qi (fun (r : Int32) (u : Nat → Nat) => r = 1) (xb D (va_A [] sz) (fun u => [])) (va_A [] sz))) 0 0 (va_A [] sz) := by
  refine Met.ofW (cc := b_Model_compare) (maxL := 5) (ret := (some .boolean)) (by decide) rfl ?_
  intro p e s m args below meth c s₁ B hml hv
  obtain ⟨rfl, hsz, hP, hK, hD0⟩ := hv
  have hx := B.exec
  have hb := B.bytes
  have hr := B.returns
  have hts := xw_hts B.pre
  have hown : s.vm.findClass R_Model = some m.cls := findClass_of_methodNamed B.named
  have hlocks := B.notSynchronized
  subst hsz
  have hD := hD0.self (sz := s.heap.size)
  have hN := xz_entry hP
  generalize hAe : va_A [] s.heap.size = A at hD hN ⊢
  have hA : ∀ q : Nat, s.heap.size ≤ q → A q := fun q h => by rw [← hAe]; exact Or.inr h
  have hS : va_S A s.heap s.heap [] := va_S.rf
  have hl0 := lv_entry ([.long 0, .int 2, .long 0]) (n := 5) (Nat.le_of_ble_eq_true rfl)
  rw [lg_entry_eq]
  generalize (lg_sl ([.long 0, .int 2, .long 0]) ++ List.replicate (5 - (lg_sl ([.long 0, .int 2, .long 0])).length) Slot.unset).toArray = ls at hl0 ⊢
  have hl1 : lv_has ls 5 [(0, .long 0), (2, .int 2), (3, .long 0)] := hl0
  refine lv_iload_n hx hb d_Model_compare_0 rfl (lv_at hl1 1 rfl) ?_
  refine lv_if_ne (tgt := 18) hx hb d_Model_compare_1 (by decide) (fun c_1 => ?_) (fun c_1 => ?_)
  rotate_left
  · first | exact absurd c_1 (by decide) | exact absurd (by decide) c_1
  refine lv_iload_n hx hb d_Model_compare_18 rfl (lv_at hl1 1 rfl) ?_
  refine lv_iconst (v := 1) hx hb d_Model_compare_19 (by decide) ?_
  refine lv_icmp_ne (tgt := 37) hx hb d_Model_compare_20 (by decide) (fun c_2 => ?_) (fun c_2 => ?_)
  rotate_left
  · first | exact absurd c_2 (by decide) | exact absurd (by decide) c_2
  refine lv_iload_n hx hb d_Model_compare_37 rfl (lv_at hl1 1 rfl) ?_
  refine lv_iconst (v := 2) hx hb d_Model_compare_38 (by decide) ?_
  refine lv_icmp_ne (tgt := 56) hx hb d_Model_compare_39 (by decide) (fun c_3 => ?_) (fun c_3 => ?_)
  · first | exact absurd c_3 (by decide) | exact absurd (by decide) c_3
  refine lv_lload_n hx hb d_Model_compare_42 rfl (lv_at hl1 0 rfl) ?_
  refine lv_lload_n hx hb d_Model_compare_43 rfl (lv_at hl1 2 rfl) ?_
  refine W.lcmp hx hb d_Model_compare_44 ?_
  refine lv_topi (fun z_4 ez_4 => ?_)
  have ez_4 : z_4 = 0 := ez_4.trans (by first | rfl | decide)
  subst ez_4
  refine lv_if_ne (tgt := 52) hx hb d_Model_compare_45 (by decide) (fun c_5 => ?_) (fun c_5 => ?_)
  · first | exact absurd c_5 (by decide) | exact absurd (by decide) c_5
  refine lv_iconst (v := 1) hx hb d_Model_compare_48 (by decide) ?_
  refine lv_goto (tgt := 105) hx hb d_Model_compare_49 (by decide) ?_
  have hP9 := hP.sub (ws' := (fun u : Nat → Nat => []) (ixn [])) [] rfl
  have hD9 := hD.sub (ws' := (fun u : Nat → Nat => []) (ixn [])) [] (by decide) rfl
  exact W.zret (v := 1) hx hb hr rfl (fun t ht hW => ⟨⟨1, ixn [], rfl, rfl, ⟨by rw [ht]; exact hP9, hD9⟩⟩, hS.F ht⟩) hS.2.2 d_Model_compare_105
abbrev b_Model_isTrue : ByteArray := prog_13_method_87_code
def y_Model_isTrue : MethodName := ⟨R_Model, "isTrue", "([III)Z"⟩
theorem d_Model_isTrue_0 : decode b_Model_isTrue 0 = .ok (.iconst 0, 1) := by decide +kernel
theorem d_Model_isTrue_1 : decode b_Model_isTrue 1 = .ok (.istore 4, 2) := by decide +kernel
theorem d_Model_isTrue_3 : decode b_Model_isTrue 3 = .ok (.iconst 0, 1) := by decide +kernel
theorem d_Model_isTrue_4 : decode b_Model_isTrue 4 = .ok (.istore 5, 2) := by decide +kernel
theorem d_Model_isTrue_6 : decode b_Model_isTrue 6 = .ok (.iload 5, 2) := by decide +kernel
theorem d_Model_isTrue_8 : decode b_Model_isTrue 8 = .ok (.iload_n 3, 1) := by decide +kernel
theorem d_Model_isTrue_9 : decode b_Model_isTrue 9 = .ok (.if_icmp .ge 197, 3) := by decide +kernel
theorem d_Model_isTrue_12 : decode b_Model_isTrue 12 = .ok (.iload_n 2, 1) := by decide +kernel
theorem d_Model_isTrue_13 : decode b_Model_isTrue 13 = .ok (.bipush 6, 2) := by decide +kernel
theorem d_Model_isTrue_15 : decode b_Model_isTrue 15 = .ok (.iload 5, 2) := by decide +kernel
theorem d_Model_isTrue_17 : decode b_Model_isTrue 17 = .ok (.imul, 1) := by decide +kernel
theorem d_Model_isTrue_18 : decode b_Model_isTrue 18 = .ok (.iadd, 1) := by decide +kernel
theorem d_Model_isTrue_19 : decode b_Model_isTrue 19 = .ok (.istore 6, 2) := by decide +kernel
theorem d_Model_isTrue_21 : decode b_Model_isTrue 21 = .ok (.aload_n 1, 1) := by decide +kernel
theorem d_Model_isTrue_22 : decode b_Model_isTrue 22 = .ok (.iload 6, 2) := by decide +kernel
theorem d_Model_isTrue_24 : decode b_Model_isTrue 24 = .ok (.iaload, 1) := by decide +kernel
theorem d_Model_isTrue_25 : decode b_Model_isTrue 25 = .ok (.ifCond .ne 57, 3) := by decide +kernel
theorem d_Model_isTrue_28 : decode b_Model_isTrue 28 = .ok (.aload_n 0, 1) := by decide +kernel
theorem d_Model_isTrue_29 : decode b_Model_isTrue 29 = .ok (.getfield 141, 3) := by decide +kernel
theorem d_Model_isTrue_32 : decode b_Model_isTrue 32 = .ok (.iload 4, 2) := by decide +kernel
theorem d_Model_isTrue_34 : decode b_Model_isTrue 34 = .ok (.aload_n 0, 1) := by decide +kernel
theorem d_Model_isTrue_35 : decode b_Model_isTrue 35 = .ok (.aload_n 1, 1) := by decide +kernel
theorem d_Model_isTrue_36 : decode b_Model_isTrue 36 = .ok (.iload 6, 2) := by decide +kernel
theorem d_Model_isTrue_38 : decode b_Model_isTrue 38 = .ok (.iconst 1, 1) := by decide +kernel
theorem d_Model_isTrue_39 : decode b_Model_isTrue 39 = .ok (.iadd, 1) := by decide +kernel
theorem d_Model_isTrue_40 : decode b_Model_isTrue 40 = .ok (.iaload, 1) := by decide +kernel
theorem d_Model_isTrue_41 : decode b_Model_isTrue 41 = .ok (.aload_n 1, 1) := by decide +kernel
theorem d_Model_isTrue_42 : decode b_Model_isTrue 42 = .ok (.iload 6, 2) := by decide +kernel
theorem d_Model_isTrue_44 : decode b_Model_isTrue 44 = .ok (.iconst 2, 1) := by decide +kernel
theorem d_Model_isTrue_45 : decode b_Model_isTrue 45 = .ok (.iadd, 1) := by decide +kernel
theorem d_Model_isTrue_46 : decode b_Model_isTrue 46 = .ok (.iaload, 1) := by decide +kernel
theorem d_Model_isTrue_47 : decode b_Model_isTrue 47 = .ok (.invokevirtual 467, 3) := by decide +kernel
theorem d_Model_isTrue_50 : decode b_Model_isTrue 50 = .ok (.aload_n 1, 1) := by decide +kernel
theorem d_Model_isTrue_51 : decode b_Model_isTrue 51 = .ok (.iload 6, 2) := by decide +kernel
theorem d_Model_isTrue_53 : decode b_Model_isTrue 53 = .ok (.iconst 3, 1) := by decide +kernel
theorem d_Model_isTrue_54 : decode b_Model_isTrue 54 = .ok (.iadd, 1) := by decide +kernel
theorem d_Model_isTrue_55 : decode b_Model_isTrue 55 = .ok (.iaload, 1) := by decide +kernel
theorem d_Model_isTrue_56 : decode b_Model_isTrue 56 = .ok (.aload_n 0, 1) := by decide +kernel
theorem d_Model_isTrue_57 : decode b_Model_isTrue 57 = .ok (.aload_n 1, 1) := by decide +kernel
theorem d_Model_isTrue_58 : decode b_Model_isTrue 58 = .ok (.iload 6, 2) := by decide +kernel
theorem d_Model_isTrue_60 : decode b_Model_isTrue 60 = .ok (.iconst 4, 1) := by decide +kernel
theorem d_Model_isTrue_61 : decode b_Model_isTrue 61 = .ok (.iadd, 1) := by decide +kernel
theorem d_Model_isTrue_62 : decode b_Model_isTrue 62 = .ok (.iaload, 1) := by decide +kernel
theorem d_Model_isTrue_63 : decode b_Model_isTrue 63 = .ok (.aload_n 1, 1) := by decide +kernel
theorem d_Model_isTrue_64 : decode b_Model_isTrue 64 = .ok (.iload 6, 2) := by decide +kernel
theorem d_Model_isTrue_66 : decode b_Model_isTrue 66 = .ok (.iconst 5, 1) := by decide +kernel
theorem d_Model_isTrue_67 : decode b_Model_isTrue 67 = .ok (.iadd, 1) := by decide +kernel
theorem d_Model_isTrue_68 : decode b_Model_isTrue 68 = .ok (.iaload, 1) := by decide +kernel
theorem d_Model_isTrue_69 : decode b_Model_isTrue 69 = .ok (.invokevirtual 467, 3) := by decide +kernel
theorem d_Model_isTrue_72 : decode b_Model_isTrue 72 = .ok (.invokestatic 471, 3) := by decide +kernel
theorem d_Model_isTrue_75 : decode b_Model_isTrue 75 = .ok (.bastore, 1) := by decide +kernel
theorem d_Model_isTrue_76 : decode b_Model_isTrue 76 = .ok (.iinc 4 1, 3) := by decide +kernel
theorem d_Model_isTrue_79 : decode b_Model_isTrue 79 = .ok (.goto 121, 3) := by decide +kernel
theorem d_Model_isTrue_200 : decode b_Model_isTrue 200 = .ok (.iinc 5 1, 3) := by decide +kernel
theorem d_Model_isTrue_203 : decode b_Model_isTrue 203 = .ok (.goto (-197), 3) := by decide +kernel
theorem d_Model_isTrue_206 : decode b_Model_isTrue 206 = .ok (.aload_n 0, 1) := by decide +kernel
theorem d_Model_isTrue_207 : decode b_Model_isTrue 207 = .ok (.getfield 141, 3) := by decide +kernel
theorem d_Model_isTrue_210 : decode b_Model_isTrue 210 = .ok (.iconst 0, 1) := by decide +kernel
theorem d_Model_isTrue_211 : decode b_Model_isTrue 211 = .ok (.baload, 1) := by decide +kernel
theorem d_Model_isTrue_212 : decode b_Model_isTrue 212 = .ok (.ireturn, 1) := by decide +kernel
set_option maxHeartbeats 4000000 in
set_option maxRecDepth 100000 in
theorem c_Model_isTrue_0 (l : Launch) (D : va_G) (ax : Nat → ClassId) (m0 m1 m2 m3 m4 m5 m6 m7 m8 m9 m10 m11 m12 m13 m14 m15 m16 m17 m18 m19 m20 m21 m22 m23 m24 m25 m26 m27 m28 m29 m30 m31 m32 m33 m34 m35 m36 m37 m38 m39 m40 m41 m42 : Nat) (sz : Nat) : Met l y_Model_isTrue (xws (.code y_Model_isTrue b_Model_isTrue 7 (some .boolean))) ({ frames := 20, cells := 0, slots := 0, locals := 800 }) (va_Pc [.ref m0, .ref m42, .int 0, .int 1] (xo D ax [(m0, .inr (11, [.int 0, .int 0, .ref m1, .int 0, .int 0, .ref m2, .int 0, .int 0, .int 0, .int 0, .int 0, .ref m42, .ref m3, .ref m4, .int 0, .int 0, .ref m5, .ref m6, .ref m7, .ref m8, .ref m9, .ref m10, .ref m11, .ref m12, .ref m13, .ref m14, .ref m15, .ref m16, .ref m17, .ref m18, .ref m19, .int 0, .ref m20, .int 0, .ref m21, .int 0, .int 0, .int 0, .int 0, .int 0, .int 0, .int 0, .ref m22, .int 0, .int 0, .ref m23, .ref m24, .ref m25, .ref m26, .int 0, .ref m27, .int 0, .ref m28, .int 0, .ref m29, .ref m30, .int (-1), .int 0, .int 0, .ref m31, .ref m32, .ref m33, .ref m34, .ref m35, .ref m36, .ref m37, .ref m38, .ref m39, .int 0, .ref m40, .int 0, .ref m41])), (m42, .inl (ax 0, 3072, .inl (upd (upd (upd (upd (upd (upd (upd (upd (upd (upd (upd (upd (fun _ => 0) 0 0) 1 (-1)) 2 0) 3 2) 4 (-1)) 5 0) 1536 0) 1537 (-1)) 1538 0) 1539 2) 1540 (-1)) 1541 0))), (m41, .inl (ax 3, 256, .inl (fun _ => 0)))] sz)) ((va_Qi (fun (r : Int32) (u : Nat → Nat) => r = 1) (xb D (va_A [(m0, .inr (11, [.int 0, .int 0, .ref m1, .int 0, .int 0, .ref m2, .int 0, .int 0, .int 0, .int 0, .int 0, .ref m42, .ref m3, .ref m4, .int 0, .int 0, .ref m5, .ref m6, .ref m7, .ref m8, .ref m9, .ref m10, .ref m11, .ref m12, .ref m13, .ref m14, .ref m15, .ref m16, .ref m17, .ref m18, .ref m19, .int 0, .ref m20, .int 0, .ref m21, .int 0, .int 0, .int 0, .int 0, .int 0, .int 0, .int 0, .ref m22, .int 0, .int 0, .ref m23, .ref m24, .ref m25, .ref m26, .int 0, .ref m27, .int 0, .ref m28, .int 0, .ref m29, .ref m30, .int (-1), .int 0, .int 0, .ref m31, .ref m32, .ref m33, .ref m34, .ref m35, .ref m36, .ref m37, .ref m38, .ref m39, .int 0, .ref m40, .int 0, .ref m41])), (m42, .inl (ax 0, 3072, .inl (upd (upd (upd (upd (upd (upd (upd (upd (upd (upd (upd (upd (fun _ => 0) 0 0) 1 (-1)) 2 0) 3 2) 4 (-1)) 5 0) 1536 0) 1537 (-1)) 1538 0) 1539 2) 1540 (-1)) 1541 0))), (m41, .inl (ax 3, 256, .inl (fun _ => 0)))] sz) (fun u => [(m42, .inl (ax 0, 3072, .inl (upd (upd (upd (upd (upd (upd (upd (upd (upd (upd (upd (upd (fun _ => 0) 0 0) 1 (-1)) 2 0) 3 2) 4 (-1)) 5 0) 1536 0) 1537 (-1)) 1538 0) 1539 2) 1540 (-1)) 1541 0))), (m41, .inl (ax 3, 256, .inl (upd (fun _ => 0) 0 1))), (m0, .inr (11, [.int 0, .int 0, .ref m1, .int 0, .int 0, .ref m2, .int 0, .int 0, .int 0, .int 0, .int 0, .ref m42, .ref m3, .ref m4, .int 0, .int 0, .ref m5, .ref m6, .ref m7, .ref m8, .ref m9, .ref m10, .ref m11, .ref m12, .ref m13, .ref m14, .ref m15, .ref m16, .ref m17, .ref m18, .ref m19, .int 0, .ref m20, .int 0, .ref m21, .int 0, .int 0, .int 0, .int 0, .int 0, .int 0, .int 0, .ref m22, .int 0, .int 0, .ref m23, .ref m24, .ref m25, .ref m26, .int 0, .ref m27, .int 0, .ref m28, .int 0, .ref m29, .ref m30, .int (-1), .int 0, .int 0, .ref m31, .ref m32, .ref m33, .ref m34, .ref m35, .ref m36, .ref m37, .ref m38, .ref m39, .int 0, .ref m40, .int 0, .ref m41]))])) (va_A [(m0, .inr (11, [.int 0, .int 0, .ref m1, .int 0, .int 0, .ref m2, .int 0, .int 0, .int 0, .int 0, .int 0, .ref m42, .ref m3, .ref m4, .int 0, .int 0, .ref m5, .ref m6, .ref m7, .ref m8, .ref m9, .ref m10, .ref m11, .ref m12, .ref m13, .ref m14, .ref m15, .ref m16, .ref m17, .ref m18, .ref m19, .int 0, .ref m20, .int 0, .ref m21, .int 0, .int 0, .int 0, .int 0, .int 0, .int 0, .int 0, .ref m22, .int 0, .int 0, .ref m23, .ref m24, .ref m25, .ref m26, .int 0, .ref m27, .int 0, .ref m28, .int 0, .ref m29, .ref m30, .int (-1), .int 0, .int 0, .ref m31, .ref m32, .ref m33, .ref m34, .ref m35, .ref m36, .ref m37, .ref m38, .ref m39, .int 0, .ref m40, .int 0, .ref m41])), (m42, .inl (ax 0, 3072, .inl (upd (upd (upd (upd (upd (upd (upd (upd (upd (upd (upd (upd (fun _ => 0) 0 0) 1 (-1)) 2 0) 3 2) 4 (-1)) 5 0) 1536 0) 1537 (-1)) 1538 0) 1539 2) 1540 (-1)) 1541 0))), (m41, .inl (ax 3, 256, .inl (fun _ => 0)))] sz))) 0 0 (va_A [(m0, .inr (11, [.int 0, .int 0, .ref m1, .int 0, .int 0, .ref m2, .int 0, .int 0, .int 0, .int 0, .int 0, .ref m42, .ref m3, .ref m4, .int 0, .int 0, .ref m5, .ref m6, .ref m7, .ref m8, .ref m9, .ref m10, .ref m11, .ref m12, .ref m13, .ref m14, .ref m15, .ref m16, .ref m17, .ref m18, .ref m19, .int 0, .ref m20, .int 0, .ref m21, .int 0, .int 0, .int 0, .int 0, .int 0, .int 0, .int 0, .ref m22, .int 0, .int 0, .ref m23, .ref m24, .ref m25, .ref m26, .int 0, .ref m27, .int 0, .ref m28, .int 0, .ref m29, .ref m30, .int (-1), .int 0, .int 0, .ref m31, .ref m32, .ref m33, .ref m34, .ref m35, .ref m36, .ref m37, .ref m38, .ref m39, .int 0, .ref m40, .int 0, .ref m41])), (m42, .inl (ax 0, 3072, .inl (upd (upd (upd (upd (upd (upd (upd (upd (upd (upd (upd (upd (fun _ => 0) 0 0) 1 (-1)) 2 0) 3 2) 4 (-1)) 5 0) 1536 0) 1537 (-1)) 1538 0) 1539 2) 1540 (-1)) 1541 0))), (m41, .inl (ax 3, 256, .inl (fun _ => 0)))] sz) := by
  refine Met.ofW (cc := b_Model_isTrue) (maxL := 7) (ret := (some .boolean)) (by decide) rfl ?_
  intro p e s m args below meth c s₁ B hml hv
  obtain ⟨rfl, hsz, hP, hK, hD0⟩ := hv
  have hx := B.exec
  have hb := B.bytes
  have hr := B.returns
  have hts := xw_hts B.pre
  have hown : s.vm.findClass R_Model = some m.cls := findClass_of_methodNamed B.named
  have hlocks := B.notSynchronized
  subst hsz
  have hD := hD0.self (sz := s.heap.size)
  have hN := xz_entry hP
  generalize hAe : va_A [(m0, .inr (11, [.int 0, .int 0, .ref m1, .int 0, .int 0, .ref m2, .int 0, .int 0, .int 0, .int 0, .int 0, .ref m42, .ref m3, .ref m4, .int 0, .int 0, .ref m5, .ref m6, .ref m7, .ref m8, .ref m9, .ref m10, .ref m11, .ref m12, .ref m13, .ref m14, .ref m15, .ref m16, .ref m17, .ref m18, .ref m19, .int 0, .ref m20, .int 0, .ref m21, .int 0, .int 0, .int 0, .int 0, .int 0, .int 0, .int 0, .ref m22, .int 0, .int 0, .ref m23, .ref m24, .ref m25, .ref m26, .int 0, .ref m27, .int 0, .ref m28, .int 0, .ref m29, .ref m30, .int (-1), .int 0, .int 0, .ref m31, .ref m32, .ref m33, .ref m34, .ref m35, .ref m36, .ref m37, .ref m38, .ref m39, .int 0, .ref m40, .int 0, .ref m41])), (m42, .inl (ax 0, 3072, .inl (upd (upd (upd (upd (upd (upd (upd (upd (upd (upd (upd (upd (fun _ => 0) 0 0) 1 (-1)) 2 0) 3 2) 4 (-1)) 5 0) 1536 0) 1537 (-1)) 1538 0) 1539 2) 1540 (-1)) 1541 0))), (m41, .inl (ax 3, 256, .inl (fun _ => 0)))] s.heap.size = A at hD hN ⊢
  have hA : ∀ q : Nat, s.heap.size ≤ q → A q := fun q h => by rw [← hAe]; exact Or.inr h
  have hS : va_S A s.heap s.heap [] := va_S.rf
  have hl0 := lv_entry ([.ref m0, .ref m42, .int 0, .int 1]) (n := 7) (Nat.le_of_ble_eq_true rfl)
  rw [lg_entry_eq]
  generalize (lg_sl ([.ref m0, .ref m42, .int 0, .int 1]) ++ List.replicate (7 - (lg_sl ([.ref m0, .ref m42, .int 0, .int 1])).length) Slot.unset).toArray = ls at hl0 ⊢
  have hl1 : lv_has ls 7 [(0, .ref m0), (1, .ref m42), (2, .int 0), (3, .int 1)] := hl0
  refine lv_iconst (v := 0) hx hb d_Model_isTrue_0 (by decide) ?_
  refine lv_istore (lv' := [(4, .int 0), (0, .ref m0), (1, .ref m42), (2, .int 0), (3, .int 1)]) hx hb d_Model_isTrue_1 hl1 (by decide) rfl (fun ls hl1 => ?_)
  refine lv_iconst (v := 0) hx hb d_Model_isTrue_3 (by decide) ?_
  refine lv_istore (lv' := [(5, .int 0), (4, .int 0), (0, .ref m0), (1, .ref m42), (2, .int 0), (3, .int 1)]) hx hb d_Model_isTrue_4 hl1 (by decide) rfl (fun ls hl1 => ?_)
  refine lv_iload hx hb d_Model_isTrue_6 (lv_at hl1 0 rfl) ?_
  refine lv_iload_n hx hb d_Model_isTrue_8 rfl (lv_at hl1 5 rfl) ?_
  refine lv_icmp_ge (tgt := 206) hx hb d_Model_isTrue_9 (by decide) (fun c_1 => ?_) (fun c_1 => ?_)
  · first | exact absurd c_1 (by decide) | exact absurd (by decide) c_1
  refine lv_iload_n hx hb d_Model_isTrue_12 rfl (lv_at hl1 4 rfl) ?_
  refine lv_bipush (v := 6) hx hb d_Model_isTrue_13 (by decide) ?_
  refine lv_iload hx hb d_Model_isTrue_15 (lv_at hl1 0 rfl) ?_
  refine lv_imul hx hb d_Model_isTrue_17 ?_
  refine lv_topi (fun z_2 ez_2 => ?_)
  have ez_2 : z_2 = 0 := ez_2.trans (by first | rfl | decide)
  subst ez_2
  refine lv_iadd hx hb d_Model_isTrue_18 ?_
  refine lv_topi (fun z_3 ez_3 => ?_)
  have ez_3 : z_3 = 0 := ez_3.trans (by first | rfl | decide)
  subst ez_3
  refine lv_istore (lv' := [(6, .int 0), (5, .int 0), (4, .int 0), (0, .ref m0), (1, .ref m42), (2, .int 0), (3, .int 1)]) hx hb d_Model_isTrue_19 hl1 (by decide) rfl (fun ls hl1 => ?_)
  refine lv_aload_n hx hb d_Model_isTrue_21 rfl (lv_at hl1 4 rfl) ?_
  refine lv_iload hx hb d_Model_isTrue_22 (lv_at hl1 0 rfl) ?_
  refine va_iald hx hb hK.1 hP 1 0 rfl rfl (by unfold vp_in; decide) d_Model_isTrue_24 ?_
  refine lv_topi (fun z_4 ez_4 => ?_)
  have ez_4 : z_4 = 0 := ez_4.trans (by first | rfl | decide)
  subst ez_4
  refine lv_if_ne (tgt := 82) hx hb d_Model_isTrue_25 (by decide) (fun c_5 => ?_) (fun c_5 => ?_)
  · first | exact absurd c_5 (by decide) | exact absurd (by decide) c_5
  refine lv_aload_n hx hb d_Model_isTrue_28 rfl (lv_at hl1 3 rfl) ?_
  refine va_get (D := D) (ci := 11) (v := .ref m41) (C := R_Model) (T := F_Model) (N := 72) hx hb hts i_Model hown hK.1 hP 0 rfl rfl 71 (by decide) (hts _ wd_1107) (fun _ h9 => h9) rfl d_Model_isTrue_29 ?_
  refine lv_iload hx hb d_Model_isTrue_32 (lv_at hl1 2 rfl) ?_
  refine lv_aload_n hx hb d_Model_isTrue_34 rfl (lv_at hl1 3 rfl) ?_
  refine lv_aload_n hx hb d_Model_isTrue_35 rfl (lv_at hl1 4 rfl) ?_
  refine lv_iload hx hb d_Model_isTrue_36 (lv_at hl1 0 rfl) ?_
  refine lv_iconst (v := 1) hx hb d_Model_isTrue_38 (by decide) ?_
  refine lv_iadd hx hb d_Model_isTrue_39 ?_
  refine lv_topi (fun z_6 ez_6 => ?_)
  have ez_6 : z_6 = 1 := ez_6.trans (by first | rfl | decide)
  subst ez_6
  refine va_iald hx hb hK.1 hP 1 0 rfl rfl (by unfold vp_in; decide) d_Model_isTrue_40 ?_
  refine lv_topi (fun z_7 ez_7 => ?_)
  have ez_7 : z_7 = (-1) := ez_7.trans (by first | rfl | decide)
  subst ez_7
  refine lv_aload_n hx hb d_Model_isTrue_41 rfl (lv_at hl1 4 rfl) ?_
  refine lv_iload hx hb d_Model_isTrue_42 (lv_at hl1 0 rfl) ?_
  refine lv_iconst (v := 2) hx hb d_Model_isTrue_44 (by decide) ?_
  refine lv_iadd hx hb d_Model_isTrue_45 ?_
  refine lv_topi (fun z_8 ez_8 => ?_)
  have ez_8 : z_8 = 2 := ez_8.trans (by first | rfl | decide)
  subst ez_8
  refine va_iald hx hb hK.1 hP 1 0 rfl rfl (by unfold vp_in; decide) d_Model_isTrue_46 ?_
  refine lv_topi (fun z_9 ez_9 => ?_)
  have ez_9 : z_9 = 0 := ez_9.trans (by first | rfl | decide)
  subst ez_9
  have hPc := hP.sub (ws' := [(m0, .inr (11, [.int 0, .int 0, .ref m1, .int 0, .int 0, .ref m2, .int 0, .int 0, .int 0, .int 0, .int 0, .ref m42, .ref m3, .ref m4, .int 0, .int 0, .ref m5, .ref m6, .ref m7, .ref m8, .ref m9, .ref m10, .ref m11, .ref m12, .ref m13, .ref m14, .ref m15, .ref m16, .ref m17, .ref m18, .ref m19, .int 0, .ref m20, .int 0, .ref m21, .int 0, .int 0, .int 0, .int 0, .int 0, .int 0, .int 0, .ref m22, .int 0, .int 0, .ref m23, .ref m24, .ref m25, .ref m26, .int 0, .ref m27, .int 0, .ref m28, .int 0, .ref m29, .ref m30, .int (-1), .int 0, .int 0, .ref m31, .ref m32, .ref m33, .ref m34, .ref m35, .ref m36, .ref m37, .ref m38, .ref m39, .int 0, .ref m40, .int 0, .ref m41]))]) [0] rfl
  have hDc := hD.sub (ws' := [(m0, .inr (11, [.int 0, .int 0, .ref m1, .int 0, .int 0, .ref m2, .int 0, .int 0, .int 0, .int 0, .int 0, .ref m42, .ref m3, .ref m4, .int 0, .int 0, .ref m5, .ref m6, .ref m7, .ref m8, .ref m9, .ref m10, .ref m11, .ref m12, .ref m13, .ref m14, .ref m15, .ref m16, .ref m17, .ref m18, .ref m19, .int 0, .ref m20, .int 0, .ref m21, .int 0, .int 0, .int 0, .int 0, .int 0, .int 0, .int 0, .ref m22, .int 0, .int 0, .ref m23, .ref m24, .ref m25, .ref m26, .int 0, .ref m27, .int 0, .ref m28, .int 0, .ref m29, .ref m30, .int (-1), .int 0, .int 0, .ref m31, .ref m32, .ref m33, .ref m34, .ref m35, .ref m36, .ref m37, .ref m38, .ref m39, .int 0, .ref m40, .int 0, .ref m41]))]) [0] (by decide) rfl
  have hFc := va_free (wc := [(m0, .inr (11, [.int 0, .int 0, .ref m1, .int 0, .int 0, .ref m2, .int 0, .int 0, .int 0, .int 0, .int 0, .ref m42, .ref m3, .ref m4, .int 0, .int 0, .ref m5, .ref m6, .ref m7, .ref m8, .ref m9, .ref m10, .ref m11, .ref m12, .ref m13, .ref m14, .ref m15, .ref m16, .ref m17, .ref m18, .ref m19, .int 0, .ref m20, .int 0, .ref m21, .int 0, .int 0, .int 0, .int 0, .int 0, .int 0, .int 0, .ref m22, .int 0, .int 0, .ref m23, .ref m24, .ref m25, .ref m26, .int 0, .ref m27, .int 0, .ref m28, .int 0, .ref m29, .ref m30, .int (-1), .int 0, .int 0, .ref m31, .ref m32, .ref m33, .ref m34, .ref m35, .ref m36, .ref m37, .ref m38, .ref m39, .int 0, .ref m40, .int 0, .ref m41]))]) hD hS hA [0] rfl
  have hz := xz_of hN hS
  refine va_calll (va_runV (As := [.int (-1), .int 0]) (rest := [.int 0, .ref m41]) ⟨hx, hb, hml, hown, hts⟩ (c_Model_termOf l D ax m0 m1 m2 m3 m4 m5 m6 m7 m8 m9 m10 m11 m12 m13 m14 m15 m16 m17 m18 m19 m20 m21 m22 m23 m24 m25 m26 m27 m28 m29 m30 m31 m32 m33 m34 m35 m36 m37 m38 m39 m40 m41 m42 s.heap.size) (xcV (n := 2) hts wd_1592 wd_15 wd_1589 wd_1591 ps_112 rfl rfl (by decide +kernel) ⟨Nat.le_of_ble_eq_true rfl, Nat.le_of_ble_eq_true rfl⟩) (xpV (ci := 11) (q0 := 0) (As := [.int (-1), .int 0]) hPc hK hz hDc rfl rfl) rfl rfl hl1.1 rfl (lv_room (Nat.le_of_ble_eq_true rfl)) d_Model_isTrue_47 ⟨Nat.le_of_ble_eq_true rfl, Nat.le_of_ble_eq_true rfl⟩) hS (fun q _ h => hFc q h) hFc (fun r_12 u_10 t H_11 locs ht hvm hw hB hz1 hk1 hS => ?_)
  try dsimp only at hw
  subst hw
  obtain ⟨hP1, hD1⟩ := hB
  rw [ht] at hP1
  obtain ⟨hP, hD⟩ := va_join (wr := [(m42, .inl (ax 0, 3072, .inl (upd (upd (upd (upd (upd (upd (upd (upd (upd (upd (upd (upd (fun _ => 0) 0 0) 1 (-1)) 2 0) 3 2) 4 (-1)) 5 0) 1536 0) 1537 (-1)) 1538 0) 1539 2) 1540 (-1)) 1541 0))), (m41, .inl (ax 3, 256, .inl (fun _ => 0)))]) (w1 := [(m0, .inr (11, [.int 0, .int 0, .ref m1, .int 0, .int 0, .ref m2, .int 0, .int 0, .int 0, .int 0, .int 0, .ref m42, .ref m3, .ref m4, .int 0, .int 0, .ref m5, .ref m6, .ref m7, .ref m8, .ref m9, .ref m10, .ref m11, .ref m12, .ref m13, .ref m14, .ref m15, .ref m16, .ref m17, .ref m18, .ref m19, .int 0, .ref m20, .int 0, .ref m21, .int 0, .int 0, .int 0, .int 0, .int 0, .int 0, .int 0, .ref m22, .int 0, .int 0, .ref m23, .ref m24, .ref m25, .ref m26, .int 0, .ref m27, .int 0, .ref m28, .int 0, .ref m29, .ref m30, .int (-1), .int 0, .int 0, .ref m31, .ref m32, .ref m33, .ref m34, .ref m35, .ref m36, .ref m37, .ref m38, .ref m39, .int 0, .ref m40, .int 0, .ref m41]))]) hP hD [0] [1, 2] rfl rfl (by decide) (by decide) hk1 hFc hP1 hD1
  have hP : va_P D classes [(m42, .inl (ax 0, 3072, .inl (upd (upd (upd (upd (upd (upd (upd (upd (upd (upd (upd (upd (fun _ => 0) 0 0) 1 (-1)) 2 0) 3 2) 4 (-1)) 5 0) 1536 0) 1537 (-1)) 1538 0) 1539 2) 1540 (-1)) 1541 0))), (m41, .inl (ax 3, 256, .inl (fun _ => 0))), (m0, .inr (11, [.int 0, .int 0, .ref m1, .int 0, .int 0, .ref m2, .int 0, .int 0, .int 0, .int 0, .int 0, .ref m42, .ref m3, .ref m4, .int 0, .int 0, .ref m5, .ref m6, .ref m7, .ref m8, .ref m9, .ref m10, .ref m11, .ref m12, .ref m13, .ref m14, .ref m15, .ref m16, .ref m17, .ref m18, .ref m19, .int 0, .ref m20, .int 0, .ref m21, .int 0, .int 0, .int 0, .int 0, .int 0, .int 0, .int 0, .ref m22, .int 0, .int 0, .ref m23, .ref m24, .ref m25, .ref m26, .int 0, .ref m27, .int 0, .ref m28, .int 0, .ref m29, .ref m30, .int (-1), .int 0, .int 0, .ref m31, .ref m32, .ref m33, .ref m34, .ref m35, .ref m36, .ref m37, .ref m38, .ref m39, .int 0, .ref m40, .int 0, .ref m41]))] H_11 := hP
  have hD : va_D A [(m42, .inl (ax 0, 3072, .inl (upd (upd (upd (upd (upd (upd (upd (upd (upd (upd (upd (upd (fun _ => 0) 0 0) 1 (-1)) 2 0) 3 2) 4 (-1)) 5 0) 1536 0) 1537 (-1)) 1538 0) 1539 2) 1540 (-1)) 1541 0))), (m41, .inl (ax 3, 256, .inl (fun _ => 0))), (m0, .inr (11, [.int 0, .int 0, .ref m1, .int 0, .int 0, .ref m2, .int 0, .int 0, .int 0, .int 0, .int 0, .ref m42, .ref m3, .ref m4, .int 0, .int 0, .ref m5, .ref m6, .ref m7, .ref m8, .ref m9, .ref m10, .ref m11, .ref m12, .ref m13, .ref m14, .ref m15, .ref m16, .ref m17, .ref m18, .ref m19, .int 0, .ref m20, .int 0, .ref m21, .int 0, .int 0, .int 0, .int 0, .int 0, .int 0, .int 0, .ref m22, .int 0, .int 0, .ref m23, .ref m24, .ref m25, .ref m26, .int 0, .ref m27, .int 0, .ref m28, .int 0, .ref m29, .ref m30, .int (-1), .int 0, .int 0, .ref m31, .ref m32, .ref m33, .ref m34, .ref m35, .ref m36, .ref m37, .ref m38, .ref m39, .int 0, .ref m40, .int 0, .ref m41]))] := hD
  refine lv_aload_n hx hb d_Model_isTrue_50 rfl (lv_at hl1 4 rfl) ?_
  refine lv_iload hx hb d_Model_isTrue_51 (lv_at hl1 0 rfl) ?_
  refine lv_iconst (v := 3) hx hb d_Model_isTrue_53 (by decide) ?_
  refine lv_iadd hx hb d_Model_isTrue_54 ?_
  refine lv_topi (fun z_13 ez_13 => ?_)
  have ez_13 : z_13 = 3 := ez_13.trans (by first | rfl | decide)
  subst ez_13
  refine va_iald hx hb hK.1 hP 0 0 rfl rfl (by unfold vp_in; decide) d_Model_isTrue_55 ?_
  refine lv_topi (fun z_14 ez_14 => ?_)
  have ez_14 : z_14 = 2 := ez_14.trans (by first | rfl | decide)
  subst ez_14
  refine lv_aload_n hx hb d_Model_isTrue_56 rfl (lv_at hl1 3 rfl) ?_
  refine lv_aload_n hx hb d_Model_isTrue_57 rfl (lv_at hl1 4 rfl) ?_
  refine lv_iload hx hb d_Model_isTrue_58 (lv_at hl1 0 rfl) ?_
  refine lv_iconst (v := 4) hx hb d_Model_isTrue_60 (by decide) ?_
  refine lv_iadd hx hb d_Model_isTrue_61 ?_
  refine lv_topi (fun z_15 ez_15 => ?_)
  have ez_15 : z_15 = 4 := ez_15.trans (by first | rfl | decide)
  subst ez_15
  refine va_iald hx hb hK.1 hP 0 0 rfl rfl (by unfold vp_in; decide) d_Model_isTrue_62 ?_
  refine lv_topi (fun z_16 ez_16 => ?_)
  have ez_16 : z_16 = (-1) := ez_16.trans (by first | rfl | decide)
  subst ez_16
  refine lv_aload_n hx hb d_Model_isTrue_63 rfl (lv_at hl1 4 rfl) ?_
  refine lv_iload hx hb d_Model_isTrue_64 (lv_at hl1 0 rfl) ?_
  refine lv_iconst (v := 5) hx hb d_Model_isTrue_66 (by decide) ?_
  refine lv_iadd hx hb d_Model_isTrue_67 ?_
  refine lv_topi (fun z_17 ez_17 => ?_)
  have ez_17 : z_17 = 5 := ez_17.trans (by first | rfl | decide)
  subst ez_17
  refine va_iald hx hb hK.1 hP 0 0 rfl rfl (by unfold vp_in; decide) d_Model_isTrue_68 ?_
  refine lv_topi (fun z_18 ez_18 => ?_)
  have ez_18 : z_18 = 0 := ez_18.trans (by first | rfl | decide)
  subst ez_18
  have hPc := hP.sub (ws' := [(m0, .inr (11, [.int 0, .int 0, .ref m1, .int 0, .int 0, .ref m2, .int 0, .int 0, .int 0, .int 0, .int 0, .ref m42, .ref m3, .ref m4, .int 0, .int 0, .ref m5, .ref m6, .ref m7, .ref m8, .ref m9, .ref m10, .ref m11, .ref m12, .ref m13, .ref m14, .ref m15, .ref m16, .ref m17, .ref m18, .ref m19, .int 0, .ref m20, .int 0, .ref m21, .int 0, .int 0, .int 0, .int 0, .int 0, .int 0, .int 0, .ref m22, .int 0, .int 0, .ref m23, .ref m24, .ref m25, .ref m26, .int 0, .ref m27, .int 0, .ref m28, .int 0, .ref m29, .ref m30, .int (-1), .int 0, .int 0, .ref m31, .ref m32, .ref m33, .ref m34, .ref m35, .ref m36, .ref m37, .ref m38, .ref m39, .int 0, .ref m40, .int 0, .ref m41]))]) [2] rfl
  have hDc := hD.sub (ws' := [(m0, .inr (11, [.int 0, .int 0, .ref m1, .int 0, .int 0, .ref m2, .int 0, .int 0, .int 0, .int 0, .int 0, .ref m42, .ref m3, .ref m4, .int 0, .int 0, .ref m5, .ref m6, .ref m7, .ref m8, .ref m9, .ref m10, .ref m11, .ref m12, .ref m13, .ref m14, .ref m15, .ref m16, .ref m17, .ref m18, .ref m19, .int 0, .ref m20, .int 0, .ref m21, .int 0, .int 0, .int 0, .int 0, .int 0, .int 0, .int 0, .ref m22, .int 0, .int 0, .ref m23, .ref m24, .ref m25, .ref m26, .int 0, .ref m27, .int 0, .ref m28, .int 0, .ref m29, .ref m30, .int (-1), .int 0, .int 0, .ref m31, .ref m32, .ref m33, .ref m34, .ref m35, .ref m36, .ref m37, .ref m38, .ref m39, .int 0, .ref m40, .int 0, .ref m41]))]) [2] (by decide) rfl
  have hFc := va_free (wc := [(m0, .inr (11, [.int 0, .int 0, .ref m1, .int 0, .int 0, .ref m2, .int 0, .int 0, .int 0, .int 0, .int 0, .ref m42, .ref m3, .ref m4, .int 0, .int 0, .ref m5, .ref m6, .ref m7, .ref m8, .ref m9, .ref m10, .ref m11, .ref m12, .ref m13, .ref m14, .ref m15, .ref m16, .ref m17, .ref m18, .ref m19, .int 0, .ref m20, .int 0, .ref m21, .int 0, .int 0, .int 0, .int 0, .int 0, .int 0, .int 0, .ref m22, .int 0, .int 0, .ref m23, .ref m24, .ref m25, .ref m26, .int 0, .ref m27, .int 0, .ref m28, .int 0, .ref m29, .ref m30, .int (-1), .int 0, .int 0, .ref m31, .ref m32, .ref m33, .ref m34, .ref m35, .ref m36, .ref m37, .ref m38, .ref m39, .int 0, .ref m40, .int 0, .ref m41]))]) hD hS hA [2] rfl
  have hz := xz_of hN hS
  refine va_calll (va_runV (As := [.int (-1), .int 0]) (rest := [.int 2, .long 0, .int 0, .ref m41]) ⟨hx, hb, hml, hown, hts⟩ (c_Model_termOf l D ax m0 m1 m2 m3 m4 m5 m6 m7 m8 m9 m10 m11 m12 m13 m14 m15 m16 m17 m18 m19 m20 m21 m22 m23 m24 m25 m26 m27 m28 m29 m30 m31 m32 m33 m34 m35 m36 m37 m38 m39 m40 m41 m42 H_11.size) (xcV (n := 2) hts wd_1592 wd_15 wd_1589 wd_1591 ps_112 rfl rfl (by decide +kernel) ⟨Nat.le_of_ble_eq_true rfl, Nat.le_of_ble_eq_true rfl⟩) (xpV (ci := 11) (q0 := 0) (As := [.int (-1), .int 0]) hPc hK hz hDc rfl rfl) rfl rfl hl1.1 rfl (lv_room (Nat.le_of_ble_eq_true rfl)) d_Model_isTrue_69 ⟨Nat.le_of_ble_eq_true rfl, Nat.le_of_ble_eq_true rfl⟩) hS (fun q _ h => hFc q h) hFc (fun r_21 u_19 t H_20 locs ht hvm hw hB hz1 hk1 hS => ?_)
  try dsimp only at hw
  subst hw
  obtain ⟨hP1, hD1⟩ := hB
  rw [ht] at hP1
  obtain ⟨hP, hD⟩ := va_join (wr := [(m42, .inl (ax 0, 3072, .inl (upd (upd (upd (upd (upd (upd (upd (upd (upd (upd (upd (upd (fun _ => 0) 0 0) 1 (-1)) 2 0) 3 2) 4 (-1)) 5 0) 1536 0) 1537 (-1)) 1538 0) 1539 2) 1540 (-1)) 1541 0))), (m41, .inl (ax 3, 256, .inl (fun _ => 0)))]) (w1 := [(m0, .inr (11, [.int 0, .int 0, .ref m1, .int 0, .int 0, .ref m2, .int 0, .int 0, .int 0, .int 0, .int 0, .ref m42, .ref m3, .ref m4, .int 0, .int 0, .ref m5, .ref m6, .ref m7, .ref m8, .ref m9, .ref m10, .ref m11, .ref m12, .ref m13, .ref m14, .ref m15, .ref m16, .ref m17, .ref m18, .ref m19, .int 0, .ref m20, .int 0, .ref m21, .int 0, .int 0, .int 0, .int 0, .int 0, .int 0, .int 0, .ref m22, .int 0, .int 0, .ref m23, .ref m24, .ref m25, .ref m26, .int 0, .ref m27, .int 0, .ref m28, .int 0, .ref m29, .ref m30, .int (-1), .int 0, .int 0, .ref m31, .ref m32, .ref m33, .ref m34, .ref m35, .ref m36, .ref m37, .ref m38, .ref m39, .int 0, .ref m40, .int 0, .ref m41]))]) hP hD [2] [0, 1] rfl rfl (by decide) (by decide) hk1 hFc hP1 hD1
  have hP : va_P D classes [(m42, .inl (ax 0, 3072, .inl (upd (upd (upd (upd (upd (upd (upd (upd (upd (upd (upd (upd (fun _ => 0) 0 0) 1 (-1)) 2 0) 3 2) 4 (-1)) 5 0) 1536 0) 1537 (-1)) 1538 0) 1539 2) 1540 (-1)) 1541 0))), (m41, .inl (ax 3, 256, .inl (fun _ => 0))), (m0, .inr (11, [.int 0, .int 0, .ref m1, .int 0, .int 0, .ref m2, .int 0, .int 0, .int 0, .int 0, .int 0, .ref m42, .ref m3, .ref m4, .int 0, .int 0, .ref m5, .ref m6, .ref m7, .ref m8, .ref m9, .ref m10, .ref m11, .ref m12, .ref m13, .ref m14, .ref m15, .ref m16, .ref m17, .ref m18, .ref m19, .int 0, .ref m20, .int 0, .ref m21, .int 0, .int 0, .int 0, .int 0, .int 0, .int 0, .int 0, .ref m22, .int 0, .int 0, .ref m23, .ref m24, .ref m25, .ref m26, .int 0, .ref m27, .int 0, .ref m28, .int 0, .ref m29, .ref m30, .int (-1), .int 0, .int 0, .ref m31, .ref m32, .ref m33, .ref m34, .ref m35, .ref m36, .ref m37, .ref m38, .ref m39, .int 0, .ref m40, .int 0, .ref m41]))] H_20 := hP
  have hD : va_D A [(m42, .inl (ax 0, 3072, .inl (upd (upd (upd (upd (upd (upd (upd (upd (upd (upd (upd (upd (fun _ => 0) 0 0) 1 (-1)) 2 0) 3 2) 4 (-1)) 5 0) 1536 0) 1537 (-1)) 1538 0) 1539 2) 1540 (-1)) 1541 0))), (m41, .inl (ax 3, 256, .inl (fun _ => 0))), (m0, .inr (11, [.int 0, .int 0, .ref m1, .int 0, .int 0, .ref m2, .int 0, .int 0, .int 0, .int 0, .int 0, .ref m42, .ref m3, .ref m4, .int 0, .int 0, .ref m5, .ref m6, .ref m7, .ref m8, .ref m9, .ref m10, .ref m11, .ref m12, .ref m13, .ref m14, .ref m15, .ref m16, .ref m17, .ref m18, .ref m19, .int 0, .ref m20, .int 0, .ref m21, .int 0, .int 0, .int 0, .int 0, .int 0, .int 0, .int 0, .ref m22, .int 0, .int 0, .ref m23, .ref m24, .ref m25, .ref m26, .int 0, .ref m27, .int 0, .ref m28, .int 0, .ref m29, .ref m30, .int (-1), .int 0, .int 0, .ref m31, .ref m32, .ref m33, .ref m34, .ref m35, .ref m36, .ref m37, .ref m38, .ref m39, .int 0, .ref m40, .int 0, .ref m41]))] := hD
  have hPc := hP.sub (ws' := []) [] rfl
  have hDc := hD.sub (ws' := []) [] (by decide) rfl
  have hFc := va_free (wc := []) hD hS hA [] rfl
  have hz := xz_of hN hS
  refine va_calli (va_runS (As := [.long 0, .int 2, .long 0]) (rest := [.int 0, .ref m41]) ⟨hx, hb, hml, hown, hts⟩ (c_Model_compare l D ax  H_20.size) (xcS (n := 3) hts wd_1599 wd_15 wd_1597 wd_1598 rfl rfl (by decide +kernel) ⟨Nat.le_of_ble_eq_true rfl, Nat.le_of_ble_eq_true rfl⟩) (xpS (As := [.long 0, .int 2, .long 0]) hPc hK hz hDc) rfl rfl hl1.1 rfl (lv_room (Nat.le_of_ble_eq_true rfl)) d_Model_isTrue_72 ⟨Nat.le_of_ble_eq_true rfl, Nat.le_of_ble_eq_true rfl⟩) hS (fun q _ h => hFc q h) hFc (fun r_24 u_22 t H_23 locs ht hvm hw hB hz1 hk1 hS => ?_)
  try dsimp only at hw
  subst hw
  obtain ⟨hP1, hD1⟩ := hB
  rw [ht] at hP1
  obtain ⟨hP, hD⟩ := va_join (wr := [(m42, .inl (ax 0, 3072, .inl (upd (upd (upd (upd (upd (upd (upd (upd (upd (upd (upd (upd (fun _ => 0) 0 0) 1 (-1)) 2 0) 3 2) 4 (-1)) 5 0) 1536 0) 1537 (-1)) 1538 0) 1539 2) 1540 (-1)) 1541 0))), (m41, .inl (ax 3, 256, .inl (fun _ => 0))), (m0, .inr (11, [.int 0, .int 0, .ref m1, .int 0, .int 0, .ref m2, .int 0, .int 0, .int 0, .int 0, .int 0, .ref m42, .ref m3, .ref m4, .int 0, .int 0, .ref m5, .ref m6, .ref m7, .ref m8, .ref m9, .ref m10, .ref m11, .ref m12, .ref m13, .ref m14, .ref m15, .ref m16, .ref m17, .ref m18, .ref m19, .int 0, .ref m20, .int 0, .ref m21, .int 0, .int 0, .int 0, .int 0, .int 0, .int 0, .int 0, .ref m22, .int 0, .int 0, .ref m23, .ref m24, .ref m25, .ref m26, .int 0, .ref m27, .int 0, .ref m28, .int 0, .ref m29, .ref m30, .int (-1), .int 0, .int 0, .ref m31, .ref m32, .ref m33, .ref m34, .ref m35, .ref m36, .ref m37, .ref m38, .ref m39, .int 0, .ref m40, .int 0, .ref m41]))]) (w1 := []) hP hD [] [0, 1, 2] rfl rfl (by decide) (by decide) hk1 hFc hP1 hD1
  have hP : va_P D classes [(m42, .inl (ax 0, 3072, .inl (upd (upd (upd (upd (upd (upd (upd (upd (upd (upd (upd (upd (fun _ => 0) 0 0) 1 (-1)) 2 0) 3 2) 4 (-1)) 5 0) 1536 0) 1537 (-1)) 1538 0) 1539 2) 1540 (-1)) 1541 0))), (m41, .inl (ax 3, 256, .inl (fun _ => 0))), (m0, .inr (11, [.int 0, .int 0, .ref m1, .int 0, .int 0, .ref m2, .int 0, .int 0, .int 0, .int 0, .int 0, .ref m42, .ref m3, .ref m4, .int 0, .int 0, .ref m5, .ref m6, .ref m7, .ref m8, .ref m9, .ref m10, .ref m11, .ref m12, .ref m13, .ref m14, .ref m15, .ref m16, .ref m17, .ref m18, .ref m19, .int 0, .ref m20, .int 0, .ref m21, .int 0, .int 0, .int 0, .int 0, .int 0, .int 0, .int 0, .ref m22, .int 0, .int 0, .ref m23, .ref m24, .ref m25, .ref m26, .int 0, .ref m27, .int 0, .ref m28, .int 0, .ref m29, .ref m30, .int (-1), .int 0, .int 0, .ref m31, .ref m32, .ref m33, .ref m34, .ref m35, .ref m36, .ref m37, .ref m38, .ref m39, .int 0, .ref m40, .int 0, .ref m41]))] H_23 := hP
  have hD : va_D A [(m42, .inl (ax 0, 3072, .inl (upd (upd (upd (upd (upd (upd (upd (upd (upd (upd (upd (upd (fun _ => 0) 0 0) 1 (-1)) 2 0) 3 2) 4 (-1)) 5 0) 1536 0) 1537 (-1)) 1538 0) 1539 2) 1540 (-1)) 1541 0))), (m41, .inl (ax 3, 256, .inl (fun _ => 0))), (m0, .inr (11, [.int 0, .int 0, .ref m1, .int 0, .int 0, .ref m2, .int 0, .int 0, .int 0, .int 0, .int 0, .ref m42, .ref m3, .ref m4, .int 0, .int 0, .ref m5, .ref m6, .ref m7, .ref m8, .ref m9, .ref m10, .ref m11, .ref m12, .ref m13, .ref m14, .ref m15, .ref m16, .ref m17, .ref m18, .ref m19, .int 0, .ref m20, .int 0, .ref m21, .int 0, .int 0, .int 0, .int 0, .int 0, .int 0, .int 0, .ref m22, .int 0, .int 0, .ref m23, .ref m24, .ref m25, .ref m26, .int 0, .ref m27, .int 0, .ref m28, .int 0, .ref m29, .ref m30, .int (-1), .int 0, .int 0, .ref m31, .ref m32, .ref m33, .ref m34, .ref m35, .ref m36, .ref m37, .ref m38, .ref m39, .int 0, .ref m40, .int 0, .ref m41]))] := hD
  refine va_zast hx hb hK.1 hP hD hS 1 3 rfl rfl (by unfold vp_in; decide) d_Model_isTrue_75 (fun H_25 locs hP hD hS => ?_)
  have hP : va_P D classes [(m42, .inl (ax 0, 3072, .inl (upd (upd (upd (upd (upd (upd (upd (upd (upd (upd (upd (upd (fun _ => 0) 0 0) 1 (-1)) 2 0) 3 2) 4 (-1)) 5 0) 1536 0) 1537 (-1)) 1538 0) 1539 2) 1540 (-1)) 1541 0))), (m41, .inl (ax 3, 256, .inl (upd (fun _ => 0) 0 1))), (m0, .inr (11, [.int 0, .int 0, .ref m1, .int 0, .int 0, .ref m2, .int 0, .int 0, .int 0, .int 0, .int 0, .ref m42, .ref m3, .ref m4, .int 0, .int 0, .ref m5, .ref m6, .ref m7, .ref m8, .ref m9, .ref m10, .ref m11, .ref m12, .ref m13, .ref m14, .ref m15, .ref m16, .ref m17, .ref m18, .ref m19, .int 0, .ref m20, .int 0, .ref m21, .int 0, .int 0, .int 0, .int 0, .int 0, .int 0, .int 0, .ref m22, .int 0, .int 0, .ref m23, .ref m24, .ref m25, .ref m26, .int 0, .ref m27, .int 0, .ref m28, .int 0, .ref m29, .ref m30, .int (-1), .int 0, .int 0, .ref m31, .ref m32, .ref m33, .ref m34, .ref m35, .ref m36, .ref m37, .ref m38, .ref m39, .int 0, .ref m40, .int 0, .ref m41]))] H_25 := hP
  have hD : va_D A [(m42, .inl (ax 0, 3072, .inl (upd (upd (upd (upd (upd (upd (upd (upd (upd (upd (upd (upd (fun _ => 0) 0 0) 1 (-1)) 2 0) 3 2) 4 (-1)) 5 0) 1536 0) 1537 (-1)) 1538 0) 1539 2) 1540 (-1)) 1541 0))), (m41, .inl (ax 3, 256, .inl (upd (fun _ => 0) 0 1))), (m0, .inr (11, [.int 0, .int 0, .ref m1, .int 0, .int 0, .ref m2, .int 0, .int 0, .int 0, .int 0, .int 0, .ref m42, .ref m3, .ref m4, .int 0, .int 0, .ref m5, .ref m6, .ref m7, .ref m8, .ref m9, .ref m10, .ref m11, .ref m12, .ref m13, .ref m14, .ref m15, .ref m16, .ref m17, .ref m18, .ref m19, .int 0, .ref m20, .int 0, .ref m21, .int 0, .int 0, .int 0, .int 0, .int 0, .int 0, .int 0, .ref m22, .int 0, .int 0, .ref m23, .ref m24, .ref m25, .ref m26, .int 0, .ref m27, .int 0, .ref m28, .int 0, .ref m29, .ref m30, .int (-1), .int 0, .int 0, .ref m31, .ref m32, .ref m33, .ref m34, .ref m35, .ref m36, .ref m37, .ref m38, .ref m39, .int 0, .ref m40, .int 0, .ref m41]))] := hD
  refine lv_iinc (v := 1) (lv' := [(4, .int 1), (6, .int 0), (5, .int 0), (0, .ref m0), (1, .ref m42), (2, .int 0), (3, .int 1)]) hx hb d_Model_isTrue_76 hl1 (k := 2) rfl (by decide) (by decide) rfl (fun ls hl1 => ?_)
  refine lv_goto (tgt := 200) hx hb d_Model_isTrue_79 (by decide) ?_
  refine lv_iinc (v := 1) (lv' := [(5, .int 1), (4, .int 1), (6, .int 0), (0, .ref m0), (1, .ref m42), (2, .int 0), (3, .int 1)]) hx hb d_Model_isTrue_200 hl1 (k := 2) rfl (by decide) (by decide) rfl (fun ls hl1 => ?_)
  refine lv_goto (tgt := 6) hx hb d_Model_isTrue_203 (by decide) ?_
  refine lv_iload hx hb d_Model_isTrue_6 (lv_at hl1 0 rfl) ?_
  refine lv_iload_n hx hb d_Model_isTrue_8 rfl (lv_at hl1 6 rfl) ?_
  refine lv_icmp_ge (tgt := 206) hx hb d_Model_isTrue_9 (by decide) (fun c_26 => ?_) (fun c_26 => ?_)
  rotate_left
  · first | exact absurd c_26 (by decide) | exact absurd (by decide) c_26
  refine lv_aload_n hx hb d_Model_isTrue_206 rfl (lv_at hl1 3 rfl) ?_
  refine va_get (D := D) (ci := 11) (v := .ref m41) (C := R_Model) (T := F_Model) (N := 72) hx hb hts i_Model hown hK.1 hP 2 rfl rfl 71 (by decide) (hts _ wd_1107) (fun _ h9 => h9) rfl d_Model_isTrue_207 ?_
  refine lv_iconst (v := 0) hx hb d_Model_isTrue_210 (by decide) ?_
  refine va_zald hx hb hK.1 hP 1 3 rfl rfl (by unfold vp_in; decide) d_Model_isTrue_211 ?_
  refine lv_topi (fun z_27 ez_27 => ?_)
  have ez_27 : z_27 = 1 := ez_27.trans (by first | rfl | decide)
  subst ez_27
  have hP9 := hP.sub (ws' := (fun u : Nat → Nat => [(m42, .inl (ax 0, 3072, .inl (upd (upd (upd (upd (upd (upd (upd (upd (upd (upd (upd (upd (fun _ => 0) 0 0) 1 (-1)) 2 0) 3 2) 4 (-1)) 5 0) 1536 0) 1537 (-1)) 1538 0) 1539 2) 1540 (-1)) 1541 0))), (m41, .inl (ax 3, 256, .inl (upd (fun _ => 0) 0 1))), (m0, .inr (11, [.int 0, .int 0, .ref m1, .int 0, .int 0, .ref m2, .int 0, .int 0, .int 0, .int 0, .int 0, .ref m42, .ref m3, .ref m4, .int 0, .int 0, .ref m5, .ref m6, .ref m7, .ref m8, .ref m9, .ref m10, .ref m11, .ref m12, .ref m13, .ref m14, .ref m15, .ref m16, .ref m17, .ref m18, .ref m19, .int 0, .ref m20, .int 0, .ref m21, .int 0, .int 0, .int 0, .int 0, .int 0, .int 0, .int 0, .ref m22, .int 0, .int 0, .ref m23, .ref m24, .ref m25, .ref m26, .int 0, .ref m27, .int 0, .ref m28, .int 0, .ref m29, .ref m30, .int (-1), .int 0, .int 0, .ref m31, .ref m32, .ref m33, .ref m34, .ref m35, .ref m36, .ref m37, .ref m38, .ref m39, .int 0, .ref m40, .int 0, .ref m41]))]) (ixn [])) [0, 1, 2] rfl
  have hD9 := hD.sub (ws' := (fun u : Nat → Nat => [(m42, .inl (ax 0, 3072, .inl (upd (upd (upd (upd (upd (upd (upd (upd (upd (upd (upd (upd (fun _ => 0) 0 0) 1 (-1)) 2 0) 3 2) 4 (-1)) 5 0) 1536 0) 1537 (-1)) 1538 0) 1539 2) 1540 (-1)) 1541 0))), (m41, .inl (ax 3, 256, .inl (upd (fun _ => 0) 0 1))), (m0, .inr (11, [.int 0, .int 0, .ref m1, .int 0, .int 0, .ref m2, .int 0, .int 0, .int 0, .int 0, .int 0, .ref m42, .ref m3, .ref m4, .int 0, .int 0, .ref m5, .ref m6, .ref m7, .ref m8, .ref m9, .ref m10, .ref m11, .ref m12, .ref m13, .ref m14, .ref m15, .ref m16, .ref m17, .ref m18, .ref m19, .int 0, .ref m20, .int 0, .ref m21, .int 0, .int 0, .int 0, .int 0, .int 0, .int 0, .int 0, .ref m22, .int 0, .int 0, .ref m23, .ref m24, .ref m25, .ref m26, .int 0, .ref m27, .int 0, .ref m28, .int 0, .ref m29, .ref m30, .int (-1), .int 0, .int 0, .ref m31, .ref m32, .ref m33, .ref m34, .ref m35, .ref m36, .ref m37, .ref m38, .ref m39, .int 0, .ref m40, .int 0, .ref m41]))]) (ixn [])) [0, 1, 2] (by decide) rfl
  exact W.zret (v := 1) hx hb hr rfl (fun t ht hW => ⟨⟨1, ixn [], rfl, rfl, ⟨by rw [ht]; exact hP9, hD9⟩⟩, hS.F ht⟩) hS.2.2 d_Model_isTrue_212
set_option maxHeartbeats 4000000 in
set_option maxRecDepth 100000 in
theorem c_Model_holds_0 (l : Launch) (D : va_G) (ax : Nat → ClassId) (m0 m1 m2 m3 m4 m5 m6 m7 m8 m9 m10 m11 m12 m13 m14 m15 m16 m17 m18 m19 m20 m21 m22 m23 m24 m25 m26 m27 m28 m29 m30 m31 m32 m33 m34 m35 m36 m37 m38 m39 m40 m41 m42 : Nat) (sz : Nat) : Met l y_Model_holds (xws (.code y_Model_holds b_Model_holds 2 (some .boolean))) ({ frames := 30, cells := 0, slots := 0, locals := 1200 }) (va_Pc [.ref m0, .int 0] (xo D ax [(m0, .inr (11, [.int 0, .int 0, .ref m1, .int 0, .int 0, .ref m2, .int 0, .int 0, .int 0, .int 0, .int 0, .ref m42, .ref m3, .ref m4, .int 0, .int 0, .ref m5, .ref m6, .ref m7, .ref m8, .ref m9, .ref m10, .ref m11, .ref m12, .ref m13, .ref m14, .ref m15, .ref m16, .ref m17, .ref m18, .ref m19, .int 0, .ref m20, .int 0, .ref m21, .int 0, .int 0, .int 0, .int 0, .int 0, .int 0, .int 0, .ref m22, .int 0, .int 0, .ref m23, .ref m24, .ref m25, .ref m26, .int 0, .ref m27, .int 0, .ref m28, .int 0, .ref m29, .ref m30, .int (-1), .int 0, .int 0, .ref m31, .ref m32, .ref m33, .ref m34, .ref m35, .ref m36, .ref m37, .ref m38, .ref m39, .int 0, .ref m40, .int 0, .ref m41])), (m42, .inl (ax 0, 3072, .inl (upd (upd (upd (upd (upd (upd (upd (upd (upd (upd (upd (upd (fun _ => 0) 0 0) 1 (-1)) 2 0) 3 2) 4 (-1)) 5 0) 1536 0) 1537 (-1)) 1538 0) 1539 2) 1540 (-1)) 1541 0))), (m41, .inl (ax 3, 256, .inl (fun _ => 0))), (m4, .inl (ax 0, 2, .inl (upd (upd (fun _ => 0) 0 0) 1 2))), (m3, .inl (ax 0, 4, .inl (upd (upd (fun _ => 0) 0 1) 2 1)))] sz)) ((va_Qi (fun (r : Int32) (u : Nat → Nat) => r = 1) (xb D (va_A [(m0, .inr (11, [.int 0, .int 0, .ref m1, .int 0, .int 0, .ref m2, .int 0, .int 0, .int 0, .int 0, .int 0, .ref m42, .ref m3, .ref m4, .int 0, .int 0, .ref m5, .ref m6, .ref m7, .ref m8, .ref m9, .ref m10, .ref m11, .ref m12, .ref m13, .ref m14, .ref m15, .ref m16, .ref m17, .ref m18, .ref m19, .int 0, .ref m20, .int 0, .ref m21, .int 0, .int 0, .int 0, .int 0, .int 0, .int 0, .int 0, .ref m22, .int 0, .int 0, .ref m23, .ref m24, .ref m25, .ref m26, .int 0, .ref m27, .int 0, .ref m28, .int 0, .ref m29, .ref m30, .int (-1), .int 0, .int 0, .ref m31, .ref m32, .ref m33, .ref m34, .ref m35, .ref m36, .ref m37, .ref m38, .ref m39, .int 0, .ref m40, .int 0, .ref m41])), (m42, .inl (ax 0, 3072, .inl (upd (upd (upd (upd (upd (upd (upd (upd (upd (upd (upd (upd (fun _ => 0) 0 0) 1 (-1)) 2 0) 3 2) 4 (-1)) 5 0) 1536 0) 1537 (-1)) 1538 0) 1539 2) 1540 (-1)) 1541 0))), (m41, .inl (ax 3, 256, .inl (fun _ => 0))), (m4, .inl (ax 0, 2, .inl (upd (upd (fun _ => 0) 0 0) 1 2))), (m3, .inl (ax 0, 4, .inl (upd (upd (fun _ => 0) 0 1) 2 1)))] sz) (fun u => [(m4, .inl (ax 0, 2, .inl (upd (upd (fun _ => 0) 0 0) 1 2))), (m3, .inl (ax 0, 4, .inl (upd (upd (fun _ => 0) 0 1) 2 1))), (m42, .inl (ax 0, 3072, .inl (upd (upd (upd (upd (upd (upd (upd (upd (upd (upd (upd (upd (fun _ => 0) 0 0) 1 (-1)) 2 0) 3 2) 4 (-1)) 5 0) 1536 0) 1537 (-1)) 1538 0) 1539 2) 1540 (-1)) 1541 0))), (m41, .inl (ax 3, 256, .inl (upd (fun _ => 0) 0 1))), (m0, .inr (11, [.int 0, .int 0, .ref m1, .int 0, .int 0, .ref m2, .int 0, .int 0, .int 0, .int 0, .int 0, .ref m42, .ref m3, .ref m4, .int 0, .int 0, .ref m5, .ref m6, .ref m7, .ref m8, .ref m9, .ref m10, .ref m11, .ref m12, .ref m13, .ref m14, .ref m15, .ref m16, .ref m17, .ref m18, .ref m19, .int 0, .ref m20, .int 0, .ref m21, .int 0, .int 0, .int 0, .int 0, .int 0, .int 0, .int 0, .ref m22, .int 0, .int 0, .ref m23, .ref m24, .ref m25, .ref m26, .int 0, .ref m27, .int 0, .ref m28, .int 0, .ref m29, .ref m30, .int (-1), .int 0, .int 0, .ref m31, .ref m32, .ref m33, .ref m34, .ref m35, .ref m36, .ref m37, .ref m38, .ref m39, .int 0, .ref m40, .int 0, .ref m41]))])) (va_A [(m0, .inr (11, [.int 0, .int 0, .ref m1, .int 0, .int 0, .ref m2, .int 0, .int 0, .int 0, .int 0, .int 0, .ref m42, .ref m3, .ref m4, .int 0, .int 0, .ref m5, .ref m6, .ref m7, .ref m8, .ref m9, .ref m10, .ref m11, .ref m12, .ref m13, .ref m14, .ref m15, .ref m16, .ref m17, .ref m18, .ref m19, .int 0, .ref m20, .int 0, .ref m21, .int 0, .int 0, .int 0, .int 0, .int 0, .int 0, .int 0, .ref m22, .int 0, .int 0, .ref m23, .ref m24, .ref m25, .ref m26, .int 0, .ref m27, .int 0, .ref m28, .int 0, .ref m29, .ref m30, .int (-1), .int 0, .int 0, .ref m31, .ref m32, .ref m33, .ref m34, .ref m35, .ref m36, .ref m37, .ref m38, .ref m39, .int 0, .ref m40, .int 0, .ref m41])), (m42, .inl (ax 0, 3072, .inl (upd (upd (upd (upd (upd (upd (upd (upd (upd (upd (upd (upd (fun _ => 0) 0 0) 1 (-1)) 2 0) 3 2) 4 (-1)) 5 0) 1536 0) 1537 (-1)) 1538 0) 1539 2) 1540 (-1)) 1541 0))), (m41, .inl (ax 3, 256, .inl (fun _ => 0))), (m4, .inl (ax 0, 2, .inl (upd (upd (fun _ => 0) 0 0) 1 2))), (m3, .inl (ax 0, 4, .inl (upd (upd (fun _ => 0) 0 1) 2 1)))] sz))) 0 0 (va_A [(m0, .inr (11, [.int 0, .int 0, .ref m1, .int 0, .int 0, .ref m2, .int 0, .int 0, .int 0, .int 0, .int 0, .ref m42, .ref m3, .ref m4, .int 0, .int 0, .ref m5, .ref m6, .ref m7, .ref m8, .ref m9, .ref m10, .ref m11, .ref m12, .ref m13, .ref m14, .ref m15, .ref m16, .ref m17, .ref m18, .ref m19, .int 0, .ref m20, .int 0, .ref m21, .int 0, .int 0, .int 0, .int 0, .int 0, .int 0, .int 0, .ref m22, .int 0, .int 0, .ref m23, .ref m24, .ref m25, .ref m26, .int 0, .ref m27, .int 0, .ref m28, .int 0, .ref m29, .ref m30, .int (-1), .int 0, .int 0, .ref m31, .ref m32, .ref m33, .ref m34, .ref m35, .ref m36, .ref m37, .ref m38, .ref m39, .int 0, .ref m40, .int 0, .ref m41])), (m42, .inl (ax 0, 3072, .inl (upd (upd (upd (upd (upd (upd (upd (upd (upd (upd (upd (upd (fun _ => 0) 0 0) 1 (-1)) 2 0) 3 2) 4 (-1)) 5 0) 1536 0) 1537 (-1)) 1538 0) 1539 2) 1540 (-1)) 1541 0))), (m41, .inl (ax 3, 256, .inl (fun _ => 0))), (m4, .inl (ax 0, 2, .inl (upd (upd (fun _ => 0) 0 0) 1 2))), (m3, .inl (ax 0, 4, .inl (upd (upd (fun _ => 0) 0 1) 2 1)))] sz) := by
  refine Met.ofW (cc := b_Model_holds) (maxL := 2) (ret := (some .boolean)) (by decide) rfl ?_
  intro p e s m args below meth c s₁ B hml hv
  obtain ⟨rfl, hsz, hP, hK, hD0⟩ := hv
  have hx := B.exec
  have hb := B.bytes
  have hr := B.returns
  have hts := xw_hts B.pre
  have hown : s.vm.findClass R_Model = some m.cls := findClass_of_methodNamed B.named
  have hlocks := B.notSynchronized
  subst hsz
  have hD := hD0.self (sz := s.heap.size)
  have hN := xz_entry hP
  generalize hAe : va_A [(m0, .inr (11, [.int 0, .int 0, .ref m1, .int 0, .int 0, .ref m2, .int 0, .int 0, .int 0, .int 0, .int 0, .ref m42, .ref m3, .ref m4, .int 0, .int 0, .ref m5, .ref m6, .ref m7, .ref m8, .ref m9, .ref m10, .ref m11, .ref m12, .ref m13, .ref m14, .ref m15, .ref m16, .ref m17, .ref m18, .ref m19, .int 0, .ref m20, .int 0, .ref m21, .int 0, .int 0, .int 0, .int 0, .int 0, .int 0, .int 0, .ref m22, .int 0, .int 0, .ref m23, .ref m24, .ref m25, .ref m26, .int 0, .ref m27, .int 0, .ref m28, .int 0, .ref m29, .ref m30, .int (-1), .int 0, .int 0, .ref m31, .ref m32, .ref m33, .ref m34, .ref m35, .ref m36, .ref m37, .ref m38, .ref m39, .int 0, .ref m40, .int 0, .ref m41])), (m42, .inl (ax 0, 3072, .inl (upd (upd (upd (upd (upd (upd (upd (upd (upd (upd (upd (upd (fun _ => 0) 0 0) 1 (-1)) 2 0) 3 2) 4 (-1)) 5 0) 1536 0) 1537 (-1)) 1538 0) 1539 2) 1540 (-1)) 1541 0))), (m41, .inl (ax 3, 256, .inl (fun _ => 0))), (m4, .inl (ax 0, 2, .inl (upd (upd (fun _ => 0) 0 0) 1 2))), (m3, .inl (ax 0, 4, .inl (upd (upd (fun _ => 0) 0 1) 2 1)))] s.heap.size = A at hD hN ⊢
  have hA : ∀ q : Nat, s.heap.size ≤ q → A q := fun q h => by rw [← hAe]; exact Or.inr h
  have hS : va_S A s.heap s.heap [] := va_S.rf
  have hl0 := lv_entry ([.ref m0, .int 0]) (n := 2) (Nat.le_of_ble_eq_true rfl)
  rw [lg_entry_eq]
  generalize (lg_sl ([.ref m0, .int 0]) ++ List.replicate (2 - (lg_sl ([.ref m0, .int 0])).length) Slot.unset).toArray = ls at hl0 ⊢
  have hl1 : lv_has ls 2 [(0, .ref m0), (1, .int 0)] := hl0
  refine lv_aload_n hx hb d_Model_holds_0 rfl (lv_at hl1 0 rfl) ?_
  refine lv_iload_n hx hb d_Model_holds_1 rfl (lv_at hl1 1 rfl) ?_
  refine lv_if_lt (tgt := 10) hx hb d_Model_holds_2 (by decide) (fun c_1 => ?_) (fun c_1 => ?_)
  · first | exact absurd c_1 (by decide) | exact absurd (by decide) c_1
  refine lv_iload_n hx hb d_Model_holds_5 rfl (lv_at hl1 1 rfl) ?_
  refine lv_iconst (v := 1) hx hb d_Model_holds_6 (by decide) ?_
  refine lv_icmp_le (tgt := 14) hx hb d_Model_holds_7 (by decide) (fun c_2 => ?_) (fun c_2 => ?_)
  rotate_left
  · first | exact absurd c_2 (by decide) | exact absurd (by decide) c_2
  refine lv_iconst (v := 0) hx hb d_Model_holds_14 (by decide) ?_
  refine va_put (D := D) (ci := 11) (v := .int 0) (ty := .int) (C := R_Model) (T := F_Model) (N := 72) hx hb hts i_Model t_Model t_Model_ok n_Model hown hK.1 hP hD hS 0 rfl rfl 0 (by decide) (hts _ wd_1036) (fun _ h9 => h9) rfl (by decide +kernel) rfl rfl (Nat.le_of_ble_eq_true rfl) d_Model_holds_15 (fun H_3 locs hP hD hS => ?_)
  have hP : va_P D classes [(m0, .inr (11, [.int 0, .int 0, .ref m1, .int 0, .int 0, .ref m2, .int 0, .int 0, .int 0, .int 0, .int 0, .ref m42, .ref m3, .ref m4, .int 0, .int 0, .ref m5, .ref m6, .ref m7, .ref m8, .ref m9, .ref m10, .ref m11, .ref m12, .ref m13, .ref m14, .ref m15, .ref m16, .ref m17, .ref m18, .ref m19, .int 0, .ref m20, .int 0, .ref m21, .int 0, .int 0, .int 0, .int 0, .int 0, .int 0, .int 0, .ref m22, .int 0, .int 0, .ref m23, .ref m24, .ref m25, .ref m26, .int 0, .ref m27, .int 0, .ref m28, .int 0, .ref m29, .ref m30, .int (-1), .int 0, .int 0, .ref m31, .ref m32, .ref m33, .ref m34, .ref m35, .ref m36, .ref m37, .ref m38, .ref m39, .int 0, .ref m40, .int 0, .ref m41])), (m42, .inl (ax 0, 3072, .inl (upd (upd (upd (upd (upd (upd (upd (upd (upd (upd (upd (upd (fun _ => 0) 0 0) 1 (-1)) 2 0) 3 2) 4 (-1)) 5 0) 1536 0) 1537 (-1)) 1538 0) 1539 2) 1540 (-1)) 1541 0))), (m41, .inl (ax 3, 256, .inl (fun _ => 0))), (m4, .inl (ax 0, 2, .inl (upd (upd (fun _ => 0) 0 0) 1 2))), (m3, .inl (ax 0, 4, .inl (upd (upd (fun _ => 0) 0 1) 2 1)))] H_3 := hP
  have hD : va_D A [(m0, .inr (11, [.int 0, .int 0, .ref m1, .int 0, .int 0, .ref m2, .int 0, .int 0, .int 0, .int 0, .int 0, .ref m42, .ref m3, .ref m4, .int 0, .int 0, .ref m5, .ref m6, .ref m7, .ref m8, .ref m9, .ref m10, .ref m11, .ref m12, .ref m13, .ref m14, .ref m15, .ref m16, .ref m17, .ref m18, .ref m19, .int 0, .ref m20, .int 0, .ref m21, .int 0, .int 0, .int 0, .int 0, .int 0, .int 0, .int 0, .ref m22, .int 0, .int 0, .ref m23, .ref m24, .ref m25, .ref m26, .int 0, .ref m27, .int 0, .ref m28, .int 0, .ref m29, .ref m30, .int (-1), .int 0, .int 0, .ref m31, .ref m32, .ref m33, .ref m34, .ref m35, .ref m36, .ref m37, .ref m38, .ref m39, .int 0, .ref m40, .int 0, .ref m41])), (m42, .inl (ax 0, 3072, .inl (upd (upd (upd (upd (upd (upd (upd (upd (upd (upd (upd (upd (fun _ => 0) 0 0) 1 (-1)) 2 0) 3 2) 4 (-1)) 5 0) 1536 0) 1537 (-1)) 1538 0) 1539 2) 1540 (-1)) 1541 0))), (m41, .inl (ax 3, 256, .inl (fun _ => 0))), (m4, .inl (ax 0, 2, .inl (upd (upd (fun _ => 0) 0 0) 1 2))), (m3, .inl (ax 0, 4, .inl (upd (upd (fun _ => 0) 0 1) 2 1)))] := hD
  refine lv_aload_n hx hb d_Model_holds_18 rfl (lv_at hl1 0 rfl) ?_
  refine va_get (D := D) (ci := 11) (v := .int 0) (C := R_Model) (T := F_Model) (N := 72) hx hb hts i_Model hown hK.1 hP 0 rfl rfl 0 (by decide) (hts _ wd_1036) (fun _ h9 => h9) rfl d_Model_holds_19 ?_
  refine lv_if_ne (tgt := 61) hx hb d_Model_holds_22 (by decide) (fun c_4 => ?_) (fun c_4 => ?_)
  · first | exact absurd c_4 (by decide) | exact absurd (by decide) c_4
  refine lv_aload_n hx hb d_Model_holds_25 rfl (lv_at hl1 0 rfl) ?_
  refine lv_aload_n hx hb d_Model_holds_26 rfl (lv_at hl1 0 rfl) ?_
  refine va_get (D := D) (ci := 11) (v := .ref m42) (C := R_Model) (T := F_Model) (N := 72) hx hb hts i_Model hown hK.1 hP 0 rfl rfl 11 (by decide) (hts _ wd_1047) (fun _ h9 => h9) rfl d_Model_holds_27 ?_
  refine lv_sipush (v := 768) hx hb d_Model_holds_30 (by decide) ?_
  refine lv_aload_n hx hb d_Model_holds_33 rfl (lv_at hl1 0 rfl) ?_
  refine va_get (D := D) (ci := 11) (v := .ref m4) (C := R_Model) (T := F_Model) (N := 72) hx hb hts i_Model hown hK.1 hP 0 rfl rfl 13 (by decide) (hts _ wd_1049) (fun _ h9 => h9) rfl d_Model_holds_34 ?_
  refine lv_iload_n hx hb d_Model_holds_37 rfl (lv_at hl1 1 rfl) ?_
  refine va_iald hx hb hK.1 hP 3 0 rfl rfl (by unfold vp_in; decide) d_Model_holds_38 ?_
  refine lv_topi (fun z_5 ez_5 => ?_)
  have ez_5 : z_5 = 0 := ez_5.trans (by first | rfl | decide)
  subst ez_5
  refine lv_imul hx hb d_Model_holds_39 ?_
  refine lv_topi (fun z_6 ez_6 => ?_)
  have ez_6 : z_6 = 0 := ez_6.trans (by first | rfl | decide)
  subst ez_6
  refine lv_aload_n hx hb d_Model_holds_40 rfl (lv_at hl1 0 rfl) ?_
  refine va_get (D := D) (ci := 11) (v := .ref m3) (C := R_Model) (T := F_Model) (N := 72) hx hb hts i_Model hown hK.1 hP 0 rfl rfl 12 (by decide) (hts _ wd_1048) (fun _ h9 => h9) rfl d_Model_holds_41 ?_
  refine lv_aload_n hx hb d_Model_holds_44 rfl (lv_at hl1 0 rfl) ?_
  refine va_get (D := D) (ci := 11) (v := .ref m4) (C := R_Model) (T := F_Model) (N := 72) hx hb hts i_Model hown hK.1 hP 0 rfl rfl 13 (by decide) (hts _ wd_1049) (fun _ h9 => h9) rfl d_Model_holds_45 ?_
  refine lv_iload_n hx hb d_Model_holds_48 rfl (lv_at hl1 1 rfl) ?_
  refine va_iald hx hb hK.1 hP 3 0 rfl rfl (by unfold vp_in; decide) d_Model_holds_49 ?_
  refine lv_topi (fun z_7 ez_7 => ?_)
  have ez_7 : z_7 = 0 := ez_7.trans (by first | rfl | decide)
  subst ez_7
  refine va_iald hx hb hK.1 hP 4 0 rfl rfl (by unfold vp_in; decide) d_Model_holds_50 ?_
  refine lv_topi (fun z_8 ez_8 => ?_)
  have ez_8 : z_8 = 1 := ez_8.trans (by first | rfl | decide)
  subst ez_8
  have hPc := hP.sub (ws' := [(m0, .inr (11, [.int 0, .int 0, .ref m1, .int 0, .int 0, .ref m2, .int 0, .int 0, .int 0, .int 0, .int 0, .ref m42, .ref m3, .ref m4, .int 0, .int 0, .ref m5, .ref m6, .ref m7, .ref m8, .ref m9, .ref m10, .ref m11, .ref m12, .ref m13, .ref m14, .ref m15, .ref m16, .ref m17, .ref m18, .ref m19, .int 0, .ref m20, .int 0, .ref m21, .int 0, .int 0, .int 0, .int 0, .int 0, .int 0, .int 0, .ref m22, .int 0, .int 0, .ref m23, .ref m24, .ref m25, .ref m26, .int 0, .ref m27, .int 0, .ref m28, .int 0, .ref m29, .ref m30, .int (-1), .int 0, .int 0, .ref m31, .ref m32, .ref m33, .ref m34, .ref m35, .ref m36, .ref m37, .ref m38, .ref m39, .int 0, .ref m40, .int 0, .ref m41])), (m42, .inl (ax 0, 3072, .inl (upd (upd (upd (upd (upd (upd (upd (upd (upd (upd (upd (upd (fun _ => 0) 0 0) 1 (-1)) 2 0) 3 2) 4 (-1)) 5 0) 1536 0) 1537 (-1)) 1538 0) 1539 2) 1540 (-1)) 1541 0))), (m41, .inl (ax 3, 256, .inl (fun _ => 0)))]) [0, 1, 2] rfl
  have hDc := hD.sub (ws' := [(m0, .inr (11, [.int 0, .int 0, .ref m1, .int 0, .int 0, .ref m2, .int 0, .int 0, .int 0, .int 0, .int 0, .ref m42, .ref m3, .ref m4, .int 0, .int 0, .ref m5, .ref m6, .ref m7, .ref m8, .ref m9, .ref m10, .ref m11, .ref m12, .ref m13, .ref m14, .ref m15, .ref m16, .ref m17, .ref m18, .ref m19, .int 0, .ref m20, .int 0, .ref m21, .int 0, .int 0, .int 0, .int 0, .int 0, .int 0, .int 0, .ref m22, .int 0, .int 0, .ref m23, .ref m24, .ref m25, .ref m26, .int 0, .ref m27, .int 0, .ref m28, .int 0, .ref m29, .ref m30, .int (-1), .int 0, .int 0, .ref m31, .ref m32, .ref m33, .ref m34, .ref m35, .ref m36, .ref m37, .ref m38, .ref m39, .int 0, .ref m40, .int 0, .ref m41])), (m42, .inl (ax 0, 3072, .inl (upd (upd (upd (upd (upd (upd (upd (upd (upd (upd (upd (upd (fun _ => 0) 0 0) 1 (-1)) 2 0) 3 2) 4 (-1)) 5 0) 1536 0) 1537 (-1)) 1538 0) 1539 2) 1540 (-1)) 1541 0))), (m41, .inl (ax 3, 256, .inl (fun _ => 0)))]) [0, 1, 2] (by decide) rfl
  have hFc := va_free (wc := [(m0, .inr (11, [.int 0, .int 0, .ref m1, .int 0, .int 0, .ref m2, .int 0, .int 0, .int 0, .int 0, .int 0, .ref m42, .ref m3, .ref m4, .int 0, .int 0, .ref m5, .ref m6, .ref m7, .ref m8, .ref m9, .ref m10, .ref m11, .ref m12, .ref m13, .ref m14, .ref m15, .ref m16, .ref m17, .ref m18, .ref m19, .int 0, .ref m20, .int 0, .ref m21, .int 0, .int 0, .int 0, .int 0, .int 0, .int 0, .int 0, .ref m22, .int 0, .int 0, .ref m23, .ref m24, .ref m25, .ref m26, .int 0, .ref m27, .int 0, .ref m28, .int 0, .ref m29, .ref m30, .int (-1), .int 0, .int 0, .ref m31, .ref m32, .ref m33, .ref m34, .ref m35, .ref m36, .ref m37, .ref m38, .ref m39, .int 0, .ref m40, .int 0, .ref m41])), (m42, .inl (ax 0, 3072, .inl (upd (upd (upd (upd (upd (upd (upd (upd (upd (upd (upd (upd (fun _ => 0) 0 0) 1 (-1)) 2 0) 3 2) 4 (-1)) 5 0) 1536 0) 1537 (-1)) 1538 0) 1539 2) 1540 (-1)) 1541 0))), (m41, .inl (ax 3, 256, .inl (fun _ => 0)))]) hD hS hA [0, 1, 2] rfl
  have hz := xz_of hN hS
  refine va_calli (va_runV (As := [.ref m42, .int 0, .int 1]) (rest := []) ⟨hx, hb, hml, hown, hts⟩ (c_Model_isTrue_0 l D ax m0 m1 m2 m3 m4 m5 m6 m7 m8 m9 m10 m11 m12 m13 m14 m15 m16 m17 m18 m19 m20 m21 m22 m23 m24 m25 m26 m27 m28 m29 m30 m31 m32 m33 m34 m35 m36 m37 m38 m39 m40 m41 m42 H_3.size) (xcV (n := 3) hts wd_1596 wd_15 wd_1593 wd_1595 ps_113 rfl rfl (by decide +kernel) ⟨Nat.le_of_ble_eq_true rfl, Nat.le_of_ble_eq_true rfl⟩) (xpV (ci := 11) (q0 := 0) (As := [.ref m42, .int 0, .int 1]) hPc hK hz hDc rfl rfl) rfl rfl hl1.1 rfl (lv_room (Nat.le_of_ble_eq_true rfl)) d_Model_holds_51 ⟨Nat.le_of_ble_eq_true rfl, Nat.le_of_ble_eq_true rfl⟩) hS (fun q _ h => hFc q h) hFc (fun r_11 u_9 t H_10 locs ht hvm hw hB hz1 hk1 hS => ?_)
  try dsimp only at hw
  subst hw
  obtain ⟨hP1, hD1⟩ := hB
  rw [ht] at hP1
  obtain ⟨hP, hD⟩ := va_join (wr := [(m4, .inl (ax 0, 2, .inl (upd (upd (fun _ => 0) 0 0) 1 2))), (m3, .inl (ax 0, 4, .inl (upd (upd (fun _ => 0) 0 1) 2 1)))]) (w1 := [(m42, .inl (ax 0, 3072, .inl (upd (upd (upd (upd (upd (upd (upd (upd (upd (upd (upd (upd (fun _ => 0) 0 0) 1 (-1)) 2 0) 3 2) 4 (-1)) 5 0) 1536 0) 1537 (-1)) 1538 0) 1539 2) 1540 (-1)) 1541 0))), (m41, .inl (ax 3, 256, .inl (upd (fun _ => 0) 0 1))), (m0, .inr (11, [.int 0, .int 0, .ref m1, .int 0, .int 0, .ref m2, .int 0, .int 0, .int 0, .int 0, .int 0, .ref m42, .ref m3, .ref m4, .int 0, .int 0, .ref m5, .ref m6, .ref m7, .ref m8, .ref m9, .ref m10, .ref m11, .ref m12, .ref m13, .ref m14, .ref m15, .ref m16, .ref m17, .ref m18, .ref m19, .int 0, .ref m20, .int 0, .ref m21, .int 0, .int 0, .int 0, .int 0, .int 0, .int 0, .int 0, .ref m22, .int 0, .int 0, .ref m23, .ref m24, .ref m25, .ref m26, .int 0, .ref m27, .int 0, .ref m28, .int 0, .ref m29, .ref m30, .int (-1), .int 0, .int 0, .ref m31, .ref m32, .ref m33, .ref m34, .ref m35, .ref m36, .ref m37, .ref m38, .ref m39, .int 0, .ref m40, .int 0, .ref m41]))]) hP hD [0, 1, 2] [3, 4] rfl rfl (by decide) (by decide) hk1 hFc hP1 hD1
  have hP : va_P D classes [(m4, .inl (ax 0, 2, .inl (upd (upd (fun _ => 0) 0 0) 1 2))), (m3, .inl (ax 0, 4, .inl (upd (upd (fun _ => 0) 0 1) 2 1))), (m42, .inl (ax 0, 3072, .inl (upd (upd (upd (upd (upd (upd (upd (upd (upd (upd (upd (upd (fun _ => 0) 0 0) 1 (-1)) 2 0) 3 2) 4 (-1)) 5 0) 1536 0) 1537 (-1)) 1538 0) 1539 2) 1540 (-1)) 1541 0))), (m41, .inl (ax 3, 256, .inl (upd (fun _ => 0) 0 1))), (m0, .inr (11, [.int 0, .int 0, .ref m1, .int 0, .int 0, .ref m2, .int 0, .int 0, .int 0, .int 0, .int 0, .ref m42, .ref m3, .ref m4, .int 0, .int 0, .ref m5, .ref m6, .ref m7, .ref m8, .ref m9, .ref m10, .ref m11, .ref m12, .ref m13, .ref m14, .ref m15, .ref m16, .ref m17, .ref m18, .ref m19, .int 0, .ref m20, .int 0, .ref m21, .int 0, .int 0, .int 0, .int 0, .int 0, .int 0, .int 0, .ref m22, .int 0, .int 0, .ref m23, .ref m24, .ref m25, .ref m26, .int 0, .ref m27, .int 0, .ref m28, .int 0, .ref m29, .ref m30, .int (-1), .int 0, .int 0, .ref m31, .ref m32, .ref m33, .ref m34, .ref m35, .ref m36, .ref m37, .ref m38, .ref m39, .int 0, .ref m40, .int 0, .ref m41]))] H_10 := hP
  have hD : va_D A [(m4, .inl (ax 0, 2, .inl (upd (upd (fun _ => 0) 0 0) 1 2))), (m3, .inl (ax 0, 4, .inl (upd (upd (fun _ => 0) 0 1) 2 1))), (m42, .inl (ax 0, 3072, .inl (upd (upd (upd (upd (upd (upd (upd (upd (upd (upd (upd (upd (fun _ => 0) 0 0) 1 (-1)) 2 0) 3 2) 4 (-1)) 5 0) 1536 0) 1537 (-1)) 1538 0) 1539 2) 1540 (-1)) 1541 0))), (m41, .inl (ax 3, 256, .inl (upd (fun _ => 0) 0 1))), (m0, .inr (11, [.int 0, .int 0, .ref m1, .int 0, .int 0, .ref m2, .int 0, .int 0, .int 0, .int 0, .int 0, .ref m42, .ref m3, .ref m4, .int 0, .int 0, .ref m5, .ref m6, .ref m7, .ref m8, .ref m9, .ref m10, .ref m11, .ref m12, .ref m13, .ref m14, .ref m15, .ref m16, .ref m17, .ref m18, .ref m19, .int 0, .ref m20, .int 0, .ref m21, .int 0, .int 0, .int 0, .int 0, .int 0, .int 0, .int 0, .ref m22, .int 0, .int 0, .ref m23, .ref m24, .ref m25, .ref m26, .int 0, .ref m27, .int 0, .ref m28, .int 0, .ref m29, .ref m30, .int (-1), .int 0, .int 0, .ref m31, .ref m32, .ref m33, .ref m34, .ref m35, .ref m36, .ref m37, .ref m38, .ref m39, .int 0, .ref m40, .int 0, .ref m41]))] := hD
  refine lv_if_eq (tgt := 61) hx hb d_Model_holds_54 (by decide) (fun c_12 => ?_) (fun c_12 => ?_)
  · first | exact absurd c_12 (by decide) | exact absurd (by decide) c_12
  refine lv_iconst (v := 1) hx hb d_Model_holds_57 (by decide) ?_
  refine lv_goto (tgt := 62) hx hb d_Model_holds_58 (by decide) ?_
  have hP9 := hP.sub (ws' := (fun u : Nat → Nat => [(m4, .inl (ax 0, 2, .inl (upd (upd (fun _ => 0) 0 0) 1 2))), (m3, .inl (ax 0, 4, .inl (upd (upd (fun _ => 0) 0 1) 2 1))), (m42, .inl (ax 0, 3072, .inl (upd (upd (upd (upd (upd (upd (upd (upd (upd (upd (upd (upd (fun _ => 0) 0 0) 1 (-1)) 2 0) 3 2) 4 (-1)) 5 0) 1536 0) 1537 (-1)) 1538 0) 1539 2) 1540 (-1)) 1541 0))), (m41, .inl (ax 3, 256, .inl (upd (fun _ => 0) 0 1))), (m0, .inr (11, [.int 0, .int 0, .ref m1, .int 0, .int 0, .ref m2, .int 0, .int 0, .int 0, .int 0, .int 0, .ref m42, .ref m3, .ref m4, .int 0, .int 0, .ref m5, .ref m6, .ref m7, .ref m8, .ref m9, .ref m10, .ref m11, .ref m12, .ref m13, .ref m14, .ref m15, .ref m16, .ref m17, .ref m18, .ref m19, .int 0, .ref m20, .int 0, .ref m21, .int 0, .int 0, .int 0, .int 0, .int 0, .int 0, .int 0, .ref m22, .int 0, .int 0, .ref m23, .ref m24, .ref m25, .ref m26, .int 0, .ref m27, .int 0, .ref m28, .int 0, .ref m29, .ref m30, .int (-1), .int 0, .int 0, .ref m31, .ref m32, .ref m33, .ref m34, .ref m35, .ref m36, .ref m37, .ref m38, .ref m39, .int 0, .ref m40, .int 0, .ref m41]))]) (ixn [])) [0, 1, 2, 3, 4] rfl
  have hD9 := hD.sub (ws' := (fun u : Nat → Nat => [(m4, .inl (ax 0, 2, .inl (upd (upd (fun _ => 0) 0 0) 1 2))), (m3, .inl (ax 0, 4, .inl (upd (upd (fun _ => 0) 0 1) 2 1))), (m42, .inl (ax 0, 3072, .inl (upd (upd (upd (upd (upd (upd (upd (upd (upd (upd (upd (upd (fun _ => 0) 0 0) 1 (-1)) 2 0) 3 2) 4 (-1)) 5 0) 1536 0) 1537 (-1)) 1538 0) 1539 2) 1540 (-1)) 1541 0))), (m41, .inl (ax 3, 256, .inl (upd (fun _ => 0) 0 1))), (m0, .inr (11, [.int 0, .int 0, .ref m1, .int 0, .int 0, .ref m2, .int 0, .int 0, .int 0, .int 0, .int 0, .ref m42, .ref m3, .ref m4, .int 0, .int 0, .ref m5, .ref m6, .ref m7, .ref m8, .ref m9, .ref m10, .ref m11, .ref m12, .ref m13, .ref m14, .ref m15, .ref m16, .ref m17, .ref m18, .ref m19, .int 0, .ref m20, .int 0, .ref m21, .int 0, .int 0, .int 0, .int 0, .int 0, .int 0, .int 0, .ref m22, .int 0, .int 0, .ref m23, .ref m24, .ref m25, .ref m26, .int 0, .ref m27, .int 0, .ref m28, .int 0, .ref m29, .ref m30, .int (-1), .int 0, .int 0, .ref m31, .ref m32, .ref m33, .ref m34, .ref m35, .ref m36, .ref m37, .ref m38, .ref m39, .int 0, .ref m40, .int 0, .ref m41]))]) (ixn [])) [0, 1, 2, 3, 4] (by decide) rfl
  exact W.zret (v := 1) hx hb hr rfl (fun t ht hW => ⟨⟨1, ixn [], rfl, rfl, ⟨by rw [ht]; exact hP9, hD9⟩⟩, hS.F ht⟩) hS.2.2 d_Model_holds_62
set_option maxHeartbeats 4000000 in
set_option maxRecDepth 100000 in
theorem c_Model_isTrue_1 (l : Launch) (D : va_G) (ax : Nat → ClassId) (m0 m1 m2 m3 m4 m5 m6 m7 m8 m9 m10 m11 m12 m13 m14 m15 m16 m17 m18 m19 m20 m21 m22 m23 m24 m25 m26 m27 m28 m29 m30 m31 m32 m33 m34 m35 m36 m37 m38 m39 m40 m41 m42 : Nat) (sz : Nat) : Met l y_Model_isTrue (xws (.code y_Model_isTrue b_Model_isTrue 7 (some .boolean))) ({ frames := 20, cells := 0, slots := 0, locals := 800 }) (va_Pc [.ref m0, .ref m42, .int 1536, .int 1] (xo D ax [(m0, .inr (11, [.int 0, .int 0, .ref m1, .int 0, .int 0, .ref m2, .int 0, .int 0, .int 0, .int 0, .int 0, .ref m42, .ref m3, .ref m4, .int 0, .int 0, .ref m5, .ref m6, .ref m7, .ref m8, .ref m9, .ref m10, .ref m11, .ref m12, .ref m13, .ref m14, .ref m15, .ref m16, .ref m17, .ref m18, .ref m19, .int 0, .ref m20, .int 0, .ref m21, .int 0, .int 0, .int 0, .int 0, .int 0, .int 0, .int 0, .ref m22, .int 0, .int 0, .ref m23, .ref m24, .ref m25, .ref m26, .int 0, .ref m27, .int 0, .ref m28, .int 0, .ref m29, .ref m30, .int (-1), .int 0, .int 0, .ref m31, .ref m32, .ref m33, .ref m34, .ref m35, .ref m36, .ref m37, .ref m38, .ref m39, .int 0, .ref m40, .int 0, .ref m41])), (m42, .inl (ax 0, 3072, .inl (upd (upd (upd (upd (upd (upd (upd (upd (upd (upd (upd (upd (fun _ => 0) 0 0) 1 (-1)) 2 0) 3 2) 4 (-1)) 5 0) 1536 0) 1537 (-1)) 1538 0) 1539 2) 1540 (-1)) 1541 0))), (m41, .inl (ax 3, 256, .inl (fun _ => 0)))] sz)) ((va_Qi (fun (r : Int32) (u : Nat → Nat) => r = 1) (xb D (va_A [(m0, .inr (11, [.int 0, .int 0, .ref m1, .int 0, .int 0, .ref m2, .int 0, .int 0, .int 0, .int 0, .int 0, .ref m42, .ref m3, .ref m4, .int 0, .int 0, .ref m5, .ref m6, .ref m7, .ref m8, .ref m9, .ref m10, .ref m11, .ref m12, .ref m13, .ref m14, .ref m15, .ref m16, .ref m17, .ref m18, .ref m19, .int 0, .ref m20, .int 0, .ref m21, .int 0, .int 0, .int 0, .int 0, .int 0, .int 0, .int 0, .ref m22, .int 0, .int 0, .ref m23, .ref m24, .ref m25, .ref m26, .int 0, .ref m27, .int 0, .ref m28, .int 0, .ref m29, .ref m30, .int (-1), .int 0, .int 0, .ref m31, .ref m32, .ref m33, .ref m34, .ref m35, .ref m36, .ref m37, .ref m38, .ref m39, .int 0, .ref m40, .int 0, .ref m41])), (m42, .inl (ax 0, 3072, .inl (upd (upd (upd (upd (upd (upd (upd (upd (upd (upd (upd (upd (fun _ => 0) 0 0) 1 (-1)) 2 0) 3 2) 4 (-1)) 5 0) 1536 0) 1537 (-1)) 1538 0) 1539 2) 1540 (-1)) 1541 0))), (m41, .inl (ax 3, 256, .inl (fun _ => 0)))] sz) (fun u => [(m42, .inl (ax 0, 3072, .inl (upd (upd (upd (upd (upd (upd (upd (upd (upd (upd (upd (upd (fun _ => 0) 0 0) 1 (-1)) 2 0) 3 2) 4 (-1)) 5 0) 1536 0) 1537 (-1)) 1538 0) 1539 2) 1540 (-1)) 1541 0))), (m41, .inl (ax 3, 256, .inl (upd (fun _ => 0) 0 1))), (m0, .inr (11, [.int 0, .int 0, .ref m1, .int 0, .int 0, .ref m2, .int 0, .int 0, .int 0, .int 0, .int 0, .ref m42, .ref m3, .ref m4, .int 0, .int 0, .ref m5, .ref m6, .ref m7, .ref m8, .ref m9, .ref m10, .ref m11, .ref m12, .ref m13, .ref m14, .ref m15, .ref m16, .ref m17, .ref m18, .ref m19, .int 0, .ref m20, .int 0, .ref m21, .int 0, .int 0, .int 0, .int 0, .int 0, .int 0, .int 0, .ref m22, .int 0, .int 0, .ref m23, .ref m24, .ref m25, .ref m26, .int 0, .ref m27, .int 0, .ref m28, .int 0, .ref m29, .ref m30, .int (-1), .int 0, .int 0, .ref m31, .ref m32, .ref m33, .ref m34, .ref m35, .ref m36, .ref m37, .ref m38, .ref m39, .int 0, .ref m40, .int 0, .ref m41]))])) (va_A [(m0, .inr (11, [.int 0, .int 0, .ref m1, .int 0, .int 0, .ref m2, .int 0, .int 0, .int 0, .int 0, .int 0, .ref m42, .ref m3, .ref m4, .int 0, .int 0, .ref m5, .ref m6, .ref m7, .ref m8, .ref m9, .ref m10, .ref m11, .ref m12, .ref m13, .ref m14, .ref m15, .ref m16, .ref m17, .ref m18, .ref m19, .int 0, .ref m20, .int 0, .ref m21, .int 0, .int 0, .int 0, .int 0, .int 0, .int 0, .int 0, .ref m22, .int 0, .int 0, .ref m23, .ref m24, .ref m25, .ref m26, .int 0, .ref m27, .int 0, .ref m28, .int 0, .ref m29, .ref m30, .int (-1), .int 0, .int 0, .ref m31, .ref m32, .ref m33, .ref m34, .ref m35, .ref m36, .ref m37, .ref m38, .ref m39, .int 0, .ref m40, .int 0, .ref m41])), (m42, .inl (ax 0, 3072, .inl (upd (upd (upd (upd (upd (upd (upd (upd (upd (upd (upd (upd (fun _ => 0) 0 0) 1 (-1)) 2 0) 3 2) 4 (-1)) 5 0) 1536 0) 1537 (-1)) 1538 0) 1539 2) 1540 (-1)) 1541 0))), (m41, .inl (ax 3, 256, .inl (fun _ => 0)))] sz))) 0 0 (va_A [(m0, .inr (11, [.int 0, .int 0, .ref m1, .int 0, .int 0, .ref m2, .int 0, .int 0, .int 0, .int 0, .int 0, .ref m42, .ref m3, .ref m4, .int 0, .int 0, .ref m5, .ref m6, .ref m7, .ref m8, .ref m9, .ref m10, .ref m11, .ref m12, .ref m13, .ref m14, .ref m15, .ref m16, .ref m17, .ref m18, .ref m19, .int 0, .ref m20, .int 0, .ref m21, .int 0, .int 0, .int 0, .int 0, .int 0, .int 0, .int 0, .ref m22, .int 0, .int 0, .ref m23, .ref m24, .ref m25, .ref m26, .int 0, .ref m27, .int 0, .ref m28, .int 0, .ref m29, .ref m30, .int (-1), .int 0, .int 0, .ref m31, .ref m32, .ref m33, .ref m34, .ref m35, .ref m36, .ref m37, .ref m38, .ref m39, .int 0, .ref m40, .int 0, .ref m41])), (m42, .inl (ax 0, 3072, .inl (upd (upd (upd (upd (upd (upd (upd (upd (upd (upd (upd (upd (fun _ => 0) 0 0) 1 (-1)) 2 0) 3 2) 4 (-1)) 5 0) 1536 0) 1537 (-1)) 1538 0) 1539 2) 1540 (-1)) 1541 0))), (m41, .inl (ax 3, 256, .inl (fun _ => 0)))] sz) := by
  refine Met.ofW (cc := b_Model_isTrue) (maxL := 7) (ret := (some .boolean)) (by decide) rfl ?_
  intro p e s m args below meth c s₁ B hml hv
  obtain ⟨rfl, hsz, hP, hK, hD0⟩ := hv
  have hx := B.exec
  have hb := B.bytes
  have hr := B.returns
  have hts := xw_hts B.pre
  have hown : s.vm.findClass R_Model = some m.cls := findClass_of_methodNamed B.named
  have hlocks := B.notSynchronized
  subst hsz
  have hD := hD0.self (sz := s.heap.size)
  have hN := xz_entry hP
  generalize hAe : va_A [(m0, .inr (11, [.int 0, .int 0, .ref m1, .int 0, .int 0, .ref m2, .int 0, .int 0, .int 0, .int 0, .int 0, .ref m42, .ref m3, .ref m4, .int 0, .int 0, .ref m5, .ref m6, .ref m7, .ref m8, .ref m9, .ref m10, .ref m11, .ref m12, .ref m13, .ref m14, .ref m15, .ref m16, .ref m17, .ref m18, .ref m19, .int 0, .ref m20, .int 0, .ref m21, .int 0, .int 0, .int 0, .int 0, .int 0, .int 0, .int 0, .ref m22, .int 0, .int 0, .ref m23, .ref m24, .ref m25, .ref m26, .int 0, .ref m27, .int 0, .ref m28, .int 0, .ref m29, .ref m30, .int (-1), .int 0, .int 0, .ref m31, .ref m32, .ref m33, .ref m34, .ref m35, .ref m36, .ref m37, .ref m38, .ref m39, .int 0, .ref m40, .int 0, .ref m41])), (m42, .inl (ax 0, 3072, .inl (upd (upd (upd (upd (upd (upd (upd (upd (upd (upd (upd (upd (fun _ => 0) 0 0) 1 (-1)) 2 0) 3 2) 4 (-1)) 5 0) 1536 0) 1537 (-1)) 1538 0) 1539 2) 1540 (-1)) 1541 0))), (m41, .inl (ax 3, 256, .inl (fun _ => 0)))] s.heap.size = A at hD hN ⊢
  have hA : ∀ q : Nat, s.heap.size ≤ q → A q := fun q h => by rw [← hAe]; exact Or.inr h
  have hS : va_S A s.heap s.heap [] := va_S.rf
  have hl0 := lv_entry ([.ref m0, .ref m42, .int 1536, .int 1]) (n := 7) (Nat.le_of_ble_eq_true rfl)
  rw [lg_entry_eq]
  generalize (lg_sl ([.ref m0, .ref m42, .int 1536, .int 1]) ++ List.replicate (7 - (lg_sl ([.ref m0, .ref m42, .int 1536, .int 1])).length) Slot.unset).toArray = ls at hl0 ⊢
  have hl1 : lv_has ls 7 [(0, .ref m0), (1, .ref m42), (2, .int 1536), (3, .int 1)] := hl0
  refine lv_iconst (v := 0) hx hb d_Model_isTrue_0 (by decide) ?_
  refine lv_istore (lv' := [(4, .int 0), (0, .ref m0), (1, .ref m42), (2, .int 1536), (3, .int 1)]) hx hb d_Model_isTrue_1 hl1 (by decide) rfl (fun ls hl1 => ?_)
  refine lv_iconst (v := 0) hx hb d_Model_isTrue_3 (by decide) ?_
  refine lv_istore (lv' := [(5, .int 0), (4, .int 0), (0, .ref m0), (1, .ref m42), (2, .int 1536), (3, .int 1)]) hx hb d_Model_isTrue_4 hl1 (by decide) rfl (fun ls hl1 => ?_)
  refine lv_iload hx hb d_Model_isTrue_6 (lv_at hl1 0 rfl) ?_
  refine lv_iload_n hx hb d_Model_isTrue_8 rfl (lv_at hl1 5 rfl) ?_
  refine lv_icmp_ge (tgt := 206) hx hb d_Model_isTrue_9 (by decide) (fun c_1 => ?_) (fun c_1 => ?_)
  · first | exact absurd c_1 (by decide) | exact absurd (by decide) c_1
  refine lv_iload_n hx hb d_Model_isTrue_12 rfl (lv_at hl1 4 rfl) ?_
  refine lv_bipush (v := 6) hx hb d_Model_isTrue_13 (by decide) ?_
  refine lv_iload hx hb d_Model_isTrue_15 (lv_at hl1 0 rfl) ?_
  refine lv_imul hx hb d_Model_isTrue_17 ?_
  refine lv_topi (fun z_2 ez_2 => ?_)
  have ez_2 : z_2 = 0 := ez_2.trans (by first | rfl | decide)
  subst ez_2
  refine lv_iadd hx hb d_Model_isTrue_18 ?_
  refine lv_topi (fun z_3 ez_3 => ?_)
  have ez_3 : z_3 = 1536 := ez_3.trans (by first | rfl | decide)
  subst ez_3
  refine lv_istore (lv' := [(6, .int 1536), (5, .int 0), (4, .int 0), (0, .ref m0), (1, .ref m42), (2, .int 1536), (3, .int 1)]) hx hb d_Model_isTrue_19 hl1 (by decide) rfl (fun ls hl1 => ?_)
  refine lv_aload_n hx hb d_Model_isTrue_21 rfl (lv_at hl1 4 rfl) ?_
  refine lv_iload hx hb d_Model_isTrue_22 (lv_at hl1 0 rfl) ?_
  refine va_iald hx hb hK.1 hP 1 0 rfl rfl (by unfold vp_in; decide) d_Model_isTrue_24 ?_
  refine lv_topi (fun z_4 ez_4 => ?_)
  have ez_4 : z_4 = 0 := ez_4.trans (by first | rfl | decide)
  subst ez_4
  refine lv_if_ne (tgt := 82) hx hb d_Model_isTrue_25 (by decide) (fun c_5 => ?_) (fun c_5 => ?_)
  · first | exact absurd c_5 (by decide) | exact absurd (by decide) c_5
  refine lv_aload_n hx hb d_Model_isTrue_28 rfl (lv_at hl1 3 rfl) ?_
  refine va_get (D := D) (ci := 11) (v := .ref m41) (C := R_Model) (T := F_Model) (N := 72) hx hb hts i_Model hown hK.1 hP 0 rfl rfl 71 (by decide) (hts _ wd_1107) (fun _ h9 => h9) rfl d_Model_isTrue_29 ?_
  refine lv_iload hx hb d_Model_isTrue_32 (lv_at hl1 2 rfl) ?_
  refine lv_aload_n hx hb d_Model_isTrue_34 rfl (lv_at hl1 3 rfl) ?_
  refine lv_aload_n hx hb d_Model_isTrue_35 rfl (lv_at hl1 4 rfl) ?_
  refine lv_iload hx hb d_Model_isTrue_36 (lv_at hl1 0 rfl) ?_
  refine lv_iconst (v := 1) hx hb d_Model_isTrue_38 (by decide) ?_
  refine lv_iadd hx hb d_Model_isTrue_39 ?_
  refine lv_topi (fun z_6 ez_6 => ?_)
  have ez_6 : z_6 = 1537 := ez_6.trans (by first | rfl | decide)
  subst ez_6
  refine va_iald hx hb hK.1 hP 1 0 rfl rfl (by unfold vp_in; decide) d_Model_isTrue_40 ?_
  refine lv_topi (fun z_7 ez_7 => ?_)
  have ez_7 : z_7 = (-1) := ez_7.trans (by first | rfl | decide)
  subst ez_7
  refine lv_aload_n hx hb d_Model_isTrue_41 rfl (lv_at hl1 4 rfl) ?_
  refine lv_iload hx hb d_Model_isTrue_42 (lv_at hl1 0 rfl) ?_
  refine lv_iconst (v := 2) hx hb d_Model_isTrue_44 (by decide) ?_
  refine lv_iadd hx hb d_Model_isTrue_45 ?_
  refine lv_topi (fun z_8 ez_8 => ?_)
  have ez_8 : z_8 = 1538 := ez_8.trans (by first | rfl | decide)
  subst ez_8
  refine va_iald hx hb hK.1 hP 1 0 rfl rfl (by unfold vp_in; decide) d_Model_isTrue_46 ?_
  refine lv_topi (fun z_9 ez_9 => ?_)
  have ez_9 : z_9 = 0 := ez_9.trans (by first | rfl | decide)
  subst ez_9
  have hPc := hP.sub (ws' := [(m0, .inr (11, [.int 0, .int 0, .ref m1, .int 0, .int 0, .ref m2, .int 0, .int 0, .int 0, .int 0, .int 0, .ref m42, .ref m3, .ref m4, .int 0, .int 0, .ref m5, .ref m6, .ref m7, .ref m8, .ref m9, .ref m10, .ref m11, .ref m12, .ref m13, .ref m14, .ref m15, .ref m16, .ref m17, .ref m18, .ref m19, .int 0, .ref m20, .int 0, .ref m21, .int 0, .int 0, .int 0, .int 0, .int 0, .int 0, .int 0, .ref m22, .int 0, .int 0, .ref m23, .ref m24, .ref m25, .ref m26, .int 0, .ref m27, .int 0, .ref m28, .int 0, .ref m29, .ref m30, .int (-1), .int 0, .int 0, .ref m31, .ref m32, .ref m33, .ref m34, .ref m35, .ref m36, .ref m37, .ref m38, .ref m39, .int 0, .ref m40, .int 0, .ref m41]))]) [0] rfl
  have hDc := hD.sub (ws' := [(m0, .inr (11, [.int 0, .int 0, .ref m1, .int 0, .int 0, .ref m2, .int 0, .int 0, .int 0, .int 0, .int 0, .ref m42, .ref m3, .ref m4, .int 0, .int 0, .ref m5, .ref m6, .ref m7, .ref m8, .ref m9, .ref m10, .ref m11, .ref m12, .ref m13, .ref m14, .ref m15, .ref m16, .ref m17, .ref m18, .ref m19, .int 0, .ref m20, .int 0, .ref m21, .int 0, .int 0, .int 0, .int 0, .int 0, .int 0, .int 0, .ref m22, .int 0, .int 0, .ref m23, .ref m24, .ref m25, .ref m26, .int 0, .ref m27, .int 0, .ref m28, .int 0, .ref m29, .ref m30, .int (-1), .int 0, .int 0, .ref m31, .ref m32, .ref m33, .ref m34, .ref m35, .ref m36, .ref m37, .ref m38, .ref m39, .int 0, .ref m40, .int 0, .ref m41]))]) [0] (by decide) rfl
  have hFc := va_free (wc := [(m0, .inr (11, [.int 0, .int 0, .ref m1, .int 0, .int 0, .ref m2, .int 0, .int 0, .int 0, .int 0, .int 0, .ref m42, .ref m3, .ref m4, .int 0, .int 0, .ref m5, .ref m6, .ref m7, .ref m8, .ref m9, .ref m10, .ref m11, .ref m12, .ref m13, .ref m14, .ref m15, .ref m16, .ref m17, .ref m18, .ref m19, .int 0, .ref m20, .int 0, .ref m21, .int 0, .int 0, .int 0, .int 0, .int 0, .int 0, .int 0, .ref m22, .int 0, .int 0, .ref m23, .ref m24, .ref m25, .ref m26, .int 0, .ref m27, .int 0, .ref m28, .int 0, .ref m29, .ref m30, .int (-1), .int 0, .int 0, .ref m31, .ref m32, .ref m33, .ref m34, .ref m35, .ref m36, .ref m37, .ref m38, .ref m39, .int 0, .ref m40, .int 0, .ref m41]))]) hD hS hA [0] rfl
  have hz := xz_of hN hS
  refine va_calll (va_runV (As := [.int (-1), .int 0]) (rest := [.int 0, .ref m41]) ⟨hx, hb, hml, hown, hts⟩ (c_Model_termOf l D ax m0 m1 m2 m3 m4 m5 m6 m7 m8 m9 m10 m11 m12 m13 m14 m15 m16 m17 m18 m19 m20 m21 m22 m23 m24 m25 m26 m27 m28 m29 m30 m31 m32 m33 m34 m35 m36 m37 m38 m39 m40 m41 m42 s.heap.size) (xcV (n := 2) hts wd_1592 wd_15 wd_1589 wd_1591 ps_112 rfl rfl (by decide +kernel) ⟨Nat.le_of_ble_eq_true rfl, Nat.le_of_ble_eq_true rfl⟩) (xpV (ci := 11) (q0 := 0) (As := [.int (-1), .int 0]) hPc hK hz hDc rfl rfl) rfl rfl hl1.1 rfl (lv_room (Nat.le_of_ble_eq_true rfl)) d_Model_isTrue_47 ⟨Nat.le_of_ble_eq_true rfl, Nat.le_of_ble_eq_true rfl⟩) hS (fun q _ h => hFc q h) hFc (fun r_12 u_10 t H_11 locs ht hvm hw hB hz1 hk1 hS => ?_)
  try dsimp only at hw
  subst hw
  obtain ⟨hP1, hD1⟩ := hB
  rw [ht] at hP1
  obtain ⟨hP, hD⟩ := va_join (wr := [(m42, .inl (ax 0, 3072, .inl (upd (upd (upd (upd (upd (upd (upd (upd (upd (upd (upd (upd (fun _ => 0) 0 0) 1 (-1)) 2 0) 3 2) 4 (-1)) 5 0) 1536 0) 1537 (-1)) 1538 0) 1539 2) 1540 (-1)) 1541 0))), (m41, .inl (ax 3, 256, .inl (fun _ => 0)))]) (w1 := [(m0, .inr (11, [.int 0, .int 0, .ref m1, .int 0, .int 0, .ref m2, .int 0, .int 0, .int 0, .int 0, .int 0, .ref m42, .ref m3, .ref m4, .int 0, .int 0, .ref m5, .ref m6, .ref m7, .ref m8, .ref m9, .ref m10, .ref m11, .ref m12, .ref m13, .ref m14, .ref m15, .ref m16, .ref m17, .ref m18, .ref m19, .int 0, .ref m20, .int 0, .ref m21, .int 0, .int 0, .int 0, .int 0, .int 0, .int 0, .int 0, .ref m22, .int 0, .int 0, .ref m23, .ref m24, .ref m25, .ref m26, .int 0, .ref m27, .int 0, .ref m28, .int 0, .ref m29, .ref m30, .int (-1), .int 0, .int 0, .ref m31, .ref m32, .ref m33, .ref m34, .ref m35, .ref m36, .ref m37, .ref m38, .ref m39, .int 0, .ref m40, .int 0, .ref m41]))]) hP hD [0] [1, 2] rfl rfl (by decide) (by decide) hk1 hFc hP1 hD1
  have hP : va_P D classes [(m42, .inl (ax 0, 3072, .inl (upd (upd (upd (upd (upd (upd (upd (upd (upd (upd (upd (upd (fun _ => 0) 0 0) 1 (-1)) 2 0) 3 2) 4 (-1)) 5 0) 1536 0) 1537 (-1)) 1538 0) 1539 2) 1540 (-1)) 1541 0))), (m41, .inl (ax 3, 256, .inl (fun _ => 0))), (m0, .inr (11, [.int 0, .int 0, .ref m1, .int 0, .int 0, .ref m2, .int 0, .int 0, .int 0, .int 0, .int 0, .ref m42, .ref m3, .ref m4, .int 0, .int 0, .ref m5, .ref m6, .ref m7, .ref m8, .ref m9, .ref m10, .ref m11, .ref m12, .ref m13, .ref m14, .ref m15, .ref m16, .ref m17, .ref m18, .ref m19, .int 0, .ref m20, .int 0, .ref m21, .int 0, .int 0, .int 0, .int 0, .int 0, .int 0, .int 0, .ref m22, .int 0, .int 0, .ref m23, .ref m24, .ref m25, .ref m26, .int 0, .ref m27, .int 0, .ref m28, .int 0, .ref m29, .ref m30, .int (-1), .int 0, .int 0, .ref m31, .ref m32, .ref m33, .ref m34, .ref m35, .ref m36, .ref m37, .ref m38, .ref m39, .int 0, .ref m40, .int 0, .ref m41]))] H_11 := hP
  have hD : va_D A [(m42, .inl (ax 0, 3072, .inl (upd (upd (upd (upd (upd (upd (upd (upd (upd (upd (upd (upd (fun _ => 0) 0 0) 1 (-1)) 2 0) 3 2) 4 (-1)) 5 0) 1536 0) 1537 (-1)) 1538 0) 1539 2) 1540 (-1)) 1541 0))), (m41, .inl (ax 3, 256, .inl (fun _ => 0))), (m0, .inr (11, [.int 0, .int 0, .ref m1, .int 0, .int 0, .ref m2, .int 0, .int 0, .int 0, .int 0, .int 0, .ref m42, .ref m3, .ref m4, .int 0, .int 0, .ref m5, .ref m6, .ref m7, .ref m8, .ref m9, .ref m10, .ref m11, .ref m12, .ref m13, .ref m14, .ref m15, .ref m16, .ref m17, .ref m18, .ref m19, .int 0, .ref m20, .int 0, .ref m21, .int 0, .int 0, .int 0, .int 0, .int 0, .int 0, .int 0, .ref m22, .int 0, .int 0, .ref m23, .ref m24, .ref m25, .ref m26, .int 0, .ref m27, .int 0, .ref m28, .int 0, .ref m29, .ref m30, .int (-1), .int 0, .int 0, .ref m31, .ref m32, .ref m33, .ref m34, .ref m35, .ref m36, .ref m37, .ref m38, .ref m39, .int 0, .ref m40, .int 0, .ref m41]))] := hD
  refine lv_aload_n hx hb d_Model_isTrue_50 rfl (lv_at hl1 4 rfl) ?_
  refine lv_iload hx hb d_Model_isTrue_51 (lv_at hl1 0 rfl) ?_
  refine lv_iconst (v := 3) hx hb d_Model_isTrue_53 (by decide) ?_
  refine lv_iadd hx hb d_Model_isTrue_54 ?_
  refine lv_topi (fun z_13 ez_13 => ?_)
  have ez_13 : z_13 = 1539 := ez_13.trans (by first | rfl | decide)
  subst ez_13
  refine va_iald hx hb hK.1 hP 0 0 rfl rfl (by unfold vp_in; decide) d_Model_isTrue_55 ?_
  refine lv_topi (fun z_14 ez_14 => ?_)
  have ez_14 : z_14 = 2 := ez_14.trans (by first | rfl | decide)
  subst ez_14
  refine lv_aload_n hx hb d_Model_isTrue_56 rfl (lv_at hl1 3 rfl) ?_
  refine lv_aload_n hx hb d_Model_isTrue_57 rfl (lv_at hl1 4 rfl) ?_
  refine lv_iload hx hb d_Model_isTrue_58 (lv_at hl1 0 rfl) ?_
  refine lv_iconst (v := 4) hx hb d_Model_isTrue_60 (by decide) ?_
  refine lv_iadd hx hb d_Model_isTrue_61 ?_
  refine lv_topi (fun z_15 ez_15 => ?_)
  have ez_15 : z_15 = 1540 := ez_15.trans (by first | rfl | decide)
  subst ez_15
  refine va_iald hx hb hK.1 hP 0 0 rfl rfl (by unfold vp_in; decide) d_Model_isTrue_62 ?_
  refine lv_topi (fun z_16 ez_16 => ?_)
  have ez_16 : z_16 = (-1) := ez_16.trans (by first | rfl | decide)
  subst ez_16
  refine lv_aload_n hx hb d_Model_isTrue_63 rfl (lv_at hl1 4 rfl) ?_
  refine lv_iload hx hb d_Model_isTrue_64 (lv_at hl1 0 rfl) ?_
  refine lv_iconst (v := 5) hx hb d_Model_isTrue_66 (by decide) ?_
  refine lv_iadd hx hb d_Model_isTrue_67 ?_
  refine lv_topi (fun z_17 ez_17 => ?_)
  have ez_17 : z_17 = 1541 := ez_17.trans (by first | rfl | decide)
  subst ez_17
  refine va_iald hx hb hK.1 hP 0 0 rfl rfl (by unfold vp_in; decide) d_Model_isTrue_68 ?_
  refine lv_topi (fun z_18 ez_18 => ?_)
  have ez_18 : z_18 = 0 := ez_18.trans (by first | rfl | decide)
  subst ez_18
  have hPc := hP.sub (ws' := [(m0, .inr (11, [.int 0, .int 0, .ref m1, .int 0, .int 0, .ref m2, .int 0, .int 0, .int 0, .int 0, .int 0, .ref m42, .ref m3, .ref m4, .int 0, .int 0, .ref m5, .ref m6, .ref m7, .ref m8, .ref m9, .ref m10, .ref m11, .ref m12, .ref m13, .ref m14, .ref m15, .ref m16, .ref m17, .ref m18, .ref m19, .int 0, .ref m20, .int 0, .ref m21, .int 0, .int 0, .int 0, .int 0, .int 0, .int 0, .int 0, .ref m22, .int 0, .int 0, .ref m23, .ref m24, .ref m25, .ref m26, .int 0, .ref m27, .int 0, .ref m28, .int 0, .ref m29, .ref m30, .int (-1), .int 0, .int 0, .ref m31, .ref m32, .ref m33, .ref m34, .ref m35, .ref m36, .ref m37, .ref m38, .ref m39, .int 0, .ref m40, .int 0, .ref m41]))]) [2] rfl
  have hDc := hD.sub (ws' := [(m0, .inr (11, [.int 0, .int 0, .ref m1, .int 0, .int 0, .ref m2, .int 0, .int 0, .int 0, .int 0, .int 0, .ref m42, .ref m3, .ref m4, .int 0, .int 0, .ref m5, .ref m6, .ref m7, .ref m8, .ref m9, .ref m10, .ref m11, .ref m12, .ref m13, .ref m14, .ref m15, .ref m16, .ref m17, .ref m18, .ref m19, .int 0, .ref m20, .int 0, .ref m21, .int 0, .int 0, .int 0, .int 0, .int 0, .int 0, .int 0, .ref m22, .int 0, .int 0, .ref m23, .ref m24, .ref m25, .ref m26, .int 0, .ref m27, .int 0, .ref m28, .int 0, .ref m29, .ref m30, .int (-1), .int 0, .int 0, .ref m31, .ref m32, .ref m33, .ref m34, .ref m35, .ref m36, .ref m37, .ref m38, .ref m39, .int 0, .ref m40, .int 0, .ref m41]))]) [2] (by decide) rfl
  have hFc := va_free (wc := [(m0, .inr (11, [.int 0, .int 0, .ref m1, .int 0, .int 0, .ref m2, .int 0, .int 0, .int 0, .int 0, .int 0, .ref m42, .ref m3, .ref m4, .int 0, .int 0, .ref m5, .ref m6, .ref m7, .ref m8, .ref m9, .ref m10, .ref m11, .ref m12, .ref m13, .ref m14, .ref m15, .ref m16, .ref m17, .ref m18, .ref m19, .int 0, .ref m20, .int 0, .ref m21, .int 0, .int 0, .int 0, .int 0, .int 0, .int 0, .int 0, .ref m22, .int 0, .int 0, .ref m23, .ref m24, .ref m25, .ref m26, .int 0, .ref m27, .int 0, .ref m28, .int 0, .ref m29, .ref m30, .int (-1), .int 0, .int 0, .ref m31, .ref m32, .ref m33, .ref m34, .ref m35, .ref m36, .ref m37, .ref m38, .ref m39, .int 0, .ref m40, .int 0, .ref m41]))]) hD hS hA [2] rfl
  have hz := xz_of hN hS
  refine va_calll (va_runV (As := [.int (-1), .int 0]) (rest := [.int 2, .long 0, .int 0, .ref m41]) ⟨hx, hb, hml, hown, hts⟩ (c_Model_termOf l D ax m0 m1 m2 m3 m4 m5 m6 m7 m8 m9 m10 m11 m12 m13 m14 m15 m16 m17 m18 m19 m20 m21 m22 m23 m24 m25 m26 m27 m28 m29 m30 m31 m32 m33 m34 m35 m36 m37 m38 m39 m40 m41 m42 H_11.size) (xcV (n := 2) hts wd_1592 wd_15 wd_1589 wd_1591 ps_112 rfl rfl (by decide +kernel) ⟨Nat.le_of_ble_eq_true rfl, Nat.le_of_ble_eq_true rfl⟩) (xpV (ci := 11) (q0 := 0) (As := [.int (-1), .int 0]) hPc hK hz hDc rfl rfl) rfl rfl hl1.1 rfl (lv_room (Nat.le_of_ble_eq_true rfl)) d_Model_isTrue_69 ⟨Nat.le_of_ble_eq_true rfl, Nat.le_of_ble_eq_true rfl⟩) hS (fun q _ h => hFc q h) hFc (fun r_21 u_19 t H_20 locs ht hvm hw hB hz1 hk1 hS => ?_)
  try dsimp only at hw
  subst hw
  obtain ⟨hP1, hD1⟩ := hB
  rw [ht] at hP1
  obtain ⟨hP, hD⟩ := va_join (wr := [(m42, .inl (ax 0, 3072, .inl (upd (upd (upd (upd (upd (upd (upd (upd (upd (upd (upd (upd (fun _ => 0) 0 0) 1 (-1)) 2 0) 3 2) 4 (-1)) 5 0) 1536 0) 1537 (-1)) 1538 0) 1539 2) 1540 (-1)) 1541 0))), (m41, .inl (ax 3, 256, .inl (fun _ => 0)))]) (w1 := [(m0, .inr (11, [.int 0, .int 0, .ref m1, .int 0, .int 0, .ref m2, .int 0, .int 0, .int 0, .int 0, .int 0, .ref m42, .ref m3, .ref m4, .int 0, .int 0, .ref m5, .ref m6, .ref m7, .ref m8, .ref m9, .ref m10, .ref m11, .ref m12, .ref m13, .ref m14, .ref m15, .ref m16, .ref m17, .ref m18, .ref m19, .int 0, .ref m20, .int 0, .ref m21, .int 0, .int 0, .int 0, .int 0, .int 0, .int 0, .int 0, .ref m22, .int 0, .int 0, .ref m23, .ref m24, .ref m25, .ref m26, .int 0, .ref m27, .int 0, .ref m28, .int 0, .ref m29, .ref m30, .int (-1), .int 0, .int 0, .ref m31, .ref m32, .ref m33, .ref m34, .ref m35, .ref m36, .ref m37, .ref m38, .ref m39, .int 0, .ref m40, .int 0, .ref m41]))]) hP hD [2] [0, 1] rfl rfl (by decide) (by decide) hk1 hFc hP1 hD1
  have hP : va_P D classes [(m42, .inl (ax 0, 3072, .inl (upd (upd (upd (upd (upd (upd (upd (upd (upd (upd (upd (upd (fun _ => 0) 0 0) 1 (-1)) 2 0) 3 2) 4 (-1)) 5 0) 1536 0) 1537 (-1)) 1538 0) 1539 2) 1540 (-1)) 1541 0))), (m41, .inl (ax 3, 256, .inl (fun _ => 0))), (m0, .inr (11, [.int 0, .int 0, .ref m1, .int 0, .int 0, .ref m2, .int 0, .int 0, .int 0, .int 0, .int 0, .ref m42, .ref m3, .ref m4, .int 0, .int 0, .ref m5, .ref m6, .ref m7, .ref m8, .ref m9, .ref m10, .ref m11, .ref m12, .ref m13, .ref m14, .ref m15, .ref m16, .ref m17, .ref m18, .ref m19, .int 0, .ref m20, .int 0, .ref m21, .int 0, .int 0, .int 0, .int 0, .int 0, .int 0, .int 0, .ref m22, .int 0, .int 0, .ref m23, .ref m24, .ref m25, .ref m26, .int 0, .ref m27, .int 0, .ref m28, .int 0, .ref m29, .ref m30, .int (-1), .int 0, .int 0, .ref m31, .ref m32, .ref m33, .ref m34, .ref m35, .ref m36, .ref m37, .ref m38, .ref m39, .int 0, .ref m40, .int 0, .ref m41]))] H_20 := hP
  have hD : va_D A [(m42, .inl (ax 0, 3072, .inl (upd (upd (upd (upd (upd (upd (upd (upd (upd (upd (upd (upd (fun _ => 0) 0 0) 1 (-1)) 2 0) 3 2) 4 (-1)) 5 0) 1536 0) 1537 (-1)) 1538 0) 1539 2) 1540 (-1)) 1541 0))), (m41, .inl (ax 3, 256, .inl (fun _ => 0))), (m0, .inr (11, [.int 0, .int 0, .ref m1, .int 0, .int 0, .ref m2, .int 0, .int 0, .int 0, .int 0, .int 0, .ref m42, .ref m3, .ref m4, .int 0, .int 0, .ref m5, .ref m6, .ref m7, .ref m8, .ref m9, .ref m10, .ref m11, .ref m12, .ref m13, .ref m14, .ref m15, .ref m16, .ref m17, .ref m18, .ref m19, .int 0, .ref m20, .int 0, .ref m21, .int 0, .int 0, .int 0, .int 0, .int 0, .int 0, .int 0, .ref m22, .int 0, .int 0, .ref m23, .ref m24, .ref m25, .ref m26, .int 0, .ref m27, .int 0, .ref m28, .int 0, .ref m29, .ref m30, .int (-1), .int 0, .int 0, .ref m31, .ref m32, .ref m33, .ref m34, .ref m35, .ref m36, .ref m37, .ref m38, .ref m39, .int 0, .ref m40, .int 0, .ref m41]))] := hD
  have hPc := hP.sub (ws' := []) [] rfl
  have hDc := hD.sub (ws' := []) [] (by decide) rfl
  have hFc := va_free (wc := []) hD hS hA [] rfl
  have hz := xz_of hN hS
  refine va_calli (va_runS (As := [.long 0, .int 2, .long 0]) (rest := [.int 0, .ref m41]) ⟨hx, hb, hml, hown, hts⟩ (c_Model_compare l D ax  H_20.size) (xcS (n := 3) hts wd_1599 wd_15 wd_1597 wd_1598 rfl rfl (by decide +kernel) ⟨Nat.le_of_ble_eq_true rfl, Nat.le_of_ble_eq_true rfl⟩) (xpS (As := [.long 0, .int 2, .long 0]) hPc hK hz hDc) rfl rfl hl1.1 rfl (lv_room (Nat.le_of_ble_eq_true rfl)) d_Model_isTrue_72 ⟨Nat.le_of_ble_eq_true rfl, Nat.le_of_ble_eq_true rfl⟩) hS (fun q _ h => hFc q h) hFc (fun r_24 u_22 t H_23 locs ht hvm hw hB hz1 hk1 hS => ?_)
  try dsimp only at hw
  subst hw
  obtain ⟨hP1, hD1⟩ := hB
  rw [ht] at hP1
  obtain ⟨hP, hD⟩ := va_join (wr := [(m42, .inl (ax 0, 3072, .inl (upd (upd (upd (upd (upd (upd (upd (upd (upd (upd (upd (upd (fun _ => 0) 0 0) 1 (-1)) 2 0) 3 2) 4 (-1)) 5 0) 1536 0) 1537 (-1)) 1538 0) 1539 2) 1540 (-1)) 1541 0))), (m41, .inl (ax 3, 256, .inl (fun _ => 0))), (m0, .inr (11, [.int 0, .int 0, .ref m1, .int 0, .int 0, .ref m2, .int 0, .int 0, .int 0, .int 0, .int 0, .ref m42, .ref m3, .ref m4, .int 0, .int 0, .ref m5, .ref m6, .ref m7, .ref m8, .ref m9, .ref m10, .ref m11, .ref m12, .ref m13, .ref m14, .ref m15, .ref m16, .ref m17, .ref m18, .ref m19, .int 0, .ref m20, .int 0, .ref m21, .int 0, .int 0, .int 0, .int 0, .int 0, .int 0, .int 0, .ref m22, .int 0, .int 0, .ref m23, .ref m24, .ref m25, .ref m26, .int 0, .ref m27, .int 0, .ref m28, .int 0, .ref m29, .ref m30, .int (-1), .int 0, .int 0, .ref m31, .ref m32, .ref m33, .ref m34, .ref m35, .ref m36, .ref m37, .ref m38, .ref m39, .int 0, .ref m40, .int 0, .ref m41]))]) (w1 := []) hP hD [] [0, 1, 2] rfl rfl (by decide) (by decide) hk1 hFc hP1 hD1
  have hP : va_P D classes [(m42, .inl (ax 0, 3072, .inl (upd (upd (upd (upd (upd (upd (upd (upd (upd (upd (upd (upd (fun _ => 0) 0 0) 1 (-1)) 2 0) 3 2) 4 (-1)) 5 0) 1536 0) 1537 (-1)) 1538 0) 1539 2) 1540 (-1)) 1541 0))), (m41, .inl (ax 3, 256, .inl (fun _ => 0))), (m0, .inr (11, [.int 0, .int 0, .ref m1, .int 0, .int 0, .ref m2, .int 0, .int 0, .int 0, .int 0, .int 0, .ref m42, .ref m3, .ref m4, .int 0, .int 0, .ref m5, .ref m6, .ref m7, .ref m8, .ref m9, .ref m10, .ref m11, .ref m12, .ref m13, .ref m14, .ref m15, .ref m16, .ref m17, .ref m18, .ref m19, .int 0, .ref m20, .int 0, .ref m21, .int 0, .int 0, .int 0, .int 0, .int 0, .int 0, .int 0, .ref m22, .int 0, .int 0, .ref m23, .ref m24, .ref m25, .ref m26, .int 0, .ref m27, .int 0, .ref m28, .int 0, .ref m29, .ref m30, .int (-1), .int 0, .int 0, .ref m31, .ref m32, .ref m33, .ref m34, .ref m35, .ref m36, .ref m37, .ref m38, .ref m39, .int 0, .ref m40, .int 0, .ref m41]))] H_23 := hP
  have hD : va_D A [(m42, .inl (ax 0, 3072, .inl (upd (upd (upd (upd (upd (upd (upd (upd (upd (upd (upd (upd (fun _ => 0) 0 0) 1 (-1)) 2 0) 3 2) 4 (-1)) 5 0) 1536 0) 1537 (-1)) 1538 0) 1539 2) 1540 (-1)) 1541 0))), (m41, .inl (ax 3, 256, .inl (fun _ => 0))), (m0, .inr (11, [.int 0, .int 0, .ref m1, .int 0, .int 0, .ref m2, .int 0, .int 0, .int 0, .int 0, .int 0, .ref m42, .ref m3, .ref m4, .int 0, .int 0, .ref m5, .ref m6, .ref m7, .ref m8, .ref m9, .ref m10, .ref m11, .ref m12, .ref m13, .ref m14, .ref m15, .ref m16, .ref m17, .ref m18, .ref m19, .int 0, .ref m20, .int 0, .ref m21, .int 0, .int 0, .int 0, .int 0, .int 0, .int 0, .int 0, .ref m22, .int 0, .int 0, .ref m23, .ref m24, .ref m25, .ref m26, .int 0, .ref m27, .int 0, .ref m28, .int 0, .ref m29, .ref m30, .int (-1), .int 0, .int 0, .ref m31, .ref m32, .ref m33, .ref m34, .ref m35, .ref m36, .ref m37, .ref m38, .ref m39, .int 0, .ref m40, .int 0, .ref m41]))] := hD
  refine va_zast hx hb hK.1 hP hD hS 1 3 rfl rfl (by unfold vp_in; decide) d_Model_isTrue_75 (fun H_25 locs hP hD hS => ?_)
  have hP : va_P D classes [(m42, .inl (ax 0, 3072, .inl (upd (upd (upd (upd (upd (upd (upd (upd (upd (upd (upd (upd (fun _ => 0) 0 0) 1 (-1)) 2 0) 3 2) 4 (-1)) 5 0) 1536 0) 1537 (-1)) 1538 0) 1539 2) 1540 (-1)) 1541 0))), (m41, .inl (ax 3, 256, .inl (upd (fun _ => 0) 0 1))), (m0, .inr (11, [.int 0, .int 0, .ref m1, .int 0, .int 0, .ref m2, .int 0, .int 0, .int 0, .int 0, .int 0, .ref m42, .ref m3, .ref m4, .int 0, .int 0, .ref m5, .ref m6, .ref m7, .ref m8, .ref m9, .ref m10, .ref m11, .ref m12, .ref m13, .ref m14, .ref m15, .ref m16, .ref m17, .ref m18, .ref m19, .int 0, .ref m20, .int 0, .ref m21, .int 0, .int 0, .int 0, .int 0, .int 0, .int 0, .int 0, .ref m22, .int 0, .int 0, .ref m23, .ref m24, .ref m25, .ref m26, .int 0, .ref m27, .int 0, .ref m28, .int 0, .ref m29, .ref m30, .int (-1), .int 0, .int 0, .ref m31, .ref m32, .ref m33, .ref m34, .ref m35, .ref m36, .ref m37, .ref m38, .ref m39, .int 0, .ref m40, .int 0, .ref m41]))] H_25 := hP
  have hD : va_D A [(m42, .inl (ax 0, 3072, .inl (upd (upd (upd (upd (upd (upd (upd (upd (upd (upd (upd (upd (fun _ => 0) 0 0) 1 (-1)) 2 0) 3 2) 4 (-1)) 5 0) 1536 0) 1537 (-1)) 1538 0) 1539 2) 1540 (-1)) 1541 0))), (m41, .inl (ax 3, 256, .inl (upd (fun _ => 0) 0 1))), (m0, .inr (11, [.int 0, .int 0, .ref m1, .int 0, .int 0, .ref m2, .int 0, .int 0, .int 0, .int 0, .int 0, .ref m42, .ref m3, .ref m4, .int 0, .int 0, .ref m5, .ref m6, .ref m7, .ref m8, .ref m9, .ref m10, .ref m11, .ref m12, .ref m13, .ref m14, .ref m15, .ref m16, .ref m17, .ref m18, .ref m19, .int 0, .ref m20, .int 0, .ref m21, .int 0, .int 0, .int 0, .int 0, .int 0, .int 0, .int 0, .ref m22, .int 0, .int 0, .ref m23, .ref m24, .ref m25, .ref m26, .int 0, .ref m27, .int 0, .ref m28, .int 0, .ref m29, .ref m30, .int (-1), .int 0, .int 0, .ref m31, .ref m32, .ref m33, .ref m34, .ref m35, .ref m36, .ref m37, .ref m38, .ref m39, .int 0, .ref m40, .int 0, .ref m41]))] := hD
  refine lv_iinc (v := 1) (lv' := [(4, .int 1), (6, .int 1536), (5, .int 0), (0, .ref m0), (1, .ref m42), (2, .int 1536), (3, .int 1)]) hx hb d_Model_isTrue_76 hl1 (k := 2) rfl (by decide) (by decide) rfl (fun ls hl1 => ?_)
  refine lv_goto (tgt := 200) hx hb d_Model_isTrue_79 (by decide) ?_
  refine lv_iinc (v := 1) (lv' := [(5, .int 1), (4, .int 1), (6, .int 1536), (0, .ref m0), (1, .ref m42), (2, .int 1536), (3, .int 1)]) hx hb d_Model_isTrue_200 hl1 (k := 2) rfl (by decide) (by decide) rfl (fun ls hl1 => ?_)
  refine lv_goto (tgt := 6) hx hb d_Model_isTrue_203 (by decide) ?_
  refine lv_iload hx hb d_Model_isTrue_6 (lv_at hl1 0 rfl) ?_
  refine lv_iload_n hx hb d_Model_isTrue_8 rfl (lv_at hl1 6 rfl) ?_
  refine lv_icmp_ge (tgt := 206) hx hb d_Model_isTrue_9 (by decide) (fun c_26 => ?_) (fun c_26 => ?_)
  rotate_left
  · first | exact absurd c_26 (by decide) | exact absurd (by decide) c_26
  refine lv_aload_n hx hb d_Model_isTrue_206 rfl (lv_at hl1 3 rfl) ?_
  refine va_get (D := D) (ci := 11) (v := .ref m41) (C := R_Model) (T := F_Model) (N := 72) hx hb hts i_Model hown hK.1 hP 2 rfl rfl 71 (by decide) (hts _ wd_1107) (fun _ h9 => h9) rfl d_Model_isTrue_207 ?_
  refine lv_iconst (v := 0) hx hb d_Model_isTrue_210 (by decide) ?_
  refine va_zald hx hb hK.1 hP 1 3 rfl rfl (by unfold vp_in; decide) d_Model_isTrue_211 ?_
  refine lv_topi (fun z_27 ez_27 => ?_)
  have ez_27 : z_27 = 1 := ez_27.trans (by first | rfl | decide)
  subst ez_27
  have hP9 := hP.sub (ws' := (fun u : Nat → Nat => [(m42, .inl (ax 0, 3072, .inl (upd (upd (upd (upd (upd (upd (upd (upd (upd (upd (upd (upd (fun _ => 0) 0 0) 1 (-1)) 2 0) 3 2) 4 (-1)) 5 0) 1536 0) 1537 (-1)) 1538 0) 1539 2) 1540 (-1)) 1541 0))), (m41, .inl (ax 3, 256, .inl (upd (fun _ => 0) 0 1))), (m0, .inr (11, [.int 0, .int 0, .ref m1, .int 0, .int 0, .ref m2, .int 0, .int 0, .int 0, .int 0, .int 0, .ref m42, .ref m3, .ref m4, .int 0, .int 0, .ref m5, .ref m6, .ref m7, .ref m8, .ref m9, .ref m10, .ref m11, .ref m12, .ref m13, .ref m14, .ref m15, .ref m16, .ref m17, .ref m18, .ref m19, .int 0, .ref m20, .int 0, .ref m21, .int 0, .int 0, .int 0, .int 0, .int 0, .int 0, .int 0, .ref m22, .int 0, .int 0, .ref m23, .ref m24, .ref m25, .ref m26, .int 0, .ref m27, .int 0, .ref m28, .int 0, .ref m29, .ref m30, .int (-1), .int 0, .int 0, .ref m31, .ref m32, .ref m33, .ref m34, .ref m35, .ref m36, .ref m37, .ref m38, .ref m39, .int 0, .ref m40, .int 0, .ref m41]))]) (ixn [])) [0, 1, 2] rfl
  have hD9 := hD.sub (ws' := (fun u : Nat → Nat => [(m42, .inl (ax 0, 3072, .inl (upd (upd (upd (upd (upd (upd (upd (upd (upd (upd (upd (upd (fun _ => 0) 0 0) 1 (-1)) 2 0) 3 2) 4 (-1)) 5 0) 1536 0) 1537 (-1)) 1538 0) 1539 2) 1540 (-1)) 1541 0))), (m41, .inl (ax 3, 256, .inl (upd (fun _ => 0) 0 1))), (m0, .inr (11, [.int 0, .int 0, .ref m1, .int 0, .int 0, .ref m2, .int 0, .int 0, .int 0, .int 0, .int 0, .ref m42, .ref m3, .ref m4, .int 0, .int 0, .ref m5, .ref m6, .ref m7, .ref m8, .ref m9, .ref m10, .ref m11, .ref m12, .ref m13, .ref m14, .ref m15, .ref m16, .ref m17, .ref m18, .ref m19, .int 0, .ref m20, .int 0, .ref m21, .int 0, .int 0, .int 0, .int 0, .int 0, .int 0, .int 0, .ref m22, .int 0, .int 0, .ref m23, .ref m24, .ref m25, .ref m26, .int 0, .ref m27, .int 0, .ref m28, .int 0, .ref m29, .ref m30, .int (-1), .int 0, .int 0, .ref m31, .ref m32, .ref m33, .ref m34, .ref m35, .ref m36, .ref m37, .ref m38, .ref m39, .int 0, .ref m40, .int 0, .ref m41]))]) (ixn [])) [0, 1, 2] (by decide) rfl
  exact W.zret (v := 1) hx hb hr rfl (fun t ht hW => ⟨⟨1, ixn [], rfl, rfl, ⟨by rw [ht]; exact hP9, hD9⟩⟩, hS.F ht⟩) hS.2.2 d_Model_isTrue_212
set_option maxHeartbeats 4000000 in
set_option maxRecDepth 100000 in
theorem c_Model_holds_1 (l : Launch) (D : va_G) (ax : Nat → ClassId) (m0 m1 m2 m3 m4 m5 m6 m7 m8 m9 m10 m11 m12 m13 m14 m15 m16 m17 m18 m19 m20 m21 m22 m23 m24 m25 m26 m27 m28 m29 m30 m31 m32 m33 m34 m35 m36 m37 m38 m39 m40 m41 m42 : Nat) (sz : Nat) : Met l y_Model_holds (xws (.code y_Model_holds b_Model_holds 2 (some .boolean))) ({ frames := 30, cells := 0, slots := 0, locals := 1200 }) (va_Pc [.ref m0, .int 1] (xo D ax [(m0, .inr (11, [.int 0, .int 0, .ref m1, .int 0, .int 0, .ref m2, .int 0, .int 0, .int 0, .int 0, .int 0, .ref m42, .ref m3, .ref m4, .int 0, .int 0, .ref m5, .ref m6, .ref m7, .ref m8, .ref m9, .ref m10, .ref m11, .ref m12, .ref m13, .ref m14, .ref m15, .ref m16, .ref m17, .ref m18, .ref m19, .int 0, .ref m20, .int 0, .ref m21, .int 0, .int 0, .int 0, .int 0, .int 0, .int 0, .int 0, .ref m22, .int 0, .int 0, .ref m23, .ref m24, .ref m25, .ref m26, .int 0, .ref m27, .int 0, .ref m28, .int 0, .ref m29, .ref m30, .int (-1), .int 0, .int 0, .ref m31, .ref m32, .ref m33, .ref m34, .ref m35, .ref m36, .ref m37, .ref m38, .ref m39, .int 0, .ref m40, .int 0, .ref m41])), (m42, .inl (ax 0, 3072, .inl (upd (upd (upd (upd (upd (upd (upd (upd (upd (upd (upd (upd (fun _ => 0) 0 0) 1 (-1)) 2 0) 3 2) 4 (-1)) 5 0) 1536 0) 1537 (-1)) 1538 0) 1539 2) 1540 (-1)) 1541 0))), (m41, .inl (ax 3, 256, .inl (fun _ => 0))), (m4, .inl (ax 0, 2, .inl (upd (upd (fun _ => 0) 0 0) 1 2))), (m3, .inl (ax 0, 4, .inl (upd (upd (fun _ => 0) 0 1) 2 1)))] sz)) ((va_Qi (fun (r : Int32) (u : Nat → Nat) => r = 1) (xb D (va_A [(m0, .inr (11, [.int 0, .int 0, .ref m1, .int 0, .int 0, .ref m2, .int 0, .int 0, .int 0, .int 0, .int 0, .ref m42, .ref m3, .ref m4, .int 0, .int 0, .ref m5, .ref m6, .ref m7, .ref m8, .ref m9, .ref m10, .ref m11, .ref m12, .ref m13, .ref m14, .ref m15, .ref m16, .ref m17, .ref m18, .ref m19, .int 0, .ref m20, .int 0, .ref m21, .int 0, .int 0, .int 0, .int 0, .int 0, .int 0, .int 0, .ref m22, .int 0, .int 0, .ref m23, .ref m24, .ref m25, .ref m26, .int 0, .ref m27, .int 0, .ref m28, .int 0, .ref m29, .ref m30, .int (-1), .int 0, .int 0, .ref m31, .ref m32, .ref m33, .ref m34, .ref m35, .ref m36, .ref m37, .ref m38, .ref m39, .int 0, .ref m40, .int 0, .ref m41])), (m42, .inl (ax 0, 3072, .inl (upd (upd (upd (upd (upd (upd (upd (upd (upd (upd (upd (upd (fun _ => 0) 0 0) 1 (-1)) 2 0) 3 2) 4 (-1)) 5 0) 1536 0) 1537 (-1)) 1538 0) 1539 2) 1540 (-1)) 1541 0))), (m41, .inl (ax 3, 256, .inl (fun _ => 0))), (m4, .inl (ax 0, 2, .inl (upd (upd (fun _ => 0) 0 0) 1 2))), (m3, .inl (ax 0, 4, .inl (upd (upd (fun _ => 0) 0 1) 2 1)))] sz) (fun u => [(m4, .inl (ax 0, 2, .inl (upd (upd (fun _ => 0) 0 0) 1 2))), (m3, .inl (ax 0, 4, .inl (upd (upd (fun _ => 0) 0 1) 2 1))), (m42, .inl (ax 0, 3072, .inl (upd (upd (upd (upd (upd (upd (upd (upd (upd (upd (upd (upd (fun _ => 0) 0 0) 1 (-1)) 2 0) 3 2) 4 (-1)) 5 0) 1536 0) 1537 (-1)) 1538 0) 1539 2) 1540 (-1)) 1541 0))), (m41, .inl (ax 3, 256, .inl (upd (fun _ => 0) 0 1))), (m0, .inr (11, [.int 0, .int 0, .ref m1, .int 0, .int 0, .ref m2, .int 0, .int 0, .int 0, .int 0, .int 0, .ref m42, .ref m3, .ref m4, .int 0, .int 0, .ref m5, .ref m6, .ref m7, .ref m8, .ref m9, .ref m10, .ref m11, .ref m12, .ref m13, .ref m14, .ref m15, .ref m16, .ref m17, .ref m18, .ref m19, .int 0, .ref m20, .int 0, .ref m21, .int 0, .int 0, .int 0, .int 0, .int 0, .int 0, .int 0, .ref m22, .int 0, .int 0, .ref m23, .ref m24, .ref m25, .ref m26, .int 0, .ref m27, .int 0, .ref m28, .int 0, .ref m29, .ref m30, .int (-1), .int 0, .int 0, .ref m31, .ref m32, .ref m33, .ref m34, .ref m35, .ref m36, .ref m37, .ref m38, .ref m39, .int 0, .ref m40, .int 0, .ref m41]))])) (va_A [(m0, .inr (11, [.int 0, .int 0, .ref m1, .int 0, .int 0, .ref m2, .int 0, .int 0, .int 0, .int 0, .int 0, .ref m42, .ref m3, .ref m4, .int 0, .int 0, .ref m5, .ref m6, .ref m7, .ref m8, .ref m9, .ref m10, .ref m11, .ref m12, .ref m13, .ref m14, .ref m15, .ref m16, .ref m17, .ref m18, .ref m19, .int 0, .ref m20, .int 0, .ref m21, .int 0, .int 0, .int 0, .int 0, .int 0, .int 0, .int 0, .ref m22, .int 0, .int 0, .ref m23, .ref m24, .ref m25, .ref m26, .int 0, .ref m27, .int 0, .ref m28, .int 0, .ref m29, .ref m30, .int (-1), .int 0, .int 0, .ref m31, .ref m32, .ref m33, .ref m34, .ref m35, .ref m36, .ref m37, .ref m38, .ref m39, .int 0, .ref m40, .int 0, .ref m41])), (m42, .inl (ax 0, 3072, .inl (upd (upd (upd (upd (upd (upd (upd (upd (upd (upd (upd (upd (fun _ => 0) 0 0) 1 (-1)) 2 0) 3 2) 4 (-1)) 5 0) 1536 0) 1537 (-1)) 1538 0) 1539 2) 1540 (-1)) 1541 0))), (m41, .inl (ax 3, 256, .inl (fun _ => 0))), (m4, .inl (ax 0, 2, .inl (upd (upd (fun _ => 0) 0 0) 1 2))), (m3, .inl (ax 0, 4, .inl (upd (upd (fun _ => 0) 0 1) 2 1)))] sz))) 0 0 (va_A [(m0, .inr (11, [.int 0, .int 0, .ref m1, .int 0, .int 0, .ref m2, .int 0, .int 0, .int 0, .int 0, .int 0, .ref m42, .ref m3, .ref m4, .int 0, .int 0, .ref m5, .ref m6, .ref m7, .ref m8, .ref m9, .ref m10, .ref m11, .ref m12, .ref m13, .ref m14, .ref m15, .ref m16, .ref m17, .ref m18, .ref m19, .int 0, .ref m20, .int 0, .ref m21, .int 0, .int 0, .int 0, .int 0, .int 0, .int 0, .int 0, .ref m22, .int 0, .int 0, .ref m23, .ref m24, .ref m25, .ref m26, .int 0, .ref m27, .int 0, .ref m28, .int 0, .ref m29, .ref m30, .int (-1), .int 0, .int 0, .ref m31, .ref m32, .ref m33, .ref m34, .ref m35, .ref m36, .ref m37, .ref m38, .ref m39, .int 0, .ref m40, .int 0, .ref m41])), (m42, .inl (ax 0, 3072, .inl (upd (upd (upd (upd (upd (upd (upd (upd (upd (upd (upd (upd (fun _ => 0) 0 0) 1 (-1)) 2 0) 3 2) 4 (-1)) 5 0) 1536 0) 1537 (-1)) 1538 0) 1539 2) 1540 (-1)) 1541 0))), (m41, .inl (ax 3, 256, .inl (fun _ => 0))), (m4, .inl (ax 0, 2, .inl (upd (upd (fun _ => 0) 0 0) 1 2))), (m3, .inl (ax 0, 4, .inl (upd (upd (fun _ => 0) 0 1) 2 1)))] sz) := by
  refine Met.ofW (cc := b_Model_holds) (maxL := 2) (ret := (some .boolean)) (by decide) rfl ?_
  intro p e s m args below meth c s₁ B hml hv
  obtain ⟨rfl, hsz, hP, hK, hD0⟩ := hv
  have hx := B.exec
  have hb := B.bytes
  have hr := B.returns
  have hts := xw_hts B.pre
  have hown : s.vm.findClass R_Model = some m.cls := findClass_of_methodNamed B.named
  have hlocks := B.notSynchronized
  subst hsz
  have hD := hD0.self (sz := s.heap.size)
  have hN := xz_entry hP
  generalize hAe : va_A [(m0, .inr (11, [.int 0, .int 0, .ref m1, .int 0, .int 0, .ref m2, .int 0, .int 0, .int 0, .int 0, .int 0, .ref m42, .ref m3, .ref m4, .int 0, .int 0, .ref m5, .ref m6, .ref m7, .ref m8, .ref m9, .ref m10, .ref m11, .ref m12, .ref m13, .ref m14, .ref m15, .ref m16, .ref m17, .ref m18, .ref m19, .int 0, .ref m20, .int 0, .ref m21, .int 0, .int 0, .int 0, .int 0, .int 0, .int 0, .int 0, .ref m22, .int 0, .int 0, .ref m23, .ref m24, .ref m25, .ref m26, .int 0, .ref m27, .int 0, .ref m28, .int 0, .ref m29, .ref m30, .int (-1), .int 0, .int 0, .ref m31, .ref m32, .ref m33, .ref m34, .ref m35, .ref m36, .ref m37, .ref m38, .ref m39, .int 0, .ref m40, .int 0, .ref m41])), (m42, .inl (ax 0, 3072, .inl (upd (upd (upd (upd (upd (upd (upd (upd (upd (upd (upd (upd (fun _ => 0) 0 0) 1 (-1)) 2 0) 3 2) 4 (-1)) 5 0) 1536 0) 1537 (-1)) 1538 0) 1539 2) 1540 (-1)) 1541 0))), (m41, .inl (ax 3, 256, .inl (fun _ => 0))), (m4, .inl (ax 0, 2, .inl (upd (upd (fun _ => 0) 0 0) 1 2))), (m3, .inl (ax 0, 4, .inl (upd (upd (fun _ => 0) 0 1) 2 1)))] s.heap.size = A at hD hN ⊢
  have hA : ∀ q : Nat, s.heap.size ≤ q → A q := fun q h => by rw [← hAe]; exact Or.inr h
  have hS : va_S A s.heap s.heap [] := va_S.rf
  have hl0 := lv_entry ([.ref m0, .int 1]) (n := 2) (Nat.le_of_ble_eq_true rfl)
  rw [lg_entry_eq]
  generalize (lg_sl ([.ref m0, .int 1]) ++ List.replicate (2 - (lg_sl ([.ref m0, .int 1])).length) Slot.unset).toArray = ls at hl0 ⊢
  have hl1 : lv_has ls 2 [(0, .ref m0), (1, .int 1)] := hl0
  refine lv_aload_n hx hb d_Model_holds_0 rfl (lv_at hl1 0 rfl) ?_
  refine lv_iload_n hx hb d_Model_holds_1 rfl (lv_at hl1 1 rfl) ?_
  refine lv_if_lt (tgt := 10) hx hb d_Model_holds_2 (by decide) (fun c_1 => ?_) (fun c_1 => ?_)
  · first | exact absurd c_1 (by decide) | exact absurd (by decide) c_1
  refine lv_iload_n hx hb d_Model_holds_5 rfl (lv_at hl1 1 rfl) ?_
  refine lv_iconst (v := 1) hx hb d_Model_holds_6 (by decide) ?_
  refine lv_icmp_le (tgt := 14) hx hb d_Model_holds_7 (by decide) (fun c_2 => ?_) (fun c_2 => ?_)
  rotate_left
  · first | exact absurd c_2 (by decide) | exact absurd (by decide) c_2
  refine lv_iconst (v := 0) hx hb d_Model_holds_14 (by decide) ?_
  refine va_put (D := D) (ci := 11) (v := .int 0) (ty := .int) (C := R_Model) (T := F_Model) (N := 72) hx hb hts i_Model t_Model t_Model_ok n_Model hown hK.1 hP hD hS 0 rfl rfl 0 (by decide) (hts _ wd_1036) (fun _ h9 => h9) rfl (by decide +kernel) rfl rfl (Nat.le_of_ble_eq_true rfl) d_Model_holds_15 (fun H_3 locs hP hD hS => ?_)
  have hP : va_P D classes [(m0, .inr (11, [.int 0, .int 0, .ref m1, .int 0, .int 0, .ref m2, .int 0, .int 0, .int 0, .int 0, .int 0, .ref m42, .ref m3, .ref m4, .int 0, .int 0, .ref m5, .ref m6, .ref m7, .ref m8, .ref m9, .ref m10, .ref m11, .ref m12, .ref m13, .ref m14, .ref m15, .ref m16, .ref m17, .ref m18, .ref m19, .int 0, .ref m20, .int 0, .ref m21, .int 0, .int 0, .int 0, .int 0, .int 0, .int 0, .int 0, .ref m22, .int 0, .int 0, .ref m23, .ref m24, .ref m25, .ref m26, .int 0, .ref m27, .int 0, .ref m28, .int 0, .ref m29, .ref m30, .int (-1), .int 0, .int 0, .ref m31, .ref m32, .ref m33, .ref m34, .ref m35, .ref m36, .ref m37, .ref m38, .ref m39, .int 0, .ref m40, .int 0, .ref m41])), (m42, .inl (ax 0, 3072, .inl (upd (upd (upd (upd (upd (upd (upd (upd (upd (upd (upd (upd (fun _ => 0) 0 0) 1 (-1)) 2 0) 3 2) 4 (-1)) 5 0) 1536 0) 1537 (-1)) 1538 0) 1539 2) 1540 (-1)) 1541 0))), (m41, .inl (ax 3, 256, .inl (fun _ => 0))), (m4, .inl (ax 0, 2, .inl (upd (upd (fun _ => 0) 0 0) 1 2))), (m3, .inl (ax 0, 4, .inl (upd (upd (fun _ => 0) 0 1) 2 1)))] H_3 := hP
  have hD : va_D A [(m0, .inr (11, [.int 0, .int 0, .ref m1, .int 0, .int 0, .ref m2, .int 0, .int 0, .int 0, .int 0, .int 0, .ref m42, .ref m3, .ref m4, .int 0, .int 0, .ref m5, .ref m6, .ref m7, .ref m8, .ref m9, .ref m10, .ref m11, .ref m12, .ref m13, .ref m14, .ref m15, .ref m16, .ref m17, .ref m18, .ref m19, .int 0, .ref m20, .int 0, .ref m21, .int 0, .int 0, .int 0, .int 0, .int 0, .int 0, .int 0, .ref m22, .int 0, .int 0, .ref m23, .ref m24, .ref m25, .ref m26, .int 0, .ref m27, .int 0, .ref m28, .int 0, .ref m29, .ref m30, .int (-1), .int 0, .int 0, .ref m31, .ref m32, .ref m33, .ref m34, .ref m35, .ref m36, .ref m37, .ref m38, .ref m39, .int 0, .ref m40, .int 0, .ref m41])), (m42, .inl (ax 0, 3072, .inl (upd (upd (upd (upd (upd (upd (upd (upd (upd (upd (upd (upd (fun _ => 0) 0 0) 1 (-1)) 2 0) 3 2) 4 (-1)) 5 0) 1536 0) 1537 (-1)) 1538 0) 1539 2) 1540 (-1)) 1541 0))), (m41, .inl (ax 3, 256, .inl (fun _ => 0))), (m4, .inl (ax 0, 2, .inl (upd (upd (fun _ => 0) 0 0) 1 2))), (m3, .inl (ax 0, 4, .inl (upd (upd (fun _ => 0) 0 1) 2 1)))] := hD
  refine lv_aload_n hx hb d_Model_holds_18 rfl (lv_at hl1 0 rfl) ?_
  refine va_get (D := D) (ci := 11) (v := .int 0) (C := R_Model) (T := F_Model) (N := 72) hx hb hts i_Model hown hK.1 hP 0 rfl rfl 0 (by decide) (hts _ wd_1036) (fun _ h9 => h9) rfl d_Model_holds_19 ?_
  refine lv_if_ne (tgt := 61) hx hb d_Model_holds_22 (by decide) (fun c_4 => ?_) (fun c_4 => ?_)
  · first | exact absurd c_4 (by decide) | exact absurd (by decide) c_4
  refine lv_aload_n hx hb d_Model_holds_25 rfl (lv_at hl1 0 rfl) ?_
  refine lv_aload_n hx hb d_Model_holds_26 rfl (lv_at hl1 0 rfl) ?_
  refine va_get (D := D) (ci := 11) (v := .ref m42) (C := R_Model) (T := F_Model) (N := 72) hx hb hts i_Model hown hK.1 hP 0 rfl rfl 11 (by decide) (hts _ wd_1047) (fun _ h9 => h9) rfl d_Model_holds_27 ?_
  refine lv_sipush (v := 768) hx hb d_Model_holds_30 (by decide) ?_
  refine lv_aload_n hx hb d_Model_holds_33 rfl (lv_at hl1 0 rfl) ?_
  refine va_get (D := D) (ci := 11) (v := .ref m4) (C := R_Model) (T := F_Model) (N := 72) hx hb hts i_Model hown hK.1 hP 0 rfl rfl 13 (by decide) (hts _ wd_1049) (fun _ h9 => h9) rfl d_Model_holds_34 ?_
  refine lv_iload_n hx hb d_Model_holds_37 rfl (lv_at hl1 1 rfl) ?_
  refine va_iald hx hb hK.1 hP 3 0 rfl rfl (by unfold vp_in; decide) d_Model_holds_38 ?_
  refine lv_topi (fun z_5 ez_5 => ?_)
  have ez_5 : z_5 = 2 := ez_5.trans (by first | rfl | decide)
  subst ez_5
  refine lv_imul hx hb d_Model_holds_39 ?_
  refine lv_topi (fun z_6 ez_6 => ?_)
  have ez_6 : z_6 = 1536 := ez_6.trans (by first | rfl | decide)
  subst ez_6
  refine lv_aload_n hx hb d_Model_holds_40 rfl (lv_at hl1 0 rfl) ?_
  refine va_get (D := D) (ci := 11) (v := .ref m3) (C := R_Model) (T := F_Model) (N := 72) hx hb hts i_Model hown hK.1 hP 0 rfl rfl 12 (by decide) (hts _ wd_1048) (fun _ h9 => h9) rfl d_Model_holds_41 ?_
  refine lv_aload_n hx hb d_Model_holds_44 rfl (lv_at hl1 0 rfl) ?_
  refine va_get (D := D) (ci := 11) (v := .ref m4) (C := R_Model) (T := F_Model) (N := 72) hx hb hts i_Model hown hK.1 hP 0 rfl rfl 13 (by decide) (hts _ wd_1049) (fun _ h9 => h9) rfl d_Model_holds_45 ?_
  refine lv_iload_n hx hb d_Model_holds_48 rfl (lv_at hl1 1 rfl) ?_
  refine va_iald hx hb hK.1 hP 3 0 rfl rfl (by unfold vp_in; decide) d_Model_holds_49 ?_
  refine lv_topi (fun z_7 ez_7 => ?_)
  have ez_7 : z_7 = 2 := ez_7.trans (by first | rfl | decide)
  subst ez_7
  refine va_iald hx hb hK.1 hP 4 0 rfl rfl (by unfold vp_in; decide) d_Model_holds_50 ?_
  refine lv_topi (fun z_8 ez_8 => ?_)
  have ez_8 : z_8 = 1 := ez_8.trans (by first | rfl | decide)
  subst ez_8
  have hPc := hP.sub (ws' := [(m0, .inr (11, [.int 0, .int 0, .ref m1, .int 0, .int 0, .ref m2, .int 0, .int 0, .int 0, .int 0, .int 0, .ref m42, .ref m3, .ref m4, .int 0, .int 0, .ref m5, .ref m6, .ref m7, .ref m8, .ref m9, .ref m10, .ref m11, .ref m12, .ref m13, .ref m14, .ref m15, .ref m16, .ref m17, .ref m18, .ref m19, .int 0, .ref m20, .int 0, .ref m21, .int 0, .int 0, .int 0, .int 0, .int 0, .int 0, .int 0, .ref m22, .int 0, .int 0, .ref m23, .ref m24, .ref m25, .ref m26, .int 0, .ref m27, .int 0, .ref m28, .int 0, .ref m29, .ref m30, .int (-1), .int 0, .int 0, .ref m31, .ref m32, .ref m33, .ref m34, .ref m35, .ref m36, .ref m37, .ref m38, .ref m39, .int 0, .ref m40, .int 0, .ref m41])), (m42, .inl (ax 0, 3072, .inl (upd (upd (upd (upd (upd (upd (upd (upd (upd (upd (upd (upd (fun _ => 0) 0 0) 1 (-1)) 2 0) 3 2) 4 (-1)) 5 0) 1536 0) 1537 (-1)) 1538 0) 1539 2) 1540 (-1)) 1541 0))), (m41, .inl (ax 3, 256, .inl (fun _ => 0)))]) [0, 1, 2] rfl
  have hDc := hD.sub (ws' := [(m0, .inr (11, [.int 0, .int 0, .ref m1, .int 0, .int 0, .ref m2, .int 0, .int 0, .int 0, .int 0, .int 0, .ref m42, .ref m3, .ref m4, .int 0, .int 0, .ref m5, .ref m6, .ref m7, .ref m8, .ref m9, .ref m10, .ref m11, .ref m12, .ref m13, .ref m14, .ref m15, .ref m16, .ref m17, .ref m18, .ref m19, .int 0, .ref m20, .int 0, .ref m21, .int 0, .int 0, .int 0, .int 0, .int 0, .int 0, .int 0, .ref m22, .int 0, .int 0, .ref m23, .ref m24, .ref m25, .ref m26, .int 0, .ref m27, .int 0, .ref m28, .int 0, .ref m29, .ref m30, .int (-1), .int 0, .int 0, .ref m31, .ref m32, .ref m33, .ref m34, .ref m35, .ref m36, .ref m37, .ref m38, .ref m39, .int 0, .ref m40, .int 0, .ref m41])), (m42, .inl (ax 0, 3072, .inl (upd (upd (upd (upd (upd (upd (upd (upd (upd (upd (upd (upd (fun _ => 0) 0 0) 1 (-1)) 2 0) 3 2) 4 (-1)) 5 0) 1536 0) 1537 (-1)) 1538 0) 1539 2) 1540 (-1)) 1541 0))), (m41, .inl (ax 3, 256, .inl (fun _ => 0)))]) [0, 1, 2] (by decide) rfl
  have hFc := va_free (wc := [(m0, .inr (11, [.int 0, .int 0, .ref m1, .int 0, .int 0, .ref m2, .int 0, .int 0, .int 0, .int 0, .int 0, .ref m42, .ref m3, .ref m4, .int 0, .int 0, .ref m5, .ref m6, .ref m7, .ref m8, .ref m9, .ref m10, .ref m11, .ref m12, .ref m13, .ref m14, .ref m15, .ref m16, .ref m17, .ref m18, .ref m19, .int 0, .ref m20, .int 0, .ref m21, .int 0, .int 0, .int 0, .int 0, .int 0, .int 0, .int 0, .ref m22, .int 0, .int 0, .ref m23, .ref m24, .ref m25, .ref m26, .int 0, .ref m27, .int 0, .ref m28, .int 0, .ref m29, .ref m30, .int (-1), .int 0, .int 0, .ref m31, .ref m32, .ref m33, .ref m34, .ref m35, .ref m36, .ref m37, .ref m38, .ref m39, .int 0, .ref m40, .int 0, .ref m41])), (m42, .inl (ax 0, 3072, .inl (upd (upd (upd (upd (upd (upd (upd (upd (upd (upd (upd (upd (fun _ => 0) 0 0) 1 (-1)) 2 0) 3 2) 4 (-1)) 5 0) 1536 0) 1537 (-1)) 1538 0) 1539 2) 1540 (-1)) 1541 0))), (m41, .inl (ax 3, 256, .inl (fun _ => 0)))]) hD hS hA [0, 1, 2] rfl
  have hz := xz_of hN hS
  refine va_calli (va_runV (As := [.ref m42, .int 1536, .int 1]) (rest := []) ⟨hx, hb, hml, hown, hts⟩ (c_Model_isTrue_1 l D ax m0 m1 m2 m3 m4 m5 m6 m7 m8 m9 m10 m11 m12 m13 m14 m15 m16 m17 m18 m19 m20 m21 m22 m23 m24 m25 m26 m27 m28 m29 m30 m31 m32 m33 m34 m35 m36 m37 m38 m39 m40 m41 m42 H_3.size) (xcV (n := 3) hts wd_1596 wd_15 wd_1593 wd_1595 ps_113 rfl rfl (by decide +kernel) ⟨Nat.le_of_ble_eq_true rfl, Nat.le_of_ble_eq_true rfl⟩) (xpV (ci := 11) (q0 := 0) (As := [.ref m42, .int 1536, .int 1]) hPc hK hz hDc rfl rfl) rfl rfl hl1.1 rfl (lv_room (Nat.le_of_ble_eq_true rfl)) d_Model_holds_51 ⟨Nat.le_of_ble_eq_true rfl, Nat.le_of_ble_eq_true rfl⟩) hS (fun q _ h => hFc q h) hFc (fun r_11 u_9 t H_10 locs ht hvm hw hB hz1 hk1 hS => ?_)
  try dsimp only at hw
  subst hw
  obtain ⟨hP1, hD1⟩ := hB
  rw [ht] at hP1
  obtain ⟨hP, hD⟩ := va_join (wr := [(m4, .inl (ax 0, 2, .inl (upd (upd (fun _ => 0) 0 0) 1 2))), (m3, .inl (ax 0, 4, .inl (upd (upd (fun _ => 0) 0 1) 2 1)))]) (w1 := [(m42, .inl (ax 0, 3072, .inl (upd (upd (upd (upd (upd (upd (upd (upd (upd (upd (upd (upd (fun _ => 0) 0 0) 1 (-1)) 2 0) 3 2) 4 (-1)) 5 0) 1536 0) 1537 (-1)) 1538 0) 1539 2) 1540 (-1)) 1541 0))), (m41, .inl (ax 3, 256, .inl (upd (fun _ => 0) 0 1))), (m0, .inr (11, [.int 0, .int 0, .ref m1, .int 0, .int 0, .ref m2, .int 0, .int 0, .int 0, .int 0, .int 0, .ref m42, .ref m3, .ref m4, .int 0, .int 0, .ref m5, .ref m6, .ref m7, .ref m8, .ref m9, .ref m10, .ref m11, .ref m12, .ref m13, .ref m14, .ref m15, .ref m16, .ref m17, .ref m18, .ref m19, .int 0, .ref m20, .int 0, .ref m21, .int 0, .int 0, .int 0, .int 0, .int 0, .int 0, .int 0, .ref m22, .int 0, .int 0, .ref m23, .ref m24, .ref m25, .ref m26, .int 0, .ref m27, .int 0, .ref m28, .int 0, .ref m29, .ref m30, .int (-1), .int 0, .int 0, .ref m31, .ref m32, .ref m33, .ref m34, .ref m35, .ref m36, .ref m37, .ref m38, .ref m39, .int 0, .ref m40, .int 0, .ref m41]))]) hP hD [0, 1, 2] [3, 4] rfl rfl (by decide) (by decide) hk1 hFc hP1 hD1
  have hP : va_P D classes [(m4, .inl (ax 0, 2, .inl (upd (upd (fun _ => 0) 0 0) 1 2))), (m3, .inl (ax 0, 4, .inl (upd (upd (fun _ => 0) 0 1) 2 1))), (m42, .inl (ax 0, 3072, .inl (upd (upd (upd (upd (upd (upd (upd (upd (upd (upd (upd (upd (fun _ => 0) 0 0) 1 (-1)) 2 0) 3 2) 4 (-1)) 5 0) 1536 0) 1537 (-1)) 1538 0) 1539 2) 1540 (-1)) 1541 0))), (m41, .inl (ax 3, 256, .inl (upd (fun _ => 0) 0 1))), (m0, .inr (11, [.int 0, .int 0, .ref m1, .int 0, .int 0, .ref m2, .int 0, .int 0, .int 0, .int 0, .int 0, .ref m42, .ref m3, .ref m4, .int 0, .int 0, .ref m5, .ref m6, .ref m7, .ref m8, .ref m9, .ref m10, .ref m11, .ref m12, .ref m13, .ref m14, .ref m15, .ref m16, .ref m17, .ref m18, .ref m19, .int 0, .ref m20, .int 0, .ref m21, .int 0, .int 0, .int 0, .int 0, .int 0, .int 0, .int 0, .ref m22, .int 0, .int 0, .ref m23, .ref m24, .ref m25, .ref m26, .int 0, .ref m27, .int 0, .ref m28, .int 0, .ref m29, .ref m30, .int (-1), .int 0, .int 0, .ref m31, .ref m32, .ref m33, .ref m34, .ref m35, .ref m36, .ref m37, .ref m38, .ref m39, .int 0, .ref m40, .int 0, .ref m41]))] H_10 := hP
  have hD : va_D A [(m4, .inl (ax 0, 2, .inl (upd (upd (fun _ => 0) 0 0) 1 2))), (m3, .inl (ax 0, 4, .inl (upd (upd (fun _ => 0) 0 1) 2 1))), (m42, .inl (ax 0, 3072, .inl (upd (upd (upd (upd (upd (upd (upd (upd (upd (upd (upd (upd (fun _ => 0) 0 0) 1 (-1)) 2 0) 3 2) 4 (-1)) 5 0) 1536 0) 1537 (-1)) 1538 0) 1539 2) 1540 (-1)) 1541 0))), (m41, .inl (ax 3, 256, .inl (upd (fun _ => 0) 0 1))), (m0, .inr (11, [.int 0, .int 0, .ref m1, .int 0, .int 0, .ref m2, .int 0, .int 0, .int 0, .int 0, .int 0, .ref m42, .ref m3, .ref m4, .int 0, .int 0, .ref m5, .ref m6, .ref m7, .ref m8, .ref m9, .ref m10, .ref m11, .ref m12, .ref m13, .ref m14, .ref m15, .ref m16, .ref m17, .ref m18, .ref m19, .int 0, .ref m20, .int 0, .ref m21, .int 0, .int 0, .int 0, .int 0, .int 0, .int 0, .int 0, .ref m22, .int 0, .int 0, .ref m23, .ref m24, .ref m25, .ref m26, .int 0, .ref m27, .int 0, .ref m28, .int 0, .ref m29, .ref m30, .int (-1), .int 0, .int 0, .ref m31, .ref m32, .ref m33, .ref m34, .ref m35, .ref m36, .ref m37, .ref m38, .ref m39, .int 0, .ref m40, .int 0, .ref m41]))] := hD
  refine lv_if_eq (tgt := 61) hx hb d_Model_holds_54 (by decide) (fun c_12 => ?_) (fun c_12 => ?_)
  · first | exact absurd c_12 (by decide) | exact absurd (by decide) c_12
  refine lv_iconst (v := 1) hx hb d_Model_holds_57 (by decide) ?_
  refine lv_goto (tgt := 62) hx hb d_Model_holds_58 (by decide) ?_
  have hP9 := hP.sub (ws' := (fun u : Nat → Nat => [(m4, .inl (ax 0, 2, .inl (upd (upd (fun _ => 0) 0 0) 1 2))), (m3, .inl (ax 0, 4, .inl (upd (upd (fun _ => 0) 0 1) 2 1))), (m42, .inl (ax 0, 3072, .inl (upd (upd (upd (upd (upd (upd (upd (upd (upd (upd (upd (upd (fun _ => 0) 0 0) 1 (-1)) 2 0) 3 2) 4 (-1)) 5 0) 1536 0) 1537 (-1)) 1538 0) 1539 2) 1540 (-1)) 1541 0))), (m41, .inl (ax 3, 256, .inl (upd (fun _ => 0) 0 1))), (m0, .inr (11, [.int 0, .int 0, .ref m1, .int 0, .int 0, .ref m2, .int 0, .int 0, .int 0, .int 0, .int 0, .ref m42, .ref m3, .ref m4, .int 0, .int 0, .ref m5, .ref m6, .ref m7, .ref m8, .ref m9, .ref m10, .ref m11, .ref m12, .ref m13, .ref m14, .ref m15, .ref m16, .ref m17, .ref m18, .ref m19, .int 0, .ref m20, .int 0, .ref m21, .int 0, .int 0, .int 0, .int 0, .int 0, .int 0, .int 0, .ref m22, .int 0, .int 0, .ref m23, .ref m24, .ref m25, .ref m26, .int 0, .ref m27, .int 0, .ref m28, .int 0, .ref m29, .ref m30, .int (-1), .int 0, .int 0, .ref m31, .ref m32, .ref m33, .ref m34, .ref m35, .ref m36, .ref m37, .ref m38, .ref m39, .int 0, .ref m40, .int 0, .ref m41]))]) (ixn [])) [0, 1, 2, 3, 4] rfl
  have hD9 := hD.sub (ws' := (fun u : Nat → Nat => [(m4, .inl (ax 0, 2, .inl (upd (upd (fun _ => 0) 0 0) 1 2))), (m3, .inl (ax 0, 4, .inl (upd (upd (fun _ => 0) 0 1) 2 1))), (m42, .inl (ax 0, 3072, .inl (upd (upd (upd (upd (upd (upd (upd (upd (upd (upd (upd (upd (fun _ => 0) 0 0) 1 (-1)) 2 0) 3 2) 4 (-1)) 5 0) 1536 0) 1537 (-1)) 1538 0) 1539 2) 1540 (-1)) 1541 0))), (m41, .inl (ax 3, 256, .inl (upd (fun _ => 0) 0 1))), (m0, .inr (11, [.int 0, .int 0, .ref m1, .int 0, .int 0, .ref m2, .int 0, .int 0, .int 0, .int 0, .int 0, .ref m42, .ref m3, .ref m4, .int 0, .int 0, .ref m5, .ref m6, .ref m7, .ref m8, .ref m9, .ref m10, .ref m11, .ref m12, .ref m13, .ref m14, .ref m15, .ref m16, .ref m17, .ref m18, .ref m19, .int 0, .ref m20, .int 0, .ref m21, .int 0, .int 0, .int 0, .int 0, .int 0, .int 0, .int 0, .ref m22, .int 0, .int 0, .ref m23, .ref m24, .ref m25, .ref m26, .int 0, .ref m27, .int 0, .ref m28, .int 0, .ref m29, .ref m30, .int (-1), .int 0, .int 0, .ref m31, .ref m32, .ref m33, .ref m34, .ref m35, .ref m36, .ref m37, .ref m38, .ref m39, .int 0, .ref m40, .int 0, .ref m41]))]) (ixn [])) [0, 1, 2, 3, 4] (by decide) rfl
  exact W.zret (v := 1) hx hb hr rfl (fun t ht hW => ⟨⟨1, ixn [], rfl, rfl, ⟨by rw [ht]; exact hP9, hD9⟩⟩, hS.F ht⟩) hS.2.2 d_Model_holds_62
abbrev b_Model_type : ByteArray := prog_13_method_4_code
def y_Model_type : MethodName := ⟨R_Model, "type", "(JI)Z"⟩
theorem d_Model_type_0 : decode b_Model_type 0 = .ok (.aload_n 0, 1) := by decide +kernel
theorem d_Model_type_1 : decode b_Model_type 1 = .ok (.iconst 0, 1) := by decide +kernel
theorem d_Model_type_2 : decode b_Model_type 2 = .ok (.putfield 148, 3) := by decide +kernel
theorem d_Model_type_5 : decode b_Model_type 5 = .ok (.iload_n 3, 1) := by decide +kernel
theorem d_Model_type_6 : decode b_Model_type 6 = .ok (.iconst 1, 1) := by decide +kernel
theorem d_Model_type_7 : decode b_Model_type 7 = .ok (.if_icmp .lt 21, 3) := by decide +kernel
theorem d_Model_type_10 : decode b_Model_type 10 = .ok (.iload_n 3, 1) := by decide +kernel
theorem d_Model_type_11 : decode b_Model_type 11 = .ok (.bipush 8, 2) := by decide +kernel
theorem d_Model_type_13 : decode b_Model_type 13 = .ok (.if_icmp .gt 15, 3) := by decide +kernel
theorem d_Model_type_16 : decode b_Model_type 16 = .ok (.aload_n 0, 1) := by decide +kernel
theorem d_Model_type_17 : decode b_Model_type 17 = .ok (.getfield 151, 3) := by decide +kernel
theorem d_Model_type_20 : decode b_Model_type 20 = .ok (.iload_n 3, 1) := by decide +kernel
theorem d_Model_type_21 : decode b_Model_type 21 = .ok (.iadd, 1) := by decide +kernel
theorem d_Model_type_22 : decode b_Model_type 22 = .ok (.sipush 400, 3) := by decide +kernel
theorem d_Model_type_25 : decode b_Model_type 25 = .ok (.if_icmp .le 5, 3) := by decide +kernel
theorem d_Model_type_28 : decode b_Model_type 28 = .ok (.iconst 0, 1) := by decide +kernel
theorem d_Model_type_29 : decode b_Model_type 29 = .ok (.ireturn, 1) := by decide +kernel
theorem d_Model_type_30 : decode b_Model_type 30 = .ok (.iconst 0, 1) := by decide +kernel
theorem d_Model_type_31 : decode b_Model_type 31 = .ok (.istore 4, 2) := by decide +kernel
theorem d_Model_type_33 : decode b_Model_type 33 = .ok (.iload 4, 2) := by decide +kernel
theorem d_Model_type_35 : decode b_Model_type 35 = .ok (.iload_n 3, 1) := by decide +kernel
theorem d_Model_type_36 : decode b_Model_type 36 = .ok (.if_icmp .ge 40, 3) := by decide +kernel
theorem d_Model_type_39 : decode b_Model_type 39 = .ok (.aload_n 0, 1) := by decide +kernel
theorem d_Model_type_40 : decode b_Model_type 40 = .ok (.getfield 7, 3) := by decide +kernel
theorem d_Model_type_43 : decode b_Model_type 43 = .ok (.aload_n 0, 1) := by decide +kernel
theorem d_Model_type_44 : decode b_Model_type 44 = .ok (.getfield 151, 3) := by decide +kernel
theorem d_Model_type_47 : decode b_Model_type 47 = .ok (.lload_n 1, 1) := by decide +kernel
theorem d_Model_type_48 : decode b_Model_type 48 = .ok (.bipush 8, 2) := by decide +kernel
theorem d_Model_type_50 : decode b_Model_type 50 = .ok (.iload 4, 2) := by decide +kernel
theorem d_Model_type_52 : decode b_Model_type 52 = .ok (.imul, 1) := by decide +kernel
theorem d_Model_type_53 : decode b_Model_type 53 = .ok (.lshr, 1) := by decide +kernel
theorem d_Model_type_54 : decode b_Model_type 54 = .ok (.ldc2_w 154, 3) := by decide +kernel
theorem d_Model_type_57 : decode b_Model_type 57 = .ok (.land, 1) := by decide +kernel
theorem d_Model_type_58 : decode b_Model_type 58 = .ok (.l2i, 1) := by decide +kernel
theorem d_Model_type_59 : decode b_Model_type 59 = .ok (.iastore, 1) := by decide +kernel
theorem d_Model_type_60 : decode b_Model_type 60 = .ok (.aload_n 0, 1) := by decide +kernel
theorem d_Model_type_61 : decode b_Model_type 61 = .ok (.dup, 1) := by decide +kernel
theorem d_Model_type_62 : decode b_Model_type 62 = .ok (.getfield 151, 3) := by decide +kernel
theorem d_Model_type_65 : decode b_Model_type 65 = .ok (.iconst 1, 1) := by decide +kernel
theorem d_Model_type_66 : decode b_Model_type 66 = .ok (.iadd, 1) := by decide +kernel
theorem d_Model_type_67 : decode b_Model_type 67 = .ok (.putfield 151, 3) := by decide +kernel
theorem d_Model_type_70 : decode b_Model_type 70 = .ok (.iinc 4 1, 3) := by decide +kernel
theorem d_Model_type_73 : decode b_Model_type 73 = .ok (.goto (-40), 3) := by decide +kernel
theorem d_Model_type_76 : decode b_Model_type 76 = .ok (.iconst 1, 1) := by decide +kernel
theorem d_Model_type_77 : decode b_Model_type 77 = .ok (.ireturn, 1) := by decide +kernel
set_option maxHeartbeats 4000000 in
set_option maxRecDepth 100000 in
theorem c_Model_type_1 (l : Launch) (D : va_G) (ax : Nat → ClassId) (m0 m1 m2 m3 m4 m5 m6 m7 m8 m9 m10 m11 m12 m13 m14 m15 m16 m17 m18 m19 m20 m21 m22 m23 m24 m25 m26 m27 m28 m29 m30 m31 m32 m33 m34 m35 m36 m37 m38 m39 m40 m41 m42 : Nat) (w : Int64) (sz : Nat) : Met l y_Model_type (xws (.code y_Model_type b_Model_type 5 (some .boolean))) ({ frames := 10, cells := 0, slots := 0, locals := 400 }) (va_Pc [.ref m0, .long w, .int 1] (xo D ax [(m0, .inr (11, [.int 0, .int 0, .ref m1, .int 0, .int 0, .ref m2, .int 0, .int 0, .int 0, .int 0, .int 0, .ref m42, .ref m3, .ref m4, .int 0, .int 0, .ref m5, .ref m6, .ref m7, .ref m8, .ref m9, .ref m10, .ref m11, .ref m12, .ref m13, .ref m14, .ref m15, .ref m16, .ref m17, .ref m18, .ref m19, .int 0, .ref m20, .int 0, .ref m21, .int 0, .int 0, .int 0, .int 0, .int 0, .int 0, .int 0, .ref m22, .int 0, .int 0, .ref m23, .ref m24, .ref m25, .ref m26, .int 0, .ref m27, .int 0, .ref m28, .int 0, .ref m29, .ref m30, .int (-1), .int 0, .int 0, .ref m31, .ref m32, .ref m33, .ref m34, .ref m35, .ref m36, .ref m37, .ref m38, .ref m39, .int 0, .ref m40, .int 0, .ref m41])), (m1, .inl (ax 0, 400, .inl (fun _ => 0)))] sz)) ((va_Qi (fun (r : Int32) (u : Nat → Nat) => r = 1) (fun (_ : Nat → Nat) (_ : State) => True) (va_A [(m0, .inr (11, [.int 0, .int 0, .ref m1, .int 0, .int 0, .ref m2, .int 0, .int 0, .int 0, .int 0, .int 0, .ref m42, .ref m3, .ref m4, .int 0, .int 0, .ref m5, .ref m6, .ref m7, .ref m8, .ref m9, .ref m10, .ref m11, .ref m12, .ref m13, .ref m14, .ref m15, .ref m16, .ref m17, .ref m18, .ref m19, .int 0, .ref m20, .int 0, .ref m21, .int 0, .int 0, .int 0, .int 0, .int 0, .int 0, .int 0, .ref m22, .int 0, .int 0, .ref m23, .ref m24, .ref m25, .ref m26, .int 0, .ref m27, .int 0, .ref m28, .int 0, .ref m29, .ref m30, .int (-1), .int 0, .int 0, .ref m31, .ref m32, .ref m33, .ref m34, .ref m35, .ref m36, .ref m37, .ref m38, .ref m39, .int 0, .ref m40, .int 0, .ref m41])), (m1, .inl (ax 0, 400, .inl (fun _ => 0)))] sz))) 0 0 (va_A [(m0, .inr (11, [.int 0, .int 0, .ref m1, .int 0, .int 0, .ref m2, .int 0, .int 0, .int 0, .int 0, .int 0, .ref m42, .ref m3, .ref m4, .int 0, .int 0, .ref m5, .ref m6, .ref m7, .ref m8, .ref m9, .ref m10, .ref m11, .ref m12, .ref m13, .ref m14, .ref m15, .ref m16, .ref m17, .ref m18, .ref m19, .int 0, .ref m20, .int 0, .ref m21, .int 0, .int 0, .int 0, .int 0, .int 0, .int 0, .int 0, .ref m22, .int 0, .int 0, .ref m23, .ref m24, .ref m25, .ref m26, .int 0, .ref m27, .int 0, .ref m28, .int 0, .ref m29, .ref m30, .int (-1), .int 0, .int 0, .ref m31, .ref m32, .ref m33, .ref m34, .ref m35, .ref m36, .ref m37, .ref m38, .ref m39, .int 0, .ref m40, .int 0, .ref m41])), (m1, .inl (ax 0, 400, .inl (fun _ => 0)))] sz) := by
  refine Met.ofW (cc := b_Model_type) (maxL := 5) (ret := (some .boolean)) (by decide) rfl ?_
  intro p e s m args below meth c s₁ B hml hv
  obtain ⟨rfl, hsz, hP, hK, hD0⟩ := hv
  have hx := B.exec
  have hb := B.bytes
  have hr := B.returns
  have hts := xw_hts B.pre
  have hown : s.vm.findClass R_Model = some m.cls := findClass_of_methodNamed B.named
  have hlocks := B.notSynchronized
  subst hsz
  have hD := hD0.self (sz := s.heap.size)
  have hN := xz_entry hP
  generalize hAe : va_A [(m0, .inr (11, [.int 0, .int 0, .ref m1, .int 0, .int 0, .ref m2, .int 0, .int 0, .int 0, .int 0, .int 0, .ref m42, .ref m3, .ref m4, .int 0, .int 0, .ref m5, .ref m6, .ref m7, .ref m8, .ref m9, .ref m10, .ref m11, .ref m12, .ref m13, .ref m14, .ref m15, .ref m16, .ref m17, .ref m18, .ref m19, .int 0, .ref m20, .int 0, .ref m21, .int 0, .int 0, .int 0, .int 0, .int 0, .int 0, .int 0, .ref m22, .int 0, .int 0, .ref m23, .ref m24, .ref m25, .ref m26, .int 0, .ref m27, .int 0, .ref m28, .int 0, .ref m29, .ref m30, .int (-1), .int 0, .int 0, .ref m31, .ref m32, .ref m33, .ref m34, .ref m35, .ref m36, .ref m37, .ref m38, .ref m39, .int 0, .ref m40, .int 0, .ref m41])), (m1, .inl (ax 0, 400, .inl (fun _ => 0)))] s.heap.size = A at hD hN ⊢
  have hA : ∀ q : Nat, s.heap.size ≤ q → A q := fun q h => by rw [← hAe]; exact Or.inr h
  have hS : va_S A s.heap s.heap [] := va_S.rf
  have hl0 := lv_entry ([.ref m0, .long w, .int 1]) (n := 5) (Nat.le_of_ble_eq_true rfl)
  rw [lg_entry_eq]
  generalize (lg_sl ([.ref m0, .long w, .int 1]) ++ List.replicate (5 - (lg_sl ([.ref m0, .long w, .int 1])).length) Slot.unset).toArray = ls at hl0 ⊢
  have hl1 : lv_has ls 5 [(0, .ref m0), (1, .long w), (3, .int 1)] := hl0
  refine lv_aload_n hx hb d_Model_type_0 rfl (lv_at hl1 0 rfl) ?_
  refine lv_iconst (v := 0) hx hb d_Model_type_1 (by decide) ?_
  refine va_put (D := D) (ci := 11) (v := .int 0) (ty := .int) (C := R_Model) (T := F_Model) (N := 72) hx hb hts i_Model t_Model t_Model_ok n_Model hown hK.1 hP hD hS 0 rfl rfl 0 (by decide) (hts _ wd_1036) (fun _ h9 => h9) rfl (by decide +kernel) rfl rfl (Nat.le_of_ble_eq_true rfl) d_Model_type_2 (fun H_1 locs hP hD hS => ?_)
  have hP : va_P D classes [(m0, .inr (11, [.int 0, .int 0, .ref m1, .int 0, .int 0, .ref m2, .int 0, .int 0, .int 0, .int 0, .int 0, .ref m42, .ref m3, .ref m4, .int 0, .int 0, .ref m5, .ref m6, .ref m7, .ref m8, .ref m9, .ref m10, .ref m11, .ref m12, .ref m13, .ref m14, .ref m15, .ref m16, .ref m17, .ref m18, .ref m19, .int 0, .ref m20, .int 0, .ref m21, .int 0, .int 0, .int 0, .int 0, .int 0, .int 0, .int 0, .ref m22, .int 0, .int 0, .ref m23, .ref m24, .ref m25, .ref m26, .int 0, .ref m27, .int 0, .ref m28, .int 0, .ref m29, .ref m30, .int (-1), .int 0, .int 0, .ref m31, .ref m32, .ref m33, .ref m34, .ref m35, .ref m36, .ref m37, .ref m38, .ref m39, .int 0, .ref m40, .int 0, .ref m41])), (m1, .inl (ax 0, 400, .inl (fun _ => 0)))] H_1 := hP
  have hD : va_D A [(m0, .inr (11, [.int 0, .int 0, .ref m1, .int 0, .int 0, .ref m2, .int 0, .int 0, .int 0, .int 0, .int 0, .ref m42, .ref m3, .ref m4, .int 0, .int 0, .ref m5, .ref m6, .ref m7, .ref m8, .ref m9, .ref m10, .ref m11, .ref m12, .ref m13, .ref m14, .ref m15, .ref m16, .ref m17, .ref m18, .ref m19, .int 0, .ref m20, .int 0, .ref m21, .int 0, .int 0, .int 0, .int 0, .int 0, .int 0, .int 0, .ref m22, .int 0, .int 0, .ref m23, .ref m24, .ref m25, .ref m26, .int 0, .ref m27, .int 0, .ref m28, .int 0, .ref m29, .ref m30, .int (-1), .int 0, .int 0, .ref m31, .ref m32, .ref m33, .ref m34, .ref m35, .ref m36, .ref m37, .ref m38, .ref m39, .int 0, .ref m40, .int 0, .ref m41])), (m1, .inl (ax 0, 400, .inl (fun _ => 0)))] := hD
  refine lv_iload_n hx hb d_Model_type_5 rfl (lv_at hl1 2 rfl) ?_
  refine lv_iconst (v := 1) hx hb d_Model_type_6 (by decide) ?_
  refine lv_icmp_lt (tgt := 28) hx hb d_Model_type_7 (by decide) (fun c_2 => ?_) (fun c_2 => ?_)
  · first | exact absurd c_2 (by decide) | exact absurd (by decide) c_2
  refine lv_iload_n hx hb d_Model_type_10 rfl (lv_at hl1 2 rfl) ?_
  refine lv_bipush (v := 8) hx hb d_Model_type_11 (by decide) ?_
  refine lv_icmp_gt (tgt := 28) hx hb d_Model_type_13 (by decide) (fun c_3 => ?_) (fun c_3 => ?_)
  · first | exact absurd c_3 (by decide) | exact absurd (by decide) c_3
  refine lv_aload_n hx hb d_Model_type_16 rfl (lv_at hl1 0 rfl) ?_
  refine va_get (D := D) (ci := 11) (v := .int 0) (C := R_Model) (T := F_Model) (N := 72) hx hb hts i_Model hown hK.1 hP 0 rfl rfl 1 (by decide) (hts _ wd_1037) (fun _ h9 => h9) rfl d_Model_type_17 ?_
  refine lv_iload_n hx hb d_Model_type_20 rfl (lv_at hl1 2 rfl) ?_
  refine lv_iadd hx hb d_Model_type_21 ?_
  refine lv_topi (fun z_4 ez_4 => ?_)
  have ez_4 : z_4 = 1 := ez_4.trans (by first | rfl | decide)
  subst ez_4
  refine lv_sipush (v := 400) hx hb d_Model_type_22 (by decide) ?_
  refine lv_icmp_le (tgt := 30) hx hb d_Model_type_25 (by decide) (fun c_5 => ?_) (fun c_5 => ?_)
  rotate_left
  · first | exact absurd c_5 (by decide) | exact absurd (by decide) c_5
  refine lv_iconst (v := 0) hx hb d_Model_type_30 (by decide) ?_
  refine lv_istore (lv' := [(4, .int 0), (0, .ref m0), (1, .long w), (3, .int 1)]) hx hb d_Model_type_31 hl1 (by decide) rfl (fun ls hl1 => ?_)
  refine lv_iload hx hb d_Model_type_33 (lv_at hl1 0 rfl) ?_
  refine lv_iload_n hx hb d_Model_type_35 rfl (lv_at hl1 3 rfl) ?_
  refine lv_icmp_ge (tgt := 76) hx hb d_Model_type_36 (by decide) (fun c_6 => ?_) (fun c_6 => ?_)
  · first | exact absurd c_6 (by decide) | exact absurd (by decide) c_6
  refine lv_aload_n hx hb d_Model_type_39 rfl (lv_at hl1 1 rfl) ?_
  refine va_get (D := D) (ci := 11) (v := .ref m1) (C := R_Model) (T := F_Model) (N := 72) hx hb hts i_Model hown hK.1 hP 0 rfl rfl 2 (by decide) (hts _ wd_1038) (fun _ h9 => h9) rfl d_Model_type_40 ?_
  refine lv_aload_n hx hb d_Model_type_43 rfl (lv_at hl1 1 rfl) ?_
  refine va_get (D := D) (ci := 11) (v := .int 0) (C := R_Model) (T := F_Model) (N := 72) hx hb hts i_Model hown hK.1 hP 0 rfl rfl 1 (by decide) (hts _ wd_1037) (fun _ h9 => h9) rfl d_Model_type_44 ?_
  refine lv_lload_n hx hb d_Model_type_47 rfl (lv_at hl1 2 rfl) ?_
  refine lv_bipush (v := 8) hx hb d_Model_type_48 (by decide) ?_
  refine lv_iload hx hb d_Model_type_50 (lv_at hl1 0 rfl) ?_
  refine lv_imul hx hb d_Model_type_52 ?_
  refine lv_topi (fun z_7 ez_7 => ?_)
  have ez_7 : z_7 = 0 := ez_7.trans (by first | rfl | decide)
  subst ez_7
  refine lv_lshr hx hb d_Model_type_53 rfl ?_
  refine lv_topl (fun z_8 ez_8 => ?_)
  refine lv_ldc2 (v := 255) hx hb hown (hts _ wd_1262) d_Model_type_54 ?_
  refine lv_land hx hb d_Model_type_57 ?_
  refine lv_topl (fun z_9 ez_9 => ?_)
  refine lv_l2i hx hb d_Model_type_58 rfl ?_
  refine lv_topi (fun z_10 ez_10 => ?_)
  refine va_iast hx hb hK.1 hP hD hS 1 0 rfl rfl (by unfold vp_in; decide) d_Model_type_59 (fun H_11 locs hP hD hS => ?_)
  have hP : va_P D classes [(m0, .inr (11, [.int 0, .int 0, .ref m1, .int 0, .int 0, .ref m2, .int 0, .int 0, .int 0, .int 0, .int 0, .ref m42, .ref m3, .ref m4, .int 0, .int 0, .ref m5, .ref m6, .ref m7, .ref m8, .ref m9, .ref m10, .ref m11, .ref m12, .ref m13, .ref m14, .ref m15, .ref m16, .ref m17, .ref m18, .ref m19, .int 0, .ref m20, .int 0, .ref m21, .int 0, .int 0, .int 0, .int 0, .int 0, .int 0, .int 0, .ref m22, .int 0, .int 0, .ref m23, .ref m24, .ref m25, .ref m26, .int 0, .ref m27, .int 0, .ref m28, .int 0, .ref m29, .ref m30, .int (-1), .int 0, .int 0, .ref m31, .ref m32, .ref m33, .ref m34, .ref m35, .ref m36, .ref m37, .ref m38, .ref m39, .int 0, .ref m40, .int 0, .ref m41])), (m1, .inl (ax 0, 400, .inl (upd (fun _ => 0) 0 z_10)))] H_11 := hP
  have hD : va_D A [(m0, .inr (11, [.int 0, .int 0, .ref m1, .int 0, .int 0, .ref m2, .int 0, .int 0, .int 0, .int 0, .int 0, .ref m42, .ref m3, .ref m4, .int 0, .int 0, .ref m5, .ref m6, .ref m7, .ref m8, .ref m9, .ref m10, .ref m11, .ref m12, .ref m13, .ref m14, .ref m15, .ref m16, .ref m17, .ref m18, .ref m19, .int 0, .ref m20, .int 0, .ref m21, .int 0, .int 0, .int 0, .int 0, .int 0, .int 0, .int 0, .ref m22, .int 0, .int 0, .ref m23, .ref m24, .ref m25, .ref m26, .int 0, .ref m27, .int 0, .ref m28, .int 0, .ref m29, .ref m30, .int (-1), .int 0, .int 0, .ref m31, .ref m32, .ref m33, .ref m34, .ref m35, .ref m36, .ref m37, .ref m38, .ref m39, .int 0, .ref m40, .int 0, .ref m41])), (m1, .inl (ax 0, 400, .inl (upd (fun _ => 0) 0 z_10)))] := hD
  refine lv_aload_n hx hb d_Model_type_60 rfl (lv_at hl1 1 rfl) ?_
  refine lv_dup hx hb d_Model_type_61 rfl ?_
  refine va_get (D := D) (ci := 11) (v := .int 0) (C := R_Model) (T := F_Model) (N := 72) hx hb hts i_Model hown hK.1 hP 0 rfl rfl 1 (by decide) (hts _ wd_1037) (fun _ h9 => h9) rfl d_Model_type_62 ?_
  refine lv_iconst (v := 1) hx hb d_Model_type_65 (by decide) ?_
  refine lv_iadd hx hb d_Model_type_66 ?_
  refine lv_topi (fun z_12 ez_12 => ?_)
  have ez_12 : z_12 = 1 := ez_12.trans (by first | rfl | decide)
  subst ez_12
  refine va_put (D := D) (ci := 11) (v := .int 1) (ty := .int) (C := R_Model) (T := F_Model) (N := 72) hx hb hts i_Model t_Model t_Model_ok n_Model hown hK.1 hP hD hS 0 rfl rfl 1 (by decide) (hts _ wd_1037) (fun _ h9 => h9) rfl (by decide +kernel) rfl rfl (Nat.le_of_ble_eq_true rfl) d_Model_type_67 (fun H_13 locs hP hD hS => ?_)
  have hP : va_P D classes [(m0, .inr (11, [.int 0, .int 1, .ref m1, .int 0, .int 0, .ref m2, .int 0, .int 0, .int 0, .int 0, .int 0, .ref m42, .ref m3, .ref m4, .int 0, .int 0, .ref m5, .ref m6, .ref m7, .ref m8, .ref m9, .ref m10, .ref m11, .ref m12, .ref m13, .ref m14, .ref m15, .ref m16, .ref m17, .ref m18, .ref m19, .int 0, .ref m20, .int 0, .ref m21, .int 0, .int 0, .int 0, .int 0, .int 0, .int 0, .int 0, .ref m22, .int 0, .int 0, .ref m23, .ref m24, .ref m25, .ref m26, .int 0, .ref m27, .int 0, .ref m28, .int 0, .ref m29, .ref m30, .int (-1), .int 0, .int 0, .ref m31, .ref m32, .ref m33, .ref m34, .ref m35, .ref m36, .ref m37, .ref m38, .ref m39, .int 0, .ref m40, .int 0, .ref m41])), (m1, .inl (ax 0, 400, .inl (upd (fun _ => 0) 0 z_10)))] H_13 := hP
  have hD : va_D A [(m0, .inr (11, [.int 0, .int 1, .ref m1, .int 0, .int 0, .ref m2, .int 0, .int 0, .int 0, .int 0, .int 0, .ref m42, .ref m3, .ref m4, .int 0, .int 0, .ref m5, .ref m6, .ref m7, .ref m8, .ref m9, .ref m10, .ref m11, .ref m12, .ref m13, .ref m14, .ref m15, .ref m16, .ref m17, .ref m18, .ref m19, .int 0, .ref m20, .int 0, .ref m21, .int 0, .int 0, .int 0, .int 0, .int 0, .int 0, .int 0, .ref m22, .int 0, .int 0, .ref m23, .ref m24, .ref m25, .ref m26, .int 0, .ref m27, .int 0, .ref m28, .int 0, .ref m29, .ref m30, .int (-1), .int 0, .int 0, .ref m31, .ref m32, .ref m33, .ref m34, .ref m35, .ref m36, .ref m37, .ref m38, .ref m39, .int 0, .ref m40, .int 0, .ref m41])), (m1, .inl (ax 0, 400, .inl (upd (fun _ => 0) 0 z_10)))] := hD
  refine lv_iinc (v := 1) (lv' := [(4, .int 1), (0, .ref m0), (1, .long w), (3, .int 1)]) hx hb d_Model_type_70 hl1 (k := 0) rfl (by decide) (by decide) rfl (fun ls hl1 => ?_)
  refine lv_goto (tgt := 33) hx hb d_Model_type_73 (by decide) ?_
  refine lv_iload hx hb d_Model_type_33 (lv_at hl1 0 rfl) ?_
  refine lv_iload_n hx hb d_Model_type_35 rfl (lv_at hl1 3 rfl) ?_
  refine lv_icmp_ge (tgt := 76) hx hb d_Model_type_36 (by decide) (fun c_14 => ?_) (fun c_14 => ?_)
  rotate_left
  · first | exact absurd c_14 (by decide) | exact absurd (by decide) c_14
  refine lv_iconst (v := 1) hx hb d_Model_type_76 (by decide) ?_
  exact W.zret (v := 1) hx hb hr rfl (fun t ht hW => ⟨⟨1, fun _ => 0, rfl, rfl, trivial⟩, hS.F ht⟩) hS.2.2 d_Model_type_77
set_option maxHeartbeats 4000000 in
set_option maxRecDepth 100000 in
theorem c_Model_type_2 (l : Launch) (D : va_G) (ax : Nat → ClassId) (m0 m1 m2 m3 m4 m5 m6 m7 m8 m9 m10 m11 m12 m13 m14 m15 m16 m17 m18 m19 m20 m21 m22 m23 m24 m25 m26 m27 m28 m29 m30 m31 m32 m33 m34 m35 m36 m37 m38 m39 m40 m41 m42 : Nat) (w : Int64) (sz : Nat) : Met l y_Model_type (xws (.code y_Model_type b_Model_type 5 (some .boolean))) ({ frames := 10, cells := 0, slots := 0, locals := 400 }) (va_Pc [.ref m0, .long w, .int 2] (xo D ax [(m0, .inr (11, [.int 0, .int 0, .ref m1, .int 0, .int 0, .ref m2, .int 0, .int 0, .int 0, .int 0, .int 0, .ref m42, .ref m3, .ref m4, .int 0, .int 0, .ref m5, .ref m6, .ref m7, .ref m8, .ref m9, .ref m10, .ref m11, .ref m12, .ref m13, .ref m14, .ref m15, .ref m16, .ref m17, .ref m18, .ref m19, .int 0, .ref m20, .int 0, .ref m21, .int 0, .int 0, .int 0, .int 0, .int 0, .int 0, .int 0, .ref m22, .int 0, .int 0, .ref m23, .ref m24, .ref m25, .ref m26, .int 0, .ref m27, .int 0, .ref m28, .int 0, .ref m29, .ref m30, .int (-1), .int 0, .int 0, .ref m31, .ref m32, .ref m33, .ref m34, .ref m35, .ref m36, .ref m37, .ref m38, .ref m39, .int 0, .ref m40, .int 0, .ref m41])), (m1, .inl (ax 0, 400, .inl (fun _ => 0)))] sz)) ((va_Qi (fun (r : Int32) (u : Nat → Nat) => r = 1) (fun (_ : Nat → Nat) (_ : State) => True) (va_A [(m0, .inr (11, [.int 0, .int 0, .ref m1, .int 0, .int 0, .ref m2, .int 0, .int 0, .int 0, .int 0, .int 0, .ref m42, .ref m3, .ref m4, .int 0, .int 0, .ref m5, .ref m6, .ref m7, .ref m8, .ref m9, .ref m10, .ref m11, .ref m12, .ref m13, .ref m14, .ref m15, .ref m16, .ref m17, .ref m18, .ref m19, .int 0, .ref m20, .int 0, .ref m21, .int 0, .int 0, .int 0, .int 0, .int 0, .int 0, .int 0, .ref m22, .int 0, .int 0, .ref m23, .ref m24, .ref m25, .ref m26, .int 0, .ref m27, .int 0, .ref m28, .int 0, .ref m29, .ref m30, .int (-1), .int 0, .int 0, .ref m31, .ref m32, .ref m33, .ref m34, .ref m35, .ref m36, .ref m37, .ref m38, .ref m39, .int 0, .ref m40, .int 0, .ref m41])), (m1, .inl (ax 0, 400, .inl (fun _ => 0)))] sz))) 0 0 (va_A [(m0, .inr (11, [.int 0, .int 0, .ref m1, .int 0, .int 0, .ref m2, .int 0, .int 0, .int 0, .int 0, .int 0, .ref m42, .ref m3, .ref m4, .int 0, .int 0, .ref m5, .ref m6, .ref m7, .ref m8, .ref m9, .ref m10, .ref m11, .ref m12, .ref m13, .ref m14, .ref m15, .ref m16, .ref m17, .ref m18, .ref m19, .int 0, .ref m20, .int 0, .ref m21, .int 0, .int 0, .int 0, .int 0, .int 0, .int 0, .int 0, .ref m22, .int 0, .int 0, .ref m23, .ref m24, .ref m25, .ref m26, .int 0, .ref m27, .int 0, .ref m28, .int 0, .ref m29, .ref m30, .int (-1), .int 0, .int 0, .ref m31, .ref m32, .ref m33, .ref m34, .ref m35, .ref m36, .ref m37, .ref m38, .ref m39, .int 0, .ref m40, .int 0, .ref m41])), (m1, .inl (ax 0, 400, .inl (fun _ => 0)))] sz) := by
  refine Met.ofW (cc := b_Model_type) (maxL := 5) (ret := (some .boolean)) (by decide) rfl ?_
  intro p e s m args below meth c s₁ B hml hv
  obtain ⟨rfl, hsz, hP, hK, hD0⟩ := hv
  have hx := B.exec
  have hb := B.bytes
  have hr := B.returns
  have hts := xw_hts B.pre
  have hown : s.vm.findClass R_Model = some m.cls := findClass_of_methodNamed B.named
  have hlocks := B.notSynchronized
  subst hsz
  have hD := hD0.self (sz := s.heap.size)
  have hN := xz_entry hP
  generalize hAe : va_A [(m0, .inr (11, [.int 0, .int 0, .ref m1, .int 0, .int 0, .ref m2, .int 0, .int 0, .int 0, .int 0, .int 0, .ref m42, .ref m3, .ref m4, .int 0, .int 0, .ref m5, .ref m6, .ref m7, .ref m8, .ref m9, .ref m10, .ref m11, .ref m12, .ref m13, .ref m14, .ref m15, .ref m16, .ref m17, .ref m18, .ref m19, .int 0, .ref m20, .int 0, .ref m21, .int 0, .int 0, .int 0, .int 0, .int 0, .int 0, .int 0, .ref m22, .int 0, .int 0, .ref m23, .ref m24, .ref m25, .ref m26, .int 0, .ref m27, .int 0, .ref m28, .int 0, .ref m29, .ref m30, .int (-1), .int 0, .int 0, .ref m31, .ref m32, .ref m33, .ref m34, .ref m35, .ref m36, .ref m37, .ref m38, .ref m39, .int 0, .ref m40, .int 0, .ref m41])), (m1, .inl (ax 0, 400, .inl (fun _ => 0)))] s.heap.size = A at hD hN ⊢
  have hA : ∀ q : Nat, s.heap.size ≤ q → A q := fun q h => by rw [← hAe]; exact Or.inr h
  have hS : va_S A s.heap s.heap [] := va_S.rf
  have hl0 := lv_entry ([.ref m0, .long w, .int 2]) (n := 5) (Nat.le_of_ble_eq_true rfl)
  rw [lg_entry_eq]
  generalize (lg_sl ([.ref m0, .long w, .int 2]) ++ List.replicate (5 - (lg_sl ([.ref m0, .long w, .int 2])).length) Slot.unset).toArray = ls at hl0 ⊢
  have hl1 : lv_has ls 5 [(0, .ref m0), (1, .long w), (3, .int 2)] := hl0
  refine lv_aload_n hx hb d_Model_type_0 rfl (lv_at hl1 0 rfl) ?_
  refine lv_iconst (v := 0) hx hb d_Model_type_1 (by decide) ?_
  refine va_put (D := D) (ci := 11) (v := .int 0) (ty := .int) (C := R_Model) (T := F_Model) (N := 72) hx hb hts i_Model t_Model t_Model_ok n_Model hown hK.1 hP hD hS 0 rfl rfl 0 (by decide) (hts _ wd_1036) (fun _ h9 => h9) rfl (by decide +kernel) rfl rfl (Nat.le_of_ble_eq_true rfl) d_Model_type_2 (fun H_1 locs hP hD hS => ?_)
  have hP : va_P D classes [(m0, .inr (11, [.int 0, .int 0, .ref m1, .int 0, .int 0, .ref m2, .int 0, .int 0, .int 0, .int 0, .int 0, .ref m42, .ref m3, .ref m4, .int 0, .int 0, .ref m5, .ref m6, .ref m7, .ref m8, .ref m9, .ref m10, .ref m11, .ref m12, .ref m13, .ref m14, .ref m15, .ref m16, .ref m17, .ref m18, .ref m19, .int 0, .ref m20, .int 0, .ref m21, .int 0, .int 0, .int 0, .int 0, .int 0, .int 0, .int 0, .ref m22, .int 0, .int 0, .ref m23, .ref m24, .ref m25, .ref m26, .int 0, .ref m27, .int 0, .ref m28, .int 0, .ref m29, .ref m30, .int (-1), .int 0, .int 0, .ref m31, .ref m32, .ref m33, .ref m34, .ref m35, .ref m36, .ref m37, .ref m38, .ref m39, .int 0, .ref m40, .int 0, .ref m41])), (m1, .inl (ax 0, 400, .inl (fun _ => 0)))] H_1 := hP
  have hD : va_D A [(m0, .inr (11, [.int 0, .int 0, .ref m1, .int 0, .int 0, .ref m2, .int 0, .int 0, .int 0, .int 0, .int 0, .ref m42, .ref m3, .ref m4, .int 0, .int 0, .ref m5, .ref m6, .ref m7, .ref m8, .ref m9, .ref m10, .ref m11, .ref m12, .ref m13, .ref m14, .ref m15, .ref m16, .ref m17, .ref m18, .ref m19, .int 0, .ref m20, .int 0, .ref m21, .int 0, .int 0, .int 0, .int 0, .int 0, .int 0, .int 0, .ref m22, .int 0, .int 0, .ref m23, .ref m24, .ref m25, .ref m26, .int 0, .ref m27, .int 0, .ref m28, .int 0, .ref m29, .ref m30, .int (-1), .int 0, .int 0, .ref m31, .ref m32, .ref m33, .ref m34, .ref m35, .ref m36, .ref m37, .ref m38, .ref m39, .int 0, .ref m40, .int 0, .ref m41])), (m1, .inl (ax 0, 400, .inl (fun _ => 0)))] := hD
  refine lv_iload_n hx hb d_Model_type_5 rfl (lv_at hl1 2 rfl) ?_
  refine lv_iconst (v := 1) hx hb d_Model_type_6 (by decide) ?_
  refine lv_icmp_lt (tgt := 28) hx hb d_Model_type_7 (by decide) (fun c_2 => ?_) (fun c_2 => ?_)
  · first | exact absurd c_2 (by decide) | exact absurd (by decide) c_2
  refine lv_iload_n hx hb d_Model_type_10 rfl (lv_at hl1 2 rfl) ?_
  refine lv_bipush (v := 8) hx hb d_Model_type_11 (by decide) ?_
  refine lv_icmp_gt (tgt := 28) hx hb d_Model_type_13 (by decide) (fun c_3 => ?_) (fun c_3 => ?_)
  · first | exact absurd c_3 (by decide) | exact absurd (by decide) c_3
  refine lv_aload_n hx hb d_Model_type_16 rfl (lv_at hl1 0 rfl) ?_
  refine va_get (D := D) (ci := 11) (v := .int 0) (C := R_Model) (T := F_Model) (N := 72) hx hb hts i_Model hown hK.1 hP 0 rfl rfl 1 (by decide) (hts _ wd_1037) (fun _ h9 => h9) rfl d_Model_type_17 ?_
  refine lv_iload_n hx hb d_Model_type_20 rfl (lv_at hl1 2 rfl) ?_
  refine lv_iadd hx hb d_Model_type_21 ?_
  refine lv_topi (fun z_4 ez_4 => ?_)
  have ez_4 : z_4 = 2 := ez_4.trans (by first | rfl | decide)
  subst ez_4
  refine lv_sipush (v := 400) hx hb d_Model_type_22 (by decide) ?_
  refine lv_icmp_le (tgt := 30) hx hb d_Model_type_25 (by decide) (fun c_5 => ?_) (fun c_5 => ?_)
  rotate_left
  · first | exact absurd c_5 (by decide) | exact absurd (by decide) c_5
  refine lv_iconst (v := 0) hx hb d_Model_type_30 (by decide) ?_
  refine lv_istore (lv' := [(4, .int 0), (0, .ref m0), (1, .long w), (3, .int 2)]) hx hb d_Model_type_31 hl1 (by decide) rfl (fun ls hl1 => ?_)
  refine lv_iload hx hb d_Model_type_33 (lv_at hl1 0 rfl) ?_
  refine lv_iload_n hx hb d_Model_type_35 rfl (lv_at hl1 3 rfl) ?_
  refine lv_icmp_ge (tgt := 76) hx hb d_Model_type_36 (by decide) (fun c_6 => ?_) (fun c_6 => ?_)
  · first | exact absurd c_6 (by decide) | exact absurd (by decide) c_6
  refine lv_aload_n hx hb d_Model_type_39 rfl (lv_at hl1 1 rfl) ?_
  refine va_get (D := D) (ci := 11) (v := .ref m1) (C := R_Model) (T := F_Model) (N := 72) hx hb hts i_Model hown hK.1 hP 0 rfl rfl 2 (by decide) (hts _ wd_1038) (fun _ h9 => h9) rfl d_Model_type_40 ?_
  refine lv_aload_n hx hb d_Model_type_43 rfl (lv_at hl1 1 rfl) ?_
  refine va_get (D := D) (ci := 11) (v := .int 0) (C := R_Model) (T := F_Model) (N := 72) hx hb hts i_Model hown hK.1 hP 0 rfl rfl 1 (by decide) (hts _ wd_1037) (fun _ h9 => h9) rfl d_Model_type_44 ?_
  refine lv_lload_n hx hb d_Model_type_47 rfl (lv_at hl1 2 rfl) ?_
  refine lv_bipush (v := 8) hx hb d_Model_type_48 (by decide) ?_
  refine lv_iload hx hb d_Model_type_50 (lv_at hl1 0 rfl) ?_
  refine lv_imul hx hb d_Model_type_52 ?_
  refine lv_topi (fun z_7 ez_7 => ?_)
  have ez_7 : z_7 = 0 := ez_7.trans (by first | rfl | decide)
  subst ez_7
  refine lv_lshr hx hb d_Model_type_53 rfl ?_
  refine lv_topl (fun z_8 ez_8 => ?_)
  refine lv_ldc2 (v := 255) hx hb hown (hts _ wd_1262) d_Model_type_54 ?_
  refine lv_land hx hb d_Model_type_57 ?_
  refine lv_topl (fun z_9 ez_9 => ?_)
  refine lv_l2i hx hb d_Model_type_58 rfl ?_
  refine lv_topi (fun z_10 ez_10 => ?_)
  refine va_iast hx hb hK.1 hP hD hS 1 0 rfl rfl (by unfold vp_in; decide) d_Model_type_59 (fun H_11 locs hP hD hS => ?_)
  have hP : va_P D classes [(m0, .inr (11, [.int 0, .int 0, .ref m1, .int 0, .int 0, .ref m2, .int 0, .int 0, .int 0, .int 0, .int 0, .ref m42, .ref m3, .ref m4, .int 0, .int 0, .ref m5, .ref m6, .ref m7, .ref m8, .ref m9, .ref m10, .ref m11, .ref m12, .ref m13, .ref m14, .ref m15, .ref m16, .ref m17, .ref m18, .ref m19, .int 0, .ref m20, .int 0, .ref m21, .int 0, .int 0, .int 0, .int 0, .int 0, .int 0, .int 0, .ref m22, .int 0, .int 0, .ref m23, .ref m24, .ref m25, .ref m26, .int 0, .ref m27, .int 0, .ref m28, .int 0, .ref m29, .ref m30, .int (-1), .int 0, .int 0, .ref m31, .ref m32, .ref m33, .ref m34, .ref m35, .ref m36, .ref m37, .ref m38, .ref m39, .int 0, .ref m40, .int 0, .ref m41])), (m1, .inl (ax 0, 400, .inl (upd (fun _ => 0) 0 z_10)))] H_11 := hP
  have hD : va_D A [(m0, .inr (11, [.int 0, .int 0, .ref m1, .int 0, .int 0, .ref m2, .int 0, .int 0, .int 0, .int 0, .int 0, .ref m42, .ref m3, .ref m4, .int 0, .int 0, .ref m5, .ref m6, .ref m7, .ref m8, .ref m9, .ref m10, .ref m11, .ref m12, .ref m13, .ref m14, .ref m15, .ref m16, .ref m17, .ref m18, .ref m19, .int 0, .ref m20, .int 0, .ref m21, .int 0, .int 0, .int 0, .int 0, .int 0, .int 0, .int 0, .ref m22, .int 0, .int 0, .ref m23, .ref m24, .ref m25, .ref m26, .int 0, .ref m27, .int 0, .ref m28, .int 0, .ref m29, .ref m30, .int (-1), .int 0, .int 0, .ref m31, .ref m32, .ref m33, .ref m34, .ref m35, .ref m36, .ref m37, .ref m38, .ref m39, .int 0, .ref m40, .int 0, .ref m41])), (m1, .inl (ax 0, 400, .inl (upd (fun _ => 0) 0 z_10)))] := hD
  refine lv_aload_n hx hb d_Model_type_60 rfl (lv_at hl1 1 rfl) ?_
  refine lv_dup hx hb d_Model_type_61 rfl ?_
  refine va_get (D := D) (ci := 11) (v := .int 0) (C := R_Model) (T := F_Model) (N := 72) hx hb hts i_Model hown hK.1 hP 0 rfl rfl 1 (by decide) (hts _ wd_1037) (fun _ h9 => h9) rfl d_Model_type_62 ?_
  refine lv_iconst (v := 1) hx hb d_Model_type_65 (by decide) ?_
  refine lv_iadd hx hb d_Model_type_66 ?_
  refine lv_topi (fun z_12 ez_12 => ?_)
  have ez_12 : z_12 = 1 := ez_12.trans (by first | rfl | decide)
  subst ez_12
  refine va_put (D := D) (ci := 11) (v := .int 1) (ty := .int) (C := R_Model) (T := F_Model) (N := 72) hx hb hts i_Model t_Model t_Model_ok n_Model hown hK.1 hP hD hS 0 rfl rfl 1 (by decide) (hts _ wd_1037) (fun _ h9 => h9) rfl (by decide +kernel) rfl rfl (Nat.le_of_ble_eq_true rfl) d_Model_type_67 (fun H_13 locs hP hD hS => ?_)
  have hP : va_P D classes [(m0, .inr (11, [.int 0, .int 1, .ref m1, .int 0, .int 0, .ref m2, .int 0, .int 0, .int 0, .int 0, .int 0, .ref m42, .ref m3, .ref m4, .int 0, .int 0, .ref m5, .ref m6, .ref m7, .ref m8, .ref m9, .ref m10, .ref m11, .ref m12, .ref m13, .ref m14, .ref m15, .ref m16, .ref m17, .ref m18, .ref m19, .int 0, .ref m20, .int 0, .ref m21, .int 0, .int 0, .int 0, .int 0, .int 0, .int 0, .int 0, .ref m22, .int 0, .int 0, .ref m23, .ref m24, .ref m25, .ref m26, .int 0, .ref m27, .int 0, .ref m28, .int 0, .ref m29, .ref m30, .int (-1), .int 0, .int 0, .ref m31, .ref m32, .ref m33, .ref m34, .ref m35, .ref m36, .ref m37, .ref m38, .ref m39, .int 0, .ref m40, .int 0, .ref m41])), (m1, .inl (ax 0, 400, .inl (upd (fun _ => 0) 0 z_10)))] H_13 := hP
  have hD : va_D A [(m0, .inr (11, [.int 0, .int 1, .ref m1, .int 0, .int 0, .ref m2, .int 0, .int 0, .int 0, .int 0, .int 0, .ref m42, .ref m3, .ref m4, .int 0, .int 0, .ref m5, .ref m6, .ref m7, .ref m8, .ref m9, .ref m10, .ref m11, .ref m12, .ref m13, .ref m14, .ref m15, .ref m16, .ref m17, .ref m18, .ref m19, .int 0, .ref m20, .int 0, .ref m21, .int 0, .int 0, .int 0, .int 0, .int 0, .int 0, .int 0, .ref m22, .int 0, .int 0, .ref m23, .ref m24, .ref m25, .ref m26, .int 0, .ref m27, .int 0, .ref m28, .int 0, .ref m29, .ref m30, .int (-1), .int 0, .int 0, .ref m31, .ref m32, .ref m33, .ref m34, .ref m35, .ref m36, .ref m37, .ref m38, .ref m39, .int 0, .ref m40, .int 0, .ref m41])), (m1, .inl (ax 0, 400, .inl (upd (fun _ => 0) 0 z_10)))] := hD
  refine lv_iinc (v := 1) (lv' := [(4, .int 1), (0, .ref m0), (1, .long w), (3, .int 2)]) hx hb d_Model_type_70 hl1 (k := 0) rfl (by decide) (by decide) rfl (fun ls hl1 => ?_)
  refine lv_goto (tgt := 33) hx hb d_Model_type_73 (by decide) ?_
  refine lv_iload hx hb d_Model_type_33 (lv_at hl1 0 rfl) ?_
  refine lv_iload_n hx hb d_Model_type_35 rfl (lv_at hl1 3 rfl) ?_
  refine lv_icmp_ge (tgt := 76) hx hb d_Model_type_36 (by decide) (fun c_14 => ?_) (fun c_14 => ?_)
  · first | exact absurd c_14 (by decide) | exact absurd (by decide) c_14
  refine lv_aload_n hx hb d_Model_type_39 rfl (lv_at hl1 1 rfl) ?_
  refine va_get (D := D) (ci := 11) (v := .ref m1) (C := R_Model) (T := F_Model) (N := 72) hx hb hts i_Model hown hK.1 hP 0 rfl rfl 2 (by decide) (hts _ wd_1038) (fun _ h9 => h9) rfl d_Model_type_40 ?_
  refine lv_aload_n hx hb d_Model_type_43 rfl (lv_at hl1 1 rfl) ?_
  refine va_get (D := D) (ci := 11) (v := .int 1) (C := R_Model) (T := F_Model) (N := 72) hx hb hts i_Model hown hK.1 hP 0 rfl rfl 1 (by decide) (hts _ wd_1037) (fun _ h9 => h9) rfl d_Model_type_44 ?_
  refine lv_lload_n hx hb d_Model_type_47 rfl (lv_at hl1 2 rfl) ?_
  refine lv_bipush (v := 8) hx hb d_Model_type_48 (by decide) ?_
  refine lv_iload hx hb d_Model_type_50 (lv_at hl1 0 rfl) ?_
  refine lv_imul hx hb d_Model_type_52 ?_
  refine lv_topi (fun z_15 ez_15 => ?_)
  have ez_15 : z_15 = 8 := ez_15.trans (by first | rfl | decide)
  subst ez_15
  refine lv_lshr hx hb d_Model_type_53 rfl ?_
  refine lv_topl (fun z_16 ez_16 => ?_)
  refine lv_ldc2 (v := 255) hx hb hown (hts _ wd_1262) d_Model_type_54 ?_
  refine lv_land hx hb d_Model_type_57 ?_
  refine lv_topl (fun z_17 ez_17 => ?_)
  refine lv_l2i hx hb d_Model_type_58 rfl ?_
  refine lv_topi (fun z_18 ez_18 => ?_)
  refine va_iast hx hb hK.1 hP hD hS 1 0 rfl rfl (by unfold vp_in; decide) d_Model_type_59 (fun H_19 locs hP hD hS => ?_)
  have hP : va_P D classes [(m0, .inr (11, [.int 0, .int 1, .ref m1, .int 0, .int 0, .ref m2, .int 0, .int 0, .int 0, .int 0, .int 0, .ref m42, .ref m3, .ref m4, .int 0, .int 0, .ref m5, .ref m6, .ref m7, .ref m8, .ref m9, .ref m10, .ref m11, .ref m12, .ref m13, .ref m14, .ref m15, .ref m16, .ref m17, .ref m18, .ref m19, .int 0, .ref m20, .int 0, .ref m21, .int 0, .int 0, .int 0, .int 0, .int 0, .int 0, .int 0, .ref m22, .int 0, .int 0, .ref m23, .ref m24, .ref m25, .ref m26, .int 0, .ref m27, .int 0, .ref m28, .int 0, .ref m29, .ref m30, .int (-1), .int 0, .int 0, .ref m31, .ref m32, .ref m33, .ref m34, .ref m35, .ref m36, .ref m37, .ref m38, .ref m39, .int 0, .ref m40, .int 0, .ref m41])), (m1, .inl (ax 0, 400, .inl (upd (upd (fun _ => 0) 0 z_10) 1 z_18)))] H_19 := hP
  have hD : va_D A [(m0, .inr (11, [.int 0, .int 1, .ref m1, .int 0, .int 0, .ref m2, .int 0, .int 0, .int 0, .int 0, .int 0, .ref m42, .ref m3, .ref m4, .int 0, .int 0, .ref m5, .ref m6, .ref m7, .ref m8, .ref m9, .ref m10, .ref m11, .ref m12, .ref m13, .ref m14, .ref m15, .ref m16, .ref m17, .ref m18, .ref m19, .int 0, .ref m20, .int 0, .ref m21, .int 0, .int 0, .int 0, .int 0, .int 0, .int 0, .int 0, .ref m22, .int 0, .int 0, .ref m23, .ref m24, .ref m25, .ref m26, .int 0, .ref m27, .int 0, .ref m28, .int 0, .ref m29, .ref m30, .int (-1), .int 0, .int 0, .ref m31, .ref m32, .ref m33, .ref m34, .ref m35, .ref m36, .ref m37, .ref m38, .ref m39, .int 0, .ref m40, .int 0, .ref m41])), (m1, .inl (ax 0, 400, .inl (upd (upd (fun _ => 0) 0 z_10) 1 z_18)))] := hD
  refine lv_aload_n hx hb d_Model_type_60 rfl (lv_at hl1 1 rfl) ?_
  refine lv_dup hx hb d_Model_type_61 rfl ?_
  refine va_get (D := D) (ci := 11) (v := .int 1) (C := R_Model) (T := F_Model) (N := 72) hx hb hts i_Model hown hK.1 hP 0 rfl rfl 1 (by decide) (hts _ wd_1037) (fun _ h9 => h9) rfl d_Model_type_62 ?_
  refine lv_iconst (v := 1) hx hb d_Model_type_65 (by decide) ?_
  refine lv_iadd hx hb d_Model_type_66 ?_
  refine lv_topi (fun z_20 ez_20 => ?_)
  have ez_20 : z_20 = 2 := ez_20.trans (by first | rfl | decide)
  subst ez_20
  refine va_put (D := D) (ci := 11) (v := .int 2) (ty := .int) (C := R_Model) (T := F_Model) (N := 72) hx hb hts i_Model t_Model t_Model_ok n_Model hown hK.1 hP hD hS 0 rfl rfl 1 (by decide) (hts _ wd_1037) (fun _ h9 => h9) rfl (by decide +kernel) rfl rfl (Nat.le_of_ble_eq_true rfl) d_Model_type_67 (fun H_21 locs hP hD hS => ?_)
  have hP : va_P D classes [(m0, .inr (11, [.int 0, .int 2, .ref m1, .int 0, .int 0, .ref m2, .int 0, .int 0, .int 0, .int 0, .int 0, .ref m42, .ref m3, .ref m4, .int 0, .int 0, .ref m5, .ref m6, .ref m7, .ref m8, .ref m9, .ref m10, .ref m11, .ref m12, .ref m13, .ref m14, .ref m15, .ref m16, .ref m17, .ref m18, .ref m19, .int 0, .ref m20, .int 0, .ref m21, .int 0, .int 0, .int 0, .int 0, .int 0, .int 0, .int 0, .ref m22, .int 0, .int 0, .ref m23, .ref m24, .ref m25, .ref m26, .int 0, .ref m27, .int 0, .ref m28, .int 0, .ref m29, .ref m30, .int (-1), .int 0, .int 0, .ref m31, .ref m32, .ref m33, .ref m34, .ref m35, .ref m36, .ref m37, .ref m38, .ref m39, .int 0, .ref m40, .int 0, .ref m41])), (m1, .inl (ax 0, 400, .inl (upd (upd (fun _ => 0) 0 z_10) 1 z_18)))] H_21 := hP
  have hD : va_D A [(m0, .inr (11, [.int 0, .int 2, .ref m1, .int 0, .int 0, .ref m2, .int 0, .int 0, .int 0, .int 0, .int 0, .ref m42, .ref m3, .ref m4, .int 0, .int 0, .ref m5, .ref m6, .ref m7, .ref m8, .ref m9, .ref m10, .ref m11, .ref m12, .ref m13, .ref m14, .ref m15, .ref m16, .ref m17, .ref m18, .ref m19, .int 0, .ref m20, .int 0, .ref m21, .int 0, .int 0, .int 0, .int 0, .int 0, .int 0, .int 0, .ref m22, .int 0, .int 0, .ref m23, .ref m24, .ref m25, .ref m26, .int 0, .ref m27, .int 0, .ref m28, .int 0, .ref m29, .ref m30, .int (-1), .int 0, .int 0, .ref m31, .ref m32, .ref m33, .ref m34, .ref m35, .ref m36, .ref m37, .ref m38, .ref m39, .int 0, .ref m40, .int 0, .ref m41])), (m1, .inl (ax 0, 400, .inl (upd (upd (fun _ => 0) 0 z_10) 1 z_18)))] := hD
  refine lv_iinc (v := 2) (lv' := [(4, .int 2), (0, .ref m0), (1, .long w), (3, .int 2)]) hx hb d_Model_type_70 hl1 (k := 0) rfl (by decide) (by decide) rfl (fun ls hl1 => ?_)
  refine lv_goto (tgt := 33) hx hb d_Model_type_73 (by decide) ?_
  refine lv_iload hx hb d_Model_type_33 (lv_at hl1 0 rfl) ?_
  refine lv_iload_n hx hb d_Model_type_35 rfl (lv_at hl1 3 rfl) ?_
  refine lv_icmp_ge (tgt := 76) hx hb d_Model_type_36 (by decide) (fun c_22 => ?_) (fun c_22 => ?_)
  rotate_left
  · first | exact absurd c_22 (by decide) | exact absurd (by decide) c_22
  refine lv_iconst (v := 1) hx hb d_Model_type_76 (by decide) ?_
  exact W.zret (v := 1) hx hb hr rfl (fun t ht hW => ⟨⟨1, fun _ => 0, rfl, rfl, trivial⟩, hS.F ht⟩) hS.2.2 d_Model_type_77
set_option maxHeartbeats 4000000 in
set_option maxRecDepth 100000 in
theorem c_Model_type_3 (l : Launch) (D : va_G) (ax : Nat → ClassId) (m0 m1 m2 m3 m4 m5 m6 m7 m8 m9 m10 m11 m12 m13 m14 m15 m16 m17 m18 m19 m20 m21 m22 m23 m24 m25 m26 m27 m28 m29 m30 m31 m32 m33 m34 m35 m36 m37 m38 m39 m40 m41 m42 : Nat) (w : Int64) (sz : Nat) : Met l y_Model_type (xws (.code y_Model_type b_Model_type 5 (some .boolean))) ({ frames := 10, cells := 0, slots := 0, locals := 400 }) (va_Pc [.ref m0, .long w, .int 3] (xo D ax [(m0, .inr (11, [.int 0, .int 0, .ref m1, .int 0, .int 0, .ref m2, .int 0, .int 0, .int 0, .int 0, .int 0, .ref m42, .ref m3, .ref m4, .int 0, .int 0, .ref m5, .ref m6, .ref m7, .ref m8, .ref m9, .ref m10, .ref m11, .ref m12, .ref m13, .ref m14, .ref m15, .ref m16, .ref m17, .ref m18, .ref m19, .int 0, .ref m20, .int 0, .ref m21, .int 0, .int 0, .int 0, .int 0, .int 0, .int 0, .int 0, .ref m22, .int 0, .int 0, .ref m23, .ref m24, .ref m25, .ref m26, .int 0, .ref m27, .int 0, .ref m28, .int 0, .ref m29, .ref m30, .int (-1), .int 0, .int 0, .ref m31, .ref m32, .ref m33, .ref m34, .ref m35, .ref m36, .ref m37, .ref m38, .ref m39, .int 0, .ref m40, .int 0, .ref m41])), (m1, .inl (ax 0, 400, .inl (fun _ => 0)))] sz)) ((va_Qi (fun (r : Int32) (u : Nat → Nat) => r = 1) (fun (_ : Nat → Nat) (_ : State) => True) (va_A [(m0, .inr (11, [.int 0, .int 0, .ref m1, .int 0, .int 0, .ref m2, .int 0, .int 0, .int 0, .int 0, .int 0, .ref m42, .ref m3, .ref m4, .int 0, .int 0, .ref m5, .ref m6, .ref m7, .ref m8, .ref m9, .ref m10, .ref m11, .ref m12, .ref m13, .ref m14, .ref m15, .ref m16, .ref m17, .ref m18, .ref m19, .int 0, .ref m20, .int 0, .ref m21, .int 0, .int 0, .int 0, .int 0, .int 0, .int 0, .int 0, .ref m22, .int 0, .int 0, .ref m23, .ref m24, .ref m25, .ref m26, .int 0, .ref m27, .int 0, .ref m28, .int 0, .ref m29, .ref m30, .int (-1), .int 0, .int 0, .ref m31, .ref m32, .ref m33, .ref m34, .ref m35, .ref m36, .ref m37, .ref m38, .ref m39, .int 0, .ref m40, .int 0, .ref m41])), (m1, .inl (ax 0, 400, .inl (fun _ => 0)))] sz))) 0 0 (va_A [(m0, .inr (11, [.int 0, .int 0, .ref m1, .int 0, .int 0, .ref m2, .int 0, .int 0, .int 0, .int 0, .int 0, .ref m42, .ref m3, .ref m4, .int 0, .int 0, .ref m5, .ref m6, .ref m7, .ref m8, .ref m9, .ref m10, .ref m11, .ref m12, .ref m13, .ref m14, .ref m15, .ref m16, .ref m17, .ref m18, .ref m19, .int 0, .ref m20, .int 0, .ref m21, .int 0, .int 0, .int 0, .int 0, .int 0, .int 0, .int 0, .ref m22, .int 0, .int 0, .ref m23, .ref m24, .ref m25, .ref m26, .int 0, .ref m27, .int 0, .ref m28, .int 0, .ref m29, .ref m30, .int (-1), .int 0, .int 0, .ref m31, .ref m32, .ref m33, .ref m34, .ref m35, .ref m36, .ref m37, .ref m38, .ref m39, .int 0, .ref m40, .int 0, .ref m41])), (m1, .inl (ax 0, 400, .inl (fun _ => 0)))] sz) := by
  refine Met.ofW (cc := b_Model_type) (maxL := 5) (ret := (some .boolean)) (by decide) rfl ?_
  intro p e s m args below meth c s₁ B hml hv
  obtain ⟨rfl, hsz, hP, hK, hD0⟩ := hv
  have hx := B.exec
  have hb := B.bytes
  have hr := B.returns
  have hts := xw_hts B.pre
  have hown : s.vm.findClass R_Model = some m.cls := findClass_of_methodNamed B.named
  have hlocks := B.notSynchronized
  subst hsz
  have hD := hD0.self (sz := s.heap.size)
  have hN := xz_entry hP
  generalize hAe : va_A [(m0, .inr (11, [.int 0, .int 0, .ref m1, .int 0, .int 0, .ref m2, .int 0, .int 0, .int 0, .int 0, .int 0, .ref m42, .ref m3, .ref m4, .int 0, .int 0, .ref m5, .ref m6, .ref m7, .ref m8, .ref m9, .ref m10, .ref m11, .ref m12, .ref m13, .ref m14, .ref m15, .ref m16, .ref m17, .ref m18, .ref m19, .int 0, .ref m20, .int 0, .ref m21, .int 0, .int 0, .int 0, .int 0, .int 0, .int 0, .int 0, .ref m22, .int 0, .int 0, .ref m23, .ref m24, .ref m25, .ref m26, .int 0, .ref m27, .int 0, .ref m28, .int 0, .ref m29, .ref m30, .int (-1), .int 0, .int 0, .ref m31, .ref m32, .ref m33, .ref m34, .ref m35, .ref m36, .ref m37, .ref m38, .ref m39, .int 0, .ref m40, .int 0, .ref m41])), (m1, .inl (ax 0, 400, .inl (fun _ => 0)))] s.heap.size = A at hD hN ⊢
  have hA : ∀ q : Nat, s.heap.size ≤ q → A q := fun q h => by rw [← hAe]; exact Or.inr h
  have hS : va_S A s.heap s.heap [] := va_S.rf
  have hl0 := lv_entry ([.ref m0, .long w, .int 3]) (n := 5) (Nat.le_of_ble_eq_true rfl)
  rw [lg_entry_eq]
  generalize (lg_sl ([.ref m0, .long w, .int 3]) ++ List.replicate (5 - (lg_sl ([.ref m0, .long w, .int 3])).length) Slot.unset).toArray = ls at hl0 ⊢
  have hl1 : lv_has ls 5 [(0, .ref m0), (1, .long w), (3, .int 3)] := hl0
  refine lv_aload_n hx hb d_Model_type_0 rfl (lv_at hl1 0 rfl) ?_
  refine lv_iconst (v := 0) hx hb d_Model_type_1 (by decide) ?_
  refine va_put (D := D) (ci := 11) (v := .int 0) (ty := .int) (C := R_Model) (T := F_Model) (N := 72) hx hb hts i_Model t_Model t_Model_ok n_Model hown hK.1 hP hD hS 0 rfl rfl 0 (by decide) (hts _ wd_1036) (fun _ h9 => h9) rfl (by decide +kernel) rfl rfl (Nat.le_of_ble_eq_true rfl) d_Model_type_2 (fun H_1 locs hP hD hS => ?_)
  have hP : va_P D classes [(m0, .inr (11, [.int 0, .int 0, .ref m1, .int 0, .int 0, .ref m2, .int 0, .int 0, .int 0, .int 0, .int 0, .ref m42, .ref m3, .ref m4, .int 0, .int 0, .ref m5, .ref m6, .ref m7, .ref m8, .ref m9, .ref m10, .ref m11, .ref m12, .ref m13, .ref m14, .ref m15, .ref m16, .ref m17, .ref m18, .ref m19, .int 0, .ref m20, .int 0, .ref m21, .int 0, .int 0, .int 0, .int 0, .int 0, .int 0, .int 0, .ref m22, .int 0, .int 0, .ref m23, .ref m24, .ref m25, .ref m26, .int 0, .ref m27, .int 0, .ref m28, .int 0, .ref m29, .ref m30, .int (-1), .int 0, .int 0, .ref m31, .ref m32, .ref m33, .ref m34, .ref m35, .ref m36, .ref m37, .ref m38, .ref m39, .int 0, .ref m40, .int 0, .ref m41])), (m1, .inl (ax 0, 400, .inl (fun _ => 0)))] H_1 := hP
  have hD : va_D A [(m0, .inr (11, [.int 0, .int 0, .ref m1, .int 0, .int 0, .ref m2, .int 0, .int 0, .int 0, .int 0, .int 0, .ref m42, .ref m3, .ref m4, .int 0, .int 0, .ref m5, .ref m6, .ref m7, .ref m8, .ref m9, .ref m10, .ref m11, .ref m12, .ref m13, .ref m14, .ref m15, .ref m16, .ref m17, .ref m18, .ref m19, .int 0, .ref m20, .int 0, .ref m21, .int 0, .int 0, .int 0, .int 0, .int 0, .int 0, .int 0, .ref m22, .int 0, .int 0, .ref m23, .ref m24, .ref m25, .ref m26, .int 0, .ref m27, .int 0, .ref m28, .int 0, .ref m29, .ref m30, .int (-1), .int 0, .int 0, .ref m31, .ref m32, .ref m33, .ref m34, .ref m35, .ref m36, .ref m37, .ref m38, .ref m39, .int 0, .ref m40, .int 0, .ref m41])), (m1, .inl (ax 0, 400, .inl (fun _ => 0)))] := hD
  refine lv_iload_n hx hb d_Model_type_5 rfl (lv_at hl1 2 rfl) ?_
  refine lv_iconst (v := 1) hx hb d_Model_type_6 (by decide) ?_
  refine lv_icmp_lt (tgt := 28) hx hb d_Model_type_7 (by decide) (fun c_2 => ?_) (fun c_2 => ?_)
  · first | exact absurd c_2 (by decide) | exact absurd (by decide) c_2
  refine lv_iload_n hx hb d_Model_type_10 rfl (lv_at hl1 2 rfl) ?_
  refine lv_bipush (v := 8) hx hb d_Model_type_11 (by decide) ?_
  refine lv_icmp_gt (tgt := 28) hx hb d_Model_type_13 (by decide) (fun c_3 => ?_) (fun c_3 => ?_)
  · first | exact absurd c_3 (by decide) | exact absurd (by decide) c_3
  refine lv_aload_n hx hb d_Model_type_16 rfl (lv_at hl1 0 rfl) ?_
  refine va_get (D := D) (ci := 11) (v := .int 0) (C := R_Model) (T := F_Model) (N := 72) hx hb hts i_Model hown hK.1 hP 0 rfl rfl 1 (by decide) (hts _ wd_1037) (fun _ h9 => h9) rfl d_Model_type_17 ?_
  refine lv_iload_n hx hb d_Model_type_20 rfl (lv_at hl1 2 rfl) ?_
  refine lv_iadd hx hb d_Model_type_21 ?_
  refine lv_topi (fun z_4 ez_4 => ?_)
  have ez_4 : z_4 = 3 := ez_4.trans (by first | rfl | decide)
  subst ez_4
  refine lv_sipush (v := 400) hx hb d_Model_type_22 (by decide) ?_
  refine lv_icmp_le (tgt := 30) hx hb d_Model_type_25 (by decide) (fun c_5 => ?_) (fun c_5 => ?_)
  rotate_left
  · first | exact absurd c_5 (by decide) | exact absurd (by decide) c_5
  refine lv_iconst (v := 0) hx hb d_Model_type_30 (by decide) ?_
  refine lv_istore (lv' := [(4, .int 0), (0, .ref m0), (1, .long w), (3, .int 3)]) hx hb d_Model_type_31 hl1 (by decide) rfl (fun ls hl1 => ?_)
  refine lv_iload hx hb d_Model_type_33 (lv_at hl1 0 rfl) ?_
  refine lv_iload_n hx hb d_Model_type_35 rfl (lv_at hl1 3 rfl) ?_
  refine lv_icmp_ge (tgt := 76) hx hb d_Model_type_36 (by decide) (fun c_6 => ?_) (fun c_6 => ?_)
  · first | exact absurd c_6 (by decide) | exact absurd (by decide) c_6
  refine lv_aload_n hx hb d_Model_type_39 rfl (lv_at hl1 1 rfl) ?_
  refine va_get (D := D) (ci := 11) (v := .ref m1) (C := R_Model) (T := F_Model) (N := 72) hx hb hts i_Model hown hK.1 hP 0 rfl rfl 2 (by decide) (hts _ wd_1038) (fun _ h9 => h9) rfl d_Model_type_40 ?_
  refine lv_aload_n hx hb d_Model_type_43 rfl (lv_at hl1 1 rfl) ?_
  refine va_get (D := D) (ci := 11) (v := .int 0) (C := R_Model) (T := F_Model) (N := 72) hx hb hts i_Model hown hK.1 hP 0 rfl rfl 1 (by decide) (hts _ wd_1037) (fun _ h9 => h9) rfl d_Model_type_44 ?_
  refine lv_lload_n hx hb d_Model_type_47 rfl (lv_at hl1 2 rfl) ?_
  refine lv_bipush (v := 8) hx hb d_Model_type_48 (by decide) ?_
  refine lv_iload hx hb d_Model_type_50 (lv_at hl1 0 rfl) ?_
  refine lv_imul hx hb d_Model_type_52 ?_
  refine lv_topi (fun z_7 ez_7 => ?_)
  have ez_7 : z_7 = 0 := ez_7.trans (by first | rfl | decide)
  subst ez_7
  refine lv_lshr hx hb d_Model_type_53 rfl ?_
  refine lv_topl (fun z_8 ez_8 => ?_)
  refine lv_ldc2 (v := 255) hx hb hown (hts _ wd_1262) d_Model_type_54 ?_
  refine lv_land hx hb d_Model_type_57 ?_
  refine lv_topl (fun z_9 ez_9 => ?_)
  refine lv_l2i hx hb d_Model_type_58 rfl ?_
  refine lv_topi (fun z_10 ez_10 => ?_)
  refine va_iast hx hb hK.1 hP hD hS 1 0 rfl rfl (by unfold vp_in; decide) d_Model_type_59 (fun H_11 locs hP hD hS => ?_)
  have hP : va_P D classes [(m0, .inr (11, [.int 0, .int 0, .ref m1, .int 0, .int 0, .ref m2, .int 0, .int 0, .int 0, .int 0, .int 0, .ref m42, .ref m3, .ref m4, .int 0, .int 0, .ref m5, .ref m6, .ref m7, .ref m8, .ref m9, .ref m10, .ref m11, .ref m12, .ref m13, .ref m14, .ref m15, .ref m16, .ref m17, .ref m18, .ref m19, .int 0, .ref m20, .int 0, .ref m21, .int 0, .int 0, .int 0, .int 0, .int 0, .int 0, .int 0, .ref m22, .int 0, .int 0, .ref m23, .ref m24, .ref m25, .ref m26, .int 0, .ref m27, .int 0, .ref m28, .int 0, .ref m29, .ref m30, .int (-1), .int 0, .int 0, .ref m31, .ref m32, .ref m33, .ref m34, .ref m35, .ref m36, .ref m37, .ref m38, .ref m39, .int 0, .ref m40, .int 0, .ref m41])), (m1, .inl (ax 0, 400, .inl (upd (fun _ => 0) 0 z_10)))] H_11 := hP
  have hD : va_D A [(m0, .inr (11, [.int 0, .int 0, .ref m1, .int 0, .int 0, .ref m2, .int 0, .int 0, .int 0, .int 0, .int 0, .ref m42, .ref m3, .ref m4, .int 0, .int 0, .ref m5, .ref m6, .ref m7, .ref m8, .ref m9, .ref m10, .ref m11, .ref m12, .ref m13, .ref m14, .ref m15, .ref m16, .ref m17, .ref m18, .ref m19, .int 0, .ref m20, .int 0, .ref m21, .int 0, .int 0, .int 0, .int 0, .int 0, .int 0, .int 0, .ref m22, .int 0, .int 0, .ref m23, .ref m24, .ref m25, .ref m26, .int 0, .ref m27, .int 0, .ref m28, .int 0, .ref m29, .ref m30, .int (-1), .int 0, .int 0, .ref m31, .ref m32, .ref m33, .ref m34, .ref m35, .ref m36, .ref m37, .ref m38, .ref m39, .int 0, .ref m40, .int 0, .ref m41])), (m1, .inl (ax 0, 400, .inl (upd (fun _ => 0) 0 z_10)))] := hD
  refine lv_aload_n hx hb d_Model_type_60 rfl (lv_at hl1 1 rfl) ?_
  refine lv_dup hx hb d_Model_type_61 rfl ?_
  refine va_get (D := D) (ci := 11) (v := .int 0) (C := R_Model) (T := F_Model) (N := 72) hx hb hts i_Model hown hK.1 hP 0 rfl rfl 1 (by decide) (hts _ wd_1037) (fun _ h9 => h9) rfl d_Model_type_62 ?_
  refine lv_iconst (v := 1) hx hb d_Model_type_65 (by decide) ?_
  refine lv_iadd hx hb d_Model_type_66 ?_
  refine lv_topi (fun z_12 ez_12 => ?_)
  have ez_12 : z_12 = 1 := ez_12.trans (by first | rfl | decide)
  subst ez_12
  refine va_put (D := D) (ci := 11) (v := .int 1) (ty := .int) (C := R_Model) (T := F_Model) (N := 72) hx hb hts i_Model t_Model t_Model_ok n_Model hown hK.1 hP hD hS 0 rfl rfl 1 (by decide) (hts _ wd_1037) (fun _ h9 => h9) rfl (by decide +kernel) rfl rfl (Nat.le_of_ble_eq_true rfl) d_Model_type_67 (fun H_13 locs hP hD hS => ?_)
  have hP : va_P D classes [(m0, .inr (11, [.int 0, .int 1, .ref m1, .int 0, .int 0, .ref m2, .int 0, .int 0, .int 0, .int 0, .int 0, .ref m42, .ref m3, .ref m4, .int 0, .int 0, .ref m5, .ref m6, .ref m7, .ref m8, .ref m9, .ref m10, .ref m11, .ref m12, .ref m13, .ref m14, .ref m15, .ref m16, .ref m17, .ref m18, .ref m19, .int 0, .ref m20, .int 0, .ref m21, .int 0, .int 0, .int 0, .int 0, .int 0, .int 0, .int 0, .ref m22, .int 0, .int 0, .ref m23, .ref m24, .ref m25, .ref m26, .int 0, .ref m27, .int 0, .ref m28, .int 0, .ref m29, .ref m30, .int (-1), .int 0, .int 0, .ref m31, .ref m32, .ref m33, .ref m34, .ref m35, .ref m36, .ref m37, .ref m38, .ref m39, .int 0, .ref m40, .int 0, .ref m41])), (m1, .inl (ax 0, 400, .inl (upd (fun _ => 0) 0 z_10)))] H_13 := hP
  have hD : va_D A [(m0, .inr (11, [.int 0, .int 1, .ref m1, .int 0, .int 0, .ref m2, .int 0, .int 0, .int 0, .int 0, .int 0, .ref m42, .ref m3, .ref m4, .int 0, .int 0, .ref m5, .ref m6, .ref m7, .ref m8, .ref m9, .ref m10, .ref m11, .ref m12, .ref m13, .ref m14, .ref m15, .ref m16, .ref m17, .ref m18, .ref m19, .int 0, .ref m20, .int 0, .ref m21, .int 0, .int 0, .int 0, .int 0, .int 0, .int 0, .int 0, .ref m22, .int 0, .int 0, .ref m23, .ref m24, .ref m25, .ref m26, .int 0, .ref m27, .int 0, .ref m28, .int 0, .ref m29, .ref m30, .int (-1), .int 0, .int 0, .ref m31, .ref m32, .ref m33, .ref m34, .ref m35, .ref m36, .ref m37, .ref m38, .ref m39, .int 0, .ref m40, .int 0, .ref m41])), (m1, .inl (ax 0, 400, .inl (upd (fun _ => 0) 0 z_10)))] := hD
  refine lv_iinc (v := 1) (lv' := [(4, .int 1), (0, .ref m0), (1, .long w), (3, .int 3)]) hx hb d_Model_type_70 hl1 (k := 0) rfl (by decide) (by decide) rfl (fun ls hl1 => ?_)
  refine lv_goto (tgt := 33) hx hb d_Model_type_73 (by decide) ?_
  refine lv_iload hx hb d_Model_type_33 (lv_at hl1 0 rfl) ?_
  refine lv_iload_n hx hb d_Model_type_35 rfl (lv_at hl1 3 rfl) ?_
  refine lv_icmp_ge (tgt := 76) hx hb d_Model_type_36 (by decide) (fun c_14 => ?_) (fun c_14 => ?_)
  · first | exact absurd c_14 (by decide) | exact absurd (by decide) c_14
  refine lv_aload_n hx hb d_Model_type_39 rfl (lv_at hl1 1 rfl) ?_
  refine va_get (D := D) (ci := 11) (v := .ref m1) (C := R_Model) (T := F_Model) (N := 72) hx hb hts i_Model hown hK.1 hP 0 rfl rfl 2 (by decide) (hts _ wd_1038) (fun _ h9 => h9) rfl d_Model_type_40 ?_
  refine lv_aload_n hx hb d_Model_type_43 rfl (lv_at hl1 1 rfl) ?_
  refine va_get (D := D) (ci := 11) (v := .int 1) (C := R_Model) (T := F_Model) (N := 72) hx hb hts i_Model hown hK.1 hP 0 rfl rfl 1 (by decide) (hts _ wd_1037) (fun _ h9 => h9) rfl d_Model_type_44 ?_
  refine lv_lload_n hx hb d_Model_type_47 rfl (lv_at hl1 2 rfl) ?_
  refine lv_bipush (v := 8) hx hb d_Model_type_48 (by decide) ?_
  refine lv_iload hx hb d_Model_type_50 (lv_at hl1 0 rfl) ?_
  refine lv_imul hx hb d_Model_type_52 ?_
  refine lv_topi (fun z_15 ez_15 => ?_)
  have ez_15 : z_15 = 8 := ez_15.trans (by first | rfl | decide)
  subst ez_15
  refine lv_lshr hx hb d_Model_type_53 rfl ?_
  refine lv_topl (fun z_16 ez_16 => ?_)
  refine lv_ldc2 (v := 255) hx hb hown (hts _ wd_1262) d_Model_type_54 ?_
  refine lv_land hx hb d_Model_type_57 ?_
  refine lv_topl (fun z_17 ez_17 => ?_)
  refine lv_l2i hx hb d_Model_type_58 rfl ?_
  refine lv_topi (fun z_18 ez_18 => ?_)
  refine va_iast hx hb hK.1 hP hD hS 1 0 rfl rfl (by unfold vp_in; decide) d_Model_type_59 (fun H_19 locs hP hD hS => ?_)
  have hP : va_P D classes [(m0, .inr (11, [.int 0, .int 1, .ref m1, .int 0, .int 0, .ref m2, .int 0, .int 0, .int 0, .int 0, .int 0, .ref m42, .ref m3, .ref m4, .int 0, .int 0, .ref m5, .ref m6, .ref m7, .ref m8, .ref m9, .ref m10, .ref m11, .ref m12, .ref m13, .ref m14, .ref m15, .ref m16, .ref m17, .ref m18, .ref m19, .int 0, .ref m20, .int 0, .ref m21, .int 0, .int 0, .int 0, .int 0, .int 0, .int 0, .int 0, .ref m22, .int 0, .int 0, .ref m23, .ref m24, .ref m25, .ref m26, .int 0, .ref m27, .int 0, .ref m28, .int 0, .ref m29, .ref m30, .int (-1), .int 0, .int 0, .ref m31, .ref m32, .ref m33, .ref m34, .ref m35, .ref m36, .ref m37, .ref m38, .ref m39, .int 0, .ref m40, .int 0, .ref m41])), (m1, .inl (ax 0, 400, .inl (upd (upd (fun _ => 0) 0 z_10) 1 z_18)))] H_19 := hP
  have hD : va_D A [(m0, .inr (11, [.int 0, .int 1, .ref m1, .int 0, .int 0, .ref m2, .int 0, .int 0, .int 0, .int 0, .int 0, .ref m42, .ref m3, .ref m4, .int 0, .int 0, .ref m5, .ref m6, .ref m7, .ref m8, .ref m9, .ref m10, .ref m11, .ref m12, .ref m13, .ref m14, .ref m15, .ref m16, .ref m17, .ref m18, .ref m19, .int 0, .ref m20, .int 0, .ref m21, .int 0, .int 0, .int 0, .int 0, .int 0, .int 0, .int 0, .ref m22, .int 0, .int 0, .ref m23, .ref m24, .ref m25, .ref m26, .int 0, .ref m27, .int 0, .ref m28, .int 0, .ref m29, .ref m30, .int (-1), .int 0, .int 0, .ref m31, .ref m32, .ref m33, .ref m34, .ref m35, .ref m36, .ref m37, .ref m38, .ref m39, .int 0, .ref m40, .int 0, .ref m41])), (m1, .inl (ax 0, 400, .inl (upd (upd (fun _ => 0) 0 z_10) 1 z_18)))] := hD
  refine lv_aload_n hx hb d_Model_type_60 rfl (lv_at hl1 1 rfl) ?_
  refine lv_dup hx hb d_Model_type_61 rfl ?_
  refine va_get (D := D) (ci := 11) (v := .int 1) (C := R_Model) (T := F_Model) (N := 72) hx hb hts i_Model hown hK.1 hP 0 rfl rfl 1 (by decide) (hts _ wd_1037) (fun _ h9 => h9) rfl d_Model_type_62 ?_
  refine lv_iconst (v := 1) hx hb d_Model_type_65 (by decide) ?_
  refine lv_iadd hx hb d_Model_type_66 ?_
  refine lv_topi (fun z_20 ez_20 => ?_)
  have ez_20 : z_20 = 2 := ez_20.trans (by first | rfl | decide)
  subst ez_20
  refine va_put (D := D) (ci := 11) (v := .int 2) (ty := .int) (C := R_Model) (T := F_Model) (N := 72) hx hb hts i_Model t_Model t_Model_ok n_Model hown hK.1 hP hD hS 0 rfl rfl 1 (by decide) (hts _ wd_1037) (fun _ h9 => h9) rfl (by decide +kernel) rfl rfl (Nat.le_of_ble_eq_true rfl) d_Model_type_67 (fun H_21 locs hP hD hS => ?_)
  have hP : va_P D classes [(m0, .inr (11, [.int 0, .int 2, .ref m1, .int 0, .int 0, .ref m2, .int 0, .int 0, .int 0, .int 0, .int 0, .ref m42, .ref m3, .ref m4, .int 0, .int 0, .ref m5, .ref m6, .ref m7, .ref m8, .ref m9, .ref m10, .ref m11, .ref m12, .ref m13, .ref m14, .ref m15, .ref m16, .ref m17, .ref m18, .ref m19, .int 0, .ref m20, .int 0, .ref m21, .int 0, .int 0, .int 0, .int 0, .int 0, .int 0, .int 0, .ref m22, .int 0, .int 0, .ref m23, .ref m24, .ref m25, .ref m26, .int 0, .ref m27, .int 0, .ref m28, .int 0, .ref m29, .ref m30, .int (-1), .int 0, .int 0, .ref m31, .ref m32, .ref m33, .ref m34, .ref m35, .ref m36, .ref m37, .ref m38, .ref m39, .int 0, .ref m40, .int 0, .ref m41])), (m1, .inl (ax 0, 400, .inl (upd (upd (fun _ => 0) 0 z_10) 1 z_18)))] H_21 := hP
  have hD : va_D A [(m0, .inr (11, [.int 0, .int 2, .ref m1, .int 0, .int 0, .ref m2, .int 0, .int 0, .int 0, .int 0, .int 0, .ref m42, .ref m3, .ref m4, .int 0, .int 0, .ref m5, .ref m6, .ref m7, .ref m8, .ref m9, .ref m10, .ref m11, .ref m12, .ref m13, .ref m14, .ref m15, .ref m16, .ref m17, .ref m18, .ref m19, .int 0, .ref m20, .int 0, .ref m21, .int 0, .int 0, .int 0, .int 0, .int 0, .int 0, .int 0, .ref m22, .int 0, .int 0, .ref m23, .ref m24, .ref m25, .ref m26, .int 0, .ref m27, .int 0, .ref m28, .int 0, .ref m29, .ref m30, .int (-1), .int 0, .int 0, .ref m31, .ref m32, .ref m33, .ref m34, .ref m35, .ref m36, .ref m37, .ref m38, .ref m39, .int 0, .ref m40, .int 0, .ref m41])), (m1, .inl (ax 0, 400, .inl (upd (upd (fun _ => 0) 0 z_10) 1 z_18)))] := hD
  refine lv_iinc (v := 2) (lv' := [(4, .int 2), (0, .ref m0), (1, .long w), (3, .int 3)]) hx hb d_Model_type_70 hl1 (k := 0) rfl (by decide) (by decide) rfl (fun ls hl1 => ?_)
  refine lv_goto (tgt := 33) hx hb d_Model_type_73 (by decide) ?_
  refine lv_iload hx hb d_Model_type_33 (lv_at hl1 0 rfl) ?_
  refine lv_iload_n hx hb d_Model_type_35 rfl (lv_at hl1 3 rfl) ?_
  refine lv_icmp_ge (tgt := 76) hx hb d_Model_type_36 (by decide) (fun c_22 => ?_) (fun c_22 => ?_)
  · first | exact absurd c_22 (by decide) | exact absurd (by decide) c_22
  refine lv_aload_n hx hb d_Model_type_39 rfl (lv_at hl1 1 rfl) ?_
  refine va_get (D := D) (ci := 11) (v := .ref m1) (C := R_Model) (T := F_Model) (N := 72) hx hb hts i_Model hown hK.1 hP 0 rfl rfl 2 (by decide) (hts _ wd_1038) (fun _ h9 => h9) rfl d_Model_type_40 ?_
  refine lv_aload_n hx hb d_Model_type_43 rfl (lv_at hl1 1 rfl) ?_
  refine va_get (D := D) (ci := 11) (v := .int 2) (C := R_Model) (T := F_Model) (N := 72) hx hb hts i_Model hown hK.1 hP 0 rfl rfl 1 (by decide) (hts _ wd_1037) (fun _ h9 => h9) rfl d_Model_type_44 ?_
  refine lv_lload_n hx hb d_Model_type_47 rfl (lv_at hl1 2 rfl) ?_
  refine lv_bipush (v := 8) hx hb d_Model_type_48 (by decide) ?_
  refine lv_iload hx hb d_Model_type_50 (lv_at hl1 0 rfl) ?_
  refine lv_imul hx hb d_Model_type_52 ?_
  refine lv_topi (fun z_23 ez_23 => ?_)
  have ez_23 : z_23 = 16 := ez_23.trans (by first | rfl | decide)
  subst ez_23
  refine lv_lshr hx hb d_Model_type_53 rfl ?_
  refine lv_topl (fun z_24 ez_24 => ?_)
  refine lv_ldc2 (v := 255) hx hb hown (hts _ wd_1262) d_Model_type_54 ?_
  refine lv_land hx hb d_Model_type_57 ?_
  refine lv_topl (fun z_25 ez_25 => ?_)
  refine lv_l2i hx hb d_Model_type_58 rfl ?_
  refine lv_topi (fun z_26 ez_26 => ?_)
  refine va_iast hx hb hK.1 hP hD hS 1 0 rfl rfl (by unfold vp_in; decide) d_Model_type_59 (fun H_27 locs hP hD hS => ?_)
  have hP : va_P D classes [(m0, .inr (11, [.int 0, .int 2, .ref m1, .int 0, .int 0, .ref m2, .int 0, .int 0, .int 0, .int 0, .int 0, .ref m42, .ref m3, .ref m4, .int 0, .int 0, .ref m5, .ref m6, .ref m7, .ref m8, .ref m9, .ref m10, .ref m11, .ref m12, .ref m13, .ref m14, .ref m15, .ref m16, .ref m17, .ref m18, .ref m19, .int 0, .ref m20, .int 0, .ref m21, .int 0, .int 0, .int 0, .int 0, .int 0, .int 0, .int 0, .ref m22, .int 0, .int 0, .ref m23, .ref m24, .ref m25, .ref m26, .int 0, .ref m27, .int 0, .ref m28, .int 0, .ref m29, .ref m30, .int (-1), .int 0, .int 0, .ref m31, .ref m32, .ref m33, .ref m34, .ref m35, .ref m36, .ref m37, .ref m38, .ref m39, .int 0, .ref m40, .int 0, .ref m41])), (m1, .inl (ax 0, 400, .inl (upd (upd (upd (fun _ => 0) 0 z_10) 1 z_18) 2 z_26)))] H_27 := hP
  have hD : va_D A [(m0, .inr (11, [.int 0, .int 2, .ref m1, .int 0, .int 0, .ref m2, .int 0, .int 0, .int 0, .int 0, .int 0, .ref m42, .ref m3, .ref m4, .int 0, .int 0, .ref m5, .ref m6, .ref m7, .ref m8, .ref m9, .ref m10, .ref m11, .ref m12, .ref m13, .ref m14, .ref m15, .ref m16, .ref m17, .ref m18, .ref m19, .int 0, .ref m20, .int 0, .ref m21, .int 0, .int 0, .int 0, .int 0, .int 0, .int 0, .int 0, .ref m22, .int 0, .int 0, .ref m23, .ref m24, .ref m25, .ref m26, .int 0, .ref m27, .int 0, .ref m28, .int 0, .ref m29, .ref m30, .int (-1), .int 0, .int 0, .ref m31, .ref m32, .ref m33, .ref m34, .ref m35, .ref m36, .ref m37, .ref m38, .ref m39, .int 0, .ref m40, .int 0, .ref m41])), (m1, .inl (ax 0, 400, .inl (upd (upd (upd (fun _ => 0) 0 z_10) 1 z_18) 2 z_26)))] := hD
  refine lv_aload_n hx hb d_Model_type_60 rfl (lv_at hl1 1 rfl) ?_
  refine lv_dup hx hb d_Model_type_61 rfl ?_
  refine va_get (D := D) (ci := 11) (v := .int 2) (C := R_Model) (T := F_Model) (N := 72) hx hb hts i_Model hown hK.1 hP 0 rfl rfl 1 (by decide) (hts _ wd_1037) (fun _ h9 => h9) rfl d_Model_type_62 ?_
  refine lv_iconst (v := 1) hx hb d_Model_type_65 (by decide) ?_
  refine lv_iadd hx hb d_Model_type_66 ?_
  refine lv_topi (fun z_28 ez_28 => ?_)
  have ez_28 : z_28 = 3 := ez_28.trans (by first | rfl | decide)
  subst ez_28
  refine va_put (D := D) (ci := 11) (v := .int 3) (ty := .int) (C := R_Model) (T := F_Model) (N := 72) hx hb hts i_Model t_Model t_Model_ok n_Model hown hK.1 hP hD hS 0 rfl rfl 1 (by decide) (hts _ wd_1037) (fun _ h9 => h9) rfl (by decide +kernel) rfl rfl (Nat.le_of_ble_eq_true rfl) d_Model_type_67 (fun H_29 locs hP hD hS => ?_)
  have hP : va_P D classes [(m0, .inr (11, [.int 0, .int 3, .ref m1, .int 0, .int 0, .ref m2, .int 0, .int 0, .int 0, .int 0, .int 0, .ref m42, .ref m3, .ref m4, .int 0, .int 0, .ref m5, .ref m6, .ref m7, .ref m8, .ref m9, .ref m10, .ref m11, .ref m12, .ref m13, .ref m14, .ref m15, .ref m16, .ref m17, .ref m18, .ref m19, .int 0, .ref m20, .int 0, .ref m21, .int 0, .int 0, .int 0, .int 0, .int 0, .int 0, .int 0, .ref m22, .int 0, .int 0, .ref m23, .ref m24, .ref m25, .ref m26, .int 0, .ref m27, .int 0, .ref m28, .int 0, .ref m29, .ref m30, .int (-1), .int 0, .int 0, .ref m31, .ref m32, .ref m33, .ref m34, .ref m35, .ref m36, .ref m37, .ref m38, .ref m39, .int 0, .ref m40, .int 0, .ref m41])), (m1, .inl (ax 0, 400, .inl (upd (upd (upd (fun _ => 0) 0 z_10) 1 z_18) 2 z_26)))] H_29 := hP
  have hD : va_D A [(m0, .inr (11, [.int 0, .int 3, .ref m1, .int 0, .int 0, .ref m2, .int 0, .int 0, .int 0, .int 0, .int 0, .ref m42, .ref m3, .ref m4, .int 0, .int 0, .ref m5, .ref m6, .ref m7, .ref m8, .ref m9, .ref m10, .ref m11, .ref m12, .ref m13, .ref m14, .ref m15, .ref m16, .ref m17, .ref m18, .ref m19, .int 0, .ref m20, .int 0, .ref m21, .int 0, .int 0, .int 0, .int 0, .int 0, .int 0, .int 0, .ref m22, .int 0, .int 0, .ref m23, .ref m24, .ref m25, .ref m26, .int 0, .ref m27, .int 0, .ref m28, .int 0, .ref m29, .ref m30, .int (-1), .int 0, .int 0, .ref m31, .ref m32, .ref m33, .ref m34, .ref m35, .ref m36, .ref m37, .ref m38, .ref m39, .int 0, .ref m40, .int 0, .ref m41])), (m1, .inl (ax 0, 400, .inl (upd (upd (upd (fun _ => 0) 0 z_10) 1 z_18) 2 z_26)))] := hD
  refine lv_iinc (v := 3) (lv' := [(4, .int 3), (0, .ref m0), (1, .long w), (3, .int 3)]) hx hb d_Model_type_70 hl1 (k := 0) rfl (by decide) (by decide) rfl (fun ls hl1 => ?_)
  refine lv_goto (tgt := 33) hx hb d_Model_type_73 (by decide) ?_
  refine lv_iload hx hb d_Model_type_33 (lv_at hl1 0 rfl) ?_
  refine lv_iload_n hx hb d_Model_type_35 rfl (lv_at hl1 3 rfl) ?_
  refine lv_icmp_ge (tgt := 76) hx hb d_Model_type_36 (by decide) (fun c_30 => ?_) (fun c_30 => ?_)
  rotate_left
  · first | exact absurd c_30 (by decide) | exact absurd (by decide) c_30
  refine lv_iconst (v := 1) hx hb d_Model_type_76 (by decide) ?_
  exact W.zret (v := 1) hx hb hr rfl (fun t ht hW => ⟨⟨1, fun _ => 0, rfl, rfl, trivial⟩, hS.F ht⟩) hS.2.2 d_Model_type_77
set_option maxHeartbeats 4000000 in
set_option maxRecDepth 100000 in
theorem c_Model_type_4 (l : Launch) (D : va_G) (ax : Nat → ClassId) (m0 m1 m2 m3 m4 m5 m6 m7 m8 m9 m10 m11 m12 m13 m14 m15 m16 m17 m18 m19 m20 m21 m22 m23 m24 m25 m26 m27 m28 m29 m30 m31 m32 m33 m34 m35 m36 m37 m38 m39 m40 m41 m42 : Nat) (w : Int64) (sz : Nat) : Met l y_Model_type (xws (.code y_Model_type b_Model_type 5 (some .boolean))) ({ frames := 10, cells := 0, slots := 0, locals := 400 }) (va_Pc [.ref m0, .long w, .int 4] (xo D ax [(m0, .inr (11, [.int 0, .int 0, .ref m1, .int 0, .int 0, .ref m2, .int 0, .int 0, .int 0, .int 0, .int 0, .ref m42, .ref m3, .ref m4, .int 0, .int 0, .ref m5, .ref m6, .ref m7, .ref m8, .ref m9, .ref m10, .ref m11, .ref m12, .ref m13, .ref m14, .ref m15, .ref m16, .ref m17, .ref m18, .ref m19, .int 0, .ref m20, .int 0, .ref m21, .int 0, .int 0, .int 0, .int 0, .int 0, .int 0, .int 0, .ref m22, .int 0, .int 0, .ref m23, .ref m24, .ref m25, .ref m26, .int 0, .ref m27, .int 0, .ref m28, .int 0, .ref m29, .ref m30, .int (-1), .int 0, .int 0, .ref m31, .ref m32, .ref m33, .ref m34, .ref m35, .ref m36, .ref m37, .ref m38, .ref m39, .int 0, .ref m40, .int 0, .ref m41])), (m1, .inl (ax 0, 400, .inl (fun _ => 0)))] sz)) ((va_Qi (fun (r : Int32) (u : Nat → Nat) => r = 1) (fun (_ : Nat → Nat) (_ : State) => True) (va_A [(m0, .inr (11, [.int 0, .int 0, .ref m1, .int 0, .int 0, .ref m2, .int 0, .int 0, .int 0, .int 0, .int 0, .ref m42, .ref m3, .ref m4, .int 0, .int 0, .ref m5, .ref m6, .ref m7, .ref m8, .ref m9, .ref m10, .ref m11, .ref m12, .ref m13, .ref m14, .ref m15, .ref m16, .ref m17, .ref m18, .ref m19, .int 0, .ref m20, .int 0, .ref m21, .int 0, .int 0, .int 0, .int 0, .int 0, .int 0, .int 0, .ref m22, .int 0, .int 0, .ref m23, .ref m24, .ref m25, .ref m26, .int 0, .ref m27, .int 0, .ref m28, .int 0, .ref m29, .ref m30, .int (-1), .int 0, .int 0, .ref m31, .ref m32, .ref m33, .ref m34, .ref m35, .ref m36, .ref m37, .ref m38, .ref m39, .int 0, .ref m40, .int 0, .ref m41])), (m1, .inl (ax 0, 400, .inl (fun _ => 0)))] sz))) 0 0 (va_A [(m0, .inr (11, [.int 0, .int 0, .ref m1, .int 0, .int 0, .ref m2, .int 0, .int 0, .int 0, .int 0, .int 0, .ref m42, .ref m3, .ref m4, .int 0, .int 0, .ref m5, .ref m6, .ref m7, .ref m8, .ref m9, .ref m10, .ref m11, .ref m12, .ref m13, .ref m14, .ref m15, .ref m16, .ref m17, .ref m18, .ref m19, .int 0, .ref m20, .int 0, .ref m21, .int 0, .int 0, .int 0, .int 0, .int 0, .int 0, .int 0, .ref m22, .int 0, .int 0, .ref m23, .ref m24, .ref m25, .ref m26, .int 0, .ref m27, .int 0, .ref m28, .int 0, .ref m29, .ref m30, .int (-1), .int 0, .int 0, .ref m31, .ref m32, .ref m33, .ref m34, .ref m35, .ref m36, .ref m37, .ref m38, .ref m39, .int 0, .ref m40, .int 0, .ref m41])), (m1, .inl (ax 0, 400, .inl (fun _ => 0)))] sz) := by
  refine Met.ofW (cc := b_Model_type) (maxL := 5) (ret := (some .boolean)) (by decide) rfl ?_
  intro p e s m args below meth c s₁ B hml hv
  obtain ⟨rfl, hsz, hP, hK, hD0⟩ := hv
  have hx := B.exec
  have hb := B.bytes
  have hr := B.returns
  have hts := xw_hts B.pre
  have hown : s.vm.findClass R_Model = some m.cls := findClass_of_methodNamed B.named
  have hlocks := B.notSynchronized
  subst hsz
  have hD := hD0.self (sz := s.heap.size)
  have hN := xz_entry hP
  generalize hAe : va_A [(m0, .inr (11, [.int 0, .int 0, .ref m1, .int 0, .int 0, .ref m2, .int 0, .int 0, .int 0, .int 0, .int 0, .ref m42, .ref m3, .ref m4, .int 0, .int 0, .ref m5, .ref m6, .ref m7, .ref m8, .ref m9, .ref m10, .ref m11, .ref m12, .ref m13, .ref m14, .ref m15, .ref m16, .ref m17, .ref m18, .ref m19, .int 0, .ref m20, .int 0, .ref m21, .int 0, .int 0, .int 0, .int 0, .int 0, .int 0, .int 0, .ref m22, .int 0, .int 0, .ref m23, .ref m24, .ref m25, .ref m26, .int 0, .ref m27, .int 0, .ref m28, .int 0, .ref m29, .ref m30, .int (-1), .int 0, .int 0, .ref m31, .ref m32, .ref m33, .ref m34, .ref m35, .ref m36, .ref m37, .ref m38, .ref m39, .int 0, .ref m40, .int 0, .ref m41])), (m1, .inl (ax 0, 400, .inl (fun _ => 0)))] s.heap.size = A at hD hN ⊢
  have hA : ∀ q : Nat, s.heap.size ≤ q → A q := fun q h => by rw [← hAe]; exact Or.inr h
  have hS : va_S A s.heap s.heap [] := va_S.rf
  have hl0 := lv_entry ([.ref m0, .long w, .int 4]) (n := 5) (Nat.le_of_ble_eq_true rfl)
  rw [lg_entry_eq]
  generalize (lg_sl ([.ref m0, .long w, .int 4]) ++ List.replicate (5 - (lg_sl ([.ref m0, .long w, .int 4])).length) Slot.unset).toArray = ls at hl0 ⊢
  have hl1 : lv_has ls 5 [(0, .ref m0), (1, .long w), (3, .int 4)] := hl0
  refine lv_aload_n hx hb d_Model_type_0 rfl (lv_at hl1 0 rfl) ?_
  refine lv_iconst (v := 0) hx hb d_Model_type_1 (by decide) ?_
  refine va_put (D := D) (ci := 11) (v := .int 0) (ty := .int) (C := R_Model) (T := F_Model) (N := 72) hx hb hts i_Model t_Model t_Model_ok n_Model hown hK.1 hP hD hS 0 rfl rfl 0 (by decide) (hts _ wd_1036) (fun _ h9 => h9) rfl (by decide +kernel) rfl rfl (Nat.le_of_ble_eq_true rfl) d_Model_type_2 (fun H_1 locs hP hD hS => ?_)
  have hP : va_P D classes [(m0, .inr (11, [.int 0, .int 0, .ref m1, .int 0, .int 0, .ref m2, .int 0, .int 0, .int 0, .int 0, .int 0, .ref m42, .ref m3, .ref m4, .int 0, .int 0, .ref m5, .ref m6, .ref m7, .ref m8, .ref m9, .ref m10, .ref m11, .ref m12, .ref m13, .ref m14, .ref m15, .ref m16, .ref m17, .ref m18, .ref m19, .int 0, .ref m20, .int 0, .ref m21, .int 0, .int 0, .int 0, .int 0, .int 0, .int 0, .int 0, .ref m22, .int 0, .int 0, .ref m23, .ref m24, .ref m25, .ref m26, .int 0, .ref m27, .int 0, .ref m28, .int 0, .ref m29, .ref m30, .int (-1), .int 0, .int 0, .ref m31, .ref m32, .ref m33, .ref m34, .ref m35, .ref m36, .ref m37, .ref m38, .ref m39, .int 0, .ref m40, .int 0, .ref m41])), (m1, .inl (ax 0, 400, .inl (fun _ => 0)))] H_1 := hP
  have hD : va_D A [(m0, .inr (11, [.int 0, .int 0, .ref m1, .int 0, .int 0, .ref m2, .int 0, .int 0, .int 0, .int 0, .int 0, .ref m42, .ref m3, .ref m4, .int 0, .int 0, .ref m5, .ref m6, .ref m7, .ref m8, .ref m9, .ref m10, .ref m11, .ref m12, .ref m13, .ref m14, .ref m15, .ref m16, .ref m17, .ref m18, .ref m19, .int 0, .ref m20, .int 0, .ref m21, .int 0, .int 0, .int 0, .int 0, .int 0, .int 0, .int 0, .ref m22, .int 0, .int 0, .ref m23, .ref m24, .ref m25, .ref m26, .int 0, .ref m27, .int 0, .ref m28, .int 0, .ref m29, .ref m30, .int (-1), .int 0, .int 0, .ref m31, .ref m32, .ref m33, .ref m34, .ref m35, .ref m36, .ref m37, .ref m38, .ref m39, .int 0, .ref m40, .int 0, .ref m41])), (m1, .inl (ax 0, 400, .inl (fun _ => 0)))] := hD
  refine lv_iload_n hx hb d_Model_type_5 rfl (lv_at hl1 2 rfl) ?_
  refine lv_iconst (v := 1) hx hb d_Model_type_6 (by decide) ?_
  refine lv_icmp_lt (tgt := 28) hx hb d_Model_type_7 (by decide) (fun c_2 => ?_) (fun c_2 => ?_)
  · first | exact absurd c_2 (by decide) | exact absurd (by decide) c_2
  refine lv_iload_n hx hb d_Model_type_10 rfl (lv_at hl1 2 rfl) ?_
  refine lv_bipush (v := 8) hx hb d_Model_type_11 (by decide) ?_
  refine lv_icmp_gt (tgt := 28) hx hb d_Model_type_13 (by decide) (fun c_3 => ?_) (fun c_3 => ?_)
  · first | exact absurd c_3 (by decide) | exact absurd (by decide) c_3
  refine lv_aload_n hx hb d_Model_type_16 rfl (lv_at hl1 0 rfl) ?_
  refine va_get (D := D) (ci := 11) (v := .int 0) (C := R_Model) (T := F_Model) (N := 72) hx hb hts i_Model hown hK.1 hP 0 rfl rfl 1 (by decide) (hts _ wd_1037) (fun _ h9 => h9) rfl d_Model_type_17 ?_
  refine lv_iload_n hx hb d_Model_type_20 rfl (lv_at hl1 2 rfl) ?_
  refine lv_iadd hx hb d_Model_type_21 ?_
  refine lv_topi (fun z_4 ez_4 => ?_)
  have ez_4 : z_4 = 4 := ez_4.trans (by first | rfl | decide)
  subst ez_4
  refine lv_sipush (v := 400) hx hb d_Model_type_22 (by decide) ?_
  refine lv_icmp_le (tgt := 30) hx hb d_Model_type_25 (by decide) (fun c_5 => ?_) (fun c_5 => ?_)
  rotate_left
  · first | exact absurd c_5 (by decide) | exact absurd (by decide) c_5
  refine lv_iconst (v := 0) hx hb d_Model_type_30 (by decide) ?_
  refine lv_istore (lv' := [(4, .int 0), (0, .ref m0), (1, .long w), (3, .int 4)]) hx hb d_Model_type_31 hl1 (by decide) rfl (fun ls hl1 => ?_)
  refine lv_iload hx hb d_Model_type_33 (lv_at hl1 0 rfl) ?_
  refine lv_iload_n hx hb d_Model_type_35 rfl (lv_at hl1 3 rfl) ?_
  refine lv_icmp_ge (tgt := 76) hx hb d_Model_type_36 (by decide) (fun c_6 => ?_) (fun c_6 => ?_)
  · first | exact absurd c_6 (by decide) | exact absurd (by decide) c_6
  refine lv_aload_n hx hb d_Model_type_39 rfl (lv_at hl1 1 rfl) ?_
  refine va_get (D := D) (ci := 11) (v := .ref m1) (C := R_Model) (T := F_Model) (N := 72) hx hb hts i_Model hown hK.1 hP 0 rfl rfl 2 (by decide) (hts _ wd_1038) (fun _ h9 => h9) rfl d_Model_type_40 ?_
  refine lv_aload_n hx hb d_Model_type_43 rfl (lv_at hl1 1 rfl) ?_
  refine va_get (D := D) (ci := 11) (v := .int 0) (C := R_Model) (T := F_Model) (N := 72) hx hb hts i_Model hown hK.1 hP 0 rfl rfl 1 (by decide) (hts _ wd_1037) (fun _ h9 => h9) rfl d_Model_type_44 ?_
  refine lv_lload_n hx hb d_Model_type_47 rfl (lv_at hl1 2 rfl) ?_
  refine lv_bipush (v := 8) hx hb d_Model_type_48 (by decide) ?_
  refine lv_iload hx hb d_Model_type_50 (lv_at hl1 0 rfl) ?_
  refine lv_imul hx hb d_Model_type_52 ?_
  refine lv_topi (fun z_7 ez_7 => ?_)
  have ez_7 : z_7 = 0 := ez_7.trans (by first | rfl | decide)
  subst ez_7
  refine lv_lshr hx hb d_Model_type_53 rfl ?_
  refine lv_topl (fun z_8 ez_8 => ?_)
  refine lv_ldc2 (v := 255) hx hb hown (hts _ wd_1262) d_Model_type_54 ?_
  refine lv_land hx hb d_Model_type_57 ?_
  refine lv_topl (fun z_9 ez_9 => ?_)
  refine lv_l2i hx hb d_Model_type_58 rfl ?_
  refine lv_topi (fun z_10 ez_10 => ?_)
  refine va_iast hx hb hK.1 hP hD hS 1 0 rfl rfl (by unfold vp_in; decide) d_Model_type_59 (fun H_11 locs hP hD hS => ?_)
  have hP : va_P D classes [(m0, .inr (11, [.int 0, .int 0, .ref m1, .int 0, .int 0, .ref m2, .int 0, .int 0, .int 0, .int 0, .int 0, .ref m42, .ref m3, .ref m4, .int 0, .int 0, .ref m5, .ref m6, .ref m7, .ref m8, .ref m9, .ref m10, .ref m11, .ref m12, .ref m13, .ref m14, .ref m15, .ref m16, .ref m17, .ref m18, .ref m19, .int 0, .ref m20, .int 0, .ref m21, .int 0, .int 0, .int 0, .int 0, .int 0, .int 0, .int 0, .ref m22, .int 0, .int 0, .ref m23, .ref m24, .ref m25, .ref m26, .int 0, .ref m27, .int 0, .ref m28, .int 0, .ref m29, .ref m30, .int (-1), .int 0, .int 0, .ref m31, .ref m32, .ref m33, .ref m34, .ref m35, .ref m36, .ref m37, .ref m38, .ref m39, .int 0, .ref m40, .int 0, .ref m41])), (m1, .inl (ax 0, 400, .inl (upd (fun _ => 0) 0 z_10)))] H_11 := hP
  have hD : va_D A [(m0, .inr (11, [.int 0, .int 0, .ref m1, .int 0, .int 0, .ref m2, .int 0, .int 0, .int 0, .int 0, .int 0, .ref m42, .ref m3, .ref m4, .int 0, .int 0, .ref m5, .ref m6, .ref m7, .ref m8, .ref m9, .ref m10, .ref m11, .ref m12, .ref m13, .ref m14, .ref m15, .ref m16, .ref m17, .ref m18, .ref m19, .int 0, .ref m20, .int 0, .ref m21, .int 0, .int 0, .int 0, .int 0, .int 0, .int 0, .int 0, .ref m22, .int 0, .int 0, .ref m23, .ref m24, .ref m25, .ref m26, .int 0, .ref m27, .int 0, .ref m28, .int 0, .ref m29, .ref m30, .int (-1), .int 0, .int 0, .ref m31, .ref m32, .ref m33, .ref m34, .ref m35, .ref m36, .ref m37, .ref m38, .ref m39, .int 0, .ref m40, .int 0, .ref m41])), (m1, .inl (ax 0, 400, .inl (upd (fun _ => 0) 0 z_10)))] := hD
  refine lv_aload_n hx hb d_Model_type_60 rfl (lv_at hl1 1 rfl) ?_
  refine lv_dup hx hb d_Model_type_61 rfl ?_
  refine va_get (D := D) (ci := 11) (v := .int 0) (C := R_Model) (T := F_Model) (N := 72) hx hb hts i_Model hown hK.1 hP 0 rfl rfl 1 (by decide) (hts _ wd_1037) (fun _ h9 => h9) rfl d_Model_type_62 ?_
  refine lv_iconst (v := 1) hx hb d_Model_type_65 (by decide) ?_
  refine lv_iadd hx hb d_Model_type_66 ?_
  refine lv_topi (fun z_12 ez_12 => ?_)
  have ez_12 : z_12 = 1 := ez_12.trans (by first | rfl | decide)
  subst ez_12
  refine va_put (D := D) (ci := 11) (v := .int 1) (ty := .int) (C := R_Model) (T := F_Model) (N := 72) hx hb hts i_Model t_Model t_Model_ok n_Model hown hK.1 hP hD hS 0 rfl rfl 1 (by decide) (hts _ wd_1037) (fun _ h9 => h9) rfl (by decide +kernel) rfl rfl (Nat.le_of_ble_eq_true rfl) d_Model_type_67 (fun H_13 locs hP hD hS => ?_)
  have hP : va_P D classes [(m0, .inr (11, [.int 0, .int 1, .ref m1, .int 0, .int 0, .ref m2, .int 0, .int 0, .int 0, .int 0, .int 0, .ref m42, .ref m3, .ref m4, .int 0, .int 0, .ref m5, .ref m6, .ref m7, .ref m8, .ref m9, .ref m10, .ref m11, .ref m12, .ref m13, .ref m14, .ref m15, .ref m16, .ref m17, .ref m18, .ref m19, .int 0, .ref m20, .int 0, .ref m21, .int 0, .int 0, .int 0, .int 0, .int 0, .int 0, .int 0, .ref m22, .int 0, .int 0, .ref m23, .ref m24, .ref m25, .ref m26, .int 0, .ref m27, .int 0, .ref m28, .int 0, .ref m29, .ref m30, .int (-1), .int 0, .int 0, .ref m31, .ref m32, .ref m33, .ref m34, .ref m35, .ref m36, .ref m37, .ref m38, .ref m39, .int 0, .ref m40, .int 0, .ref m41])), (m1, .inl (ax 0, 400, .inl (upd (fun _ => 0) 0 z_10)))] H_13 := hP
  have hD : va_D A [(m0, .inr (11, [.int 0, .int 1, .ref m1, .int 0, .int 0, .ref m2, .int 0, .int 0, .int 0, .int 0, .int 0, .ref m42, .ref m3, .ref m4, .int 0, .int 0, .ref m5, .ref m6, .ref m7, .ref m8, .ref m9, .ref m10, .ref m11, .ref m12, .ref m13, .ref m14, .ref m15, .ref m16, .ref m17, .ref m18, .ref m19, .int 0, .ref m20, .int 0, .ref m21, .int 0, .int 0, .int 0, .int 0, .int 0, .int 0, .int 0, .ref m22, .int 0, .int 0, .ref m23, .ref m24, .ref m25, .ref m26, .int 0, .ref m27, .int 0, .ref m28, .int 0, .ref m29, .ref m30, .int (-1), .int 0, .int 0, .ref m31, .ref m32, .ref m33, .ref m34, .ref m35, .ref m36, .ref m37, .ref m38, .ref m39, .int 0, .ref m40, .int 0, .ref m41])), (m1, .inl (ax 0, 400, .inl (upd (fun _ => 0) 0 z_10)))] := hD
  refine lv_iinc (v := 1) (lv' := [(4, .int 1), (0, .ref m0), (1, .long w), (3, .int 4)]) hx hb d_Model_type_70 hl1 (k := 0) rfl (by decide) (by decide) rfl (fun ls hl1 => ?_)
  refine lv_goto (tgt := 33) hx hb d_Model_type_73 (by decide) ?_
  refine lv_iload hx hb d_Model_type_33 (lv_at hl1 0 rfl) ?_
  refine lv_iload_n hx hb d_Model_type_35 rfl (lv_at hl1 3 rfl) ?_
  refine lv_icmp_ge (tgt := 76) hx hb d_Model_type_36 (by decide) (fun c_14 => ?_) (fun c_14 => ?_)
  · first | exact absurd c_14 (by decide) | exact absurd (by decide) c_14
  refine lv_aload_n hx hb d_Model_type_39 rfl (lv_at hl1 1 rfl) ?_
  refine va_get (D := D) (ci := 11) (v := .ref m1) (C := R_Model) (T := F_Model) (N := 72) hx hb hts i_Model hown hK.1 hP 0 rfl rfl 2 (by decide) (hts _ wd_1038) (fun _ h9 => h9) rfl d_Model_type_40 ?_
  refine lv_aload_n hx hb d_Model_type_43 rfl (lv_at hl1 1 rfl) ?_
  refine va_get (D := D) (ci := 11) (v := .int 1) (C := R_Model) (T := F_Model) (N := 72) hx hb hts i_Model hown hK.1 hP 0 rfl rfl 1 (by decide) (hts _ wd_1037) (fun _ h9 => h9) rfl d_Model_type_44 ?_
  refine lv_lload_n hx hb d_Model_type_47 rfl (lv_at hl1 2 rfl) ?_
  refine lv_bipush (v := 8) hx hb d_Model_type_48 (by decide) ?_
  refine lv_iload hx hb d_Model_type_50 (lv_at hl1 0 rfl) ?_
  refine lv_imul hx hb d_Model_type_52 ?_
  refine lv_topi (fun z_15 ez_15 => ?_)
  have ez_15 : z_15 = 8 := ez_15.trans (by first | rfl | decide)
  subst ez_15
  refine lv_lshr hx hb d_Model_type_53 rfl ?_
  refine lv_topl (fun z_16 ez_16 => ?_)
  refine lv_ldc2 (v := 255) hx hb hown (hts _ wd_1262) d_Model_type_54 ?_
  refine lv_land hx hb d_Model_type_57 ?_
  refine lv_topl (fun z_17 ez_17 => ?_)
  refine lv_l2i hx hb d_Model_type_58 rfl ?_
  refine lv_topi (fun z_18 ez_18 => ?_)
  refine va_iast hx hb hK.1 hP hD hS 1 0 rfl rfl (by unfold vp_in; decide) d_Model_type_59 (fun H_19 locs hP hD hS => ?_)
  have hP : va_P D classes [(m0, .inr (11, [.int 0, .int 1, .ref m1, .int 0, .int 0, .ref m2, .int 0, .int 0, .int 0, .int 0, .int 0, .ref m42, .ref m3, .ref m4, .int 0, .int 0, .ref m5, .ref m6, .ref m7, .ref m8, .ref m9, .ref m10, .ref m11, .ref m12, .ref m13, .ref m14, .ref m15, .ref m16, .ref m17, .ref m18, .ref m19, .int 0, .ref m20, .int 0, .ref m21, .int 0, .int 0, .int 0, .int 0, .int 0, .int 0, .int 0, .ref m22, .int 0, .int 0, .ref m23, .ref m24, .ref m25, .ref m26, .int 0, .ref m27, .int 0, .ref m28, .int 0, .ref m29, .ref m30, .int (-1), .int 0, .int 0, .ref m31, .ref m32, .ref m33, .ref m34, .ref m35, .ref m36, .ref m37, .ref m38, .ref m39, .int 0, .ref m40, .int 0, .ref m41])), (m1, .inl (ax 0, 400, .inl (upd (upd (fun _ => 0) 0 z_10) 1 z_18)))] H_19 := hP
  have hD : va_D A [(m0, .inr (11, [.int 0, .int 1, .ref m1, .int 0, .int 0, .ref m2, .int 0, .int 0, .int 0, .int 0, .int 0, .ref m42, .ref m3, .ref m4, .int 0, .int 0, .ref m5, .ref m6, .ref m7, .ref m8, .ref m9, .ref m10, .ref m11, .ref m12, .ref m13, .ref m14, .ref m15, .ref m16, .ref m17, .ref m18, .ref m19, .int 0, .ref m20, .int 0, .ref m21, .int 0, .int 0, .int 0, .int 0, .int 0, .int 0, .int 0, .ref m22, .int 0, .int 0, .ref m23, .ref m24, .ref m25, .ref m26, .int 0, .ref m27, .int 0, .ref m28, .int 0, .ref m29, .ref m30, .int (-1), .int 0, .int 0, .ref m31, .ref m32, .ref m33, .ref m34, .ref m35, .ref m36, .ref m37, .ref m38, .ref m39, .int 0, .ref m40, .int 0, .ref m41])), (m1, .inl (ax 0, 400, .inl (upd (upd (fun _ => 0) 0 z_10) 1 z_18)))] := hD
  refine lv_aload_n hx hb d_Model_type_60 rfl (lv_at hl1 1 rfl) ?_
  refine lv_dup hx hb d_Model_type_61 rfl ?_
  refine va_get (D := D) (ci := 11) (v := .int 1) (C := R_Model) (T := F_Model) (N := 72) hx hb hts i_Model hown hK.1 hP 0 rfl rfl 1 (by decide) (hts _ wd_1037) (fun _ h9 => h9) rfl d_Model_type_62 ?_
  refine lv_iconst (v := 1) hx hb d_Model_type_65 (by decide) ?_
  refine lv_iadd hx hb d_Model_type_66 ?_
  refine lv_topi (fun z_20 ez_20 => ?_)
  have ez_20 : z_20 = 2 := ez_20.trans (by first | rfl | decide)
  subst ez_20
  refine va_put (D := D) (ci := 11) (v := .int 2) (ty := .int) (C := R_Model) (T := F_Model) (N := 72) hx hb hts i_Model t_Model t_Model_ok n_Model hown hK.1 hP hD hS 0 rfl rfl 1 (by decide) (hts _ wd_1037) (fun _ h9 => h9) rfl (by decide +kernel) rfl rfl (Nat.le_of_ble_eq_true rfl) d_Model_type_67 (fun H_21 locs hP hD hS => ?_)
  have hP : va_P D classes [(m0, .inr (11, [.int 0, .int 2, .ref m1, .int 0, .int 0, .ref m2, .int 0, .int 0, .int 0, .int 0, .int 0, .ref m42, .ref m3, .ref m4, .int 0, .int 0, .ref m5, .ref m6, .ref m7, .ref m8, .ref m9, .ref m10, .ref m11, .ref m12, .ref m13, .ref m14, .ref m15, .ref m16, .ref m17, .ref m18, .ref m19, .int 0, .ref m20, .int 0, .ref m21, .int 0, .int 0, .int 0, .int 0, .int 0, .int 0, .int 0, .ref m22, .int 0, .int 0, .ref m23, .ref m24, .ref m25, .ref m26, .int 0, .ref m27, .int 0, .ref m28, .int 0, .ref m29, .ref m30, .int (-1), .int 0, .int 0, .ref m31, .ref m32, .ref m33, .ref m34, .ref m35, .ref m36, .ref m37, .ref m38, .ref m39, .int 0, .ref m40, .int 0, .ref m41])), (m1, .inl (ax 0, 400, .inl (upd (upd (fun _ => 0) 0 z_10) 1 z_18)))] H_21 := hP
  have hD : va_D A [(m0, .inr (11, [.int 0, .int 2, .ref m1, .int 0, .int 0, .ref m2, .int 0, .int 0, .int 0, .int 0, .int 0, .ref m42, .ref m3, .ref m4, .int 0, .int 0, .ref m5, .ref m6, .ref m7, .ref m8, .ref m9, .ref m10, .ref m11, .ref m12, .ref m13, .ref m14, .ref m15, .ref m16, .ref m17, .ref m18, .ref m19, .int 0, .ref m20, .int 0, .ref m21, .int 0, .int 0, .int 0, .int 0, .int 0, .int 0, .int 0, .ref m22, .int 0, .int 0, .ref m23, .ref m24, .ref m25, .ref m26, .int 0, .ref m27, .int 0, .ref m28, .int 0, .ref m29, .ref m30, .int (-1), .int 0, .int 0, .ref m31, .ref m32, .ref m33, .ref m34, .ref m35, .ref m36, .ref m37, .ref m38, .ref m39, .int 0, .ref m40, .int 0, .ref m41])), (m1, .inl (ax 0, 400, .inl (upd (upd (fun _ => 0) 0 z_10) 1 z_18)))] := hD
  refine lv_iinc (v := 2) (lv' := [(4, .int 2), (0, .ref m0), (1, .long w), (3, .int 4)]) hx hb d_Model_type_70 hl1 (k := 0) rfl (by decide) (by decide) rfl (fun ls hl1 => ?_)
  refine lv_goto (tgt := 33) hx hb d_Model_type_73 (by decide) ?_
  refine lv_iload hx hb d_Model_type_33 (lv_at hl1 0 rfl) ?_
  refine lv_iload_n hx hb d_Model_type_35 rfl (lv_at hl1 3 rfl) ?_
  refine lv_icmp_ge (tgt := 76) hx hb d_Model_type_36 (by decide) (fun c_22 => ?_) (fun c_22 => ?_)
  · first | exact absurd c_22 (by decide) | exact absurd (by decide) c_22
  refine lv_aload_n hx hb d_Model_type_39 rfl (lv_at hl1 1 rfl) ?_
  refine va_get (D := D) (ci := 11) (v := .ref m1) (C := R_Model) (T := F_Model) (N := 72) hx hb hts i_Model hown hK.1 hP 0 rfl rfl 2 (by decide) (hts _ wd_1038) (fun _ h9 => h9) rfl d_Model_type_40 ?_
  refine lv_aload_n hx hb d_Model_type_43 rfl (lv_at hl1 1 rfl) ?_
  refine va_get (D := D) (ci := 11) (v := .int 2) (C := R_Model) (T := F_Model) (N := 72) hx hb hts i_Model hown hK.1 hP 0 rfl rfl 1 (by decide) (hts _ wd_1037) (fun _ h9 => h9) rfl d_Model_type_44 ?_
  refine lv_lload_n hx hb d_Model_type_47 rfl (lv_at hl1 2 rfl) ?_
  refine lv_bipush (v := 8) hx hb d_Model_type_48 (by decide) ?_
  refine lv_iload hx hb d_Model_type_50 (lv_at hl1 0 rfl) ?_
  refine lv_imul hx hb d_Model_type_52 ?_
  refine lv_topi (fun z_23 ez_23 => ?_)
  have ez_23 : z_23 = 16 := ez_23.trans (by first | rfl | decide)
  subst ez_23
  refine lv_lshr hx hb d_Model_type_53 rfl ?_
  refine lv_topl (fun z_24 ez_24 => ?_)
  refine lv_ldc2 (v := 255) hx hb hown (hts _ wd_1262) d_Model_type_54 ?_
  refine lv_land hx hb d_Model_type_57 ?_
  refine lv_topl (fun z_25 ez_25 => ?_)
  refine lv_l2i hx hb d_Model_type_58 rfl ?_
  refine lv_topi (fun z_26 ez_26 => ?_)
  refine va_iast hx hb hK.1 hP hD hS 1 0 rfl rfl (by unfold vp_in; decide) d_Model_type_59 (fun H_27 locs hP hD hS => ?_)
  have hP : va_P D classes [(m0, .inr (11, [.int 0, .int 2, .ref m1, .int 0, .int 0, .ref m2, .int 0, .int 0, .int 0, .int 0, .int 0, .ref m42, .ref m3, .ref m4, .int 0, .int 0, .ref m5, .ref m6, .ref m7, .ref m8, .ref m9, .ref m10, .ref m11, .ref m12, .ref m13, .ref m14, .ref m15, .ref m16, .ref m17, .ref m18, .ref m19, .int 0, .ref m20, .int 0, .ref m21, .int 0, .int 0, .int 0, .int 0, .int 0, .int 0, .int 0, .ref m22, .int 0, .int 0, .ref m23, .ref m24, .ref m25, .ref m26, .int 0, .ref m27, .int 0, .ref m28, .int 0, .ref m29, .ref m30, .int (-1), .int 0, .int 0, .ref m31, .ref m32, .ref m33, .ref m34, .ref m35, .ref m36, .ref m37, .ref m38, .ref m39, .int 0, .ref m40, .int 0, .ref m41])), (m1, .inl (ax 0, 400, .inl (upd (upd (upd (fun _ => 0) 0 z_10) 1 z_18) 2 z_26)))] H_27 := hP
  have hD : va_D A [(m0, .inr (11, [.int 0, .int 2, .ref m1, .int 0, .int 0, .ref m2, .int 0, .int 0, .int 0, .int 0, .int 0, .ref m42, .ref m3, .ref m4, .int 0, .int 0, .ref m5, .ref m6, .ref m7, .ref m8, .ref m9, .ref m10, .ref m11, .ref m12, .ref m13, .ref m14, .ref m15, .ref m16, .ref m17, .ref m18, .ref m19, .int 0, .ref m20, .int 0, .ref m21, .int 0, .int 0, .int 0, .int 0, .int 0, .int 0, .int 0, .ref m22, .int 0, .int 0, .ref m23, .ref m24, .ref m25, .ref m26, .int 0, .ref m27, .int 0, .ref m28, .int 0, .ref m29, .ref m30, .int (-1), .int 0, .int 0, .ref m31, .ref m32, .ref m33, .ref m34, .ref m35, .ref m36, .ref m37, .ref m38, .ref m39, .int 0, .ref m40, .int 0, .ref m41])), (m1, .inl (ax 0, 400, .inl (upd (upd (upd (fun _ => 0) 0 z_10) 1 z_18) 2 z_26)))] := hD
  refine lv_aload_n hx hb d_Model_type_60 rfl (lv_at hl1 1 rfl) ?_
  refine lv_dup hx hb d_Model_type_61 rfl ?_
  refine va_get (D := D) (ci := 11) (v := .int 2) (C := R_Model) (T := F_Model) (N := 72) hx hb hts i_Model hown hK.1 hP 0 rfl rfl 1 (by decide) (hts _ wd_1037) (fun _ h9 => h9) rfl d_Model_type_62 ?_
  refine lv_iconst (v := 1) hx hb d_Model_type_65 (by decide) ?_
  refine lv_iadd hx hb d_Model_type_66 ?_
  refine lv_topi (fun z_28 ez_28 => ?_)
  have ez_28 : z_28 = 3 := ez_28.trans (by first | rfl | decide)
  subst ez_28
  refine va_put (D := D) (ci := 11) (v := .int 3) (ty := .int) (C := R_Model) (T := F_Model) (N := 72) hx hb hts i_Model t_Model t_Model_ok n_Model hown hK.1 hP hD hS 0 rfl rfl 1 (by decide) (hts _ wd_1037) (fun _ h9 => h9) rfl (by decide +kernel) rfl rfl (Nat.le_of_ble_eq_true rfl) d_Model_type_67 (fun H_29 locs hP hD hS => ?_)
  have hP : va_P D classes [(m0, .inr (11, [.int 0, .int 3, .ref m1, .int 0, .int 0, .ref m2, .int 0, .int 0, .int 0, .int 0, .int 0, .ref m42, .ref m3, .ref m4, .int 0, .int 0, .ref m5, .ref m6, .ref m7, .ref m8, .ref m9, .ref m10, .ref m11, .ref m12, .ref m13, .ref m14, .ref m15, .ref m16, .ref m17, .ref m18, .ref m19, .int 0, .ref m20, .int 0, .ref m21, .int 0, .int 0, .int 0, .int 0, .int 0, .int 0, .int 0, .ref m22, .int 0, .int 0, .ref m23, .ref m24, .ref m25, .ref m26, .int 0, .ref m27, .int 0, .ref m28, .int 0, .ref m29, .ref m30, .int (-1), .int 0, .int 0, .ref m31, .ref m32, .ref m33, .ref m34, .ref m35, .ref m36, .ref m37, .ref m38, .ref m39, .int 0, .ref m40, .int 0, .ref m41])), (m1, .inl (ax 0, 400, .inl (upd (upd (upd (fun _ => 0) 0 z_10) 1 z_18) 2 z_26)))] H_29 := hP
  have hD : va_D A [(m0, .inr (11, [.int 0, .int 3, .ref m1, .int 0, .int 0, .ref m2, .int 0, .int 0, .int 0, .int 0, .int 0, .ref m42, .ref m3, .ref m4, .int 0, .int 0, .ref m5, .ref m6, .ref m7, .ref m8, .ref m9, .ref m10, .ref m11, .ref m12, .ref m13, .ref m14, .ref m15, .ref m16, .ref m17, .ref m18, .ref m19, .int 0, .ref m20, .int 0, .ref m21, .int 0, .int 0, .int 0, .int 0, .int 0, .int 0, .int 0, .ref m22, .int 0, .int 0, .ref m23, .ref m24, .ref m25, .ref m26, .int 0, .ref m27, .int 0, .ref m28, .int 0, .ref m29, .ref m30, .int (-1), .int 0, .int 0, .ref m31, .ref m32, .ref m33, .ref m34, .ref m35, .ref m36, .ref m37, .ref m38, .ref m39, .int 0, .ref m40, .int 0, .ref m41])), (m1, .inl (ax 0, 400, .inl (upd (upd (upd (fun _ => 0) 0 z_10) 1 z_18) 2 z_26)))] := hD
  refine lv_iinc (v := 3) (lv' := [(4, .int 3), (0, .ref m0), (1, .long w), (3, .int 4)]) hx hb d_Model_type_70 hl1 (k := 0) rfl (by decide) (by decide) rfl (fun ls hl1 => ?_)
  refine lv_goto (tgt := 33) hx hb d_Model_type_73 (by decide) ?_
  refine lv_iload hx hb d_Model_type_33 (lv_at hl1 0 rfl) ?_
  refine lv_iload_n hx hb d_Model_type_35 rfl (lv_at hl1 3 rfl) ?_
  refine lv_icmp_ge (tgt := 76) hx hb d_Model_type_36 (by decide) (fun c_30 => ?_) (fun c_30 => ?_)
  · first | exact absurd c_30 (by decide) | exact absurd (by decide) c_30
  refine lv_aload_n hx hb d_Model_type_39 rfl (lv_at hl1 1 rfl) ?_
  refine va_get (D := D) (ci := 11) (v := .ref m1) (C := R_Model) (T := F_Model) (N := 72) hx hb hts i_Model hown hK.1 hP 0 rfl rfl 2 (by decide) (hts _ wd_1038) (fun _ h9 => h9) rfl d_Model_type_40 ?_
  refine lv_aload_n hx hb d_Model_type_43 rfl (lv_at hl1 1 rfl) ?_
  refine va_get (D := D) (ci := 11) (v := .int 3) (C := R_Model) (T := F_Model) (N := 72) hx hb hts i_Model hown hK.1 hP 0 rfl rfl 1 (by decide) (hts _ wd_1037) (fun _ h9 => h9) rfl d_Model_type_44 ?_
  refine lv_lload_n hx hb d_Model_type_47 rfl (lv_at hl1 2 rfl) ?_
  refine lv_bipush (v := 8) hx hb d_Model_type_48 (by decide) ?_
  refine lv_iload hx hb d_Model_type_50 (lv_at hl1 0 rfl) ?_
  refine lv_imul hx hb d_Model_type_52 ?_
  refine lv_topi (fun z_31 ez_31 => ?_)
  have ez_31 : z_31 = 24 := ez_31.trans (by first | rfl | decide)
  subst ez_31
  refine lv_lshr hx hb d_Model_type_53 rfl ?_
  refine lv_topl (fun z_32 ez_32 => ?_)
  refine lv_ldc2 (v := 255) hx hb hown (hts _ wd_1262) d_Model_type_54 ?_
  refine lv_land hx hb d_Model_type_57 ?_
  refine lv_topl (fun z_33 ez_33 => ?_)
  refine lv_l2i hx hb d_Model_type_58 rfl ?_
  refine lv_topi (fun z_34 ez_34 => ?_)
  refine va_iast hx hb hK.1 hP hD hS 1 0 rfl rfl (by unfold vp_in; decide) d_Model_type_59 (fun H_35 locs hP hD hS => ?_)
  have hP : va_P D classes [(m0, .inr (11, [.int 0, .int 3, .ref m1, .int 0, .int 0, .ref m2, .int 0, .int 0, .int 0, .int 0, .int 0, .ref m42, .ref m3, .ref m4, .int 0, .int 0, .ref m5, .ref m6, .ref m7, .ref m8, .ref m9, .ref m10, .ref m11, .ref m12, .ref m13, .ref m14, .ref m15, .ref m16, .ref m17, .ref m18, .ref m19, .int 0, .ref m20, .int 0, .ref m21, .int 0, .int 0, .int 0, .int 0, .int 0, .int 0, .int 0, .ref m22, .int 0, .int 0, .ref m23, .ref m24, .ref m25, .ref m26, .int 0, .ref m27, .int 0, .ref m28, .int 0, .ref m29, .ref m30, .int (-1), .int 0, .int 0, .ref m31, .ref m32, .ref m33, .ref m34, .ref m35, .ref m36, .ref m37, .ref m38, .ref m39, .int 0, .ref m40, .int 0, .ref m41])), (m1, .inl (ax 0, 400, .inl (upd (upd (upd (upd (fun _ => 0) 0 z_10) 1 z_18) 2 z_26) 3 z_34)))] H_35 := hP
  have hD : va_D A [(m0, .inr (11, [.int 0, .int 3, .ref m1, .int 0, .int 0, .ref m2, .int 0, .int 0, .int 0, .int 0, .int 0, .ref m42, .ref m3, .ref m4, .int 0, .int 0, .ref m5, .ref m6, .ref m7, .ref m8, .ref m9, .ref m10, .ref m11, .ref m12, .ref m13, .ref m14, .ref m15, .ref m16, .ref m17, .ref m18, .ref m19, .int 0, .ref m20, .int 0, .ref m21, .int 0, .int 0, .int 0, .int 0, .int 0, .int 0, .int 0, .ref m22, .int 0, .int 0, .ref m23, .ref m24, .ref m25, .ref m26, .int 0, .ref m27, .int 0, .ref m28, .int 0, .ref m29, .ref m30, .int (-1), .int 0, .int 0, .ref m31, .ref m32, .ref m33, .ref m34, .ref m35, .ref m36, .ref m37, .ref m38, .ref m39, .int 0, .ref m40, .int 0, .ref m41])), (m1, .inl (ax 0, 400, .inl (upd (upd (upd (upd (fun _ => 0) 0 z_10) 1 z_18) 2 z_26) 3 z_34)))] := hD
  refine lv_aload_n hx hb d_Model_type_60 rfl (lv_at hl1 1 rfl) ?_
  refine lv_dup hx hb d_Model_type_61 rfl ?_
  refine va_get (D := D) (ci := 11) (v := .int 3) (C := R_Model) (T := F_Model) (N := 72) hx hb hts i_Model hown hK.1 hP 0 rfl rfl 1 (by decide) (hts _ wd_1037) (fun _ h9 => h9) rfl d_Model_type_62 ?_
  refine lv_iconst (v := 1) hx hb d_Model_type_65 (by decide) ?_
  refine lv_iadd hx hb d_Model_type_66 ?_
  refine lv_topi (fun z_36 ez_36 => ?_)
  have ez_36 : z_36 = 4 := ez_36.trans (by first | rfl | decide)
  subst ez_36
  refine va_put (D := D) (ci := 11) (v := .int 4) (ty := .int) (C := R_Model) (T := F_Model) (N := 72) hx hb hts i_Model t_Model t_Model_ok n_Model hown hK.1 hP hD hS 0 rfl rfl 1 (by decide) (hts _ wd_1037) (fun _ h9 => h9) rfl (by decide +kernel) rfl rfl (Nat.le_of_ble_eq_true rfl) d_Model_type_67 (fun H_37 locs hP hD hS => ?_)
  have hP : va_P D classes [(m0, .inr (11, [.int 0, .int 4, .ref m1, .int 0, .int 0, .ref m2, .int 0, .int 0, .int 0, .int 0, .int 0, .ref m42, .ref m3, .ref m4, .int 0, .int 0, .ref m5, .ref m6, .ref m7, .ref m8, .ref m9, .ref m10, .ref m11, .ref m12, .ref m13, .ref m14, .ref m15, .ref m16, .ref m17, .ref m18, .ref m19, .int 0, .ref m20, .int 0, .ref m21, .int 0, .int 0, .int 0, .int 0, .int 0, .int 0, .int 0, .ref m22, .int 0, .int 0, .ref m23, .ref m24, .ref m25, .ref m26, .int 0, .ref m27, .int 0, .ref m28, .int 0, .ref m29, .ref m30, .int (-1), .int 0, .int 0, .ref m31, .ref m32, .ref m33, .ref m34, .ref m35, .ref m36, .ref m37, .ref m38, .ref m39, .int 0, .ref m40, .int 0, .ref m41])), (m1, .inl (ax 0, 400, .inl (upd (upd (upd (upd (fun _ => 0) 0 z_10) 1 z_18) 2 z_26) 3 z_34)))] H_37 := hP
  have hD : va_D A [(m0, .inr (11, [.int 0, .int 4, .ref m1, .int 0, .int 0, .ref m2, .int 0, .int 0, .int 0, .int 0, .int 0, .ref m42, .ref m3, .ref m4, .int 0, .int 0, .ref m5, .ref m6, .ref m7, .ref m8, .ref m9, .ref m10, .ref m11, .ref m12, .ref m13, .ref m14, .ref m15, .ref m16, .ref m17, .ref m18, .ref m19, .int 0, .ref m20, .int 0, .ref m21, .int 0, .int 0, .int 0, .int 0, .int 0, .int 0, .int 0, .ref m22, .int 0, .int 0, .ref m23, .ref m24, .ref m25, .ref m26, .int 0, .ref m27, .int 0, .ref m28, .int 0, .ref m29, .ref m30, .int (-1), .int 0, .int 0, .ref m31, .ref m32, .ref m33, .ref m34, .ref m35, .ref m36, .ref m37, .ref m38, .ref m39, .int 0, .ref m40, .int 0, .ref m41])), (m1, .inl (ax 0, 400, .inl (upd (upd (upd (upd (fun _ => 0) 0 z_10) 1 z_18) 2 z_26) 3 z_34)))] := hD
  refine lv_iinc (v := 4) (lv' := [(4, .int 4), (0, .ref m0), (1, .long w), (3, .int 4)]) hx hb d_Model_type_70 hl1 (k := 0) rfl (by decide) (by decide) rfl (fun ls hl1 => ?_)
  refine lv_goto (tgt := 33) hx hb d_Model_type_73 (by decide) ?_
  refine lv_iload hx hb d_Model_type_33 (lv_at hl1 0 rfl) ?_
  refine lv_iload_n hx hb d_Model_type_35 rfl (lv_at hl1 3 rfl) ?_
  refine lv_icmp_ge (tgt := 76) hx hb d_Model_type_36 (by decide) (fun c_38 => ?_) (fun c_38 => ?_)
  rotate_left
  · first | exact absurd c_38 (by decide) | exact absurd (by decide) c_38
  refine lv_iconst (v := 1) hx hb d_Model_type_76 (by decide) ?_
  exact W.zret (v := 1) hx hb hr rfl (fun t ht hW => ⟨⟨1, fun _ => 0, rfl, rfl, trivial⟩, hS.F ht⟩) hS.2.2 d_Model_type_77
set_option maxHeartbeats 4000000 in
set_option maxRecDepth 100000 in
theorem c_Model_type_5 (l : Launch) (D : va_G) (ax : Nat → ClassId) (m0 m1 m2 m3 m4 m5 m6 m7 m8 m9 m10 m11 m12 m13 m14 m15 m16 m17 m18 m19 m20 m21 m22 m23 m24 m25 m26 m27 m28 m29 m30 m31 m32 m33 m34 m35 m36 m37 m38 m39 m40 m41 m42 : Nat) (w : Int64) (sz : Nat) : Met l y_Model_type (xws (.code y_Model_type b_Model_type 5 (some .boolean))) ({ frames := 10, cells := 0, slots := 0, locals := 400 }) (va_Pc [.ref m0, .long w, .int 5] (xo D ax [(m0, .inr (11, [.int 0, .int 0, .ref m1, .int 0, .int 0, .ref m2, .int 0, .int 0, .int 0, .int 0, .int 0, .ref m42, .ref m3, .ref m4, .int 0, .int 0, .ref m5, .ref m6, .ref m7, .ref m8, .ref m9, .ref m10, .ref m11, .ref m12, .ref m13, .ref m14, .ref m15, .ref m16, .ref m17, .ref m18, .ref m19, .int 0, .ref m20, .int 0, .ref m21, .int 0, .int 0, .int 0, .int 0, .int 0, .int 0, .int 0, .ref m22, .int 0, .int 0, .ref m23, .ref m24, .ref m25, .ref m26, .int 0, .ref m27, .int 0, .ref m28, .int 0, .ref m29, .ref m30, .int (-1), .int 0, .int 0, .ref m31, .ref m32, .ref m33, .ref m34, .ref m35, .ref m36, .ref m37, .ref m38, .ref m39, .int 0, .ref m40, .int 0, .ref m41])), (m1, .inl (ax 0, 400, .inl (fun _ => 0)))] sz)) ((va_Qi (fun (r : Int32) (u : Nat → Nat) => r = 1) (fun (_ : Nat → Nat) (_ : State) => True) (va_A [(m0, .inr (11, [.int 0, .int 0, .ref m1, .int 0, .int 0, .ref m2, .int 0, .int 0, .int 0, .int 0, .int 0, .ref m42, .ref m3, .ref m4, .int 0, .int 0, .ref m5, .ref m6, .ref m7, .ref m8, .ref m9, .ref m10, .ref m11, .ref m12, .ref m13, .ref m14, .ref m15, .ref m16, .ref m17, .ref m18, .ref m19, .int 0, .ref m20, .int 0, .ref m21, .int 0, .int 0, .int 0, .int 0, .int 0, .int 0, .int 0, .ref m22, .int 0, .int 0, .ref m23, .ref m24, .ref m25, .ref m26, .int 0, .ref m27, .int 0, .ref m28, .int 0, .ref m29, .ref m30, .int (-1), .int 0, .int 0, .ref m31, .ref m32, .ref m33, .ref m34, .ref m35, .ref m36, .ref m37, .ref m38, .ref m39, .int 0, .ref m40, .int 0, .ref m41])), (m1, .inl (ax 0, 400, .inl (fun _ => 0)))] sz))) 0 0 (va_A [(m0, .inr (11, [.int 0, .int 0, .ref m1, .int 0, .int 0, .ref m2, .int 0, .int 0, .int 0, .int 0, .int 0, .ref m42, .ref m3, .ref m4, .int 0, .int 0, .ref m5, .ref m6, .ref m7, .ref m8, .ref m9, .ref m10, .ref m11, .ref m12, .ref m13, .ref m14, .ref m15, .ref m16, .ref m17, .ref m18, .ref m19, .int 0, .ref m20, .int 0, .ref m21, .int 0, .int 0, .int 0, .int 0, .int 0, .int 0, .int 0, .ref m22, .int 0, .int 0, .ref m23, .ref m24, .ref m25, .ref m26, .int 0, .ref m27, .int 0, .ref m28, .int 0, .ref m29, .ref m30, .int (-1), .int 0, .int 0, .ref m31, .ref m32, .ref m33, .ref m34, .ref m35, .ref m36, .ref m37, .ref m38, .ref m39, .int 0, .ref m40, .int 0, .ref m41])), (m1, .inl (ax 0, 400, .inl (fun _ => 0)))] sz) := by
  refine Met.ofW (cc := b_Model_type) (maxL := 5) (ret := (some .boolean)) (by decide) rfl ?_
  intro p e s m args below meth c s₁ B hml hv
  obtain ⟨rfl, hsz, hP, hK, hD0⟩ := hv
  have hx := B.exec
  have hb := B.bytes
  have hr := B.returns
  have hts := xw_hts B.pre
  have hown : s.vm.findClass R_Model = some m.cls := findClass_of_methodNamed B.named
  have hlocks := B.notSynchronized
  subst hsz
  have hD := hD0.self (sz := s.heap.size)
  have hN := xz_entry hP
  generalize hAe : va_A [(m0, .inr (11, [.int 0, .int 0, .ref m1, .int 0, .int 0, .ref m2, .int 0, .int 0, .int 0, .int 0, .int 0, .ref m42, .ref m3, .ref m4, .int 0, .int 0, .ref m5, .ref m6, .ref m7, .ref m8, .ref m9, .ref m10, .ref m11, .ref m12, .ref m13, .ref m14, .ref m15, .ref m16, .ref m17, .ref m18, .ref m19, .int 0, .ref m20, .int 0, .ref m21, .int 0, .int 0, .int 0, .int 0, .int 0, .int 0, .int 0, .ref m22, .int 0, .int 0, .ref m23, .ref m24, .ref m25, .ref m26, .int 0, .ref m27, .int 0, .ref m28, .int 0, .ref m29, .ref m30, .int (-1), .int 0, .int 0, .ref m31, .ref m32, .ref m33, .ref m34, .ref m35, .ref m36, .ref m37, .ref m38, .ref m39, .int 0, .ref m40, .int 0, .ref m41])), (m1, .inl (ax 0, 400, .inl (fun _ => 0)))] s.heap.size = A at hD hN ⊢
  have hA : ∀ q : Nat, s.heap.size ≤ q → A q := fun q h => by rw [← hAe]; exact Or.inr h
  have hS : va_S A s.heap s.heap [] := va_S.rf
  have hl0 := lv_entry ([.ref m0, .long w, .int 5]) (n := 5) (Nat.le_of_ble_eq_true rfl)
  rw [lg_entry_eq]
  generalize (lg_sl ([.ref m0, .long w, .int 5]) ++ List.replicate (5 - (lg_sl ([.ref m0, .long w, .int 5])).length) Slot.unset).toArray = ls at hl0 ⊢
  have hl1 : lv_has ls 5 [(0, .ref m0), (1, .long w), (3, .int 5)] := hl0
  refine lv_aload_n hx hb d_Model_type_0 rfl (lv_at hl1 0 rfl) ?_
  refine lv_iconst (v := 0) hx hb d_Model_type_1 (by decide) ?_
  refine va_put (D := D) (ci := 11) (v := .int 0) (ty := .int) (C := R_Model) (T := F_Model) (N := 72) hx hb hts i_Model t_Model t_Model_ok n_Model hown hK.1 hP hD hS 0 rfl rfl 0 (by decide) (hts _ wd_1036) (fun _ h9 => h9) rfl (by decide +kernel) rfl rfl (Nat.le_of_ble_eq_true rfl) d_Model_type_2 (fun H_1 locs hP hD hS => ?_)
  have hP : va_P D classes [(m0, .inr (11, [.int 0, .int 0, .ref m1, .int 0, .int 0, .ref m2, .int 0, .int 0, .int 0, .int 0, .int 0, .ref m42, .ref m3, .ref m4, .int 0, .int 0, .ref m5, .ref m6, .ref m7, .ref m8, .ref m9, .ref m10, .ref m11, .ref m12, .ref m13, .ref m14, .ref m15, .ref m16, .ref m17, .ref m18, .ref m19, .int 0, .ref m20, .int 0, .ref m21, .int 0, .int 0, .int 0, .int 0, .int 0, .int 0, .int 0, .ref m22, .int 0, .int 0, .ref m23, .ref m24, .ref m25, .ref m26, .int 0, .ref m27, .int 0, .ref m28, .int 0, .ref m29, .ref m30, .int (-1), .int 0, .int 0, .ref m31, .ref m32, .ref m33, .ref m34, .ref m35, .ref m36, .ref m37, .ref m38, .ref m39, .int 0, .ref m40, .int 0, .ref m41])), (m1, .inl (ax 0, 400, .inl (fun _ => 0)))] H_1 := hP
  have hD : va_D A [(m0, .inr (11, [.int 0, .int 0, .ref m1, .int 0, .int 0, .ref m2, .int 0, .int 0, .int 0, .int 0, .int 0, .ref m42, .ref m3, .ref m4, .int 0, .int 0, .ref m5, .ref m6, .ref m7, .ref m8, .ref m9, .ref m10, .ref m11, .ref m12, .ref m13, .ref m14, .ref m15, .ref m16, .ref m17, .ref m18, .ref m19, .int 0, .ref m20, .int 0, .ref m21, .int 0, .int 0, .int 0, .int 0, .int 0, .int 0, .int 0, .ref m22, .int 0, .int 0, .ref m23, .ref m24, .ref m25, .ref m26, .int 0, .ref m27, .int 0, .ref m28, .int 0, .ref m29, .ref m30, .int (-1), .int 0, .int 0, .ref m31, .ref m32, .ref m33, .ref m34, .ref m35, .ref m36, .ref m37, .ref m38, .ref m39, .int 0, .ref m40, .int 0, .ref m41])), (m1, .inl (ax 0, 400, .inl (fun _ => 0)))] := hD
  refine lv_iload_n hx hb d_Model_type_5 rfl (lv_at hl1 2 rfl) ?_
  refine lv_iconst (v := 1) hx hb d_Model_type_6 (by decide) ?_
  refine lv_icmp_lt (tgt := 28) hx hb d_Model_type_7 (by decide) (fun c_2 => ?_) (fun c_2 => ?_)
  · first | exact absurd c_2 (by decide) | exact absurd (by decide) c_2
  refine lv_iload_n hx hb d_Model_type_10 rfl (lv_at hl1 2 rfl) ?_
  refine lv_bipush (v := 8) hx hb d_Model_type_11 (by decide) ?_
  refine lv_icmp_gt (tgt := 28) hx hb d_Model_type_13 (by decide) (fun c_3 => ?_) (fun c_3 => ?_)
  · first | exact absurd c_3 (by decide) | exact absurd (by decide) c_3
  refine lv_aload_n hx hb d_Model_type_16 rfl (lv_at hl1 0 rfl) ?_
  refine va_get (D := D) (ci := 11) (v := .int 0) (C := R_Model) (T := F_Model) (N := 72) hx hb hts i_Model hown hK.1 hP 0 rfl rfl 1 (by decide) (hts _ wd_1037) (fun _ h9 => h9) rfl d_Model_type_17 ?_
  refine lv_iload_n hx hb d_Model_type_20 rfl (lv_at hl1 2 rfl) ?_
  refine lv_iadd hx hb d_Model_type_21 ?_
  refine lv_topi (fun z_4 ez_4 => ?_)
  have ez_4 : z_4 = 5 := ez_4.trans (by first | rfl | decide)
  subst ez_4
  refine lv_sipush (v := 400) hx hb d_Model_type_22 (by decide) ?_
  refine lv_icmp_le (tgt := 30) hx hb d_Model_type_25 (by decide) (fun c_5 => ?_) (fun c_5 => ?_)
  rotate_left
  · first | exact absurd c_5 (by decide) | exact absurd (by decide) c_5
  refine lv_iconst (v := 0) hx hb d_Model_type_30 (by decide) ?_
  refine lv_istore (lv' := [(4, .int 0), (0, .ref m0), (1, .long w), (3, .int 5)]) hx hb d_Model_type_31 hl1 (by decide) rfl (fun ls hl1 => ?_)
  refine lv_iload hx hb d_Model_type_33 (lv_at hl1 0 rfl) ?_
  refine lv_iload_n hx hb d_Model_type_35 rfl (lv_at hl1 3 rfl) ?_
  refine lv_icmp_ge (tgt := 76) hx hb d_Model_type_36 (by decide) (fun c_6 => ?_) (fun c_6 => ?_)
  · first | exact absurd c_6 (by decide) | exact absurd (by decide) c_6
  refine lv_aload_n hx hb d_Model_type_39 rfl (lv_at hl1 1 rfl) ?_
  refine va_get (D := D) (ci := 11) (v := .ref m1) (C := R_Model) (T := F_Model) (N := 72) hx hb hts i_Model hown hK.1 hP 0 rfl rfl 2 (by decide) (hts _ wd_1038) (fun _ h9 => h9) rfl d_Model_type_40 ?_
  refine lv_aload_n hx hb d_Model_type_43 rfl (lv_at hl1 1 rfl) ?_
  refine va_get (D := D) (ci := 11) (v := .int 0) (C := R_Model) (T := F_Model) (N := 72) hx hb hts i_Model hown hK.1 hP 0 rfl rfl 1 (by decide) (hts _ wd_1037) (fun _ h9 => h9) rfl d_Model_type_44 ?_
  refine lv_lload_n hx hb d_Model_type_47 rfl (lv_at hl1 2 rfl) ?_
  refine lv_bipush (v := 8) hx hb d_Model_type_48 (by decide) ?_
  refine lv_iload hx hb d_Model_type_50 (lv_at hl1 0 rfl) ?_
  refine lv_imul hx hb d_Model_type_52 ?_
  refine lv_topi (fun z_7 ez_7 => ?_)
  have ez_7 : z_7 = 0 := ez_7.trans (by first | rfl | decide)
  subst ez_7
  refine lv_lshr hx hb d_Model_type_53 rfl ?_
  refine lv_topl (fun z_8 ez_8 => ?_)
  refine lv_ldc2 (v := 255) hx hb hown (hts _ wd_1262) d_Model_type_54 ?_
  refine lv_land hx hb d_Model_type_57 ?_
  refine lv_topl (fun z_9 ez_9 => ?_)
  refine lv_l2i hx hb d_Model_type_58 rfl ?_
  refine lv_topi (fun z_10 ez_10 => ?_)
  refine va_iast hx hb hK.1 hP hD hS 1 0 rfl rfl (by unfold vp_in; decide) d_Model_type_59 (fun H_11 locs hP hD hS => ?_)
  have hP : va_P D classes [(m0, .inr (11, [.int 0, .int 0, .ref m1, .int 0, .int 0, .ref m2, .int 0, .int 0, .int 0, .int 0, .int 0, .ref m42, .ref m3, .ref m4, .int 0, .int 0, .ref m5, .ref m6, .ref m7, .ref m8, .ref m9, .ref m10, .ref m11, .ref m12, .ref m13, .ref m14, .ref m15, .ref m16, .ref m17, .ref m18, .ref m19, .int 0, .ref m20, .int 0, .ref m21, .int 0, .int 0, .int 0, .int 0, .int 0, .int 0, .int 0, .ref m22, .int 0, .int 0, .ref m23, .ref m24, .ref m25, .ref m26, .int 0, .ref m27, .int 0, .ref m28, .int 0, .ref m29, .ref m30, .int (-1), .int 0, .int 0, .ref m31, .ref m32, .ref m33, .ref m34, .ref m35, .ref m36, .ref m37, .ref m38, .ref m39, .int 0, .ref m40, .int 0, .ref m41])), (m1, .inl (ax 0, 400, .inl (upd (fun _ => 0) 0 z_10)))] H_11 := hP
  have hD : va_D A [(m0, .inr (11, [.int 0, .int 0, .ref m1, .int 0, .int 0, .ref m2, .int 0, .int 0, .int 0, .int 0, .int 0, .ref m42, .ref m3, .ref m4, .int 0, .int 0, .ref m5, .ref m6, .ref m7, .ref m8, .ref m9, .ref m10, .ref m11, .ref m12, .ref m13, .ref m14, .ref m15, .ref m16, .ref m17, .ref m18, .ref m19, .int 0, .ref m20, .int 0, .ref m21, .int 0, .int 0, .int 0, .int 0, .int 0, .int 0, .int 0, .ref m22, .int 0, .int 0, .ref m23, .ref m24, .ref m25, .ref m26, .int 0, .ref m27, .int 0, .ref m28, .int 0, .ref m29, .ref m30, .int (-1), .int 0, .int 0, .ref m31, .ref m32, .ref m33, .ref m34, .ref m35, .ref m36, .ref m37, .ref m38, .ref m39, .int 0, .ref m40, .int 0, .ref m41])), (m1, .inl (ax 0, 400, .inl (upd (fun _ => 0) 0 z_10)))] := hD
  refine lv_aload_n hx hb d_Model_type_60 rfl (lv_at hl1 1 rfl) ?_
  refine lv_dup hx hb d_Model_type_61 rfl ?_
  refine va_get (D := D) (ci := 11) (v := .int 0) (C := R_Model) (T := F_Model) (N := 72) hx hb hts i_Model hown hK.1 hP 0 rfl rfl 1 (by decide) (hts _ wd_1037) (fun _ h9 => h9) rfl d_Model_type_62 ?_
  refine lv_iconst (v := 1) hx hb d_Model_type_65 (by decide) ?_
  refine lv_iadd hx hb d_Model_type_66 ?_
  refine lv_topi (fun z_12 ez_12 => ?_)
  have ez_12 : z_12 = 1 := ez_12.trans (by first | rfl | decide)
  subst ez_12
  refine va_put (D := D) (ci := 11) (v := .int 1) (ty := .int) (C := R_Model) (T := F_Model) (N := 72) hx hb hts i_Model t_Model t_Model_ok n_Model hown hK.1 hP hD hS 0 rfl rfl 1 (by decide) (hts _ wd_1037) (fun _ h9 => h9) rfl (by decide +kernel) rfl rfl (Nat.le_of_ble_eq_true rfl) d_Model_type_67 (fun H_13 locs hP hD hS => ?_)
  have hP : va_P D classes [(m0, .inr (11, [.int 0, .int 1, .ref m1, .int 0, .int 0, .ref m2, .int 0, .int 0, .int 0, .int 0, .int 0, .ref m42, .ref m3, .ref m4, .int 0, .int 0, .ref m5, .ref m6, .ref m7, .ref m8, .ref m9, .ref m10, .ref m11, .ref m12, .ref m13, .ref m14, .ref m15, .ref m16, .ref m17, .ref m18, .ref m19, .int 0, .ref m20, .int 0, .ref m21, .int 0, .int 0, .int 0, .int 0, .int 0, .int 0, .int 0, .ref m22, .int 0, .int 0, .ref m23, .ref m24, .ref m25, .ref m26, .int 0, .ref m27, .int 0, .ref m28, .int 0, .ref m29, .ref m30, .int (-1), .int 0, .int 0, .ref m31, .ref m32, .ref m33, .ref m34, .ref m35, .ref m36, .ref m37, .ref m38, .ref m39, .int 0, .ref m40, .int 0, .ref m41])), (m1, .inl (ax 0, 400, .inl (upd (fun _ => 0) 0 z_10)))] H_13 := hP
  have hD : va_D A [(m0, .inr (11, [.int 0, .int 1, .ref m1, .int 0, .int 0, .ref m2, .int 0, .int 0, .int 0, .int 0, .int 0, .ref m42, .ref m3, .ref m4, .int 0, .int 0, .ref m5, .ref m6, .ref m7, .ref m8, .ref m9, .ref m10, .ref m11, .ref m12, .ref m13, .ref m14, .ref m15, .ref m16, .ref m17, .ref m18, .ref m19, .int 0, .ref m20, .int 0, .ref m21, .int 0, .int 0, .int 0, .int 0, .int 0, .int 0, .int 0, .ref m22, .int 0, .int 0, .ref m23, .ref m24, .ref m25, .ref m26, .int 0, .ref m27, .int 0, .ref m28, .int 0, .ref m29, .ref m30, .int (-1), .int 0, .int 0, .ref m31, .ref m32, .ref m33, .ref m34, .ref m35, .ref m36, .ref m37, .ref m38, .ref m39, .int 0, .ref m40, .int 0, .ref m41])), (m1, .inl (ax 0, 400, .inl (upd (fun _ => 0) 0 z_10)))] := hD
  refine lv_iinc (v := 1) (lv' := [(4, .int 1), (0, .ref m0), (1, .long w), (3, .int 5)]) hx hb d_Model_type_70 hl1 (k := 0) rfl (by decide) (by decide) rfl (fun ls hl1 => ?_)
  refine lv_goto (tgt := 33) hx hb d_Model_type_73 (by decide) ?_
  refine lv_iload hx hb d_Model_type_33 (lv_at hl1 0 rfl) ?_
  refine lv_iload_n hx hb d_Model_type_35 rfl (lv_at hl1 3 rfl) ?_
  refine lv_icmp_ge (tgt := 76) hx hb d_Model_type_36 (by decide) (fun c_14 => ?_) (fun c_14 => ?_)
  · first | exact absurd c_14 (by decide) | exact absurd (by decide) c_14
  refine lv_aload_n hx hb d_Model_type_39 rfl (lv_at hl1 1 rfl) ?_
  refine va_get (D := D) (ci := 11) (v := .ref m1) (C := R_Model) (T := F_Model) (N := 72) hx hb hts i_Model hown hK.1 hP 0 rfl rfl 2 (by decide) (hts _ wd_1038) (fun _ h9 => h9) rfl d_Model_type_40 ?_
  refine lv_aload_n hx hb d_Model_type_43 rfl (lv_at hl1 1 rfl) ?_
  refine va_get (D := D) (ci := 11) (v := .int 1) (C := R_Model) (T := F_Model) (N := 72) hx hb hts i_Model hown hK.1 hP 0 rfl rfl 1 (by decide) (hts _ wd_1037) (fun _ h9 => h9) rfl d_Model_type_44 ?_
  refine lv_lload_n hx hb d_Model_type_47 rfl (lv_at hl1 2 rfl) ?_
  refine lv_bipush (v := 8) hx hb d_Model_type_48 (by decide) ?_
  refine lv_iload hx hb d_Model_type_50 (lv_at hl1 0 rfl) ?_
  refine lv_imul hx hb d_Model_type_52 ?_
  refine lv_topi (fun z_15 ez_15 => ?_)
  have ez_15 : z_15 = 8 := ez_15.trans (by first | rfl | decide)
  subst ez_15
  refine lv_lshr hx hb d_Model_type_53 rfl ?_
  refine lv_topl (fun z_16 ez_16 => ?_)
  refine lv_ldc2 (v := 255) hx hb hown (hts _ wd_1262) d_Model_type_54 ?_
  refine lv_land hx hb d_Model_type_57 ?_
  refine lv_topl (fun z_17 ez_17 => ?_)
  refine lv_l2i hx hb d_Model_type_58 rfl ?_
  refine lv_topi (fun z_18 ez_18 => ?_)
  refine va_iast hx hb hK.1 hP hD hS 1 0 rfl rfl (by unfold vp_in; decide) d_Model_type_59 (fun H_19 locs hP hD hS => ?_)
  have hP : va_P D classes [(m0, .inr (11, [.int 0, .int 1, .ref m1, .int 0, .int 0, .ref m2, .int 0, .int 0, .int 0, .int 0, .int 0, .ref m42, .ref m3, .ref m4, .int 0, .int 0, .ref m5, .ref m6, .ref m7, .ref m8, .ref m9, .ref m10, .ref m11, .ref m12, .ref m13, .ref m14, .ref m15, .ref m16, .ref m17, .ref m18, .ref m19, .int 0, .ref m20, .int 0, .ref m21, .int 0, .int 0, .int 0, .int 0, .int 0, .int 0, .int 0, .ref m22, .int 0, .int 0, .ref m23, .ref m24, .ref m25, .ref m26, .int 0, .ref m27, .int 0, .ref m28, .int 0, .ref m29, .ref m30, .int (-1), .int 0, .int 0, .ref m31, .ref m32, .ref m33, .ref m34, .ref m35, .ref m36, .ref m37, .ref m38, .ref m39, .int 0, .ref m40, .int 0, .ref m41])), (m1, .inl (ax 0, 400, .inl (upd (upd (fun _ => 0) 0 z_10) 1 z_18)))] H_19 := hP
  have hD : va_D A [(m0, .inr (11, [.int 0, .int 1, .ref m1, .int 0, .int 0, .ref m2, .int 0, .int 0, .int 0, .int 0, .int 0, .ref m42, .ref m3, .ref m4, .int 0, .int 0, .ref m5, .ref m6, .ref m7, .ref m8, .ref m9, .ref m10, .ref m11, .ref m12, .ref m13, .ref m14, .ref m15, .ref m16, .ref m17, .ref m18, .ref m19, .int 0, .ref m20, .int 0, .ref m21, .int 0, .int 0, .int 0, .int 0, .int 0, .int 0, .int 0, .ref m22, .int 0, .int 0, .ref m23, .ref m24, .ref m25, .ref m26, .int 0, .ref m27, .int 0, .ref m28, .int 0, .ref m29, .ref m30, .int (-1), .int 0, .int 0, .ref m31, .ref m32, .ref m33, .ref m34, .ref m35, .ref m36, .ref m37, .ref m38, .ref m39, .int 0, .ref m40, .int 0, .ref m41])), (m1, .inl (ax 0, 400, .inl (upd (upd (fun _ => 0) 0 z_10) 1 z_18)))] := hD
  refine lv_aload_n hx hb d_Model_type_60 rfl (lv_at hl1 1 rfl) ?_
  refine lv_dup hx hb d_Model_type_61 rfl ?_
  refine va_get (D := D) (ci := 11) (v := .int 1) (C := R_Model) (T := F_Model) (N := 72) hx hb hts i_Model hown hK.1 hP 0 rfl rfl 1 (by decide) (hts _ wd_1037) (fun _ h9 => h9) rfl d_Model_type_62 ?_
  refine lv_iconst (v := 1) hx hb d_Model_type_65 (by decide) ?_
  refine lv_iadd hx hb d_Model_type_66 ?_
  refine lv_topi (fun z_20 ez_20 => ?_)
  have ez_20 : z_20 = 2 := ez_20.trans (by first | rfl | decide)
  subst ez_20
  refine va_put (D := D) (ci := 11) (v := .int 2) (ty := .int) (C := R_Model) (T := F_Model) (N := 72) hx hb hts i_Model t_Model t_Model_ok n_Model hown hK.1 hP hD hS 0 rfl rfl 1 (by decide) (hts _ wd_1037) (fun _ h9 => h9) rfl (by decide +kernel) rfl rfl (Nat.le_of_ble_eq_true rfl) d_Model_type_67 (fun H_21 locs hP hD hS => ?_)
  have hP : va_P D classes [(m0, .inr (11, [.int 0, .int 2, .ref m1, .int 0, .int 0, .ref m2, .int 0, .int 0, .int 0, .int 0, .int 0, .ref m42, .ref m3, .ref m4, .int 0, .int 0, .ref m5, .ref m6, .ref m7, .ref m8, .ref m9, .ref m10, .ref m11, .ref m12, .ref m13, .ref m14, .ref m15, .ref m16, .ref m17, .ref m18, .ref m19, .int 0, .ref m20, .int 0, .ref m21, .int 0, .int 0, .int 0, .int 0, .int 0, .int 0, .int 0, .ref m22, .int 0, .int 0, .ref m23, .ref m24, .ref m25, .ref m26, .int 0, .ref m27, .int 0, .ref m28, .int 0, .ref m29, .ref m30, .int (-1), .int 0, .int 0, .ref m31, .ref m32, .ref m33, .ref m34, .ref m35, .ref m36, .ref m37, .ref m38, .ref m39, .int 0, .ref m40, .int 0, .ref m41])), (m1, .inl (ax 0, 400, .inl (upd (upd (fun _ => 0) 0 z_10) 1 z_18)))] H_21 := hP
  have hD : va_D A [(m0, .inr (11, [.int 0, .int 2, .ref m1, .int 0, .int 0, .ref m2, .int 0, .int 0, .int 0, .int 0, .int 0, .ref m42, .ref m3, .ref m4, .int 0, .int 0, .ref m5, .ref m6, .ref m7, .ref m8, .ref m9, .ref m10, .ref m11, .ref m12, .ref m13, .ref m14, .ref m15, .ref m16, .ref m17, .ref m18, .ref m19, .int 0, .ref m20, .int 0, .ref m21, .int 0, .int 0, .int 0, .int 0, .int 0, .int 0, .int 0, .ref m22, .int 0, .int 0, .ref m23, .ref m24, .ref m25, .ref m26, .int 0, .ref m27, .int 0, .ref m28, .int 0, .ref m29, .ref m30, .int (-1), .int 0, .int 0, .ref m31, .ref m32, .ref m33, .ref m34, .ref m35, .ref m36, .ref m37, .ref m38, .ref m39, .int 0, .ref m40, .int 0, .ref m41])), (m1, .inl (ax 0, 400, .inl (upd (upd (fun _ => 0) 0 z_10) 1 z_18)))] := hD
  refine lv_iinc (v := 2) (lv' := [(4, .int 2), (0, .ref m0), (1, .long w), (3, .int 5)]) hx hb d_Model_type_70 hl1 (k := 0) rfl (by decide) (by decide) rfl (fun ls hl1 => ?_)
  refine lv_goto (tgt := 33) hx hb d_Model_type_73 (by decide) ?_
  refine lv_iload hx hb d_Model_type_33 (lv_at hl1 0 rfl) ?_
  refine lv_iload_n hx hb d_Model_type_35 rfl (lv_at hl1 3 rfl) ?_
  refine lv_icmp_ge (tgt := 76) hx hb d_Model_type_36 (by decide) (fun c_22 => ?_) (fun c_22 => ?_)
  · first | exact absurd c_22 (by decide) | exact absurd (by decide) c_22
  refine lv_aload_n hx hb d_Model_type_39 rfl (lv_at hl1 1 rfl) ?_
  refine va_get (D := D) (ci := 11) (v := .ref m1) (C := R_Model) (T := F_Model) (N := 72) hx hb hts i_Model hown hK.1 hP 0 rfl rfl 2 (by decide) (hts _ wd_1038) (fun _ h9 => h9) rfl d_Model_type_40 ?_
  refine lv_aload_n hx hb d_Model_type_43 rfl (lv_at hl1 1 rfl) ?_
  refine va_get (D := D) (ci := 11) (v := .int 2) (C := R_Model) (T := F_Model) (N := 72) hx hb hts i_Model hown hK.1 hP 0 rfl rfl 1 (by decide) (hts _ wd_1037) (fun _ h9 => h9) rfl d_Model_type_44 ?_
  refine lv_lload_n hx hb d_Model_type_47 rfl (lv_at hl1 2 rfl) ?_
  refine lv_bipush (v := 8) hx hb d_Model_type_48 (by decide) ?_
  refine lv_iload hx hb d_Model_type_50 (lv_at hl1 0 rfl) ?_
  refine lv_imul hx hb d_Model_type_52 ?_
  refine lv_topi (fun z_23 ez_23 => ?_)
  have ez_23 : z_23 = 16 := ez_23.trans (by first | rfl | decide)
  subst ez_23
  refine lv_lshr hx hb d_Model_type_53 rfl ?_
  refine lv_topl (fun z_24 ez_24 => ?_)
  refine lv_ldc2 (v := 255) hx hb hown (hts _ wd_1262) d_Model_type_54 ?_
  refine lv_land hx hb d_Model_type_57 ?_
  refine lv_topl (fun z_25 ez_25 => ?_)
  refine lv_l2i hx hb d_Model_type_58 rfl ?_
  refine lv_topi (fun z_26 ez_26 => ?_)
  refine va_iast hx hb hK.1 hP hD hS 1 0 rfl rfl (by unfold vp_in; decide) d_Model_type_59 (fun H_27 locs hP hD hS => ?_)
  have hP : va_P D classes [(m0, .inr (11, [.int 0, .int 2, .ref m1, .int 0, .int 0, .ref m2, .int 0, .int 0, .int 0, .int 0, .int 0, .ref m42, .ref m3, .ref m4, .int 0, .int 0, .ref m5, .ref m6, .ref m7, .ref m8, .ref m9, .ref m10, .ref m11, .ref m12, .ref m13, .ref m14, .ref m15, .ref m16, .ref m17, .ref m18, .ref m19, .int 0, .ref m20, .int 0, .ref m21, .int 0, .int 0, .int 0, .int 0, .int 0, .int 0, .int 0, .ref m22, .int 0, .int 0, .ref m23, .ref m24, .ref m25, .ref m26, .int 0, .ref m27, .int 0, .ref m28, .int 0, .ref m29, .ref m30, .int (-1), .int 0, .int 0, .ref m31, .ref m32, .ref m33, .ref m34, .ref m35, .ref m36, .ref m37, .ref m38, .ref m39, .int 0, .ref m40, .int 0, .ref m41])), (m1, .inl (ax 0, 400, .inl (upd (upd (upd (fun _ => 0) 0 z_10) 1 z_18) 2 z_26)))] H_27 := hP
  have hD : va_D A [(m0, .inr (11, [.int 0, .int 2, .ref m1, .int 0, .int 0, .ref m2, .int 0, .int 0, .int 0, .int 0, .int 0, .ref m42, .ref m3, .ref m4, .int 0, .int 0, .ref m5, .ref m6, .ref m7, .ref m8, .ref m9, .ref m10, .ref m11, .ref m12, .ref m13, .ref m14, .ref m15, .ref m16, .ref m17, .ref m18, .ref m19, .int 0, .ref m20, .int 0, .ref m21, .int 0, .int 0, .int 0, .int 0, .int 0, .int 0, .int 0, .ref m22, .int 0, .int 0, .ref m23, .ref m24, .ref m25, .ref m26, .int 0, .ref m27, .int 0, .ref m28, .int 0, .ref m29, .ref m30, .int (-1), .int 0, .int 0, .ref m31, .ref m32, .ref m33, .ref m34, .ref m35, .ref m36, .ref m37, .ref m38, .ref m39, .int 0, .ref m40, .int 0, .ref m41])), (m1, .inl (ax 0, 400, .inl (upd (upd (upd (fun _ => 0) 0 z_10) 1 z_18) 2 z_26)))] := hD
  refine lv_aload_n hx hb d_Model_type_60 rfl (lv_at hl1 1 rfl) ?_
  refine lv_dup hx hb d_Model_type_61 rfl ?_
  refine va_get (D := D) (ci := 11) (v := .int 2) (C := R_Model) (T := F_Model) (N := 72) hx hb hts i_Model hown hK.1 hP 0 rfl rfl 1 (by decide) (hts _ wd_1037) (fun _ h9 => h9) rfl d_Model_type_62 ?_
  refine lv_iconst (v := 1) hx hb d_Model_type_65 (by decide) ?_
  refine lv_iadd hx hb d_Model_type_66 ?_
  refine lv_topi (fun z_28 ez_28 => ?_)
  have ez_28 : z_28 = 3 := ez_28.trans (by first | rfl | decide)
  subst ez_28
  refine va_put (D := D) (ci := 11) (v := .int 3) (ty := .int) (C := R_Model) (T := F_Model) (N := 72) hx hb hts i_Model t_Model t_Model_ok n_Model hown hK.1 hP hD hS 0 rfl rfl 1 (by decide) (hts _ wd_1037) (fun _ h9 => h9) rfl (by decide +kernel) rfl rfl (Nat.le_of_ble_eq_true rfl) d_Model_type_67 (fun H_29 locs hP hD hS => ?_)
  have hP : va_P D classes [(m0, .inr (11, [.int 0, .int 3, .ref m1, .int 0, .int 0, .ref m2, .int 0, .int 0, .int 0, .int 0, .int 0, .ref m42, .ref m3, .ref m4, .int 0, .int 0, .ref m5, .ref m6, .ref m7, .ref m8, .ref m9, .ref m10, .ref m11, .ref m12, .ref m13, .ref m14, .ref m15, .ref m16, .ref m17, .ref m18, .ref m19, .int 0, .ref m20, .int 0, .ref m21, .int 0, .int 0, .int 0, .int 0, .int 0, .int 0, .int 0, .ref m22, .int 0, .int 0, .ref m23, .ref m24, .ref m25, .ref m26, .int 0, .ref m27, .int 0, .ref m28, .int 0, .ref m29, .ref m30, .int (-1), .int 0, .int 0, .ref m31, .ref m32, .ref m33, .ref m34, .ref m35, .ref m36, .ref m37, .ref m38, .ref m39, .int 0, .ref m40, .int 0, .ref m41])), (m1, .inl (ax 0, 400, .inl (upd (upd (upd (fun _ => 0) 0 z_10) 1 z_18) 2 z_26)))] H_29 := hP
  have hD : va_D A [(m0, .inr (11, [.int 0, .int 3, .ref m1, .int 0, .int 0, .ref m2, .int 0, .int 0, .int 0, .int 0, .int 0, .ref m42, .ref m3, .ref m4, .int 0, .int 0, .ref m5, .ref m6, .ref m7, .ref m8, .ref m9, .ref m10, .ref m11, .ref m12, .ref m13, .ref m14, .ref m15, .ref m16, .ref m17, .ref m18, .ref m19, .int 0, .ref m20, .int 0, .ref m21, .int 0, .int 0, .int 0, .int 0, .int 0, .int 0, .int 0, .ref m22, .int 0, .int 0, .ref m23, .ref m24, .ref m25, .ref m26, .int 0, .ref m27, .int 0, .ref m28, .int 0, .ref m29, .ref m30, .int (-1), .int 0, .int 0, .ref m31, .ref m32, .ref m33, .ref m34, .ref m35, .ref m36, .ref m37, .ref m38, .ref m39, .int 0, .ref m40, .int 0, .ref m41])), (m1, .inl (ax 0, 400, .inl (upd (upd (upd (fun _ => 0) 0 z_10) 1 z_18) 2 z_26)))] := hD
  refine lv_iinc (v := 3) (lv' := [(4, .int 3), (0, .ref m0), (1, .long w), (3, .int 5)]) hx hb d_Model_type_70 hl1 (k := 0) rfl (by decide) (by decide) rfl (fun ls hl1 => ?_)
  refine lv_goto (tgt := 33) hx hb d_Model_type_73 (by decide) ?_
  refine lv_iload hx hb d_Model_type_33 (lv_at hl1 0 rfl) ?_
  refine lv_iload_n hx hb d_Model_type_35 rfl (lv_at hl1 3 rfl) ?_
  refine lv_icmp_ge (tgt := 76) hx hb d_Model_type_36 (by decide) (fun c_30 => ?_) (fun c_30 => ?_)
  · first | exact absurd c_30 (by decide) | exact absurd (by decide) c_30
  refine lv_aload_n hx hb d_Model_type_39 rfl (lv_at hl1 1 rfl) ?_
  refine va_get (D := D) (ci := 11) (v := .ref m1) (C := R_Model) (T := F_Model) (N := 72) hx hb hts i_Model hown hK.1 hP 0 rfl rfl 2 (by decide) (hts _ wd_1038) (fun _ h9 => h9) rfl d_Model_type_40 ?_
  refine lv_aload_n hx hb d_Model_type_43 rfl (lv_at hl1 1 rfl) ?_
  refine va_get (D := D) (ci := 11) (v := .int 3) (C := R_Model) (T := F_Model) (N := 72) hx hb hts i_Model hown hK.1 hP 0 rfl rfl 1 (by decide) (hts _ wd_1037) (fun _ h9 => h9) rfl d_Model_type_44 ?_
  refine lv_lload_n hx hb d_Model_type_47 rfl (lv_at hl1 2 rfl) ?_
  refine lv_bipush (v := 8) hx hb d_Model_type_48 (by decide) ?_
  refine lv_iload hx hb d_Model_type_50 (lv_at hl1 0 rfl) ?_
  refine lv_imul hx hb d_Model_type_52 ?_
  refine lv_topi (fun z_31 ez_31 => ?_)
  have ez_31 : z_31 = 24 := ez_31.trans (by first | rfl | decide)
  subst ez_31
  refine lv_lshr hx hb d_Model_type_53 rfl ?_
  refine lv_topl (fun z_32 ez_32 => ?_)
  refine lv_ldc2 (v := 255) hx hb hown (hts _ wd_1262) d_Model_type_54 ?_
  refine lv_land hx hb d_Model_type_57 ?_
  refine lv_topl (fun z_33 ez_33 => ?_)
  refine lv_l2i hx hb d_Model_type_58 rfl ?_
  refine lv_topi (fun z_34 ez_34 => ?_)
  refine va_iast hx hb hK.1 hP hD hS 1 0 rfl rfl (by unfold vp_in; decide) d_Model_type_59 (fun H_35 locs hP hD hS => ?_)
  have hP : va_P D classes [(m0, .inr (11, [.int 0, .int 3, .ref m1, .int 0, .int 0, .ref m2, .int 0, .int 0, .int 0, .int 0, .int 0, .ref m42, .ref m3, .ref m4, .int 0, .int 0, .ref m5, .ref m6, .ref m7, .ref m8, .ref m9, .ref m10, .ref m11, .ref m12, .ref m13, .ref m14, .ref m15, .ref m16, .ref m17, .ref m18, .ref m19, .int 0, .ref m20, .int 0, .ref m21, .int 0, .int 0, .int 0, .int 0, .int 0, .int 0, .int 0, .ref m22, .int 0, .int 0, .ref m23, .ref m24, .ref m25, .ref m26, .int 0, .ref m27, .int 0, .ref m28, .int 0, .ref m29, .ref m30, .int (-1), .int 0, .int 0, .ref m31, .ref m32, .ref m33, .ref m34, .ref m35, .ref m36, .ref m37, .ref m38, .ref m39, .int 0, .ref m40, .int 0, .ref m41])), (m1, .inl (ax 0, 400, .inl (upd (upd (upd (upd (fun _ => 0) 0 z_10) 1 z_18) 2 z_26) 3 z_34)))] H_35 := hP
  have hD : va_D A [(m0, .inr (11, [.int 0, .int 3, .ref m1, .int 0, .int 0, .ref m2, .int 0, .int 0, .int 0, .int 0, .int 0, .ref m42, .ref m3, .ref m4, .int 0, .int 0, .ref m5, .ref m6, .ref m7, .ref m8, .ref m9, .ref m10, .ref m11, .ref m12, .ref m13, .ref m14, .ref m15, .ref m16, .ref m17, .ref m18, .ref m19, .int 0, .ref m20, .int 0, .ref m21, .int 0, .int 0, .int 0, .int 0, .int 0, .int 0, .int 0, .ref m22, .int 0, .int 0, .ref m23, .ref m24, .ref m25, .ref m26, .int 0, .ref m27, .int 0, .ref m28, .int 0, .ref m29, .ref m30, .int (-1), .int 0, .int 0, .ref m31, .ref m32, .ref m33, .ref m34, .ref m35, .ref m36, .ref m37, .ref m38, .ref m39, .int 0, .ref m40, .int 0, .ref m41])), (m1, .inl (ax 0, 400, .inl (upd (upd (upd (upd (fun _ => 0) 0 z_10) 1 z_18) 2 z_26) 3 z_34)))] := hD
  refine lv_aload_n hx hb d_Model_type_60 rfl (lv_at hl1 1 rfl) ?_
  refine lv_dup hx hb d_Model_type_61 rfl ?_
  refine va_get (D := D) (ci := 11) (v := .int 3) (C := R_Model) (T := F_Model) (N := 72) hx hb hts i_Model hown hK.1 hP 0 rfl rfl 1 (by decide) (hts _ wd_1037) (fun _ h9 => h9) rfl d_Model_type_62 ?_
  refine lv_iconst (v := 1) hx hb d_Model_type_65 (by decide) ?_
  refine lv_iadd hx hb d_Model_type_66 ?_
  refine lv_topi (fun z_36 ez_36 => ?_)
  have ez_36 : z_36 = 4 := ez_36.trans (by first | rfl | decide)
  subst ez_36
  refine va_put (D := D) (ci := 11) (v := .int 4) (ty := .int) (C := R_Model) (T := F_Model) (N := 72) hx hb hts i_Model t_Model t_Model_ok n_Model hown hK.1 hP hD hS 0 rfl rfl 1 (by decide) (hts _ wd_1037) (fun _ h9 => h9) rfl (by decide +kernel) rfl rfl (Nat.le_of_ble_eq_true rfl) d_Model_type_67 (fun H_37 locs hP hD hS => ?_)
  have hP : va_P D classes [(m0, .inr (11, [.int 0, .int 4, .ref m1, .int 0, .int 0, .ref m2, .int 0, .int 0, .int 0, .int 0, .int 0, .ref m42, .ref m3, .ref m4, .int 0, .int 0, .ref m5, .ref m6, .ref m7, .ref m8, .ref m9, .ref m10, .ref m11, .ref m12, .ref m13, .ref m14, .ref m15, .ref m16, .ref m17, .ref m18, .ref m19, .int 0, .ref m20, .int 0, .ref m21, .int 0, .int 0, .int 0, .int 0, .int 0, .int 0, .int 0, .ref m22, .int 0, .int 0, .ref m23, .ref m24, .ref m25, .ref m26, .int 0, .ref m27, .int 0, .ref m28, .int 0, .ref m29, .ref m30, .int (-1), .int 0, .int 0, .ref m31, .ref m32, .ref m33, .ref m34, .ref m35, .ref m36, .ref m37, .ref m38, .ref m39, .int 0, .ref m40, .int 0, .ref m41])), (m1, .inl (ax 0, 400, .inl (upd (upd (upd (upd (fun _ => 0) 0 z_10) 1 z_18) 2 z_26) 3 z_34)))] H_37 := hP
  have hD : va_D A [(m0, .inr (11, [.int 0, .int 4, .ref m1, .int 0, .int 0, .ref m2, .int 0, .int 0, .int 0, .int 0, .int 0, .ref m42, .ref m3, .ref m4, .int 0, .int 0, .ref m5, .ref m6, .ref m7, .ref m8, .ref m9, .ref m10, .ref m11, .ref m12, .ref m13, .ref m14, .ref m15, .ref m16, .ref m17, .ref m18, .ref m19, .int 0, .ref m20, .int 0, .ref m21, .int 0, .int 0, .int 0, .int 0, .int 0, .int 0, .int 0, .ref m22, .int 0, .int 0, .ref m23, .ref m24, .ref m25, .ref m26, .int 0, .ref m27, .int 0, .ref m28, .int 0, .ref m29, .ref m30, .int (-1), .int 0, .int 0, .ref m31, .ref m32, .ref m33, .ref m34, .ref m35, .ref m36, .ref m37, .ref m38, .ref m39, .int 0, .ref m40, .int 0, .ref m41])), (m1, .inl (ax 0, 400, .inl (upd (upd (upd (upd (fun _ => 0) 0 z_10) 1 z_18) 2 z_26) 3 z_34)))] := hD
  refine lv_iinc (v := 4) (lv' := [(4, .int 4), (0, .ref m0), (1, .long w), (3, .int 5)]) hx hb d_Model_type_70 hl1 (k := 0) rfl (by decide) (by decide) rfl (fun ls hl1 => ?_)
  refine lv_goto (tgt := 33) hx hb d_Model_type_73 (by decide) ?_
  refine lv_iload hx hb d_Model_type_33 (lv_at hl1 0 rfl) ?_
  refine lv_iload_n hx hb d_Model_type_35 rfl (lv_at hl1 3 rfl) ?_
  refine lv_icmp_ge (tgt := 76) hx hb d_Model_type_36 (by decide) (fun c_38 => ?_) (fun c_38 => ?_)
  · first | exact absurd c_38 (by decide) | exact absurd (by decide) c_38
  refine lv_aload_n hx hb d_Model_type_39 rfl (lv_at hl1 1 rfl) ?_
  refine va_get (D := D) (ci := 11) (v := .ref m1) (C := R_Model) (T := F_Model) (N := 72) hx hb hts i_Model hown hK.1 hP 0 rfl rfl 2 (by decide) (hts _ wd_1038) (fun _ h9 => h9) rfl d_Model_type_40 ?_
  refine lv_aload_n hx hb d_Model_type_43 rfl (lv_at hl1 1 rfl) ?_
  refine va_get (D := D) (ci := 11) (v := .int 4) (C := R_Model) (T := F_Model) (N := 72) hx hb hts i_Model hown hK.1 hP 0 rfl rfl 1 (by decide) (hts _ wd_1037) (fun _ h9 => h9) rfl d_Model_type_44 ?_
  refine lv_lload_n hx hb d_Model_type_47 rfl (lv_at hl1 2 rfl) ?_
  refine lv_bipush (v := 8) hx hb d_Model_type_48 (by decide) ?_
  refine lv_iload hx hb d_Model_type_50 (lv_at hl1 0 rfl) ?_
  refine lv_imul hx hb d_Model_type_52 ?_
  refine lv_topi (fun z_39 ez_39 => ?_)
  have ez_39 : z_39 = 32 := ez_39.trans (by first | rfl | decide)
  subst ez_39
  refine lv_lshr hx hb d_Model_type_53 rfl ?_
  refine lv_topl (fun z_40 ez_40 => ?_)
  refine lv_ldc2 (v := 255) hx hb hown (hts _ wd_1262) d_Model_type_54 ?_
  refine lv_land hx hb d_Model_type_57 ?_
  refine lv_topl (fun z_41 ez_41 => ?_)
  refine lv_l2i hx hb d_Model_type_58 rfl ?_
  refine lv_topi (fun z_42 ez_42 => ?_)
  refine va_iast hx hb hK.1 hP hD hS 1 0 rfl rfl (by unfold vp_in; decide) d_Model_type_59 (fun H_43 locs hP hD hS => ?_)
  have hP : va_P D classes [(m0, .inr (11, [.int 0, .int 4, .ref m1, .int 0, .int 0, .ref m2, .int 0, .int 0, .int 0, .int 0, .int 0, .ref m42, .ref m3, .ref m4, .int 0, .int 0, .ref m5, .ref m6, .ref m7, .ref m8, .ref m9, .ref m10, .ref m11, .ref m12, .ref m13, .ref m14, .ref m15, .ref m16, .ref m17, .ref m18, .ref m19, .int 0, .ref m20, .int 0, .ref m21, .int 0, .int 0, .int 0, .int 0, .int 0, .int 0, .int 0, .ref m22, .int 0, .int 0, .ref m23, .ref m24, .ref m25, .ref m26, .int 0, .ref m27, .int 0, .ref m28, .int 0, .ref m29, .ref m30, .int (-1), .int 0, .int 0, .ref m31, .ref m32, .ref m33, .ref m34, .ref m35, .ref m36, .ref m37, .ref m38, .ref m39, .int 0, .ref m40, .int 0, .ref m41])), (m1, .inl (ax 0, 400, .inl (upd (upd (upd (upd (upd (fun _ => 0) 0 z_10) 1 z_18) 2 z_26) 3 z_34) 4 z_42)))] H_43 := hP
  have hD : va_D A [(m0, .inr (11, [.int 0, .int 4, .ref m1, .int 0, .int 0, .ref m2, .int 0, .int 0, .int 0, .int 0, .int 0, .ref m42, .ref m3, .ref m4, .int 0, .int 0, .ref m5, .ref m6, .ref m7, .ref m8, .ref m9, .ref m10, .ref m11, .ref m12, .ref m13, .ref m14, .ref m15, .ref m16, .ref m17, .ref m18, .ref m19, .int 0, .ref m20, .int 0, .ref m21, .int 0, .int 0, .int 0, .int 0, .int 0, .int 0, .int 0, .ref m22, .int 0, .int 0, .ref m23, .ref m24, .ref m25, .ref m26, .int 0, .ref m27, .int 0, .ref m28, .int 0, .ref m29, .ref m30, .int (-1), .int 0, .int 0, .ref m31, .ref m32, .ref m33, .ref m34, .ref m35, .ref m36, .ref m37, .ref m38, .ref m39, .int 0, .ref m40, .int 0, .ref m41])), (m1, .inl (ax 0, 400, .inl (upd (upd (upd (upd (upd (fun _ => 0) 0 z_10) 1 z_18) 2 z_26) 3 z_34) 4 z_42)))] := hD
  refine lv_aload_n hx hb d_Model_type_60 rfl (lv_at hl1 1 rfl) ?_
  refine lv_dup hx hb d_Model_type_61 rfl ?_
  refine va_get (D := D) (ci := 11) (v := .int 4) (C := R_Model) (T := F_Model) (N := 72) hx hb hts i_Model hown hK.1 hP 0 rfl rfl 1 (by decide) (hts _ wd_1037) (fun _ h9 => h9) rfl d_Model_type_62 ?_
  refine lv_iconst (v := 1) hx hb d_Model_type_65 (by decide) ?_
  refine lv_iadd hx hb d_Model_type_66 ?_
  refine lv_topi (fun z_44 ez_44 => ?_)
  have ez_44 : z_44 = 5 := ez_44.trans (by first | rfl | decide)
  subst ez_44
  refine va_put (D := D) (ci := 11) (v := .int 5) (ty := .int) (C := R_Model) (T := F_Model) (N := 72) hx hb hts i_Model t_Model t_Model_ok n_Model hown hK.1 hP hD hS 0 rfl rfl 1 (by decide) (hts _ wd_1037) (fun _ h9 => h9) rfl (by decide +kernel) rfl rfl (Nat.le_of_ble_eq_true rfl) d_Model_type_67 (fun H_45 locs hP hD hS => ?_)
  have hP : va_P D classes [(m0, .inr (11, [.int 0, .int 5, .ref m1, .int 0, .int 0, .ref m2, .int 0, .int 0, .int 0, .int 0, .int 0, .ref m42, .ref m3, .ref m4, .int 0, .int 0, .ref m5, .ref m6, .ref m7, .ref m8, .ref m9, .ref m10, .ref m11, .ref m12, .ref m13, .ref m14, .ref m15, .ref m16, .ref m17, .ref m18, .ref m19, .int 0, .ref m20, .int 0, .ref m21, .int 0, .int 0, .int 0, .int 0, .int 0, .int 0, .int 0, .ref m22, .int 0, .int 0, .ref m23, .ref m24, .ref m25, .ref m26, .int 0, .ref m27, .int 0, .ref m28, .int 0, .ref m29, .ref m30, .int (-1), .int 0, .int 0, .ref m31, .ref m32, .ref m33, .ref m34, .ref m35, .ref m36, .ref m37, .ref m38, .ref m39, .int 0, .ref m40, .int 0, .ref m41])), (m1, .inl (ax 0, 400, .inl (upd (upd (upd (upd (upd (fun _ => 0) 0 z_10) 1 z_18) 2 z_26) 3 z_34) 4 z_42)))] H_45 := hP
  have hD : va_D A [(m0, .inr (11, [.int 0, .int 5, .ref m1, .int 0, .int 0, .ref m2, .int 0, .int 0, .int 0, .int 0, .int 0, .ref m42, .ref m3, .ref m4, .int 0, .int 0, .ref m5, .ref m6, .ref m7, .ref m8, .ref m9, .ref m10, .ref m11, .ref m12, .ref m13, .ref m14, .ref m15, .ref m16, .ref m17, .ref m18, .ref m19, .int 0, .ref m20, .int 0, .ref m21, .int 0, .int 0, .int 0, .int 0, .int 0, .int 0, .int 0, .ref m22, .int 0, .int 0, .ref m23, .ref m24, .ref m25, .ref m26, .int 0, .ref m27, .int 0, .ref m28, .int 0, .ref m29, .ref m30, .int (-1), .int 0, .int 0, .ref m31, .ref m32, .ref m33, .ref m34, .ref m35, .ref m36, .ref m37, .ref m38, .ref m39, .int 0, .ref m40, .int 0, .ref m41])), (m1, .inl (ax 0, 400, .inl (upd (upd (upd (upd (upd (fun _ => 0) 0 z_10) 1 z_18) 2 z_26) 3 z_34) 4 z_42)))] := hD
  refine lv_iinc (v := 5) (lv' := [(4, .int 5), (0, .ref m0), (1, .long w), (3, .int 5)]) hx hb d_Model_type_70 hl1 (k := 0) rfl (by decide) (by decide) rfl (fun ls hl1 => ?_)
  refine lv_goto (tgt := 33) hx hb d_Model_type_73 (by decide) ?_
  refine lv_iload hx hb d_Model_type_33 (lv_at hl1 0 rfl) ?_
  refine lv_iload_n hx hb d_Model_type_35 rfl (lv_at hl1 3 rfl) ?_
  refine lv_icmp_ge (tgt := 76) hx hb d_Model_type_36 (by decide) (fun c_46 => ?_) (fun c_46 => ?_)
  rotate_left
  · first | exact absurd c_46 (by decide) | exact absurd (by decide) c_46
  refine lv_iconst (v := 1) hx hb d_Model_type_76 (by decide) ?_
  exact W.zret (v := 1) hx hb hr rfl (fun t ht hW => ⟨⟨1, fun _ => 0, rfl, rfl, trivial⟩, hS.F ht⟩) hS.2.2 d_Model_type_77
set_option maxHeartbeats 4000000 in
set_option maxRecDepth 100000 in
theorem c_Model_type_6 (l : Launch) (D : va_G) (ax : Nat → ClassId) (m0 m1 m2 m3 m4 m5 m6 m7 m8 m9 m10 m11 m12 m13 m14 m15 m16 m17 m18 m19 m20 m21 m22 m23 m24 m25 m26 m27 m28 m29 m30 m31 m32 m33 m34 m35 m36 m37 m38 m39 m40 m41 m42 : Nat) (w : Int64) (sz : Nat) : Met l y_Model_type (xws (.code y_Model_type b_Model_type 5 (some .boolean))) ({ frames := 10, cells := 0, slots := 0, locals := 400 }) (va_Pc [.ref m0, .long w, .int 6] (xo D ax [(m0, .inr (11, [.int 0, .int 0, .ref m1, .int 0, .int 0, .ref m2, .int 0, .int 0, .int 0, .int 0, .int 0, .ref m42, .ref m3, .ref m4, .int 0, .int 0, .ref m5, .ref m6, .ref m7, .ref m8, .ref m9, .ref m10, .ref m11, .ref m12, .ref m13, .ref m14, .ref m15, .ref m16, .ref m17, .ref m18, .ref m19, .int 0, .ref m20, .int 0, .ref m21, .int 0, .int 0, .int 0, .int 0, .int 0, .int 0, .int 0, .ref m22, .int 0, .int 0, .ref m23, .ref m24, .ref m25, .ref m26, .int 0, .ref m27, .int 0, .ref m28, .int 0, .ref m29, .ref m30, .int (-1), .int 0, .int 0, .ref m31, .ref m32, .ref m33, .ref m34, .ref m35, .ref m36, .ref m37, .ref m38, .ref m39, .int 0, .ref m40, .int 0, .ref m41])), (m1, .inl (ax 0, 400, .inl (fun _ => 0)))] sz)) ((va_Qi (fun (r : Int32) (u : Nat → Nat) => r = 1) (fun (_ : Nat → Nat) (_ : State) => True) (va_A [(m0, .inr (11, [.int 0, .int 0, .ref m1, .int 0, .int 0, .ref m2, .int 0, .int 0, .int 0, .int 0, .int 0, .ref m42, .ref m3, .ref m4, .int 0, .int 0, .ref m5, .ref m6, .ref m7, .ref m8, .ref m9, .ref m10, .ref m11, .ref m12, .ref m13, .ref m14, .ref m15, .ref m16, .ref m17, .ref m18, .ref m19, .int 0, .ref m20, .int 0, .ref m21, .int 0, .int 0, .int 0, .int 0, .int 0, .int 0, .int 0, .ref m22, .int 0, .int 0, .ref m23, .ref m24, .ref m25, .ref m26, .int 0, .ref m27, .int 0, .ref m28, .int 0, .ref m29, .ref m30, .int (-1), .int 0, .int 0, .ref m31, .ref m32, .ref m33, .ref m34, .ref m35, .ref m36, .ref m37, .ref m38, .ref m39, .int 0, .ref m40, .int 0, .ref m41])), (m1, .inl (ax 0, 400, .inl (fun _ => 0)))] sz))) 0 0 (va_A [(m0, .inr (11, [.int 0, .int 0, .ref m1, .int 0, .int 0, .ref m2, .int 0, .int 0, .int 0, .int 0, .int 0, .ref m42, .ref m3, .ref m4, .int 0, .int 0, .ref m5, .ref m6, .ref m7, .ref m8, .ref m9, .ref m10, .ref m11, .ref m12, .ref m13, .ref m14, .ref m15, .ref m16, .ref m17, .ref m18, .ref m19, .int 0, .ref m20, .int 0, .ref m21, .int 0, .int 0, .int 0, .int 0, .int 0, .int 0, .int 0, .ref m22, .int 0, .int 0, .ref m23, .ref m24, .ref m25, .ref m26, .int 0, .ref m27, .int 0, .ref m28, .int 0, .ref m29, .ref m30, .int (-1), .int 0, .int 0, .ref m31, .ref m32, .ref m33, .ref m34, .ref m35, .ref m36, .ref m37, .ref m38, .ref m39, .int 0, .ref m40, .int 0, .ref m41])), (m1, .inl (ax 0, 400, .inl (fun _ => 0)))] sz) := by
  refine Met.ofW (cc := b_Model_type) (maxL := 5) (ret := (some .boolean)) (by decide) rfl ?_
  intro p e s m args below meth c s₁ B hml hv
  obtain ⟨rfl, hsz, hP, hK, hD0⟩ := hv
  have hx := B.exec
  have hb := B.bytes
  have hr := B.returns
  have hts := xw_hts B.pre
  have hown : s.vm.findClass R_Model = some m.cls := findClass_of_methodNamed B.named
  have hlocks := B.notSynchronized
  subst hsz
  have hD := hD0.self (sz := s.heap.size)
  have hN := xz_entry hP
  generalize hAe : va_A [(m0, .inr (11, [.int 0, .int 0, .ref m1, .int 0, .int 0, .ref m2, .int 0, .int 0, .int 0, .int 0, .int 0, .ref m42, .ref m3, .ref m4, .int 0, .int 0, .ref m5, .ref m6, .ref m7, .ref m8, .ref m9, .ref m10, .ref m11, .ref m12, .ref m13, .ref m14, .ref m15, .ref m16, .ref m17, .ref m18, .ref m19, .int 0, .ref m20, .int 0, .ref m21, .int 0, .int 0, .int 0, .int 0, .int 0, .int 0, .int 0, .ref m22, .int 0, .int 0, .ref m23, .ref m24, .ref m25, .ref m26, .int 0, .ref m27, .int 0, .ref m28, .int 0, .ref m29, .ref m30, .int (-1), .int 0, .int 0, .ref m31, .ref m32, .ref m33, .ref m34, .ref m35, .ref m36, .ref m37, .ref m38, .ref m39, .int 0, .ref m40, .int 0, .ref m41])), (m1, .inl (ax 0, 400, .inl (fun _ => 0)))] s.heap.size = A at hD hN ⊢
  have hA : ∀ q : Nat, s.heap.size ≤ q → A q := fun q h => by rw [← hAe]; exact Or.inr h
  have hS : va_S A s.heap s.heap [] := va_S.rf
  have hl0 := lv_entry ([.ref m0, .long w, .int 6]) (n := 5) (Nat.le_of_ble_eq_true rfl)
  rw [lg_entry_eq]
  generalize (lg_sl ([.ref m0, .long w, .int 6]) ++ List.replicate (5 - (lg_sl ([.ref m0, .long w, .int 6])).length) Slot.unset).toArray = ls at hl0 ⊢
  have hl1 : lv_has ls 5 [(0, .ref m0), (1, .long w), (3, .int 6)] := hl0
  refine lv_aload_n hx hb d_Model_type_0 rfl (lv_at hl1 0 rfl) ?_
  refine lv_iconst (v := 0) hx hb d_Model_type_1 (by decide) ?_
  refine va_put (D := D) (ci := 11) (v := .int 0) (ty := .int) (C := R_Model) (T := F_Model) (N := 72) hx hb hts i_Model t_Model t_Model_ok n_Model hown hK.1 hP hD hS 0 rfl rfl 0 (by decide) (hts _ wd_1036) (fun _ h9 => h9) rfl (by decide +kernel) rfl rfl (Nat.le_of_ble_eq_true rfl) d_Model_type_2 (fun H_1 locs hP hD hS => ?_)
  have hP : va_P D classes [(m0, .inr (11, [.int 0, .int 0, .ref m1, .int 0, .int 0, .ref m2, .int 0, .int 0, .int 0, .int 0, .int 0, .ref m42, .ref m3, .ref m4, .int 0, .int 0, .ref m5, .ref m6, .ref m7, .ref m8, .ref m9, .ref m10, .ref m11, .ref m12, .ref m13, .ref m14, .ref m15, .ref m16, .ref m17, .ref m18, .ref m19, .int 0, .ref m20, .int 0, .ref m21, .int 0, .int 0, .int 0, .int 0, .int 0, .int 0, .int 0, .ref m22, .int 0, .int 0, .ref m23, .ref m24, .ref m25, .ref m26, .int 0, .ref m27, .int 0, .ref m28, .int 0, .ref m29, .ref m30, .int (-1), .int 0, .int 0, .ref m31, .ref m32, .ref m33, .ref m34, .ref m35, .ref m36, .ref m37, .ref m38, .ref m39, .int 0, .ref m40, .int 0, .ref m41])), (m1, .inl (ax 0, 400, .inl (fun _ => 0)))] H_1 := hP
  have hD : va_D A [(m0, .inr (11, [.int 0, .int 0, .ref m1, .int 0, .int 0, .ref m2, .int 0, .int 0, .int 0, .int 0, .int 0, .ref m42, .ref m3, .ref m4, .int 0, .int 0, .ref m5, .ref m6, .ref m7, .ref m8, .ref m9, .ref m10, .ref m11, .ref m12, .ref m13, .ref m14, .ref m15, .ref m16, .ref m17, .ref m18, .ref m19, .int 0, .ref m20, .int 0, .ref m21, .int 0, .int 0, .int 0, .int 0, .int 0, .int 0, .int 0, .ref m22, .int 0, .int 0, .ref m23, .ref m24, .ref m25, .ref m26, .int 0, .ref m27, .int 0, .ref m28, .int 0, .ref m29, .ref m30, .int (-1), .int 0, .int 0, .ref m31, .ref m32, .ref m33, .ref m34, .ref m35, .ref m36, .ref m37, .ref m38, .ref m39, .int 0, .ref m40, .int 0, .ref m41])), (m1, .inl (ax 0, 400, .inl (fun _ => 0)))] := hD
  refine lv_iload_n hx hb d_Model_type_5 rfl (lv_at hl1 2 rfl) ?_
  refine lv_iconst (v := 1) hx hb d_Model_type_6 (by decide) ?_
  refine lv_icmp_lt (tgt := 28) hx hb d_Model_type_7 (by decide) (fun c_2 => ?_) (fun c_2 => ?_)
  · first | exact absurd c_2 (by decide) | exact absurd (by decide) c_2
  refine lv_iload_n hx hb d_Model_type_10 rfl (lv_at hl1 2 rfl) ?_
  refine lv_bipush (v := 8) hx hb d_Model_type_11 (by decide) ?_
  refine lv_icmp_gt (tgt := 28) hx hb d_Model_type_13 (by decide) (fun c_3 => ?_) (fun c_3 => ?_)
  · first | exact absurd c_3 (by decide) | exact absurd (by decide) c_3
  refine lv_aload_n hx hb d_Model_type_16 rfl (lv_at hl1 0 rfl) ?_
  refine va_get (D := D) (ci := 11) (v := .int 0) (C := R_Model) (T := F_Model) (N := 72) hx hb hts i_Model hown hK.1 hP 0 rfl rfl 1 (by decide) (hts _ wd_1037) (fun _ h9 => h9) rfl d_Model_type_17 ?_
  refine lv_iload_n hx hb d_Model_type_20 rfl (lv_at hl1 2 rfl) ?_
  refine lv_iadd hx hb d_Model_type_21 ?_
  refine lv_topi (fun z_4 ez_4 => ?_)
  have ez_4 : z_4 = 6 := ez_4.trans (by first | rfl | decide)
  subst ez_4
  refine lv_sipush (v := 400) hx hb d_Model_type_22 (by decide) ?_
  refine lv_icmp_le (tgt := 30) hx hb d_Model_type_25 (by decide) (fun c_5 => ?_) (fun c_5 => ?_)
  rotate_left
  · first | exact absurd c_5 (by decide) | exact absurd (by decide) c_5
  refine lv_iconst (v := 0) hx hb d_Model_type_30 (by decide) ?_
  refine lv_istore (lv' := [(4, .int 0), (0, .ref m0), (1, .long w), (3, .int 6)]) hx hb d_Model_type_31 hl1 (by decide) rfl (fun ls hl1 => ?_)
  refine lv_iload hx hb d_Model_type_33 (lv_at hl1 0 rfl) ?_
  refine lv_iload_n hx hb d_Model_type_35 rfl (lv_at hl1 3 rfl) ?_
  refine lv_icmp_ge (tgt := 76) hx hb d_Model_type_36 (by decide) (fun c_6 => ?_) (fun c_6 => ?_)
  · first | exact absurd c_6 (by decide) | exact absurd (by decide) c_6
  refine lv_aload_n hx hb d_Model_type_39 rfl (lv_at hl1 1 rfl) ?_
  refine va_get (D := D) (ci := 11) (v := .ref m1) (C := R_Model) (T := F_Model) (N := 72) hx hb hts i_Model hown hK.1 hP 0 rfl rfl 2 (by decide) (hts _ wd_1038) (fun _ h9 => h9) rfl d_Model_type_40 ?_
  refine lv_aload_n hx hb d_Model_type_43 rfl (lv_at hl1 1 rfl) ?_
  refine va_get (D := D) (ci := 11) (v := .int 0) (C := R_Model) (T := F_Model) (N := 72) hx hb hts i_Model hown hK.1 hP 0 rfl rfl 1 (by decide) (hts _ wd_1037) (fun _ h9 => h9) rfl d_Model_type_44 ?_
  refine lv_lload_n hx hb d_Model_type_47 rfl (lv_at hl1 2 rfl) ?_
  refine lv_bipush (v := 8) hx hb d_Model_type_48 (by decide) ?_
  refine lv_iload hx hb d_Model_type_50 (lv_at hl1 0 rfl) ?_
  refine lv_imul hx hb d_Model_type_52 ?_
  refine lv_topi (fun z_7 ez_7 => ?_)
  have ez_7 : z_7 = 0 := ez_7.trans (by first | rfl | decide)
  subst ez_7
  refine lv_lshr hx hb d_Model_type_53 rfl ?_
  refine lv_topl (fun z_8 ez_8 => ?_)
  refine lv_ldc2 (v := 255) hx hb hown (hts _ wd_1262) d_Model_type_54 ?_
  refine lv_land hx hb d_Model_type_57 ?_
  refine lv_topl (fun z_9 ez_9 => ?_)
  refine lv_l2i hx hb d_Model_type_58 rfl ?_
  refine lv_topi (fun z_10 ez_10 => ?_)
  refine va_iast hx hb hK.1 hP hD hS 1 0 rfl rfl (by unfold vp_in; decide) d_Model_type_59 (fun H_11 locs hP hD hS => ?_)
  have hP : va_P D classes [(m0, .inr (11, [.int 0, .int 0, .ref m1, .int 0, .int 0, .ref m2, .int 0, .int 0, .int 0, .int 0, .int 0, .ref m42, .ref m3, .ref m4, .int 0, .int 0, .ref m5, .ref m6, .ref m7, .ref m8, .ref m9, .ref m10, .ref m11, .ref m12, .ref m13, .ref m14, .ref m15, .ref m16, .ref m17, .ref m18, .ref m19, .int 0, .ref m20, .int 0, .ref m21, .int 0, .int 0, .int 0, .int 0, .int 0, .int 0, .int 0, .ref m22, .int 0, .int 0, .ref m23, .ref m24, .ref m25, .ref m26, .int 0, .ref m27, .int 0, .ref m28, .int 0, .ref m29, .ref m30, .int (-1), .int 0, .int 0, .ref m31, .ref m32, .ref m33, .ref m34, .ref m35, .ref m36, .ref m37, .ref m38, .ref m39, .int 0, .ref m40, .int 0, .ref m41])), (m1, .inl (ax 0, 400, .inl (upd (fun _ => 0) 0 z_10)))] H_11 := hP
  have hD : va_D A [(m0, .inr (11, [.int 0, .int 0, .ref m1, .int 0, .int 0, .ref m2, .int 0, .int 0, .int 0, .int 0, .int 0, .ref m42, .ref m3, .ref m4, .int 0, .int 0, .ref m5, .ref m6, .ref m7, .ref m8, .ref m9, .ref m10, .ref m11, .ref m12, .ref m13, .ref m14, .ref m15, .ref m16, .ref m17, .ref m18, .ref m19, .int 0, .ref m20, .int 0, .ref m21, .int 0, .int 0, .int 0, .int 0, .int 0, .int 0, .int 0, .ref m22, .int 0, .int 0, .ref m23, .ref m24, .ref m25, .ref m26, .int 0, .ref m27, .int 0, .ref m28, .int 0, .ref m29, .ref m30, .int (-1), .int 0, .int 0, .ref m31, .ref m32, .ref m33, .ref m34, .ref m35, .ref m36, .ref m37, .ref m38, .ref m39, .int 0, .ref m40, .int 0, .ref m41])), (m1, .inl (ax 0, 400, .inl (upd (fun _ => 0) 0 z_10)))] := hD
  refine lv_aload_n hx hb d_Model_type_60 rfl (lv_at hl1 1 rfl) ?_
  refine lv_dup hx hb d_Model_type_61 rfl ?_
  refine va_get (D := D) (ci := 11) (v := .int 0) (C := R_Model) (T := F_Model) (N := 72) hx hb hts i_Model hown hK.1 hP 0 rfl rfl 1 (by decide) (hts _ wd_1037) (fun _ h9 => h9) rfl d_Model_type_62 ?_
  refine lv_iconst (v := 1) hx hb d_Model_type_65 (by decide) ?_
  refine lv_iadd hx hb d_Model_type_66 ?_
  refine lv_topi (fun z_12 ez_12 => ?_)
  have ez_12 : z_12 = 1 := ez_12.trans (by first | rfl | decide)
  subst ez_12
  refine va_put (D := D) (ci := 11) (v := .int 1) (ty := .int) (C := R_Model) (T := F_Model) (N := 72) hx hb hts i_Model t_Model t_Model_ok n_Model hown hK.1 hP hD hS 0 rfl rfl 1 (by decide) (hts _ wd_1037) (fun _ h9 => h9) rfl (by decide +kernel) rfl rfl (Nat.le_of_ble_eq_true rfl) d_Model_type_67 (fun H_13 locs hP hD hS => ?_)
  have hP : va_P D classes [(m0, .inr (11, [.int 0, .int 1, .ref m1, .int 0, .int 0, .ref m2, .int 0, .int 0, .int 0, .int 0, .int 0, .ref m42, .ref m3, .ref m4, .int 0, .int 0, .ref m5, .ref m6, .ref m7, .ref m8, .ref m9, .ref m10, .ref m11, .ref m12, .ref m13, .ref m14, .ref m15, .ref m16, .ref m17, .ref m18, .ref m19, .int 0, .ref m20, .int 0, .ref m21, .int 0, .int 0, .int 0, .int 0, .int 0, .int 0, .int 0, .ref m22, .int 0, .int 0, .ref m23, .ref m24, .ref m25, .ref m26, .int 0, .ref m27, .int 0, .ref m28, .int 0, .ref m29, .ref m30, .int (-1), .int 0, .int 0, .ref m31, .ref m32, .ref m33, .ref m34, .ref m35, .ref m36, .ref m37, .ref m38, .ref m39, .int 0, .ref m40, .int 0, .ref m41])), (m1, .inl (ax 0, 400, .inl (upd (fun _ => 0) 0 z_10)))] H_13 := hP
  have hD : va_D A [(m0, .inr (11, [.int 0, .int 1, .ref m1, .int 0, .int 0, .ref m2, .int 0, .int 0, .int 0, .int 0, .int 0, .ref m42, .ref m3, .ref m4, .int 0, .int 0, .ref m5, .ref m6, .ref m7, .ref m8, .ref m9, .ref m10, .ref m11, .ref m12, .ref m13, .ref m14, .ref m15, .ref m16, .ref m17, .ref m18, .ref m19, .int 0, .ref m20, .int 0, .ref m21, .int 0, .int 0, .int 0, .int 0, .int 0, .int 0, .int 0, .ref m22, .int 0, .int 0, .ref m23, .ref m24, .ref m25, .ref m26, .int 0, .ref m27, .int 0, .ref m28, .int 0, .ref m29, .ref m30, .int (-1), .int 0, .int 0, .ref m31, .ref m32, .ref m33, .ref m34, .ref m35, .ref m36, .ref m37, .ref m38, .ref m39, .int 0, .ref m40, .int 0, .ref m41])), (m1, .inl (ax 0, 400, .inl (upd (fun _ => 0) 0 z_10)))] := hD
  refine lv_iinc (v := 1) (lv' := [(4, .int 1), (0, .ref m0), (1, .long w), (3, .int 6)]) hx hb d_Model_type_70 hl1 (k := 0) rfl (by decide) (by decide) rfl (fun ls hl1 => ?_)
  refine lv_goto (tgt := 33) hx hb d_Model_type_73 (by decide) ?_
  refine lv_iload hx hb d_Model_type_33 (lv_at hl1 0 rfl) ?_
  refine lv_iload_n hx hb d_Model_type_35 rfl (lv_at hl1 3 rfl) ?_
  refine lv_icmp_ge (tgt := 76) hx hb d_Model_type_36 (by decide) (fun c_14 => ?_) (fun c_14 => ?_)
  · first | exact absurd c_14 (by decide) | exact absurd (by decide) c_14
  refine lv_aload_n hx hb d_Model_type_39 rfl (lv_at hl1 1 rfl) ?_
  refine va_get (D := D) (ci := 11) (v := .ref m1) (C := R_Model) (T := F_Model) (N := 72) hx hb hts i_Model hown hK.1 hP 0 rfl rfl 2 (by decide) (hts _ wd_1038) (fun _ h9 => h9) rfl d_Model_type_40 ?_
  refine lv_aload_n hx hb d_Model_type_43 rfl (lv_at hl1 1 rfl) ?_
  refine va_get (D := D) (ci := 11) (v := .int 1) (C := R_Model) (T := F_Model) (N := 72) hx hb hts i_Model hown hK.1 hP 0 rfl rfl 1 (by decide) (hts _ wd_1037) (fun _ h9 => h9) rfl d_Model_type_44 ?_
  refine lv_lload_n hx hb d_Model_type_47 rfl (lv_at hl1 2 rfl) ?_
  refine lv_bipush (v := 8) hx hb d_Model_type_48 (by decide) ?_
  refine lv_iload hx hb d_Model_type_50 (lv_at hl1 0 rfl) ?_
  refine lv_imul hx hb d_Model_type_52 ?_
  refine lv_topi (fun z_15 ez_15 => ?_)
  have ez_15 : z_15 = 8 := ez_15.trans (by first | rfl | decide)
  subst ez_15
  refine lv_lshr hx hb d_Model_type_53 rfl ?_
  refine lv_topl (fun z_16 ez_16 => ?_)
  refine lv_ldc2 (v := 255) hx hb hown (hts _ wd_1262) d_Model_type_54 ?_
  refine lv_land hx hb d_Model_type_57 ?_
  refine lv_topl (fun z_17 ez_17 => ?_)
  refine lv_l2i hx hb d_Model_type_58 rfl ?_
  refine lv_topi (fun z_18 ez_18 => ?_)
  refine va_iast hx hb hK.1 hP hD hS 1 0 rfl rfl (by unfold vp_in; decide) d_Model_type_59 (fun H_19 locs hP hD hS => ?_)
  have hP : va_P D classes [(m0, .inr (11, [.int 0, .int 1, .ref m1, .int 0, .int 0, .ref m2, .int 0, .int 0, .int 0, .int 0, .int 0, .ref m42, .ref m3, .ref m4, .int 0, .int 0, .ref m5, .ref m6, .ref m7, .ref m8, .ref m9, .ref m10, .ref m11, .ref m12, .ref m13, .ref m14, .ref m15, .ref m16, .ref m17, .ref m18, .ref m19, .int 0, .ref m20, .int 0, .ref m21, .int 0, .int 0, .int 0, .int 0, .int 0, .int 0, .int 0, .ref m22, .int 0, .int 0, .ref m23, .ref m24, .ref m25, .ref m26, .int 0, .ref m27, .int 0, .ref m28, .int 0, .ref m29, .ref m30, .int (-1), .int 0, .int 0, .ref m31, .ref m32, .ref m33, .ref m34, .ref m35, .ref m36, .ref m37, .ref m38, .ref m39, .int 0, .ref m40, .int 0, .ref m41])), (m1, .inl (ax 0, 400, .inl (upd (upd (fun _ => 0) 0 z_10) 1 z_18)))] H_19 := hP
  have hD : va_D A [(m0, .inr (11, [.int 0, .int 1, .ref m1, .int 0, .int 0, .ref m2, .int 0, .int 0, .int 0, .int 0, .int 0, .ref m42, .ref m3, .ref m4, .int 0, .int 0, .ref m5, .ref m6, .ref m7, .ref m8, .ref m9, .ref m10, .ref m11, .ref m12, .ref m13, .ref m14, .ref m15, .ref m16, .ref m17, .ref m18, .ref m19, .int 0, .ref m20, .int 0, .ref m21, .int 0, .int 0, .int 0, .int 0, .int 0, .int 0, .int 0, .ref m22, .int 0, .int 0, .ref m23, .ref m24, .ref m25, .ref m26, .int 0, .ref m27, .int 0, .ref m28, .int 0, .ref m29, .ref m30, .int (-1), .int 0, .int 0, .ref m31, .ref m32, .ref m33, .ref m34, .ref m35, .ref m36, .ref m37, .ref m38, .ref m39, .int 0, .ref m40, .int 0, .ref m41])), (m1, .inl (ax 0, 400, .inl (upd (upd (fun _ => 0) 0 z_10) 1 z_18)))] := hD
  refine lv_aload_n hx hb d_Model_type_60 rfl (lv_at hl1 1 rfl) ?_
  refine lv_dup hx hb d_Model_type_61 rfl ?_
  refine va_get (D := D) (ci := 11) (v := .int 1) (C := R_Model) (T := F_Model) (N := 72) hx hb hts i_Model hown hK.1 hP 0 rfl rfl 1 (by decide) (hts _ wd_1037) (fun _ h9 => h9) rfl d_Model_type_62 ?_
  refine lv_iconst (v := 1) hx hb d_Model_type_65 (by decide) ?_
  refine lv_iadd hx hb d_Model_type_66 ?_
  refine lv_topi (fun z_20 ez_20 => ?_)
  have ez_20 : z_20 = 2 := ez_20.trans (by first | rfl | decide)
  subst ez_20
  refine va_put (D := D) (ci := 11) (v := .int 2) (ty := .int) (C := R_Model) (T := F_Model) (N := 72) hx hb hts i_Model t_Model t_Model_ok n_Model hown hK.1 hP hD hS 0 rfl rfl 1 (by decide) (hts _ wd_1037) (fun _ h9 => h9) rfl (by decide +kernel) rfl rfl (Nat.le_of_ble_eq_true rfl) d_Model_type_67 (fun H_21 locs hP hD hS => ?_)
  have hP : va_P D classes [(m0, .inr (11, [.int 0, .int 2, .ref m1, .int 0, .int 0, .ref m2, .int 0, .int 0, .int 0, .int 0, .int 0, .ref m42, .ref m3, .ref m4, .int 0, .int 0, .ref m5, .ref m6, .ref m7, .ref m8, .ref m9, .ref m10, .ref m11, .ref m12, .ref m13, .ref m14, .ref m15, .ref m16, .ref m17, .ref m18, .ref m19, .int 0, .ref m20, .int 0, .ref m21, .int 0, .int 0, .int 0, .int 0, .int 0, .int 0, .int 0, .ref m22, .int 0, .int 0, .ref m23, .ref m24, .ref m25, .ref m26, .int 0, .ref m27, .int 0, .ref m28, .int 0, .ref m29, .ref m30, .int (-1), .int 0, .int 0, .ref m31, .ref m32, .ref m33, .ref m34, .ref m35, .ref m36, .ref m37, .ref m38, .ref m39, .int 0, .ref m40, .int 0, .ref m41])), (m1, .inl (ax 0, 400, .inl (upd (upd (fun _ => 0) 0 z_10) 1 z_18)))] H_21 := hP
  have hD : va_D A [(m0, .inr (11, [.int 0, .int 2, .ref m1, .int 0, .int 0, .ref m2, .int 0, .int 0, .int 0, .int 0, .int 0, .ref m42, .ref m3, .ref m4, .int 0, .int 0, .ref m5, .ref m6, .ref m7, .ref m8, .ref m9, .ref m10, .ref m11, .ref m12, .ref m13, .ref m14, .ref m15, .ref m16, .ref m17, .ref m18, .ref m19, .int 0, .ref m20, .int 0, .ref m21, .int 0, .int 0, .int 0, .int 0, .int 0, .int 0, .int 0, .ref m22, .int 0, .int 0, .ref m23, .ref m24, .ref m25, .ref m26, .int 0, .ref m27, .int 0, .ref m28, .int 0, .ref m29, .ref m30, .int (-1), .int 0, .int 0, .ref m31, .ref m32, .ref m33, .ref m34, .ref m35, .ref m36, .ref m37, .ref m38, .ref m39, .int 0, .ref m40, .int 0, .ref m41])), (m1, .inl (ax 0, 400, .inl (upd (upd (fun _ => 0) 0 z_10) 1 z_18)))] := hD
  refine lv_iinc (v := 2) (lv' := [(4, .int 2), (0, .ref m0), (1, .long w), (3, .int 6)]) hx hb d_Model_type_70 hl1 (k := 0) rfl (by decide) (by decide) rfl (fun ls hl1 => ?_)
  refine lv_goto (tgt := 33) hx hb d_Model_type_73 (by decide) ?_
  refine lv_iload hx hb d_Model_type_33 (lv_at hl1 0 rfl) ?_
  refine lv_iload_n hx hb d_Model_type_35 rfl (lv_at hl1 3 rfl) ?_
  refine lv_icmp_ge (tgt := 76) hx hb d_Model_type_36 (by decide) (fun c_22 => ?_) (fun c_22 => ?_)
  · first | exact absurd c_22 (by decide) | exact absurd (by decide) c_22
  refine lv_aload_n hx hb d_Model_type_39 rfl (lv_at hl1 1 rfl) ?_
  refine va_get (D := D) (ci := 11) (v := .ref m1) (C := R_Model) (T := F_Model) (N := 72) hx hb hts i_Model hown hK.1 hP 0 rfl rfl 2 (by decide) (hts _ wd_1038) (fun _ h9 => h9) rfl d_Model_type_40 ?_
  refine lv_aload_n hx hb d_Model_type_43 rfl (lv_at hl1 1 rfl) ?_
  refine va_get (D := D) (ci := 11) (v := .int 2) (C := R_Model) (T := F_Model) (N := 72) hx hb hts i_Model hown hK.1 hP 0 rfl rfl 1 (by decide) (hts _ wd_1037) (fun _ h9 => h9) rfl d_Model_type_44 ?_
  refine lv_lload_n hx hb d_Model_type_47 rfl (lv_at hl1 2 rfl) ?_
  refine lv_bipush (v := 8) hx hb d_Model_type_48 (by decide) ?_
  refine lv_iload hx hb d_Model_type_50 (lv_at hl1 0 rfl) ?_
  refine lv_imul hx hb d_Model_type_52 ?_
  refine lv_topi (fun z_23 ez_23 => ?_)
  have ez_23 : z_23 = 16 := ez_23.trans (by first | rfl | decide)
  subst ez_23
  refine lv_lshr hx hb d_Model_type_53 rfl ?_
  refine lv_topl (fun z_24 ez_24 => ?_)
  refine lv_ldc2 (v := 255) hx hb hown (hts _ wd_1262) d_Model_type_54 ?_
  refine lv_land hx hb d_Model_type_57 ?_
  refine lv_topl (fun z_25 ez_25 => ?_)
  refine lv_l2i hx hb d_Model_type_58 rfl ?_
  refine lv_topi (fun z_26 ez_26 => ?_)
  refine va_iast hx hb hK.1 hP hD hS 1 0 rfl rfl (by unfold vp_in; decide) d_Model_type_59 (fun H_27 locs hP hD hS => ?_)
  have hP : va_P D classes [(m0, .inr (11, [.int 0, .int 2, .ref m1, .int 0, .int 0, .ref m2, .int 0, .int 0, .int 0, .int 0, .int 0, .ref m42, .ref m3, .ref m4, .int 0, .int 0, .ref m5, .ref m6, .ref m7, .ref m8, .ref m9, .ref m10, .ref m11, .ref m12, .ref m13, .ref m14, .ref m15, .ref m16, .ref m17, .ref m18, .ref m19, .int 0, .ref m20, .int 0, .ref m21, .int 0, .int 0, .int 0, .int 0, .int 0, .int 0, .int 0, .ref m22, .int 0, .int 0, .ref m23, .ref m24, .ref m25, .ref m26, .int 0, .ref m27, .int 0, .ref m28, .int 0, .ref m29, .ref m30, .int (-1), .int 0, .int 0, .ref m31, .ref m32, .ref m33, .ref m34, .ref m35, .ref m36, .ref m37, .ref m38, .ref m39, .int 0, .ref m40, .int 0, .ref m41])), (m1, .inl (ax 0, 400, .inl (upd (upd (upd (fun _ => 0) 0 z_10) 1 z_18) 2 z_26)))] H_27 := hP
  have hD : va_D A [(m0, .inr (11, [.int 0, .int 2, .ref m1, .int 0, .int 0, .ref m2, .int 0, .int 0, .int 0, .int 0, .int 0, .ref m42, .ref m3, .ref m4, .int 0, .int 0, .ref m5, .ref m6, .ref m7, .ref m8, .ref m9, .ref m10, .ref m11, .ref m12, .ref m13, .ref m14, .ref m15, .ref m16, .ref m17, .ref m18, .ref m19, .int 0, .ref m20, .int 0, .ref m21, .int 0, .int 0, .int 0, .int 0, .int 0, .int 0, .int 0, .ref m22, .int 0, .int 0, .ref m23, .ref m24, .ref m25, .ref m26, .int 0, .ref m27, .int 0, .ref m28, .int 0, .ref m29, .ref m30, .int (-1), .int 0, .int 0, .ref m31, .ref m32, .ref m33, .ref m34, .ref m35, .ref m36, .ref m37, .ref m38, .ref m39, .int 0, .ref m40, .int 0, .ref m41])), (m1, .inl (ax 0, 400, .inl (upd (upd (upd (fun _ => 0) 0 z_10) 1 z_18) 2 z_26)))] := hD
  refine lv_aload_n hx hb d_Model_type_60 rfl (lv_at hl1 1 rfl) ?_
  refine lv_dup hx hb d_Model_type_61 rfl ?_
  refine va_get (D := D) (ci := 11) (v := .int 2) (C := R_Model) (T := F_Model) (N := 72) hx hb hts i_Model hown hK.1 hP 0 rfl rfl 1 (by decide) (hts _ wd_1037) (fun _ h9 => h9) rfl d_Model_type_62 ?_
  refine lv_iconst (v := 1) hx hb d_Model_type_65 (by decide) ?_
  refine lv_iadd hx hb d_Model_type_66 ?_
  refine lv_topi (fun z_28 ez_28 => ?_)
  have ez_28 : z_28 = 3 := ez_28.trans (by first | rfl | decide)
  subst ez_28
  refine va_put (D := D) (ci := 11) (v := .int 3) (ty := .int) (C := R_Model) (T := F_Model) (N := 72) hx hb hts i_Model t_Model t_Model_ok n_Model hown hK.1 hP hD hS 0 rfl rfl 1 (by decide) (hts _ wd_1037) (fun _ h9 => h9) rfl (by decide +kernel) rfl rfl (Nat.le_of_ble_eq_true rfl) d_Model_type_67 (fun H_29 locs hP hD hS => ?_)
  have hP : va_P D classes [(m0, .inr (11, [.int 0, .int 3, .ref m1, .int 0, .int 0, .ref m2, .int 0, .int 0, .int 0, .int 0, .int 0, .ref m42, .ref m3, .ref m4, .int 0, .int 0, .ref m5, .ref m6, .ref m7, .ref m8, .ref m9, .ref m10, .ref m11, .ref m12, .ref m13, .ref m14, .ref m15, .ref m16, .ref m17, .ref m18, .ref m19, .int 0, .ref m20, .int 0, .ref m21, .int 0, .int 0, .int 0, .int 0, .int 0, .int 0, .int 0, .ref m22, .int 0, .int 0, .ref m23, .ref m24, .ref m25, .ref m26, .int 0, .ref m27, .int 0, .ref m28, .int 0, .ref m29, .ref m30, .int (-1), .int 0, .int 0, .ref m31, .ref m32, .ref m33, .ref m34, .ref m35, .ref m36, .ref m37, .ref m38, .ref m39, .int 0, .ref m40, .int 0, .ref m41])), (m1, .inl (ax 0, 400, .inl (upd (upd (upd (fun _ => 0) 0 z_10) 1 z_18) 2 z_26)))] H_29 := hP
  have hD : va_D A [(m0, .inr (11, [.int 0, .int 3, .ref m1, .int 0, .int 0, .ref m2, .int 0, .int 0, .int 0, .int 0, .int 0, .ref m42, .ref m3, .ref m4, .int 0, .int 0, .ref m5, .ref m6, .ref m7, .ref m8, .ref m9, .ref m10, .ref m11, .ref m12, .ref m13, .ref m14, .ref m15, .ref m16, .ref m17, .ref m18, .ref m19, .int 0, .ref m20, .int 0, .ref m21, .int 0, .int 0, .int 0, .int 0, .int 0, .int 0, .int 0, .ref m22, .int 0, .int 0, .ref m23, .ref m24, .ref m25, .ref m26, .int 0, .ref m27, .int 0, .ref m28, .int 0, .ref m29, .ref m30, .int (-1), .int 0, .int 0, .ref m31, .ref m32, .ref m33, .ref m34, .ref m35, .ref m36, .ref m37, .ref m38, .ref m39, .int 0, .ref m40, .int 0, .ref m41])), (m1, .inl (ax 0, 400, .inl (upd (upd (upd (fun _ => 0) 0 z_10) 1 z_18) 2 z_26)))] := hD
  refine lv_iinc (v := 3) (lv' := [(4, .int 3), (0, .ref m0), (1, .long w), (3, .int 6)]) hx hb d_Model_type_70 hl1 (k := 0) rfl (by decide) (by decide) rfl (fun ls hl1 => ?_)
  refine lv_goto (tgt := 33) hx hb d_Model_type_73 (by decide) ?_
  refine lv_iload hx hb d_Model_type_33 (lv_at hl1 0 rfl) ?_
  refine lv_iload_n hx hb d_Model_type_35 rfl (lv_at hl1 3 rfl) ?_
  refine lv_icmp_ge (tgt := 76) hx hb d_Model_type_36 (by decide) (fun c_30 => ?_) (fun c_30 => ?_)
  · first | exact absurd c_30 (by decide) | exact absurd (by decide) c_30
  refine lv_aload_n hx hb d_Model_type_39 rfl (lv_at hl1 1 rfl) ?_
  refine va_get (D := D) (ci := 11) (v := .ref m1) (C := R_Model) (T := F_Model) (N := 72) hx hb hts i_Model hown hK.1 hP 0 rfl rfl 2 (by decide) (hts _ wd_1038) (fun _ h9 => h9) rfl d_Model_type_40 ?_
  refine lv_aload_n hx hb d_Model_type_43 rfl (lv_at hl1 1 rfl) ?_
  refine va_get (D := D) (ci := 11) (v := .int 3) (C := R_Model) (T := F_Model) (N := 72) hx hb hts i_Model hown hK.1 hP 0 rfl rfl 1 (by decide) (hts _ wd_1037) (fun _ h9 => h9) rfl d_Model_type_44 ?_
  refine lv_lload_n hx hb d_Model_type_47 rfl (lv_at hl1 2 rfl) ?_
  refine lv_bipush (v := 8) hx hb d_Model_type_48 (by decide) ?_
  refine lv_iload hx hb d_Model_type_50 (lv_at hl1 0 rfl) ?_
  refine lv_imul hx hb d_Model_type_52 ?_
  refine lv_topi (fun z_31 ez_31 => ?_)
  have ez_31 : z_31 = 24 := ez_31.trans (by first | rfl | decide)
  subst ez_31
  refine lv_lshr hx hb d_Model_type_53 rfl ?_
  refine lv_topl (fun z_32 ez_32 => ?_)
  refine lv_ldc2 (v := 255) hx hb hown (hts _ wd_1262) d_Model_type_54 ?_
  refine lv_land hx hb d_Model_type_57 ?_
  refine lv_topl (fun z_33 ez_33 => ?_)
  refine lv_l2i hx hb d_Model_type_58 rfl ?_
  refine lv_topi (fun z_34 ez_34 => ?_)
  refine va_iast hx hb hK.1 hP hD hS 1 0 rfl rfl (by unfold vp_in; decide) d_Model_type_59 (fun H_35 locs hP hD hS => ?_)
  have hP : va_P D classes [(m0, .inr (11, [.int 0, .int 3, .ref m1, .int 0, .int 0, .ref m2, .int 0, .int 0, .int 0, .int 0, .int 0, .ref m42, .ref m3, .ref m4, .int 0, .int 0, .ref m5, .ref m6, .ref m7, .ref m8, .ref m9, .ref m10, .ref m11, .ref m12, .ref m13, .ref m14, .ref m15, .ref m16, .ref m17, .ref m18, .ref m19, .int 0, .ref m20, .int 0, .ref m21, .int 0, .int 0, .int 0, .int 0, .int 0, .int 0, .int 0, .ref m22, .int 0, .int 0, .ref m23, .ref m24, .ref m25, .ref m26, .int 0, .ref m27, .int 0, .ref m28, .int 0, .ref m29, .ref m30, .int (-1), .int 0, .int 0, .ref m31, .ref m32, .ref m33, .ref m34, .ref m35, .ref m36, .ref m37, .ref m38, .ref m39, .int 0, .ref m40, .int 0, .ref m41])), (m1, .inl (ax 0, 400, .inl (upd (upd (upd (upd (fun _ => 0) 0 z_10) 1 z_18) 2 z_26) 3 z_34)))] H_35 := hP
  have hD : va_D A [(m0, .inr (11, [.int 0, .int 3, .ref m1, .int 0, .int 0, .ref m2, .int 0, .int 0, .int 0, .int 0, .int 0, .ref m42, .ref m3, .ref m4, .int 0, .int 0, .ref m5, .ref m6, .ref m7, .ref m8, .ref m9, .ref m10, .ref m11, .ref m12, .ref m13, .ref m14, .ref m15, .ref m16, .ref m17, .ref m18, .ref m19, .int 0, .ref m20, .int 0, .ref m21, .int 0, .int 0, .int 0, .int 0, .int 0, .int 0, .int 0, .ref m22, .int 0, .int 0, .ref m23, .ref m24, .ref m25, .ref m26, .int 0, .ref m27, .int 0, .ref m28, .int 0, .ref m29, .ref m30, .int (-1), .int 0, .int 0, .ref m31, .ref m32, .ref m33, .ref m34, .ref m35, .ref m36, .ref m37, .ref m38, .ref m39, .int 0, .ref m40, .int 0, .ref m41])), (m1, .inl (ax 0, 400, .inl (upd (upd (upd (upd (fun _ => 0) 0 z_10) 1 z_18) 2 z_26) 3 z_34)))] := hD
  refine lv_aload_n hx hb d_Model_type_60 rfl (lv_at hl1 1 rfl) ?_
  refine lv_dup hx hb d_Model_type_61 rfl ?_
  refine va_get (D := D) (ci := 11) (v := .int 3) (C := R_Model) (T := F_Model) (N := 72) hx hb hts i_Model hown hK.1 hP 0 rfl rfl 1 (by decide) (hts _ wd_1037) (fun _ h9 => h9) rfl d_Model_type_62 ?_
  refine lv_iconst (v := 1) hx hb d_Model_type_65 (by decide) ?_
  refine lv_iadd hx hb d_Model_type_66 ?_
  refine lv_topi (fun z_36 ez_36 => ?_)
  have ez_36 : z_36 = 4 := ez_36.trans (by first | rfl | decide)
  subst ez_36
  refine va_put (D := D) (ci := 11) (v := .int 4) (ty := .int) (C := R_Model) (T := F_Model) (N := 72) hx hb hts i_Model t_Model t_Model_ok n_Model hown hK.1 hP hD hS 0 rfl rfl 1 (by decide) (hts _ wd_1037) (fun _ h9 => h9) rfl (by decide +kernel) rfl rfl (Nat.le_of_ble_eq_true rfl) d_Model_type_67 (fun H_37 locs hP hD hS => ?_)
  have hP : va_P D classes [(m0, .inr (11, [.int 0, .int 4, .ref m1, .int 0, .int 0, .ref m2, .int 0, .int 0, .int 0, .int 0, .int 0, .ref m42, .ref m3, .ref m4, .int 0, .int 0, .ref m5, .ref m6, .ref m7, .ref m8, .ref m9, .ref m10, .ref m11, .ref m12, .ref m13, .ref m14, .ref m15, .ref m16, .ref m17, .ref m18, .ref m19, .int 0, .ref m20, .int 0, .ref m21, .int 0, .int 0, .int 0, .int 0, .int 0, .int 0, .int 0, .ref m22, .int 0, .int 0, .ref m23, .ref m24, .ref m25, .ref m26, .int 0, .ref m27, .int 0, .ref m28, .int 0, .ref m29, .ref m30, .int (-1), .int 0, .int 0, .ref m31, .ref m32, .ref m33, .ref m34, .ref m35, .ref m36, .ref m37, .ref m38, .ref m39, .int 0, .ref m40, .int 0, .ref m41])), (m1, .inl (ax 0, 400, .inl (upd (upd (upd (upd (fun _ => 0) 0 z_10) 1 z_18) 2 z_26) 3 z_34)))] H_37 := hP
  have hD : va_D A [(m0, .inr (11, [.int 0, .int 4, .ref m1, .int 0, .int 0, .ref m2, .int 0, .int 0, .int 0, .int 0, .int 0, .ref m42, .ref m3, .ref m4, .int 0, .int 0, .ref m5, .ref m6, .ref m7, .ref m8, .ref m9, .ref m10, .ref m11, .ref m12, .ref m13, .ref m14, .ref m15, .ref m16, .ref m17, .ref m18, .ref m19, .int 0, .ref m20, .int 0, .ref m21, .int 0, .int 0, .int 0, .int 0, .int 0, .int 0, .int 0, .ref m22, .int 0, .int 0, .ref m23, .ref m24, .ref m25, .ref m26, .int 0, .ref m27, .int 0, .ref m28, .int 0, .ref m29, .ref m30, .int (-1), .int 0, .int 0, .ref m31, .ref m32, .ref m33, .ref m34, .ref m35, .ref m36, .ref m37, .ref m38, .ref m39, .int 0, .ref m40, .int 0, .ref m41])), (m1, .inl (ax 0, 400, .inl (upd (upd (upd (upd (fun _ => 0) 0 z_10) 1 z_18) 2 z_26) 3 z_34)))] := hD
  refine lv_iinc (v := 4) (lv' := [(4, .int 4), (0, .ref m0), (1, .long w), (3, .int 6)]) hx hb d_Model_type_70 hl1 (k := 0) rfl (by decide) (by decide) rfl (fun ls hl1 => ?_)
  refine lv_goto (tgt := 33) hx hb d_Model_type_73 (by decide) ?_
  refine lv_iload hx hb d_Model_type_33 (lv_at hl1 0 rfl) ?_
  refine lv_iload_n hx hb d_Model_type_35 rfl (lv_at hl1 3 rfl) ?_
  refine lv_icmp_ge (tgt := 76) hx hb d_Model_type_36 (by decide) (fun c_38 => ?_) (fun c_38 => ?_)
  · first | exact absurd c_38 (by decide) | exact absurd (by decide) c_38
  refine lv_aload_n hx hb d_Model_type_39 rfl (lv_at hl1 1 rfl) ?_
  refine va_get (D := D) (ci := 11) (v := .ref m1) (C := R_Model) (T := F_Model) (N := 72) hx hb hts i_Model hown hK.1 hP 0 rfl rfl 2 (by decide) (hts _ wd_1038) (fun _ h9 => h9) rfl d_Model_type_40 ?_
  refine lv_aload_n hx hb d_Model_type_43 rfl (lv_at hl1 1 rfl) ?_
  refine va_get (D := D) (ci := 11) (v := .int 4) (C := R_Model) (T := F_Model) (N := 72) hx hb hts i_Model hown hK.1 hP 0 rfl rfl 1 (by decide) (hts _ wd_1037) (fun _ h9 => h9) rfl d_Model_type_44 ?_
  refine lv_lload_n hx hb d_Model_type_47 rfl (lv_at hl1 2 rfl) ?_
  refine lv_bipush (v := 8) hx hb d_Model_type_48 (by decide) ?_
  refine lv_iload hx hb d_Model_type_50 (lv_at hl1 0 rfl) ?_
  refine lv_imul hx hb d_Model_type_52 ?_
  refine lv_topi (fun z_39 ez_39 => ?_)
  have ez_39 : z_39 = 32 := ez_39.trans (by first | rfl | decide)
  subst ez_39
  refine lv_lshr hx hb d_Model_type_53 rfl ?_
  refine lv_topl (fun z_40 ez_40 => ?_)
  refine lv_ldc2 (v := 255) hx hb hown (hts _ wd_1262) d_Model_type_54 ?_
  refine lv_land hx hb d_Model_type_57 ?_
  refine lv_topl (fun z_41 ez_41 => ?_)
  refine lv_l2i hx hb d_Model_type_58 rfl ?_
  refine lv_topi (fun z_42 ez_42 => ?_)
  refine va_iast hx hb hK.1 hP hD hS 1 0 rfl rfl (by unfold vp_in; decide) d_Model_type_59 (fun H_43 locs hP hD hS => ?_)
  have hP : va_P D classes [(m0, .inr (11, [.int 0, .int 4, .ref m1, .int 0, .int 0, .ref m2, .int 0, .int 0, .int 0, .int 0, .int 0, .ref m42, .ref m3, .ref m4, .int 0, .int 0, .ref m5, .ref m6, .ref m7, .ref m8, .ref m9, .ref m10, .ref m11, .ref m12, .ref m13, .ref m14, .ref m15, .ref m16, .ref m17, .ref m18, .ref m19, .int 0, .ref m20, .int 0, .ref m21, .int 0, .int 0, .int 0, .int 0, .int 0, .int 0, .int 0, .ref m22, .int 0, .int 0, .ref m23, .ref m24, .ref m25, .ref m26, .int 0, .ref m27, .int 0, .ref m28, .int 0, .ref m29, .ref m30, .int (-1), .int 0, .int 0, .ref m31, .ref m32, .ref m33, .ref m34, .ref m35, .ref m36, .ref m37, .ref m38, .ref m39, .int 0, .ref m40, .int 0, .ref m41])), (m1, .inl (ax 0, 400, .inl (upd (upd (upd (upd (upd (fun _ => 0) 0 z_10) 1 z_18) 2 z_26) 3 z_34) 4 z_42)))] H_43 := hP
  have hD : va_D A [(m0, .inr (11, [.int 0, .int 4, .ref m1, .int 0, .int 0, .ref m2, .int 0, .int 0, .int 0, .int 0, .int 0, .ref m42, .ref m3, .ref m4, .int 0, .int 0, .ref m5, .ref m6, .ref m7, .ref m8, .ref m9, .ref m10, .ref m11, .ref m12, .ref m13, .ref m14, .ref m15, .ref m16, .ref m17, .ref m18, .ref m19, .int 0, .ref m20, .int 0, .ref m21, .int 0, .int 0, .int 0, .int 0, .int 0, .int 0, .int 0, .ref m22, .int 0, .int 0, .ref m23, .ref m24, .ref m25, .ref m26, .int 0, .ref m27, .int 0, .ref m28, .int 0, .ref m29, .ref m30, .int (-1), .int 0, .int 0, .ref m31, .ref m32, .ref m33, .ref m34, .ref m35, .ref m36, .ref m37, .ref m38, .ref m39, .int 0, .ref m40, .int 0, .ref m41])), (m1, .inl (ax 0, 400, .inl (upd (upd (upd (upd (upd (fun _ => 0) 0 z_10) 1 z_18) 2 z_26) 3 z_34) 4 z_42)))] := hD
  refine lv_aload_n hx hb d_Model_type_60 rfl (lv_at hl1 1 rfl) ?_
  refine lv_dup hx hb d_Model_type_61 rfl ?_
  refine va_get (D := D) (ci := 11) (v := .int 4) (C := R_Model) (T := F_Model) (N := 72) hx hb hts i_Model hown hK.1 hP 0 rfl rfl 1 (by decide) (hts _ wd_1037) (fun _ h9 => h9) rfl d_Model_type_62 ?_
  refine lv_iconst (v := 1) hx hb d_Model_type_65 (by decide) ?_
  refine lv_iadd hx hb d_Model_type_66 ?_
  refine lv_topi (fun z_44 ez_44 => ?_)
  have ez_44 : z_44 = 5 := ez_44.trans (by first | rfl | decide)
  subst ez_44
  refine va_put (D := D) (ci := 11) (v := .int 5) (ty := .int) (C := R_Model) (T := F_Model) (N := 72) hx hb hts i_Model t_Model t_Model_ok n_Model hown hK.1 hP hD hS 0 rfl rfl 1 (by decide) (hts _ wd_1037) (fun _ h9 => h9) rfl (by decide +kernel) rfl rfl (Nat.le_of_ble_eq_true rfl) d_Model_type_67 (fun H_45 locs hP hD hS => ?_)
  have hP : va_P D classes [(m0, .inr (11, [.int 0, .int 5, .ref m1, .int 0, .int 0, .ref m2, .int 0, .int 0, .int 0, .int 0, .int 0, .ref m42, .ref m3, .ref m4, .int 0, .int 0, .ref m5, .ref m6, .ref m7, .ref m8, .ref m9, .ref m10, .ref m11, .ref m12, .ref m13, .ref m14, .ref m15, .ref m16, .ref m17, .ref m18, .ref m19, .int 0, .ref m20, .int 0, .ref m21, .int 0, .int 0, .int 0, .int 0, .int 0, .int 0, .int 0, .ref m22, .int 0, .int 0, .ref m23, .ref m24, .ref m25, .ref m26, .int 0, .ref m27, .int 0, .ref m28, .int 0, .ref m29, .ref m30, .int (-1), .int 0, .int 0, .ref m31, .ref m32, .ref m33, .ref m34, .ref m35, .ref m36, .ref m37, .ref m38, .ref m39, .int 0, .ref m40, .int 0, .ref m41])), (m1, .inl (ax 0, 400, .inl (upd (upd (upd (upd (upd (fun _ => 0) 0 z_10) 1 z_18) 2 z_26) 3 z_34) 4 z_42)))] H_45 := hP
  have hD : va_D A [(m0, .inr (11, [.int 0, .int 5, .ref m1, .int 0, .int 0, .ref m2, .int 0, .int 0, .int 0, .int 0, .int 0, .ref m42, .ref m3, .ref m4, .int 0, .int 0, .ref m5, .ref m6, .ref m7, .ref m8, .ref m9, .ref m10, .ref m11, .ref m12, .ref m13, .ref m14, .ref m15, .ref m16, .ref m17, .ref m18, .ref m19, .int 0, .ref m20, .int 0, .ref m21, .int 0, .int 0, .int 0, .int 0, .int 0, .int 0, .int 0, .ref m22, .int 0, .int 0, .ref m23, .ref m24, .ref m25, .ref m26, .int 0, .ref m27, .int 0, .ref m28, .int 0, .ref m29, .ref m30, .int (-1), .int 0, .int 0, .ref m31, .ref m32, .ref m33, .ref m34, .ref m35, .ref m36, .ref m37, .ref m38, .ref m39, .int 0, .ref m40, .int 0, .ref m41])), (m1, .inl (ax 0, 400, .inl (upd (upd (upd (upd (upd (fun _ => 0) 0 z_10) 1 z_18) 2 z_26) 3 z_34) 4 z_42)))] := hD
  refine lv_iinc (v := 5) (lv' := [(4, .int 5), (0, .ref m0), (1, .long w), (3, .int 6)]) hx hb d_Model_type_70 hl1 (k := 0) rfl (by decide) (by decide) rfl (fun ls hl1 => ?_)
  refine lv_goto (tgt := 33) hx hb d_Model_type_73 (by decide) ?_
  refine lv_iload hx hb d_Model_type_33 (lv_at hl1 0 rfl) ?_
  refine lv_iload_n hx hb d_Model_type_35 rfl (lv_at hl1 3 rfl) ?_
  refine lv_icmp_ge (tgt := 76) hx hb d_Model_type_36 (by decide) (fun c_46 => ?_) (fun c_46 => ?_)
  · first | exact absurd c_46 (by decide) | exact absurd (by decide) c_46
  refine lv_aload_n hx hb d_Model_type_39 rfl (lv_at hl1 1 rfl) ?_
  refine va_get (D := D) (ci := 11) (v := .ref m1) (C := R_Model) (T := F_Model) (N := 72) hx hb hts i_Model hown hK.1 hP 0 rfl rfl 2 (by decide) (hts _ wd_1038) (fun _ h9 => h9) rfl d_Model_type_40 ?_
  refine lv_aload_n hx hb d_Model_type_43 rfl (lv_at hl1 1 rfl) ?_
  refine va_get (D := D) (ci := 11) (v := .int 5) (C := R_Model) (T := F_Model) (N := 72) hx hb hts i_Model hown hK.1 hP 0 rfl rfl 1 (by decide) (hts _ wd_1037) (fun _ h9 => h9) rfl d_Model_type_44 ?_
  refine lv_lload_n hx hb d_Model_type_47 rfl (lv_at hl1 2 rfl) ?_
  refine lv_bipush (v := 8) hx hb d_Model_type_48 (by decide) ?_
  refine lv_iload hx hb d_Model_type_50 (lv_at hl1 0 rfl) ?_
  refine lv_imul hx hb d_Model_type_52 ?_
  refine lv_topi (fun z_47 ez_47 => ?_)
  have ez_47 : z_47 = 40 := ez_47.trans (by first | rfl | decide)
  subst ez_47
  refine lv_lshr hx hb d_Model_type_53 rfl ?_
  refine lv_topl (fun z_48 ez_48 => ?_)
  refine lv_ldc2 (v := 255) hx hb hown (hts _ wd_1262) d_Model_type_54 ?_
  refine lv_land hx hb d_Model_type_57 ?_
  refine lv_topl (fun z_49 ez_49 => ?_)
  refine lv_l2i hx hb d_Model_type_58 rfl ?_
  refine lv_topi (fun z_50 ez_50 => ?_)
  refine va_iast hx hb hK.1 hP hD hS 1 0 rfl rfl (by unfold vp_in; decide) d_Model_type_59 (fun H_51 locs hP hD hS => ?_)
  have hP : va_P D classes [(m0, .inr (11, [.int 0, .int 5, .ref m1, .int 0, .int 0, .ref m2, .int 0, .int 0, .int 0, .int 0, .int 0, .ref m42, .ref m3, .ref m4, .int 0, .int 0, .ref m5, .ref m6, .ref m7, .ref m8, .ref m9, .ref m10, .ref m11, .ref m12, .ref m13, .ref m14, .ref m15, .ref m16, .ref m17, .ref m18, .ref m19, .int 0, .ref m20, .int 0, .ref m21, .int 0, .int 0, .int 0, .int 0, .int 0, .int 0, .int 0, .ref m22, .int 0, .int 0, .ref m23, .ref m24, .ref m25, .ref m26, .int 0, .ref m27, .int 0, .ref m28, .int 0, .ref m29, .ref m30, .int (-1), .int 0, .int 0, .ref m31, .ref m32, .ref m33, .ref m34, .ref m35, .ref m36, .ref m37, .ref m38, .ref m39, .int 0, .ref m40, .int 0, .ref m41])), (m1, .inl (ax 0, 400, .inl (upd (upd (upd (upd (upd (upd (fun _ => 0) 0 z_10) 1 z_18) 2 z_26) 3 z_34) 4 z_42) 5 z_50)))] H_51 := hP
  have hD : va_D A [(m0, .inr (11, [.int 0, .int 5, .ref m1, .int 0, .int 0, .ref m2, .int 0, .int 0, .int 0, .int 0, .int 0, .ref m42, .ref m3, .ref m4, .int 0, .int 0, .ref m5, .ref m6, .ref m7, .ref m8, .ref m9, .ref m10, .ref m11, .ref m12, .ref m13, .ref m14, .ref m15, .ref m16, .ref m17, .ref m18, .ref m19, .int 0, .ref m20, .int 0, .ref m21, .int 0, .int 0, .int 0, .int 0, .int 0, .int 0, .int 0, .ref m22, .int 0, .int 0, .ref m23, .ref m24, .ref m25, .ref m26, .int 0, .ref m27, .int 0, .ref m28, .int 0, .ref m29, .ref m30, .int (-1), .int 0, .int 0, .ref m31, .ref m32, .ref m33, .ref m34, .ref m35, .ref m36, .ref m37, .ref m38, .ref m39, .int 0, .ref m40, .int 0, .ref m41])), (m1, .inl (ax 0, 400, .inl (upd (upd (upd (upd (upd (upd (fun _ => 0) 0 z_10) 1 z_18) 2 z_26) 3 z_34) 4 z_42) 5 z_50)))] := hD
  refine lv_aload_n hx hb d_Model_type_60 rfl (lv_at hl1 1 rfl) ?_
  refine lv_dup hx hb d_Model_type_61 rfl ?_
  refine va_get (D := D) (ci := 11) (v := .int 5) (C := R_Model) (T := F_Model) (N := 72) hx hb hts i_Model hown hK.1 hP 0 rfl rfl 1 (by decide) (hts _ wd_1037) (fun _ h9 => h9) rfl d_Model_type_62 ?_
  refine lv_iconst (v := 1) hx hb d_Model_type_65 (by decide) ?_
  refine lv_iadd hx hb d_Model_type_66 ?_
  refine lv_topi (fun z_52 ez_52 => ?_)
  have ez_52 : z_52 = 6 := ez_52.trans (by first | rfl | decide)
  subst ez_52
  refine va_put (D := D) (ci := 11) (v := .int 6) (ty := .int) (C := R_Model) (T := F_Model) (N := 72) hx hb hts i_Model t_Model t_Model_ok n_Model hown hK.1 hP hD hS 0 rfl rfl 1 (by decide) (hts _ wd_1037) (fun _ h9 => h9) rfl (by decide +kernel) rfl rfl (Nat.le_of_ble_eq_true rfl) d_Model_type_67 (fun H_53 locs hP hD hS => ?_)
  have hP : va_P D classes [(m0, .inr (11, [.int 0, .int 6, .ref m1, .int 0, .int 0, .ref m2, .int 0, .int 0, .int 0, .int 0, .int 0, .ref m42, .ref m3, .ref m4, .int 0, .int 0, .ref m5, .ref m6, .ref m7, .ref m8, .ref m9, .ref m10, .ref m11, .ref m12, .ref m13, .ref m14, .ref m15, .ref m16, .ref m17, .ref m18, .ref m19, .int 0, .ref m20, .int 0, .ref m21, .int 0, .int 0, .int 0, .int 0, .int 0, .int 0, .int 0, .ref m22, .int 0, .int 0, .ref m23, .ref m24, .ref m25, .ref m26, .int 0, .ref m27, .int 0, .ref m28, .int 0, .ref m29, .ref m30, .int (-1), .int 0, .int 0, .ref m31, .ref m32, .ref m33, .ref m34, .ref m35, .ref m36, .ref m37, .ref m38, .ref m39, .int 0, .ref m40, .int 0, .ref m41])), (m1, .inl (ax 0, 400, .inl (upd (upd (upd (upd (upd (upd (fun _ => 0) 0 z_10) 1 z_18) 2 z_26) 3 z_34) 4 z_42) 5 z_50)))] H_53 := hP
  have hD : va_D A [(m0, .inr (11, [.int 0, .int 6, .ref m1, .int 0, .int 0, .ref m2, .int 0, .int 0, .int 0, .int 0, .int 0, .ref m42, .ref m3, .ref m4, .int 0, .int 0, .ref m5, .ref m6, .ref m7, .ref m8, .ref m9, .ref m10, .ref m11, .ref m12, .ref m13, .ref m14, .ref m15, .ref m16, .ref m17, .ref m18, .ref m19, .int 0, .ref m20, .int 0, .ref m21, .int 0, .int 0, .int 0, .int 0, .int 0, .int 0, .int 0, .ref m22, .int 0, .int 0, .ref m23, .ref m24, .ref m25, .ref m26, .int 0, .ref m27, .int 0, .ref m28, .int 0, .ref m29, .ref m30, .int (-1), .int 0, .int 0, .ref m31, .ref m32, .ref m33, .ref m34, .ref m35, .ref m36, .ref m37, .ref m38, .ref m39, .int 0, .ref m40, .int 0, .ref m41])), (m1, .inl (ax 0, 400, .inl (upd (upd (upd (upd (upd (upd (fun _ => 0) 0 z_10) 1 z_18) 2 z_26) 3 z_34) 4 z_42) 5 z_50)))] := hD
  refine lv_iinc (v := 6) (lv' := [(4, .int 6), (0, .ref m0), (1, .long w), (3, .int 6)]) hx hb d_Model_type_70 hl1 (k := 0) rfl (by decide) (by decide) rfl (fun ls hl1 => ?_)
  refine lv_goto (tgt := 33) hx hb d_Model_type_73 (by decide) ?_
  refine lv_iload hx hb d_Model_type_33 (lv_at hl1 0 rfl) ?_
  refine lv_iload_n hx hb d_Model_type_35 rfl (lv_at hl1 3 rfl) ?_
  refine lv_icmp_ge (tgt := 76) hx hb d_Model_type_36 (by decide) (fun c_54 => ?_) (fun c_54 => ?_)
  rotate_left
  · first | exact absurd c_54 (by decide) | exact absurd (by decide) c_54
  refine lv_iconst (v := 1) hx hb d_Model_type_76 (by decide) ?_
  exact W.zret (v := 1) hx hb hr rfl (fun t ht hW => ⟨⟨1, fun _ => 0, rfl, rfl, trivial⟩, hS.F ht⟩) hS.2.2 d_Model_type_77
set_option maxHeartbeats 4000000 in
set_option maxRecDepth 100000 in
theorem c_Model_type_7 (l : Launch) (D : va_G) (ax : Nat → ClassId) (m0 m1 m2 m3 m4 m5 m6 m7 m8 m9 m10 m11 m12 m13 m14 m15 m16 m17 m18 m19 m20 m21 m22 m23 m24 m25 m26 m27 m28 m29 m30 m31 m32 m33 m34 m35 m36 m37 m38 m39 m40 m41 m42 : Nat) (w : Int64) (sz : Nat) : Met l y_Model_type (xws (.code y_Model_type b_Model_type 5 (some .boolean))) ({ frames := 10, cells := 0, slots := 0, locals := 400 }) (va_Pc [.ref m0, .long w, .int 7] (xo D ax [(m0, .inr (11, [.int 0, .int 0, .ref m1, .int 0, .int 0, .ref m2, .int 0, .int 0, .int 0, .int 0, .int 0, .ref m42, .ref m3, .ref m4, .int 0, .int 0, .ref m5, .ref m6, .ref m7, .ref m8, .ref m9, .ref m10, .ref m11, .ref m12, .ref m13, .ref m14, .ref m15, .ref m16, .ref m17, .ref m18, .ref m19, .int 0, .ref m20, .int 0, .ref m21, .int 0, .int 0, .int 0, .int 0, .int 0, .int 0, .int 0, .ref m22, .int 0, .int 0, .ref m23, .ref m24, .ref m25, .ref m26, .int 0, .ref m27, .int 0, .ref m28, .int 0, .ref m29, .ref m30, .int (-1), .int 0, .int 0, .ref m31, .ref m32, .ref m33, .ref m34, .ref m35, .ref m36, .ref m37, .ref m38, .ref m39, .int 0, .ref m40, .int 0, .ref m41])), (m1, .inl (ax 0, 400, .inl (fun _ => 0)))] sz)) ((va_Qi (fun (r : Int32) (u : Nat → Nat) => r = 1) (fun (_ : Nat → Nat) (_ : State) => True) (va_A [(m0, .inr (11, [.int 0, .int 0, .ref m1, .int 0, .int 0, .ref m2, .int 0, .int 0, .int 0, .int 0, .int 0, .ref m42, .ref m3, .ref m4, .int 0, .int 0, .ref m5, .ref m6, .ref m7, .ref m8, .ref m9, .ref m10, .ref m11, .ref m12, .ref m13, .ref m14, .ref m15, .ref m16, .ref m17, .ref m18, .ref m19, .int 0, .ref m20, .int 0, .ref m21, .int 0, .int 0, .int 0, .int 0, .int 0, .int 0, .int 0, .ref m22, .int 0, .int 0, .ref m23, .ref m24, .ref m25, .ref m26, .int 0, .ref m27, .int 0, .ref m28, .int 0, .ref m29, .ref m30, .int (-1), .int 0, .int 0, .ref m31, .ref m32, .ref m33, .ref m34, .ref m35, .ref m36, .ref m37, .ref m38, .ref m39, .int 0, .ref m40, .int 0, .ref m41])), (m1, .inl (ax 0, 400, .inl (fun _ => 0)))] sz))) 0 0 (va_A [(m0, .inr (11, [.int 0, .int 0, .ref m1, .int 0, .int 0, .ref m2, .int 0, .int 0, .int 0, .int 0, .int 0, .ref m42, .ref m3, .ref m4, .int 0, .int 0, .ref m5, .ref m6, .ref m7, .ref m8, .ref m9, .ref m10, .ref m11, .ref m12, .ref m13, .ref m14, .ref m15, .ref m16, .ref m17, .ref m18, .ref m19, .int 0, .ref m20, .int 0, .ref m21, .int 0, .int 0, .int 0, .int 0, .int 0, .int 0, .int 0, .ref m22, .int 0, .int 0, .ref m23, .ref m24, .ref m25, .ref m26, .int 0, .ref m27, .int 0, .ref m28, .int 0, .ref m29, .ref m30, .int (-1), .int 0, .int 0, .ref m31, .ref m32, .ref m33, .ref m34, .ref m35, .ref m36, .ref m37, .ref m38, .ref m39, .int 0, .ref m40, .int 0, .ref m41])), (m1, .inl (ax 0, 400, .inl (fun _ => 0)))] sz) := by
  refine Met.ofW (cc := b_Model_type) (maxL := 5) (ret := (some .boolean)) (by decide) rfl ?_
  intro p e s m args below meth c s₁ B hml hv
  obtain ⟨rfl, hsz, hP, hK, hD0⟩ := hv
  have hx := B.exec
  have hb := B.bytes
  have hr := B.returns
  have hts := xw_hts B.pre
  have hown : s.vm.findClass R_Model = some m.cls := findClass_of_methodNamed B.named
  have hlocks := B.notSynchronized
  subst hsz
  have hD := hD0.self (sz := s.heap.size)
  have hN := xz_entry hP
  generalize hAe : va_A [(m0, .inr (11, [.int 0, .int 0, .ref m1, .int 0, .int 0, .ref m2, .int 0, .int 0, .int 0, .int 0, .int 0, .ref m42, .ref m3, .ref m4, .int 0, .int 0, .ref m5, .ref m6, .ref m7, .ref m8, .ref m9, .ref m10, .ref m11, .ref m12, .ref m13, .ref m14, .ref m15, .ref m16, .ref m17, .ref m18, .ref m19, .int 0, .ref m20, .int 0, .ref m21, .int 0, .int 0, .int 0, .int 0, .int 0, .int 0, .int 0, .ref m22, .int 0, .int 0, .ref m23, .ref m24, .ref m25, .ref m26, .int 0, .ref m27, .int 0, .ref m28, .int 0, .ref m29, .ref m30, .int (-1), .int 0, .int 0, .ref m31, .ref m32, .ref m33, .ref m34, .ref m35, .ref m36, .ref m37, .ref m38, .ref m39, .int 0, .ref m40, .int 0, .ref m41])), (m1, .inl (ax 0, 400, .inl (fun _ => 0)))] s.heap.size = A at hD hN ⊢
  have hA : ∀ q : Nat, s.heap.size ≤ q → A q := fun q h => by rw [← hAe]; exact Or.inr h
  have hS : va_S A s.heap s.heap [] := va_S.rf
  have hl0 := lv_entry ([.ref m0, .long w, .int 7]) (n := 5) (Nat.le_of_ble_eq_true rfl)
  rw [lg_entry_eq]
  generalize (lg_sl ([.ref m0, .long w, .int 7]) ++ List.replicate (5 - (lg_sl ([.ref m0, .long w, .int 7])).length) Slot.unset).toArray = ls at hl0 ⊢
  have hl1 : lv_has ls 5 [(0, .ref m0), (1, .long w), (3, .int 7)] := hl0
  refine lv_aload_n hx hb d_Model_type_0 rfl (lv_at hl1 0 rfl) ?_
  refine lv_iconst (v := 0) hx hb d_Model_type_1 (by decide) ?_
  refine va_put (D := D) (ci := 11) (v := .int 0) (ty := .int) (C := R_Model) (T := F_Model) (N := 72) hx hb hts i_Model t_Model t_Model_ok n_Model hown hK.1 hP hD hS 0 rfl rfl 0 (by decide) (hts _ wd_1036) (fun _ h9 => h9) rfl (by decide +kernel) rfl rfl (Nat.le_of_ble_eq_true rfl) d_Model_type_2 (fun H_1 locs hP hD hS => ?_)
  have hP : va_P D classes [(m0, .inr (11, [.int 0, .int 0, .ref m1, .int 0, .int 0, .ref m2, .int 0, .int 0, .int 0, .int 0, .int 0, .ref m42, .ref m3, .ref m4, .int 0, .int 0, .ref m5, .ref m6, .ref m7, .ref m8, .ref m9, .ref m10, .ref m11, .ref m12, .ref m13, .ref m14, .ref m15, .ref m16, .ref m17, .ref m18, .ref m19, .int 0, .ref m20, .int 0, .ref m21, .int 0, .int 0, .int 0, .int 0, .int 0, .int 0, .int 0, .ref m22, .int 0, .int 0, .ref m23, .ref m24, .ref m25, .ref m26, .int 0, .ref m27, .int 0, .ref m28, .int 0, .ref m29, .ref m30, .int (-1), .int 0, .int 0, .ref m31, .ref m32, .ref m33, .ref m34, .ref m35, .ref m36, .ref m37, .ref m38, .ref m39, .int 0, .ref m40, .int 0, .ref m41])), (m1, .inl (ax 0, 400, .inl (fun _ => 0)))] H_1 := hP
  have hD : va_D A [(m0, .inr (11, [.int 0, .int 0, .ref m1, .int 0, .int 0, .ref m2, .int 0, .int 0, .int 0, .int 0, .int 0, .ref m42, .ref m3, .ref m4, .int 0, .int 0, .ref m5, .ref m6, .ref m7, .ref m8, .ref m9, .ref m10, .ref m11, .ref m12, .ref m13, .ref m14, .ref m15, .ref m16, .ref m17, .ref m18, .ref m19, .int 0, .ref m20, .int 0, .ref m21, .int 0, .int 0, .int 0, .int 0, .int 0, .int 0, .int 0, .ref m22, .int 0, .int 0, .ref m23, .ref m24, .ref m25, .ref m26, .int 0, .ref m27, .int 0, .ref m28, .int 0, .ref m29, .ref m30, .int (-1), .int 0, .int 0, .ref m31, .ref m32, .ref m33, .ref m34, .ref m35, .ref m36, .ref m37, .ref m38, .ref m39, .int 0, .ref m40, .int 0, .ref m41])), (m1, .inl (ax 0, 400, .inl (fun _ => 0)))] := hD
  refine lv_iload_n hx hb d_Model_type_5 rfl (lv_at hl1 2 rfl) ?_
  refine lv_iconst (v := 1) hx hb d_Model_type_6 (by decide) ?_
  refine lv_icmp_lt (tgt := 28) hx hb d_Model_type_7 (by decide) (fun c_2 => ?_) (fun c_2 => ?_)
  · first | exact absurd c_2 (by decide) | exact absurd (by decide) c_2
  refine lv_iload_n hx hb d_Model_type_10 rfl (lv_at hl1 2 rfl) ?_
  refine lv_bipush (v := 8) hx hb d_Model_type_11 (by decide) ?_
  refine lv_icmp_gt (tgt := 28) hx hb d_Model_type_13 (by decide) (fun c_3 => ?_) (fun c_3 => ?_)
  · first | exact absurd c_3 (by decide) | exact absurd (by decide) c_3
  refine lv_aload_n hx hb d_Model_type_16 rfl (lv_at hl1 0 rfl) ?_
  refine va_get (D := D) (ci := 11) (v := .int 0) (C := R_Model) (T := F_Model) (N := 72) hx hb hts i_Model hown hK.1 hP 0 rfl rfl 1 (by decide) (hts _ wd_1037) (fun _ h9 => h9) rfl d_Model_type_17 ?_
  refine lv_iload_n hx hb d_Model_type_20 rfl (lv_at hl1 2 rfl) ?_
  refine lv_iadd hx hb d_Model_type_21 ?_
  refine lv_topi (fun z_4 ez_4 => ?_)
  have ez_4 : z_4 = 7 := ez_4.trans (by first | rfl | decide)
  subst ez_4
  refine lv_sipush (v := 400) hx hb d_Model_type_22 (by decide) ?_
  refine lv_icmp_le (tgt := 30) hx hb d_Model_type_25 (by decide) (fun c_5 => ?_) (fun c_5 => ?_)
  rotate_left
  · first | exact absurd c_5 (by decide) | exact absurd (by decide) c_5
  refine lv_iconst (v := 0) hx hb d_Model_type_30 (by decide) ?_
  refine lv_istore (lv' := [(4, .int 0), (0, .ref m0), (1, .long w), (3, .int 7)]) hx hb d_Model_type_31 hl1 (by decide) rfl (fun ls hl1 => ?_)
  refine lv_iload hx hb d_Model_type_33 (lv_at hl1 0 rfl) ?_
  refine lv_iload_n hx hb d_Model_type_35 rfl (lv_at hl1 3 rfl) ?_
  refine lv_icmp_ge (tgt := 76) hx hb d_Model_type_36 (by decide) (fun c_6 => ?_) (fun c_6 => ?_)
  · first | exact absurd c_6 (by decide) | exact absurd (by decide) c_6
  refine lv_aload_n hx hb d_Model_type_39 rfl (lv_at hl1 1 rfl) ?_
  refine va_get (D := D) (ci := 11) (v := .ref m1) (C := R_Model) (T := F_Model) (N := 72) hx hb hts i_Model hown hK.1 hP 0 rfl rfl 2 (by decide) (hts _ wd_1038) (fun _ h9 => h9) rfl d_Model_type_40 ?_
  refine lv_aload_n hx hb d_Model_type_43 rfl (lv_at hl1 1 rfl) ?_
  refine va_get (D := D) (ci := 11) (v := .int 0) (C := R_Model) (T := F_Model) (N := 72) hx hb hts i_Model hown hK.1 hP 0 rfl rfl 1 (by decide) (hts _ wd_1037) (fun _ h9 => h9) rfl d_Model_type_44 ?_
  refine lv_lload_n hx hb d_Model_type_47 rfl (lv_at hl1 2 rfl) ?_
  refine lv_bipush (v := 8) hx hb d_Model_type_48 (by decide) ?_
  refine lv_iload hx hb d_Model_type_50 (lv_at hl1 0 rfl) ?_
  refine lv_imul hx hb d_Model_type_52 ?_
  refine lv_topi (fun z_7 ez_7 => ?_)
  have ez_7 : z_7 = 0 := ez_7.trans (by first | rfl | decide)
  subst ez_7
  refine lv_lshr hx hb d_Model_type_53 rfl ?_
  refine lv_topl (fun z_8 ez_8 => ?_)
  refine lv_ldc2 (v := 255) hx hb hown (hts _ wd_1262) d_Model_type_54 ?_
  refine lv_land hx hb d_Model_type_57 ?_
  refine lv_topl (fun z_9 ez_9 => ?_)
  refine lv_l2i hx hb d_Model_type_58 rfl ?_
  refine lv_topi (fun z_10 ez_10 => ?_)
  refine va_iast hx hb hK.1 hP hD hS 1 0 rfl rfl (by unfold vp_in; decide) d_Model_type_59 (fun H_11 locs hP hD hS => ?_)
  have hP : va_P D classes [(m0, .inr (11, [.int 0, .int 0, .ref m1, .int 0, .int 0, .ref m2, .int 0, .int 0, .int 0, .int 0, .int 0, .ref m42, .ref m3, .ref m4, .int 0, .int 0, .ref m5, .ref m6, .ref m7, .ref m8, .ref m9, .ref m10, .ref m11, .ref m12, .ref m13, .ref m14, .ref m15, .ref m16, .ref m17, .ref m18, .ref m19, .int 0, .ref m20, .int 0, .ref m21, .int 0, .int 0, .int 0, .int 0, .int 0, .int 0, .int 0, .ref m22, .int 0, .int 0, .ref m23, .ref m24, .ref m25, .ref m26, .int 0, .ref m27, .int 0, .ref m28, .int 0, .ref m29, .ref m30, .int (-1), .int 0, .int 0, .ref m31, .ref m32, .ref m33, .ref m34, .ref m35, .ref m36, .ref m37, .ref m38, .ref m39, .int 0, .ref m40, .int 0, .ref m41])), (m1, .inl (ax 0, 400, .inl (upd (fun _ => 0) 0 z_10)))] H_11 := hP
  have hD : va_D A [(m0, .inr (11, [.int 0, .int 0, .ref m1, .int 0, .int 0, .ref m2, .int 0, .int 0, .int 0, .int 0, .int 0, .ref m42, .ref m3, .ref m4, .int 0, .int 0, .ref m5, .ref m6, .ref m7, .ref m8, .ref m9, .ref m10, .ref m11, .ref m12, .ref m13, .ref m14, .ref m15, .ref m16, .ref m17, .ref m18, .ref m19, .int 0, .ref m20, .int 0, .ref m21, .int 0, .int 0, .int 0, .int 0, .int 0, .int 0, .int 0, .ref m22, .int 0, .int 0, .ref m23, .ref m24, .ref m25, .ref m26, .int 0, .ref m27, .int 0, .ref m28, .int 0, .ref m29, .ref m30, .int (-1), .int 0, .int 0, .ref m31, .ref m32, .ref m33, .ref m34, .ref m35, .ref m36, .ref m37, .ref m38, .ref m39, .int 0, .ref m40, .int 0, .ref m41])), (m1, .inl (ax 0, 400, .inl (upd (fun _ => 0) 0 z_10)))] := hD
  refine lv_aload_n hx hb d_Model_type_60 rfl (lv_at hl1 1 rfl) ?_
  refine lv_dup hx hb d_Model_type_61 rfl ?_
  refine va_get (D := D) (ci := 11) (v := .int 0) (C := R_Model) (T := F_Model) (N := 72) hx hb hts i_Model hown hK.1 hP 0 rfl rfl 1 (by decide) (hts _ wd_1037) (fun _ h9 => h9) rfl d_Model_type_62 ?_
  refine lv_iconst (v := 1) hx hb d_Model_type_65 (by decide) ?_
  refine lv_iadd hx hb d_Model_type_66 ?_
  refine lv_topi (fun z_12 ez_12 => ?_)
  have ez_12 : z_12 = 1 := ez_12.trans (by first | rfl | decide)
  subst ez_12
  refine va_put (D := D) (ci := 11) (v := .int 1) (ty := .int) (C := R_Model) (T := F_Model) (N := 72) hx hb hts i_Model t_Model t_Model_ok n_Model hown hK.1 hP hD hS 0 rfl rfl 1 (by decide) (hts _ wd_1037) (fun _ h9 => h9) rfl (by decide +kernel) rfl rfl (Nat.le_of_ble_eq_true rfl) d_Model_type_67 (fun H_13 locs hP hD hS => ?_)
  have hP : va_P D classes [(m0, .inr (11, [.int 0, .int 1, .ref m1, .int 0, .int 0, .ref m2, .int 0, .int 0, .int 0, .int 0, .int 0, .ref m42, .ref m3, .ref m4, .int 0, .int 0, .ref m5, .ref m6, .ref m7, .ref m8, .ref m9, .ref m10, .ref m11, .ref m12, .ref m13, .ref m14, .ref m15, .ref m16, .ref m17, .ref m18, .ref m19, .int 0, .ref m20, .int 0, .ref m21, .int 0, .int 0, .int 0, .int 0, .int 0, .int 0, .int 0, .ref m22, .int 0, .int 0, .ref m23, .ref m24, .ref m25, .ref m26, .int 0, .ref m27, .int 0, .ref m28, .int 0, .ref m29, .ref m30, .int (-1), .int 0, .int 0, .ref m31, .ref m32, .ref m33, .ref m34, .ref m35, .ref m36, .ref m37, .ref m38, .ref m39, .int 0, .ref m40, .int 0, .ref m41])), (m1, .inl (ax 0, 400, .inl (upd (fun _ => 0) 0 z_10)))] H_13 := hP
  have hD : va_D A [(m0, .inr (11, [.int 0, .int 1, .ref m1, .int 0, .int 0, .ref m2, .int 0, .int 0, .int 0, .int 0, .int 0, .ref m42, .ref m3, .ref m4, .int 0, .int 0, .ref m5, .ref m6, .ref m7, .ref m8, .ref m9, .ref m10, .ref m11, .ref m12, .ref m13, .ref m14, .ref m15, .ref m16, .ref m17, .ref m18, .ref m19, .int 0, .ref m20, .int 0, .ref m21, .int 0, .int 0, .int 0, .int 0, .int 0, .int 0, .int 0, .ref m22, .int 0, .int 0, .ref m23, .ref m24, .ref m25, .ref m26, .int 0, .ref m27, .int 0, .ref m28, .int 0, .ref m29, .ref m30, .int (-1), .int 0, .int 0, .ref m31, .ref m32, .ref m33, .ref m34, .ref m35, .ref m36, .ref m37, .ref m38, .ref m39, .int 0, .ref m40, .int 0, .ref m41])), (m1, .inl (ax 0, 400, .inl (upd (fun _ => 0) 0 z_10)))] := hD
  refine lv_iinc (v := 1) (lv' := [(4, .int 1), (0, .ref m0), (1, .long w), (3, .int 7)]) hx hb d_Model_type_70 hl1 (k := 0) rfl (by decide) (by decide) rfl (fun ls hl1 => ?_)
  refine lv_goto (tgt := 33) hx hb d_Model_type_73 (by decide) ?_
  refine lv_iload hx hb d_Model_type_33 (lv_at hl1 0 rfl) ?_
  refine lv_iload_n hx hb d_Model_type_35 rfl (lv_at hl1 3 rfl) ?_
  refine lv_icmp_ge (tgt := 76) hx hb d_Model_type_36 (by decide) (fun c_14 => ?_) (fun c_14 => ?_)
  · first | exact absurd c_14 (by decide) | exact absurd (by decide) c_14
  refine lv_aload_n hx hb d_Model_type_39 rfl (lv_at hl1 1 rfl) ?_
  refine va_get (D := D) (ci := 11) (v := .ref m1) (C := R_Model) (T := F_Model) (N := 72) hx hb hts i_Model hown hK.1 hP 0 rfl rfl 2 (by decide) (hts _ wd_1038) (fun _ h9 => h9) rfl d_Model_type_40 ?_
  refine lv_aload_n hx hb d_Model_type_43 rfl (lv_at hl1 1 rfl) ?_
  refine va_get (D := D) (ci := 11) (v := .int 1) (C := R_Model) (T := F_Model) (N := 72) hx hb hts i_Model hown hK.1 hP 0 rfl rfl 1 (by decide) (hts _ wd_1037) (fun _ h9 => h9) rfl d_Model_type_44 ?_
  refine lv_lload_n hx hb d_Model_type_47 rfl (lv_at hl1 2 rfl) ?_
  refine lv_bipush (v := 8) hx hb d_Model_type_48 (by decide) ?_
  refine lv_iload hx hb d_Model_type_50 (lv_at hl1 0 rfl) ?_
  refine lv_imul hx hb d_Model_type_52 ?_
  refine lv_topi (fun z_15 ez_15 => ?_)
  have ez_15 : z_15 = 8 := ez_15.trans (by first | rfl | decide)
  subst ez_15
  refine lv_lshr hx hb d_Model_type_53 rfl ?_
  refine lv_topl (fun z_16 ez_16 => ?_)
  refine lv_ldc2 (v := 255) hx hb hown (hts _ wd_1262) d_Model_type_54 ?_
  refine lv_land hx hb d_Model_type_57 ?_
  refine lv_topl (fun z_17 ez_17 => ?_)
  refine lv_l2i hx hb d_Model_type_58 rfl ?_
  refine lv_topi (fun z_18 ez_18 => ?_)
  refine va_iast hx hb hK.1 hP hD hS 1 0 rfl rfl (by unfold vp_in; decide) d_Model_type_59 (fun H_19 locs hP hD hS => ?_)
  have hP : va_P D classes [(m0, .inr (11, [.int 0, .int 1, .ref m1, .int 0, .int 0, .ref m2, .int 0, .int 0, .int 0, .int 0, .int 0, .ref m42, .ref m3, .ref m4, .int 0, .int 0, .ref m5, .ref m6, .ref m7, .ref m8, .ref m9, .ref m10, .ref m11, .ref m12, .ref m13, .ref m14, .ref m15, .ref m16, .ref m17, .ref m18, .ref m19, .int 0, .ref m20, .int 0, .ref m21, .int 0, .int 0, .int 0, .int 0, .int 0, .int 0, .int 0, .ref m22, .int 0, .int 0, .ref m23, .ref m24, .ref m25, .ref m26, .int 0, .ref m27, .int 0, .ref m28, .int 0, .ref m29, .ref m30, .int (-1), .int 0, .int 0, .ref m31, .ref m32, .ref m33, .ref m34, .ref m35, .ref m36, .ref m37, .ref m38, .ref m39, .int 0, .ref m40, .int 0, .ref m41])), (m1, .inl (ax 0, 400, .inl (upd (upd (fun _ => 0) 0 z_10) 1 z_18)))] H_19 := hP
  have hD : va_D A [(m0, .inr (11, [.int 0, .int 1, .ref m1, .int 0, .int 0, .ref m2, .int 0, .int 0, .int 0, .int 0, .int 0, .ref m42, .ref m3, .ref m4, .int 0, .int 0, .ref m5, .ref m6, .ref m7, .ref m8, .ref m9, .ref m10, .ref m11, .ref m12, .ref m13, .ref m14, .ref m15, .ref m16, .ref m17, .ref m18, .ref m19, .int 0, .ref m20, .int 0, .ref m21, .int 0, .int 0, .int 0, .int 0, .int 0, .int 0, .int 0, .ref m22, .int 0, .int 0, .ref m23, .ref m24, .ref m25, .ref m26, .int 0, .ref m27, .int 0, .ref m28, .int 0, .ref m29, .ref m30, .int (-1), .int 0, .int 0, .ref m31, .ref m32, .ref m33, .ref m34, .ref m35, .ref m36, .ref m37, .ref m38, .ref m39, .int 0, .ref m40, .int 0, .ref m41])), (m1, .inl (ax 0, 400, .inl (upd (upd (fun _ => 0) 0 z_10) 1 z_18)))] := hD
  refine lv_aload_n hx hb d_Model_type_60 rfl (lv_at hl1 1 rfl) ?_
  refine lv_dup hx hb d_Model_type_61 rfl ?_
  refine va_get (D := D) (ci := 11) (v := .int 1) (C := R_Model) (T := F_Model) (N := 72) hx hb hts i_Model hown hK.1 hP 0 rfl rfl 1 (by decide) (hts _ wd_1037) (fun _ h9 => h9) rfl d_Model_type_62 ?_
  refine lv_iconst (v := 1) hx hb d_Model_type_65 (by decide) ?_
  refine lv_iadd hx hb d_Model_type_66 ?_
  refine lv_topi (fun z_20 ez_20 => ?_)
  have ez_20 : z_20 = 2 := ez_20.trans (by first | rfl | decide)
  subst ez_20
  refine va_put (D := D) (ci := 11) (v := .int 2) (ty := .int) (C := R_Model) (T := F_Model) (N := 72) hx hb hts i_Model t_Model t_Model_ok n_Model hown hK.1 hP hD hS 0 rfl rfl 1 (by decide) (hts _ wd_1037) (fun _ h9 => h9) rfl (by decide +kernel) rfl rfl (Nat.le_of_ble_eq_true rfl) d_Model_type_67 (fun H_21 locs hP hD hS => ?_)
  have hP : va_P D classes [(m0, .inr (11, [.int 0, .int 2, .ref m1, .int 0, .int 0, .ref m2, .int 0, .int 0, .int 0, .int 0, .int 0, .ref m42, .ref m3, .ref m4, .int 0, .int 0, .ref m5, .ref m6, .ref m7, .ref m8, .ref m9, .ref m10, .ref m11, .ref m12, .ref m13, .ref m14, .ref m15, .ref m16, .ref m17, .ref m18, .ref m19, .int 0, .ref m20, .int 0, .ref m21, .int 0, .int 0, .int 0, .int 0, .int 0, .int 0, .int 0, .ref m22, .int 0, .int 0, .ref m23, .ref m24, .ref m25, .ref m26, .int 0, .ref m27, .int 0, .ref m28, .int 0, .ref m29, .ref m30, .int (-1), .int 0, .int 0, .ref m31, .ref m32, .ref m33, .ref m34, .ref m35, .ref m36, .ref m37, .ref m38, .ref m39, .int 0, .ref m40, .int 0, .ref m41])), (m1, .inl (ax 0, 400, .inl (upd (upd (fun _ => 0) 0 z_10) 1 z_18)))] H_21 := hP
  have hD : va_D A [(m0, .inr (11, [.int 0, .int 2, .ref m1, .int 0, .int 0, .ref m2, .int 0, .int 0, .int 0, .int 0, .int 0, .ref m42, .ref m3, .ref m4, .int 0, .int 0, .ref m5, .ref m6, .ref m7, .ref m8, .ref m9, .ref m10, .ref m11, .ref m12, .ref m13, .ref m14, .ref m15, .ref m16, .ref m17, .ref m18, .ref m19, .int 0, .ref m20, .int 0, .ref m21, .int 0, .int 0, .int 0, .int 0, .int 0, .int 0, .int 0, .ref m22, .int 0, .int 0, .ref m23, .ref m24, .ref m25, .ref m26, .int 0, .ref m27, .int 0, .ref m28, .int 0, .ref m29, .ref m30, .int (-1), .int 0, .int 0, .ref m31, .ref m32, .ref m33, .ref m34, .ref m35, .ref m36, .ref m37, .ref m38, .ref m39, .int 0, .ref m40, .int 0, .ref m41])), (m1, .inl (ax 0, 400, .inl (upd (upd (fun _ => 0) 0 z_10) 1 z_18)))] := hD
  refine lv_iinc (v := 2) (lv' := [(4, .int 2), (0, .ref m0), (1, .long w), (3, .int 7)]) hx hb d_Model_type_70 hl1 (k := 0) rfl (by decide) (by decide) rfl (fun ls hl1 => ?_)
  refine lv_goto (tgt := 33) hx hb d_Model_type_73 (by decide) ?_
  refine lv_iload hx hb d_Model_type_33 (lv_at hl1 0 rfl) ?_
  refine lv_iload_n hx hb d_Model_type_35 rfl (lv_at hl1 3 rfl) ?_
  refine lv_icmp_ge (tgt := 76) hx hb d_Model_type_36 (by decide) (fun c_22 => ?_) (fun c_22 => ?_)
  · first | exact absurd c_22 (by decide) | exact absurd (by decide) c_22
  refine lv_aload_n hx hb d_Model_type_39 rfl (lv_at hl1 1 rfl) ?_
  refine va_get (D := D) (ci := 11) (v := .ref m1) (C := R_Model) (T := F_Model) (N := 72) hx hb hts i_Model hown hK.1 hP 0 rfl rfl 2 (by decide) (hts _ wd_1038) (fun _ h9 => h9) rfl d_Model_type_40 ?_
  refine lv_aload_n hx hb d_Model_type_43 rfl (lv_at hl1 1 rfl) ?_
  refine va_get (D := D) (ci := 11) (v := .int 2) (C := R_Model) (T := F_Model) (N := 72) hx hb hts i_Model hown hK.1 hP 0 rfl rfl 1 (by decide) (hts _ wd_1037) (fun _ h9 => h9) rfl d_Model_type_44 ?_
  refine lv_lload_n hx hb d_Model_type_47 rfl (lv_at hl1 2 rfl) ?_
  refine lv_bipush (v := 8) hx hb d_Model_type_48 (by decide) ?_
  refine lv_iload hx hb d_Model_type_50 (lv_at hl1 0 rfl) ?_
  refine lv_imul hx hb d_Model_type_52 ?_
  refine lv_topi (fun z_23 ez_23 => ?_)
  have ez_23 : z_23 = 16 := ez_23.trans (by first | rfl | decide)
  subst ez_23
  refine lv_lshr hx hb d_Model_type_53 rfl ?_
  refine lv_topl (fun z_24 ez_24 => ?_)
  refine lv_ldc2 (v := 255) hx hb hown (hts _ wd_1262) d_Model_type_54 ?_
  refine lv_land hx hb d_Model_type_57 ?_
  refine lv_topl (fun z_25 ez_25 => ?_)
  refine lv_l2i hx hb d_Model_type_58 rfl ?_
  refine lv_topi (fun z_26 ez_26 => ?_)
  refine va_iast hx hb hK.1 hP hD hS 1 0 rfl rfl (by unfold vp_in; decide) d_Model_type_59 (fun H_27 locs hP hD hS => ?_)
  have hP : va_P D classes [(m0, .inr (11, [.int 0, .int 2, .ref m1, .int 0, .int 0, .ref m2, .int 0, .int 0, .int 0, .int 0, .int 0, .ref m42, .ref m3, .ref m4, .int 0, .int 0, .ref m5, .ref m6, .ref m7, .ref m8, .ref m9, .ref m10, .ref m11, .ref m12, .ref m13, .ref m14, .ref m15, .ref m16, .ref m17, .ref m18, .ref m19, .int 0, .ref m20, .int 0, .ref m21, .int 0, .int 0, .int 0, .int 0, .int 0, .int 0, .int 0, .ref m22, .int 0, .int 0, .ref m23, .ref m24, .ref m25, .ref m26, .int 0, .ref m27, .int 0, .ref m28, .int 0, .ref m29, .ref m30, .int (-1), .int 0, .int 0, .ref m31, .ref m32, .ref m33, .ref m34, .ref m35, .ref m36, .ref m37, .ref m38, .ref m39, .int 0, .ref m40, .int 0, .ref m41])), (m1, .inl (ax 0, 400, .inl (upd (upd (upd (fun _ => 0) 0 z_10) 1 z_18) 2 z_26)))] H_27 := hP
  have hD : va_D A [(m0, .inr (11, [.int 0, .int 2, .ref m1, .int 0, .int 0, .ref m2, .int 0, .int 0, .int 0, .int 0, .int 0, .ref m42, .ref m3, .ref m4, .int 0, .int 0, .ref m5, .ref m6, .ref m7, .ref m8, .ref m9, .ref m10, .ref m11, .ref m12, .ref m13, .ref m14, .ref m15, .ref m16, .ref m17, .ref m18, .ref m19, .int 0, .ref m20, .int 0, .ref m21, .int 0, .int 0, .int 0, .int 0, .int 0, .int 0, .int 0, .ref m22, .int 0, .int 0, .ref m23, .ref m24, .ref m25, .ref m26, .int 0, .ref m27, .int 0, .ref m28, .int 0, .ref m29, .ref m30, .int (-1), .int 0, .int 0, .ref m31, .ref m32, .ref m33, .ref m34, .ref m35, .ref m36, .ref m37, .ref m38, .ref m39, .int 0, .ref m40, .int 0, .ref m41])), (m1, .inl (ax 0, 400, .inl (upd (upd (upd (fun _ => 0) 0 z_10) 1 z_18) 2 z_26)))] := hD
  refine lv_aload_n hx hb d_Model_type_60 rfl (lv_at hl1 1 rfl) ?_
  refine lv_dup hx hb d_Model_type_61 rfl ?_
  refine va_get (D := D) (ci := 11) (v := .int 2) (C := R_Model) (T := F_Model) (N := 72) hx hb hts i_Model hown hK.1 hP 0 rfl rfl 1 (by decide) (hts _ wd_1037) (fun _ h9 => h9) rfl d_Model_type_62 ?_
  refine lv_iconst (v := 1) hx hb d_Model_type_65 (by decide) ?_
  refine lv_iadd hx hb d_Model_type_66 ?_
  refine lv_topi (fun z_28 ez_28 => ?_)
  have ez_28 : z_28 = 3 := ez_28.trans (by first | rfl | decide)
  subst ez_28
  refine va_put (D := D) (ci := 11) (v := .int 3) (ty := .int) (C := R_Model) (T := F_Model) (N := 72) hx hb hts i_Model t_Model t_Model_ok n_Model hown hK.1 hP hD hS 0 rfl rfl 1 (by decide) (hts _ wd_1037) (fun _ h9 => h9) rfl (by decide +kernel) rfl rfl (Nat.le_of_ble_eq_true rfl) d_Model_type_67 (fun H_29 locs hP hD hS => ?_)
  have hP : va_P D classes [(m0, .inr (11, [.int 0, .int 3, .ref m1, .int 0, .int 0, .ref m2, .int 0, .int 0, .int 0, .int 0, .int 0, .ref m42, .ref m3, .ref m4, .int 0, .int 0, .ref m5, .ref m6, .ref m7, .ref m8, .ref m9, .ref m10, .ref m11, .ref m12, .ref m13, .ref m14, .ref m15, .ref m16, .ref m17, .ref m18, .ref m19, .int 0, .ref m20, .int 0, .ref m21, .int 0, .int 0, .int 0, .int 0, .int 0, .int 0, .int 0, .ref m22, .int 0, .int 0, .ref m23, .ref m24, .ref m25, .ref m26, .int 0, .ref m27, .int 0, .ref m28, .int 0, .ref m29, .ref m30, .int (-1), .int 0, .int 0, .ref m31, .ref m32, .ref m33, .ref m34, .ref m35, .ref m36, .ref m37, .ref m38, .ref m39, .int 0, .ref m40, .int 0, .ref m41])), (m1, .inl (ax 0, 400, .inl (upd (upd (upd (fun _ => 0) 0 z_10) 1 z_18) 2 z_26)))] H_29 := hP
  have hD : va_D A [(m0, .inr (11, [.int 0, .int 3, .ref m1, .int 0, .int 0, .ref m2, .int 0, .int 0, .int 0, .int 0, .int 0, .ref m42, .ref m3, .ref m4, .int 0, .int 0, .ref m5, .ref m6, .ref m7, .ref m8, .ref m9, .ref m10, .ref m11, .ref m12, .ref m13, .ref m14, .ref m15, .ref m16, .ref m17, .ref m18, .ref m19, .int 0, .ref m20, .int 0, .ref m21, .int 0, .int 0, .int 0, .int 0, .int 0, .int 0, .int 0, .ref m22, .int 0, .int 0, .ref m23, .ref m24, .ref m25, .ref m26, .int 0, .ref m27, .int 0, .ref m28, .int 0, .ref m29, .ref m30, .int (-1), .int 0, .int 0, .ref m31, .ref m32, .ref m33, .ref m34, .ref m35, .ref m36, .ref m37, .ref m38, .ref m39, .int 0, .ref m40, .int 0, .ref m41])), (m1, .inl (ax 0, 400, .inl (upd (upd (upd (fun _ => 0) 0 z_10) 1 z_18) 2 z_26)))] := hD
  refine lv_iinc (v := 3) (lv' := [(4, .int 3), (0, .ref m0), (1, .long w), (3, .int 7)]) hx hb d_Model_type_70 hl1 (k := 0) rfl (by decide) (by decide) rfl (fun ls hl1 => ?_)
  refine lv_goto (tgt := 33) hx hb d_Model_type_73 (by decide) ?_
  refine lv_iload hx hb d_Model_type_33 (lv_at hl1 0 rfl) ?_
  refine lv_iload_n hx hb d_Model_type_35 rfl (lv_at hl1 3 rfl) ?_
  refine lv_icmp_ge (tgt := 76) hx hb d_Model_type_36 (by decide) (fun c_30 => ?_) (fun c_30 => ?_)
  · first | exact absurd c_30 (by decide) | exact absurd (by decide) c_30
  refine lv_aload_n hx hb d_Model_type_39 rfl (lv_at hl1 1 rfl) ?_
  refine va_get (D := D) (ci := 11) (v := .ref m1) (C := R_Model) (T := F_Model) (N := 72) hx hb hts i_Model hown hK.1 hP 0 rfl rfl 2 (by decide) (hts _ wd_1038) (fun _ h9 => h9) rfl d_Model_type_40 ?_
  refine lv_aload_n hx hb d_Model_type_43 rfl (lv_at hl1 1 rfl) ?_
  refine va_get (D := D) (ci := 11) (v := .int 3) (C := R_Model) (T := F_Model) (N := 72) hx hb hts i_Model hown hK.1 hP 0 rfl rfl 1 (by decide) (hts _ wd_1037) (fun _ h9 => h9) rfl d_Model_type_44 ?_
  refine lv_lload_n hx hb d_Model_type_47 rfl (lv_at hl1 2 rfl) ?_
  refine lv_bipush (v := 8) hx hb d_Model_type_48 (by decide) ?_
  refine lv_iload hx hb d_Model_type_50 (lv_at hl1 0 rfl) ?_
  refine lv_imul hx hb d_Model_type_52 ?_
  refine lv_topi (fun z_31 ez_31 => ?_)
  have ez_31 : z_31 = 24 := ez_31.trans (by first | rfl | decide)
  subst ez_31
  refine lv_lshr hx hb d_Model_type_53 rfl ?_
  refine lv_topl (fun z_32 ez_32 => ?_)
  refine lv_ldc2 (v := 255) hx hb hown (hts _ wd_1262) d_Model_type_54 ?_
  refine lv_land hx hb d_Model_type_57 ?_
  refine lv_topl (fun z_33 ez_33 => ?_)
  refine lv_l2i hx hb d_Model_type_58 rfl ?_
  refine lv_topi (fun z_34 ez_34 => ?_)
  refine va_iast hx hb hK.1 hP hD hS 1 0 rfl rfl (by unfold vp_in; decide) d_Model_type_59 (fun H_35 locs hP hD hS => ?_)
  have hP : va_P D classes [(m0, .inr (11, [.int 0, .int 3, .ref m1, .int 0, .int 0, .ref m2, .int 0, .int 0, .int 0, .int 0, .int 0, .ref m42, .ref m3, .ref m4, .int 0, .int 0, .ref m5, .ref m6, .ref m7, .ref m8, .ref m9, .ref m10, .ref m11, .ref m12, .ref m13, .ref m14, .ref m15, .ref m16, .ref m17, .ref m18, .ref m19, .int 0, .ref m20, .int 0, .ref m21, .int 0, .int 0, .int 0, .int 0, .int 0, .int 0, .int 0, .ref m22, .int 0, .int 0, .ref m23, .ref m24, .ref m25, .ref m26, .int 0, .ref m27, .int 0, .ref m28, .int 0, .ref m29, .ref m30, .int (-1), .int 0, .int 0, .ref m31, .ref m32, .ref m33, .ref m34, .ref m35, .ref m36, .ref m37, .ref m38, .ref m39, .int 0, .ref m40, .int 0, .ref m41])), (m1, .inl (ax 0, 400, .inl (upd (upd (upd (upd (fun _ => 0) 0 z_10) 1 z_18) 2 z_26) 3 z_34)))] H_35 := hP
  have hD : va_D A [(m0, .inr (11, [.int 0, .int 3, .ref m1, .int 0, .int 0, .ref m2, .int 0, .int 0, .int 0, .int 0, .int 0, .ref m42, .ref m3, .ref m4, .int 0, .int 0, .ref m5, .ref m6, .ref m7, .ref m8, .ref m9, .ref m10, .ref m11, .ref m12, .ref m13, .ref m14, .ref m15, .ref m16, .ref m17, .ref m18, .ref m19, .int 0, .ref m20, .int 0, .ref m21, .int 0, .int 0, .int 0, .int 0, .int 0, .int 0, .int 0, .ref m22, .int 0, .int 0, .ref m23, .ref m24, .ref m25, .ref m26, .int 0, .ref m27, .int 0, .ref m28, .int 0, .ref m29, .ref m30, .int (-1), .int 0, .int 0, .ref m31, .ref m32, .ref m33, .ref m34, .ref m35, .ref m36, .ref m37, .ref m38, .ref m39, .int 0, .ref m40, .int 0, .ref m41])), (m1, .inl (ax 0, 400, .inl (upd (upd (upd (upd (fun _ => 0) 0 z_10) 1 z_18) 2 z_26) 3 z_34)))] := hD
  refine lv_aload_n hx hb d_Model_type_60 rfl (lv_at hl1 1 rfl) ?_
  refine lv_dup hx hb d_Model_type_61 rfl ?_
  refine va_get (D := D) (ci := 11) (v := .int 3) (C := R_Model) (T := F_Model) (N := 72) hx hb hts i_Model hown hK.1 hP 0 rfl rfl 1 (by decide) (hts _ wd_1037) (fun _ h9 => h9) rfl d_Model_type_62 ?_
  refine lv_iconst (v := 1) hx hb d_Model_type_65 (by decide) ?_
  refine lv_iadd hx hb d_Model_type_66 ?_
  refine lv_topi (fun z_36 ez_36 => ?_)
  have ez_36 : z_36 = 4 := ez_36.trans (by first | rfl | decide)
  subst ez_36
  refine va_put (D := D) (ci := 11) (v := .int 4) (ty := .int) (C := R_Model) (T := F_Model) (N := 72) hx hb hts i_Model t_Model t_Model_ok n_Model hown hK.1 hP hD hS 0 rfl rfl 1 (by decide) (hts _ wd_1037) (fun _ h9 => h9) rfl (by decide +kernel) rfl rfl (Nat.le_of_ble_eq_true rfl) d_Model_type_67 (fun H_37 locs hP hD hS => ?_)
  have hP : va_P D classes [(m0, .inr (11, [.int 0, .int 4, .ref m1, .int 0, .int 0, .ref m2, .int 0, .int 0, .int 0, .int 0, .int 0, .ref m42, .ref m3, .ref m4, .int 0, .int 0, .ref m5, .ref m6, .ref m7, .ref m8, .ref m9, .ref m10, .ref m11, .ref m12, .ref m13, .ref m14, .ref m15, .ref m16, .ref m17, .ref m18, .ref m19, .int 0, .ref m20, .int 0, .ref m21, .int 0, .int 0, .int 0, .int 0, .int 0, .int 0, .int 0, .ref m22, .int 0, .int 0, .ref m23, .ref m24, .ref m25, .ref m26, .int 0, .ref m27, .int 0, .ref m28, .int 0, .ref m29, .ref m30, .int (-1), .int 0, .int 0, .ref m31, .ref m32, .ref m33, .ref m34, .ref m35, .ref m36, .ref m37, .ref m38, .ref m39, .int 0, .ref m40, .int 0, .ref m41])), (m1, .inl (ax 0, 400, .inl (upd (upd (upd (upd (fun _ => 0) 0 z_10) 1 z_18) 2 z_26) 3 z_34)))] H_37 := hP
  have hD : va_D A [(m0, .inr (11, [.int 0, .int 4, .ref m1, .int 0, .int 0, .ref m2, .int 0, .int 0, .int 0, .int 0, .int 0, .ref m42, .ref m3, .ref m4, .int 0, .int 0, .ref m5, .ref m6, .ref m7, .ref m8, .ref m9, .ref m10, .ref m11, .ref m12, .ref m13, .ref m14, .ref m15, .ref m16, .ref m17, .ref m18, .ref m19, .int 0, .ref m20, .int 0, .ref m21, .int 0, .int 0, .int 0, .int 0, .int 0, .int 0, .int 0, .ref m22, .int 0, .int 0, .ref m23, .ref m24, .ref m25, .ref m26, .int 0, .ref m27, .int 0, .ref m28, .int 0, .ref m29, .ref m30, .int (-1), .int 0, .int 0, .ref m31, .ref m32, .ref m33, .ref m34, .ref m35, .ref m36, .ref m37, .ref m38, .ref m39, .int 0, .ref m40, .int 0, .ref m41])), (m1, .inl (ax 0, 400, .inl (upd (upd (upd (upd (fun _ => 0) 0 z_10) 1 z_18) 2 z_26) 3 z_34)))] := hD
  refine lv_iinc (v := 4) (lv' := [(4, .int 4), (0, .ref m0), (1, .long w), (3, .int 7)]) hx hb d_Model_type_70 hl1 (k := 0) rfl (by decide) (by decide) rfl (fun ls hl1 => ?_)
  refine lv_goto (tgt := 33) hx hb d_Model_type_73 (by decide) ?_
  refine lv_iload hx hb d_Model_type_33 (lv_at hl1 0 rfl) ?_
  refine lv_iload_n hx hb d_Model_type_35 rfl (lv_at hl1 3 rfl) ?_
  refine lv_icmp_ge (tgt := 76) hx hb d_Model_type_36 (by decide) (fun c_38 => ?_) (fun c_38 => ?_)
  · first | exact absurd c_38 (by decide) | exact absurd (by decide) c_38
  refine lv_aload_n hx hb d_Model_type_39 rfl (lv_at hl1 1 rfl) ?_
  refine va_get (D := D) (ci := 11) (v := .ref m1) (C := R_Model) (T := F_Model) (N := 72) hx hb hts i_Model hown hK.1 hP 0 rfl rfl 2 (by decide) (hts _ wd_1038) (fun _ h9 => h9) rfl d_Model_type_40 ?_
  refine lv_aload_n hx hb d_Model_type_43 rfl (lv_at hl1 1 rfl) ?_
  refine va_get (D := D) (ci := 11) (v := .int 4) (C := R_Model) (T := F_Model) (N := 72) hx hb hts i_Model hown hK.1 hP 0 rfl rfl 1 (by decide) (hts _ wd_1037) (fun _ h9 => h9) rfl d_Model_type_44 ?_
  refine lv_lload_n hx hb d_Model_type_47 rfl (lv_at hl1 2 rfl) ?_
  refine lv_bipush (v := 8) hx hb d_Model_type_48 (by decide) ?_
  refine lv_iload hx hb d_Model_type_50 (lv_at hl1 0 rfl) ?_
  refine lv_imul hx hb d_Model_type_52 ?_
  refine lv_topi (fun z_39 ez_39 => ?_)
  have ez_39 : z_39 = 32 := ez_39.trans (by first | rfl | decide)
  subst ez_39
  refine lv_lshr hx hb d_Model_type_53 rfl ?_
  refine lv_topl (fun z_40 ez_40 => ?_)
  refine lv_ldc2 (v := 255) hx hb hown (hts _ wd_1262) d_Model_type_54 ?_
  refine lv_land hx hb d_Model_type_57 ?_
  refine lv_topl (fun z_41 ez_41 => ?_)
  refine lv_l2i hx hb d_Model_type_58 rfl ?_
  refine lv_topi (fun z_42 ez_42 => ?_)
  refine va_iast hx hb hK.1 hP hD hS 1 0 rfl rfl (by unfold vp_in; decide) d_Model_type_59 (fun H_43 locs hP hD hS => ?_)
  have hP : va_P D classes [(m0, .inr (11, [.int 0, .int 4, .ref m1, .int 0, .int 0, .ref m2, .int 0, .int 0, .int 0, .int 0, .int 0, .ref m42, .ref m3, .ref m4, .int 0, .int 0, .ref m5, .ref m6, .ref m7, .ref m8, .ref m9, .ref m10, .ref m11, .ref m12, .ref m13, .ref m14, .ref m15, .ref m16, .ref m17, .ref m18, .ref m19, .int 0, .ref m20, .int 0, .ref m21, .int 0, .int 0, .int 0, .int 0, .int 0, .int 0, .int 0, .ref m22, .int 0, .int 0, .ref m23, .ref m24, .ref m25, .ref m26, .int 0, .ref m27, .int 0, .ref m28, .int 0, .ref m29, .ref m30, .int (-1), .int 0, .int 0, .ref m31, .ref m32, .ref m33, .ref m34, .ref m35, .ref m36, .ref m37, .ref m38, .ref m39, .int 0, .ref m40, .int 0, .ref m41])), (m1, .inl (ax 0, 400, .inl (upd (upd (upd (upd (upd (fun _ => 0) 0 z_10) 1 z_18) 2 z_26) 3 z_34) 4 z_42)))] H_43 := hP
  have hD : va_D A [(m0, .inr (11, [.int 0, .int 4, .ref m1, .int 0, .int 0, .ref m2, .int 0, .int 0, .int 0, .int 0, .int 0, .ref m42, .ref m3, .ref m4, .int 0, .int 0, .ref m5, .ref m6, .ref m7, .ref m8, .ref m9, .ref m10, .ref m11, .ref m12, .ref m13, .ref m14, .ref m15, .ref m16, .ref m17, .ref m18, .ref m19, .int 0, .ref m20, .int 0, .ref m21, .int 0, .int 0, .int 0, .int 0, .int 0, .int 0, .int 0, .ref m22, .int 0, .int 0, .ref m23, .ref m24, .ref m25, .ref m26, .int 0, .ref m27, .int 0, .ref m28, .int 0, .ref m29, .ref m30, .int (-1), .int 0, .int 0, .ref m31, .ref m32, .ref m33, .ref m34, .ref m35, .ref m36, .ref m37, .ref m38, .ref m39, .int 0, .ref m40, .int 0, .ref m41])), (m1, .inl (ax 0, 400, .inl (upd (upd (upd (upd (upd (fun _ => 0) 0 z_10) 1 z_18) 2 z_26) 3 z_34) 4 z_42)))] := hD
  refine lv_aload_n hx hb d_Model_type_60 rfl (lv_at hl1 1 rfl) ?_
  refine lv_dup hx hb d_Model_type_61 rfl ?_
  refine va_get (D := D) (ci := 11) (v := .int 4) (C := R_Model) (T := F_Model) (N := 72) hx hb hts i_Model hown hK.1 hP 0 rfl rfl 1 (by decide) (hts _ wd_1037) (fun _ h9 => h9) rfl d_Model_type_62 ?_
  refine lv_iconst (v := 1) hx hb d_Model_type_65 (by decide) ?_
  refine lv_iadd hx hb d_Model_type_66 ?_
  refine lv_topi (fun z_44 ez_44 => ?_)
  have ez_44 : z_44 = 5 := ez_44.trans (by first | rfl | decide)
  subst ez_44
  refine va_put (D := D) (ci := 11) (v := .int 5) (ty := .int) (C := R_Model) (T := F_Model) (N := 72) hx hb hts i_Model t_Model t_Model_ok n_Model hown hK.1 hP hD hS 0 rfl rfl 1 (by decide) (hts _ wd_1037) (fun _ h9 => h9) rfl (by decide +kernel) rfl rfl (Nat.le_of_ble_eq_true rfl) d_Model_type_67 (fun H_45 locs hP hD hS => ?_)
  have hP : va_P D classes [(m0, .inr (11, [.int 0, .int 5, .ref m1, .int 0, .int 0, .ref m2, .int 0, .int 0, .int 0, .int 0, .int 0, .ref m42, .ref m3, .ref m4, .int 0, .int 0, .ref m5, .ref m6, .ref m7, .ref m8, .ref m9, .ref m10, .ref m11, .ref m12, .ref m13, .ref m14, .ref m15, .ref m16, .ref m17, .ref m18, .ref m19, .int 0, .ref m20, .int 0, .ref m21, .int 0, .int 0, .int 0, .int 0, .int 0, .int 0, .int 0, .ref m22, .int 0, .int 0, .ref m23, .ref m24, .ref m25, .ref m26, .int 0, .ref m27, .int 0, .ref m28, .int 0, .ref m29, .ref m30, .int (-1), .int 0, .int 0, .ref m31, .ref m32, .ref m33, .ref m34, .ref m35, .ref m36, .ref m37, .ref m38, .ref m39, .int 0, .ref m40, .int 0, .ref m41])), (m1, .inl (ax 0, 400, .inl (upd (upd (upd (upd (upd (fun _ => 0) 0 z_10) 1 z_18) 2 z_26) 3 z_34) 4 z_42)))] H_45 := hP
  have hD : va_D A [(m0, .inr (11, [.int 0, .int 5, .ref m1, .int 0, .int 0, .ref m2, .int 0, .int 0, .int 0, .int 0, .int 0, .ref m42, .ref m3, .ref m4, .int 0, .int 0, .ref m5, .ref m6, .ref m7, .ref m8, .ref m9, .ref m10, .ref m11, .ref m12, .ref m13, .ref m14, .ref m15, .ref m16, .ref m17, .ref m18, .ref m19, .int 0, .ref m20, .int 0, .ref m21, .int 0, .int 0, .int 0, .int 0, .int 0, .int 0, .int 0, .ref m22, .int 0, .int 0, .ref m23, .ref m24, .ref m25, .ref m26, .int 0, .ref m27, .int 0, .ref m28, .int 0, .ref m29, .ref m30, .int (-1), .int 0, .int 0, .ref m31, .ref m32, .ref m33, .ref m34, .ref m35, .ref m36, .ref m37, .ref m38, .ref m39, .int 0, .ref m40, .int 0, .ref m41])), (m1, .inl (ax 0, 400, .inl (upd (upd (upd (upd (upd (fun _ => 0) 0 z_10) 1 z_18) 2 z_26) 3 z_34) 4 z_42)))] := hD
  refine lv_iinc (v := 5) (lv' := [(4, .int 5), (0, .ref m0), (1, .long w), (3, .int 7)]) hx hb d_Model_type_70 hl1 (k := 0) rfl (by decide) (by decide) rfl (fun ls hl1 => ?_)
  refine lv_goto (tgt := 33) hx hb d_Model_type_73 (by decide) ?_
  refine lv_iload hx hb d_Model_type_33 (lv_at hl1 0 rfl) ?_
  refine lv_iload_n hx hb d_Model_type_35 rfl (lv_at hl1 3 rfl) ?_
  refine lv_icmp_ge (tgt := 76) hx hb d_Model_type_36 (by decide) (fun c_46 => ?_) (fun c_46 => ?_)
  · first | exact absurd c_46 (by decide) | exact absurd (by decide) c_46
  refine lv_aload_n hx hb d_Model_type_39 rfl (lv_at hl1 1 rfl) ?_
  refine va_get (D := D) (ci := 11) (v := .ref m1) (C := R_Model) (T := F_Model) (N := 72) hx hb hts i_Model hown hK.1 hP 0 rfl rfl 2 (by decide) (hts _ wd_1038) (fun _ h9 => h9) rfl d_Model_type_40 ?_
  refine lv_aload_n hx hb d_Model_type_43 rfl (lv_at hl1 1 rfl) ?_
  refine va_get (D := D) (ci := 11) (v := .int 5) (C := R_Model) (T := F_Model) (N := 72) hx hb hts i_Model hown hK.1 hP 0 rfl rfl 1 (by decide) (hts _ wd_1037) (fun _ h9 => h9) rfl d_Model_type_44 ?_
  refine lv_lload_n hx hb d_Model_type_47 rfl (lv_at hl1 2 rfl) ?_
  refine lv_bipush (v := 8) hx hb d_Model_type_48 (by decide) ?_
  refine lv_iload hx hb d_Model_type_50 (lv_at hl1 0 rfl) ?_
  refine lv_imul hx hb d_Model_type_52 ?_
  refine lv_topi (fun z_47 ez_47 => ?_)
  have ez_47 : z_47 = 40 := ez_47.trans (by first | rfl | decide)
  subst ez_47
  refine lv_lshr hx hb d_Model_type_53 rfl ?_
  refine lv_topl (fun z_48 ez_48 => ?_)
  refine lv_ldc2 (v := 255) hx hb hown (hts _ wd_1262) d_Model_type_54 ?_
  refine lv_land hx hb d_Model_type_57 ?_
  refine lv_topl (fun z_49 ez_49 => ?_)
  refine lv_l2i hx hb d_Model_type_58 rfl ?_
  refine lv_topi (fun z_50 ez_50 => ?_)
  refine va_iast hx hb hK.1 hP hD hS 1 0 rfl rfl (by unfold vp_in; decide) d_Model_type_59 (fun H_51 locs hP hD hS => ?_)
  have hP : va_P D classes [(m0, .inr (11, [.int 0, .int 5, .ref m1, .int 0, .int 0, .ref m2, .int 0, .int 0, .int 0, .int 0, .int 0, .ref m42, .ref m3, .ref m4, .int 0, .int 0, .ref m5, .ref m6, .ref m7, .ref m8, .ref m9, .ref m10, .ref m11, .ref m12, .ref m13, .ref m14, .ref m15, .ref m16, .ref m17, .ref m18, .ref m19, .int 0, .ref m20, .int 0, .ref m21, .int 0, .int 0, .int 0, .int 0, .int 0, .int 0, .int 0, .ref m22, .int 0, .int 0, .ref m23, .ref m24, .ref m25, .ref m26, .int 0, .ref m27, .int 0, .ref m28, .int 0, .ref m29, .ref m30, .int (-1), .int 0, .int 0, .ref m31, .ref m32, .ref m33, .ref m34, .ref m35, .ref m36, .ref m37, .ref m38, .ref m39, .int 0, .ref m40, .int 0, .ref m41])), (m1, .inl (ax 0, 400, .inl (upd (upd (upd (upd (upd (upd (fun _ => 0) 0 z_10) 1 z_18) 2 z_26) 3 z_34) 4 z_42) 5 z_50)))] H_51 := hP
  have hD : va_D A [(m0, .inr (11, [.int 0, .int 5, .ref m1, .int 0, .int 0, .ref m2, .int 0, .int 0, .int 0, .int 0, .int 0, .ref m42, .ref m3, .ref m4, .int 0, .int 0, .ref m5, .ref m6, .ref m7, .ref m8, .ref m9, .ref m10, .ref m11, .ref m12, .ref m13, .ref m14, .ref m15, .ref m16, .ref m17, .ref m18, .ref m19, .int 0, .ref m20, .int 0, .ref m21, .int 0, .int 0, .int 0, .int 0, .int 0, .int 0, .int 0, .ref m22, .int 0, .int 0, .ref m23, .ref m24, .ref m25, .ref m26, .int 0, .ref m27, .int 0, .ref m28, .int 0, .ref m29, .ref m30, .int (-1), .int 0, .int 0, .ref m31, .ref m32, .ref m33, .ref m34, .ref m35, .ref m36, .ref m37, .ref m38, .ref m39, .int 0, .ref m40, .int 0, .ref m41])), (m1, .inl (ax 0, 400, .inl (upd (upd (upd (upd (upd (upd (fun _ => 0) 0 z_10) 1 z_18) 2 z_26) 3 z_34) 4 z_42) 5 z_50)))] := hD
  refine lv_aload_n hx hb d_Model_type_60 rfl (lv_at hl1 1 rfl) ?_
  refine lv_dup hx hb d_Model_type_61 rfl ?_
  refine va_get (D := D) (ci := 11) (v := .int 5) (C := R_Model) (T := F_Model) (N := 72) hx hb hts i_Model hown hK.1 hP 0 rfl rfl 1 (by decide) (hts _ wd_1037) (fun _ h9 => h9) rfl d_Model_type_62 ?_
  refine lv_iconst (v := 1) hx hb d_Model_type_65 (by decide) ?_
  refine lv_iadd hx hb d_Model_type_66 ?_
  refine lv_topi (fun z_52 ez_52 => ?_)
  have ez_52 : z_52 = 6 := ez_52.trans (by first | rfl | decide)
  subst ez_52
  refine va_put (D := D) (ci := 11) (v := .int 6) (ty := .int) (C := R_Model) (T := F_Model) (N := 72) hx hb hts i_Model t_Model t_Model_ok n_Model hown hK.1 hP hD hS 0 rfl rfl 1 (by decide) (hts _ wd_1037) (fun _ h9 => h9) rfl (by decide +kernel) rfl rfl (Nat.le_of_ble_eq_true rfl) d_Model_type_67 (fun H_53 locs hP hD hS => ?_)
  have hP : va_P D classes [(m0, .inr (11, [.int 0, .int 6, .ref m1, .int 0, .int 0, .ref m2, .int 0, .int 0, .int 0, .int 0, .int 0, .ref m42, .ref m3, .ref m4, .int 0, .int 0, .ref m5, .ref m6, .ref m7, .ref m8, .ref m9, .ref m10, .ref m11, .ref m12, .ref m13, .ref m14, .ref m15, .ref m16, .ref m17, .ref m18, .ref m19, .int 0, .ref m20, .int 0, .ref m21, .int 0, .int 0, .int 0, .int 0, .int 0, .int 0, .int 0, .ref m22, .int 0, .int 0, .ref m23, .ref m24, .ref m25, .ref m26, .int 0, .ref m27, .int 0, .ref m28, .int 0, .ref m29, .ref m30, .int (-1), .int 0, .int 0, .ref m31, .ref m32, .ref m33, .ref m34, .ref m35, .ref m36, .ref m37, .ref m38, .ref m39, .int 0, .ref m40, .int 0, .ref m41])), (m1, .inl (ax 0, 400, .inl (upd (upd (upd (upd (upd (upd (fun _ => 0) 0 z_10) 1 z_18) 2 z_26) 3 z_34) 4 z_42) 5 z_50)))] H_53 := hP
  have hD : va_D A [(m0, .inr (11, [.int 0, .int 6, .ref m1, .int 0, .int 0, .ref m2, .int 0, .int 0, .int 0, .int 0, .int 0, .ref m42, .ref m3, .ref m4, .int 0, .int 0, .ref m5, .ref m6, .ref m7, .ref m8, .ref m9, .ref m10, .ref m11, .ref m12, .ref m13, .ref m14, .ref m15, .ref m16, .ref m17, .ref m18, .ref m19, .int 0, .ref m20, .int 0, .ref m21, .int 0, .int 0, .int 0, .int 0, .int 0, .int 0, .int 0, .ref m22, .int 0, .int 0, .ref m23, .ref m24, .ref m25, .ref m26, .int 0, .ref m27, .int 0, .ref m28, .int 0, .ref m29, .ref m30, .int (-1), .int 0, .int 0, .ref m31, .ref m32, .ref m33, .ref m34, .ref m35, .ref m36, .ref m37, .ref m38, .ref m39, .int 0, .ref m40, .int 0, .ref m41])), (m1, .inl (ax 0, 400, .inl (upd (upd (upd (upd (upd (upd (fun _ => 0) 0 z_10) 1 z_18) 2 z_26) 3 z_34) 4 z_42) 5 z_50)))] := hD
  refine lv_iinc (v := 6) (lv' := [(4, .int 6), (0, .ref m0), (1, .long w), (3, .int 7)]) hx hb d_Model_type_70 hl1 (k := 0) rfl (by decide) (by decide) rfl (fun ls hl1 => ?_)
  refine lv_goto (tgt := 33) hx hb d_Model_type_73 (by decide) ?_
  refine lv_iload hx hb d_Model_type_33 (lv_at hl1 0 rfl) ?_
  refine lv_iload_n hx hb d_Model_type_35 rfl (lv_at hl1 3 rfl) ?_
  refine lv_icmp_ge (tgt := 76) hx hb d_Model_type_36 (by decide) (fun c_54 => ?_) (fun c_54 => ?_)
  · first | exact absurd c_54 (by decide) | exact absurd (by decide) c_54
  refine lv_aload_n hx hb d_Model_type_39 rfl (lv_at hl1 1 rfl) ?_
  refine va_get (D := D) (ci := 11) (v := .ref m1) (C := R_Model) (T := F_Model) (N := 72) hx hb hts i_Model hown hK.1 hP 0 rfl rfl 2 (by decide) (hts _ wd_1038) (fun _ h9 => h9) rfl d_Model_type_40 ?_
  refine lv_aload_n hx hb d_Model_type_43 rfl (lv_at hl1 1 rfl) ?_
  refine va_get (D := D) (ci := 11) (v := .int 6) (C := R_Model) (T := F_Model) (N := 72) hx hb hts i_Model hown hK.1 hP 0 rfl rfl 1 (by decide) (hts _ wd_1037) (fun _ h9 => h9) rfl d_Model_type_44 ?_
  refine lv_lload_n hx hb d_Model_type_47 rfl (lv_at hl1 2 rfl) ?_
  refine lv_bipush (v := 8) hx hb d_Model_type_48 (by decide) ?_
  refine lv_iload hx hb d_Model_type_50 (lv_at hl1 0 rfl) ?_
  refine lv_imul hx hb d_Model_type_52 ?_
  refine lv_topi (fun z_55 ez_55 => ?_)
  have ez_55 : z_55 = 48 := ez_55.trans (by first | rfl | decide)
  subst ez_55
  refine lv_lshr hx hb d_Model_type_53 rfl ?_
  refine lv_topl (fun z_56 ez_56 => ?_)
  refine lv_ldc2 (v := 255) hx hb hown (hts _ wd_1262) d_Model_type_54 ?_
  refine lv_land hx hb d_Model_type_57 ?_
  refine lv_topl (fun z_57 ez_57 => ?_)
  refine lv_l2i hx hb d_Model_type_58 rfl ?_
  refine lv_topi (fun z_58 ez_58 => ?_)
  refine va_iast hx hb hK.1 hP hD hS 1 0 rfl rfl (by unfold vp_in; decide) d_Model_type_59 (fun H_59 locs hP hD hS => ?_)
  have hP : va_P D classes [(m0, .inr (11, [.int 0, .int 6, .ref m1, .int 0, .int 0, .ref m2, .int 0, .int 0, .int 0, .int 0, .int 0, .ref m42, .ref m3, .ref m4, .int 0, .int 0, .ref m5, .ref m6, .ref m7, .ref m8, .ref m9, .ref m10, .ref m11, .ref m12, .ref m13, .ref m14, .ref m15, .ref m16, .ref m17, .ref m18, .ref m19, .int 0, .ref m20, .int 0, .ref m21, .int 0, .int 0, .int 0, .int 0, .int 0, .int 0, .int 0, .ref m22, .int 0, .int 0, .ref m23, .ref m24, .ref m25, .ref m26, .int 0, .ref m27, .int 0, .ref m28, .int 0, .ref m29, .ref m30, .int (-1), .int 0, .int 0, .ref m31, .ref m32, .ref m33, .ref m34, .ref m35, .ref m36, .ref m37, .ref m38, .ref m39, .int 0, .ref m40, .int 0, .ref m41])), (m1, .inl (ax 0, 400, .inl (upd (upd (upd (upd (upd (upd (upd (fun _ => 0) 0 z_10) 1 z_18) 2 z_26) 3 z_34) 4 z_42) 5 z_50) 6 z_58)))] H_59 := hP
  have hD : va_D A [(m0, .inr (11, [.int 0, .int 6, .ref m1, .int 0, .int 0, .ref m2, .int 0, .int 0, .int 0, .int 0, .int 0, .ref m42, .ref m3, .ref m4, .int 0, .int 0, .ref m5, .ref m6, .ref m7, .ref m8, .ref m9, .ref m10, .ref m11, .ref m12, .ref m13, .ref m14, .ref m15, .ref m16, .ref m17, .ref m18, .ref m19, .int 0, .ref m20, .int 0, .ref m21, .int 0, .int 0, .int 0, .int 0, .int 0, .int 0, .int 0, .ref m22, .int 0, .int 0, .ref m23, .ref m24, .ref m25, .ref m26, .int 0, .ref m27, .int 0, .ref m28, .int 0, .ref m29, .ref m30, .int (-1), .int 0, .int 0, .ref m31, .ref m32, .ref m33, .ref m34, .ref m35, .ref m36, .ref m37, .ref m38, .ref m39, .int 0, .ref m40, .int 0, .ref m41])), (m1, .inl (ax 0, 400, .inl (upd (upd (upd (upd (upd (upd (upd (fun _ => 0) 0 z_10) 1 z_18) 2 z_26) 3 z_34) 4 z_42) 5 z_50) 6 z_58)))] := hD
  refine lv_aload_n hx hb d_Model_type_60 rfl (lv_at hl1 1 rfl) ?_
  refine lv_dup hx hb d_Model_type_61 rfl ?_
  refine va_get (D := D) (ci := 11) (v := .int 6) (C := R_Model) (T := F_Model) (N := 72) hx hb hts i_Model hown hK.1 hP 0 rfl rfl 1 (by decide) (hts _ wd_1037) (fun _ h9 => h9) rfl d_Model_type_62 ?_
  refine lv_iconst (v := 1) hx hb d_Model_type_65 (by decide) ?_
  refine lv_iadd hx hb d_Model_type_66 ?_
  refine lv_topi (fun z_60 ez_60 => ?_)
  have ez_60 : z_60 = 7 := ez_60.trans (by first | rfl | decide)
  subst ez_60
  refine va_put (D := D) (ci := 11) (v := .int 7) (ty := .int) (C := R_Model) (T := F_Model) (N := 72) hx hb hts i_Model t_Model t_Model_ok n_Model hown hK.1 hP hD hS 0 rfl rfl 1 (by decide) (hts _ wd_1037) (fun _ h9 => h9) rfl (by decide +kernel) rfl rfl (Nat.le_of_ble_eq_true rfl) d_Model_type_67 (fun H_61 locs hP hD hS => ?_)
  have hP : va_P D classes [(m0, .inr (11, [.int 0, .int 7, .ref m1, .int 0, .int 0, .ref m2, .int 0, .int 0, .int 0, .int 0, .int 0, .ref m42, .ref m3, .ref m4, .int 0, .int 0, .ref m5, .ref m6, .ref m7, .ref m8, .ref m9, .ref m10, .ref m11, .ref m12, .ref m13, .ref m14, .ref m15, .ref m16, .ref m17, .ref m18, .ref m19, .int 0, .ref m20, .int 0, .ref m21, .int 0, .int 0, .int 0, .int 0, .int 0, .int 0, .int 0, .ref m22, .int 0, .int 0, .ref m23, .ref m24, .ref m25, .ref m26, .int 0, .ref m27, .int 0, .ref m28, .int 0, .ref m29, .ref m30, .int (-1), .int 0, .int 0, .ref m31, .ref m32, .ref m33, .ref m34, .ref m35, .ref m36, .ref m37, .ref m38, .ref m39, .int 0, .ref m40, .int 0, .ref m41])), (m1, .inl (ax 0, 400, .inl (upd (upd (upd (upd (upd (upd (upd (fun _ => 0) 0 z_10) 1 z_18) 2 z_26) 3 z_34) 4 z_42) 5 z_50) 6 z_58)))] H_61 := hP
  have hD : va_D A [(m0, .inr (11, [.int 0, .int 7, .ref m1, .int 0, .int 0, .ref m2, .int 0, .int 0, .int 0, .int 0, .int 0, .ref m42, .ref m3, .ref m4, .int 0, .int 0, .ref m5, .ref m6, .ref m7, .ref m8, .ref m9, .ref m10, .ref m11, .ref m12, .ref m13, .ref m14, .ref m15, .ref m16, .ref m17, .ref m18, .ref m19, .int 0, .ref m20, .int 0, .ref m21, .int 0, .int 0, .int 0, .int 0, .int 0, .int 0, .int 0, .ref m22, .int 0, .int 0, .ref m23, .ref m24, .ref m25, .ref m26, .int 0, .ref m27, .int 0, .ref m28, .int 0, .ref m29, .ref m30, .int (-1), .int 0, .int 0, .ref m31, .ref m32, .ref m33, .ref m34, .ref m35, .ref m36, .ref m37, .ref m38, .ref m39, .int 0, .ref m40, .int 0, .ref m41])), (m1, .inl (ax 0, 400, .inl (upd (upd (upd (upd (upd (upd (upd (fun _ => 0) 0 z_10) 1 z_18) 2 z_26) 3 z_34) 4 z_42) 5 z_50) 6 z_58)))] := hD
  refine lv_iinc (v := 7) (lv' := [(4, .int 7), (0, .ref m0), (1, .long w), (3, .int 7)]) hx hb d_Model_type_70 hl1 (k := 0) rfl (by decide) (by decide) rfl (fun ls hl1 => ?_)
  refine lv_goto (tgt := 33) hx hb d_Model_type_73 (by decide) ?_
  refine lv_iload hx hb d_Model_type_33 (lv_at hl1 0 rfl) ?_
  refine lv_iload_n hx hb d_Model_type_35 rfl (lv_at hl1 3 rfl) ?_
  refine lv_icmp_ge (tgt := 76) hx hb d_Model_type_36 (by decide) (fun c_62 => ?_) (fun c_62 => ?_)
  rotate_left
  · first | exact absurd c_62 (by decide) | exact absurd (by decide) c_62
  refine lv_iconst (v := 1) hx hb d_Model_type_76 (by decide) ?_
  exact W.zret (v := 1) hx hb hr rfl (fun t ht hW => ⟨⟨1, fun _ => 0, rfl, rfl, trivial⟩, hS.F ht⟩) hS.2.2 d_Model_type_77
set_option maxHeartbeats 4000000 in
set_option maxRecDepth 100000 in
theorem c_Model_type_8 (l : Launch) (D : va_G) (ax : Nat → ClassId) (m0 m1 m2 m3 m4 m5 m6 m7 m8 m9 m10 m11 m12 m13 m14 m15 m16 m17 m18 m19 m20 m21 m22 m23 m24 m25 m26 m27 m28 m29 m30 m31 m32 m33 m34 m35 m36 m37 m38 m39 m40 m41 m42 : Nat) (w : Int64) (sz : Nat) : Met l y_Model_type (xws (.code y_Model_type b_Model_type 5 (some .boolean))) ({ frames := 10, cells := 0, slots := 0, locals := 400 }) (va_Pc [.ref m0, .long w, .int 8] (xo D ax [(m0, .inr (11, [.int 0, .int 0, .ref m1, .int 0, .int 0, .ref m2, .int 0, .int 0, .int 0, .int 0, .int 0, .ref m42, .ref m3, .ref m4, .int 0, .int 0, .ref m5, .ref m6, .ref m7, .ref m8, .ref m9, .ref m10, .ref m11, .ref m12, .ref m13, .ref m14, .ref m15, .ref m16, .ref m17, .ref m18, .ref m19, .int 0, .ref m20, .int 0, .ref m21, .int 0, .int 0, .int 0, .int 0, .int 0, .int 0, .int 0, .ref m22, .int 0, .int 0, .ref m23, .ref m24, .ref m25, .ref m26, .int 0, .ref m27, .int 0, .ref m28, .int 0, .ref m29, .ref m30, .int (-1), .int 0, .int 0, .ref m31, .ref m32, .ref m33, .ref m34, .ref m35, .ref m36, .ref m37, .ref m38, .ref m39, .int 0, .ref m40, .int 0, .ref m41])), (m1, .inl (ax 0, 400, .inl (fun _ => 0)))] sz)) ((va_Qi (fun (r : Int32) (u : Nat → Nat) => r = 1) (fun (_ : Nat → Nat) (_ : State) => True) (va_A [(m0, .inr (11, [.int 0, .int 0, .ref m1, .int 0, .int 0, .ref m2, .int 0, .int 0, .int 0, .int 0, .int 0, .ref m42, .ref m3, .ref m4, .int 0, .int 0, .ref m5, .ref m6, .ref m7, .ref m8, .ref m9, .ref m10, .ref m11, .ref m12, .ref m13, .ref m14, .ref m15, .ref m16, .ref m17, .ref m18, .ref m19, .int 0, .ref m20, .int 0, .ref m21, .int 0, .int 0, .int 0, .int 0, .int 0, .int 0, .int 0, .ref m22, .int 0, .int 0, .ref m23, .ref m24, .ref m25, .ref m26, .int 0, .ref m27, .int 0, .ref m28, .int 0, .ref m29, .ref m30, .int (-1), .int 0, .int 0, .ref m31, .ref m32, .ref m33, .ref m34, .ref m35, .ref m36, .ref m37, .ref m38, .ref m39, .int 0, .ref m40, .int 0, .ref m41])), (m1, .inl (ax 0, 400, .inl (fun _ => 0)))] sz))) 0 0 (va_A [(m0, .inr (11, [.int 0, .int 0, .ref m1, .int 0, .int 0, .ref m2, .int 0, .int 0, .int 0, .int 0, .int 0, .ref m42, .ref m3, .ref m4, .int 0, .int 0, .ref m5, .ref m6, .ref m7, .ref m8, .ref m9, .ref m10, .ref m11, .ref m12, .ref m13, .ref m14, .ref m15, .ref m16, .ref m17, .ref m18, .ref m19, .int 0, .ref m20, .int 0, .ref m21, .int 0, .int 0, .int 0, .int 0, .int 0, .int 0, .int 0, .ref m22, .int 0, .int 0, .ref m23, .ref m24, .ref m25, .ref m26, .int 0, .ref m27, .int 0, .ref m28, .int 0, .ref m29, .ref m30, .int (-1), .int 0, .int 0, .ref m31, .ref m32, .ref m33, .ref m34, .ref m35, .ref m36, .ref m37, .ref m38, .ref m39, .int 0, .ref m40, .int 0, .ref m41])), (m1, .inl (ax 0, 400, .inl (fun _ => 0)))] sz) := by
  refine Met.ofW (cc := b_Model_type) (maxL := 5) (ret := (some .boolean)) (by decide) rfl ?_
  intro p e s m args below meth c s₁ B hml hv
  obtain ⟨rfl, hsz, hP, hK, hD0⟩ := hv
  have hx := B.exec
  have hb := B.bytes
  have hr := B.returns
  have hts := xw_hts B.pre
  have hown : s.vm.findClass R_Model = some m.cls := findClass_of_methodNamed B.named
  have hlocks := B.notSynchronized
  subst hsz
  have hD := hD0.self (sz := s.heap.size)
  have hN := xz_entry hP
  generalize hAe : va_A [(m0, .inr (11, [.int 0, .int 0, .ref m1, .int 0, .int 0, .ref m2, .int 0, .int 0, .int 0, .int 0, .int 0, .ref m42, .ref m3, .ref m4, .int 0, .int 0, .ref m5, .ref m6, .ref m7, .ref m8, .ref m9, .ref m10, .ref m11, .ref m12, .ref m13, .ref m14, .ref m15, .ref m16, .ref m17, .ref m18, .ref m19, .int 0, .ref m20, .int 0, .ref m21, .int 0, .int 0, .int 0, .int 0, .int 0, .int 0, .int 0, .ref m22, .int 0, .int 0, .ref m23, .ref m24, .ref m25, .ref m26, .int 0, .ref m27, .int 0, .ref m28, .int 0, .ref m29, .ref m30, .int (-1), .int 0, .int 0, .ref m31, .ref m32, .ref m33, .ref m34, .ref m35, .ref m36, .ref m37, .ref m38, .ref m39, .int 0, .ref m40, .int 0, .ref m41])), (m1, .inl (ax 0, 400, .inl (fun _ => 0)))] s.heap.size = A at hD hN ⊢
  have hA : ∀ q : Nat, s.heap.size ≤ q → A q := fun q h => by rw [← hAe]; exact Or.inr h
  have hS : va_S A s.heap s.heap [] := va_S.rf
  have hl0 := lv_entry ([.ref m0, .long w, .int 8]) (n := 5) (Nat.le_of_ble_eq_true rfl)
  rw [lg_entry_eq]
  generalize (lg_sl ([.ref m0, .long w, .int 8]) ++ List.replicate (5 - (lg_sl ([.ref m0, .long w, .int 8])).length) Slot.unset).toArray = ls at hl0 ⊢
  have hl1 : lv_has ls 5 [(0, .ref m0), (1, .long w), (3, .int 8)] := hl0
  refine lv_aload_n hx hb d_Model_type_0 rfl (lv_at hl1 0 rfl) ?_
  refine lv_iconst (v := 0) hx hb d_Model_type_1 (by decide) ?_
  refine va_put (D := D) (ci := 11) (v := .int 0) (ty := .int) (C := R_Model) (T := F_Model) (N := 72) hx hb hts i_Model t_Model t_Model_ok n_Model hown hK.1 hP hD hS 0 rfl rfl 0 (by decide) (hts _ wd_1036) (fun _ h9 => h9) rfl (by decide +kernel) rfl rfl (Nat.le_of_ble_eq_true rfl) d_Model_type_2 (fun H_1 locs hP hD hS => ?_)
  have hP : va_P D classes [(m0, .inr (11, [.int 0, .int 0, .ref m1, .int 0, .int 0, .ref m2, .int 0, .int 0, .int 0, .int 0, .int 0, .ref m42, .ref m3, .ref m4, .int 0, .int 0, .ref m5, .ref m6, .ref m7, .ref m8, .ref m9, .ref m10, .ref m11, .ref m12, .ref m13, .ref m14, .ref m15, .ref m16, .ref m17, .ref m18, .ref m19, .int 0, .ref m20, .int 0, .ref m21, .int 0, .int 0, .int 0, .int 0, .int 0, .int 0, .int 0, .ref m22, .int 0, .int 0, .ref m23, .ref m24, .ref m25, .ref m26, .int 0, .ref m27, .int 0, .ref m28, .int 0, .ref m29, .ref m30, .int (-1), .int 0, .int 0, .ref m31, .ref m32, .ref m33, .ref m34, .ref m35, .ref m36, .ref m37, .ref m38, .ref m39, .int 0, .ref m40, .int 0, .ref m41])), (m1, .inl (ax 0, 400, .inl (fun _ => 0)))] H_1 := hP
  have hD : va_D A [(m0, .inr (11, [.int 0, .int 0, .ref m1, .int 0, .int 0, .ref m2, .int 0, .int 0, .int 0, .int 0, .int 0, .ref m42, .ref m3, .ref m4, .int 0, .int 0, .ref m5, .ref m6, .ref m7, .ref m8, .ref m9, .ref m10, .ref m11, .ref m12, .ref m13, .ref m14, .ref m15, .ref m16, .ref m17, .ref m18, .ref m19, .int 0, .ref m20, .int 0, .ref m21, .int 0, .int 0, .int 0, .int 0, .int 0, .int 0, .int 0, .ref m22, .int 0, .int 0, .ref m23, .ref m24, .ref m25, .ref m26, .int 0, .ref m27, .int 0, .ref m28, .int 0, .ref m29, .ref m30, .int (-1), .int 0, .int 0, .ref m31, .ref m32, .ref m33, .ref m34, .ref m35, .ref m36, .ref m37, .ref m38, .ref m39, .int 0, .ref m40, .int 0, .ref m41])), (m1, .inl (ax 0, 400, .inl (fun _ => 0)))] := hD
  refine lv_iload_n hx hb d_Model_type_5 rfl (lv_at hl1 2 rfl) ?_
  refine lv_iconst (v := 1) hx hb d_Model_type_6 (by decide) ?_
  refine lv_icmp_lt (tgt := 28) hx hb d_Model_type_7 (by decide) (fun c_2 => ?_) (fun c_2 => ?_)
  · first | exact absurd c_2 (by decide) | exact absurd (by decide) c_2
  refine lv_iload_n hx hb d_Model_type_10 rfl (lv_at hl1 2 rfl) ?_
  refine lv_bipush (v := 8) hx hb d_Model_type_11 (by decide) ?_
  refine lv_icmp_gt (tgt := 28) hx hb d_Model_type_13 (by decide) (fun c_3 => ?_) (fun c_3 => ?_)
  · first | exact absurd c_3 (by decide) | exact absurd (by decide) c_3
  refine lv_aload_n hx hb d_Model_type_16 rfl (lv_at hl1 0 rfl) ?_
  refine va_get (D := D) (ci := 11) (v := .int 0) (C := R_Model) (T := F_Model) (N := 72) hx hb hts i_Model hown hK.1 hP 0 rfl rfl 1 (by decide) (hts _ wd_1037) (fun _ h9 => h9) rfl d_Model_type_17 ?_
  refine lv_iload_n hx hb d_Model_type_20 rfl (lv_at hl1 2 rfl) ?_
  refine lv_iadd hx hb d_Model_type_21 ?_
  refine lv_topi (fun z_4 ez_4 => ?_)
  have ez_4 : z_4 = 8 := ez_4.trans (by first | rfl | decide)
  subst ez_4
  refine lv_sipush (v := 400) hx hb d_Model_type_22 (by decide) ?_
  refine lv_icmp_le (tgt := 30) hx hb d_Model_type_25 (by decide) (fun c_5 => ?_) (fun c_5 => ?_)
  rotate_left
  · first | exact absurd c_5 (by decide) | exact absurd (by decide) c_5
  refine lv_iconst (v := 0) hx hb d_Model_type_30 (by decide) ?_
  refine lv_istore (lv' := [(4, .int 0), (0, .ref m0), (1, .long w), (3, .int 8)]) hx hb d_Model_type_31 hl1 (by decide) rfl (fun ls hl1 => ?_)
  refine lv_iload hx hb d_Model_type_33 (lv_at hl1 0 rfl) ?_
  refine lv_iload_n hx hb d_Model_type_35 rfl (lv_at hl1 3 rfl) ?_
  refine lv_icmp_ge (tgt := 76) hx hb d_Model_type_36 (by decide) (fun c_6 => ?_) (fun c_6 => ?_)
  · first | exact absurd c_6 (by decide) | exact absurd (by decide) c_6
  refine lv_aload_n hx hb d_Model_type_39 rfl (lv_at hl1 1 rfl) ?_
  refine va_get (D := D) (ci := 11) (v := .ref m1) (C := R_Model) (T := F_Model) (N := 72) hx hb hts i_Model hown hK.1 hP 0 rfl rfl 2 (by decide) (hts _ wd_1038) (fun _ h9 => h9) rfl d_Model_type_40 ?_
  refine lv_aload_n hx hb d_Model_type_43 rfl (lv_at hl1 1 rfl) ?_
  refine va_get (D := D) (ci := 11) (v := .int 0) (C := R_Model) (T := F_Model) (N := 72) hx hb hts i_Model hown hK.1 hP 0 rfl rfl 1 (by decide) (hts _ wd_1037) (fun _ h9 => h9) rfl d_Model_type_44 ?_
  refine lv_lload_n hx hb d_Model_type_47 rfl (lv_at hl1 2 rfl) ?_
  refine lv_bipush (v := 8) hx hb d_Model_type_48 (by decide) ?_
  refine lv_iload hx hb d_Model_type_50 (lv_at hl1 0 rfl) ?_
  refine lv_imul hx hb d_Model_type_52 ?_
  refine lv_topi (fun z_7 ez_7 => ?_)
  have ez_7 : z_7 = 0 := ez_7.trans (by first | rfl | decide)
  subst ez_7
  refine lv_lshr hx hb d_Model_type_53 rfl ?_
  refine lv_topl (fun z_8 ez_8 => ?_)
  refine lv_ldc2 (v := 255) hx hb hown (hts _ wd_1262) d_Model_type_54 ?_
  refine lv_land hx hb d_Model_type_57 ?_
  refine lv_topl (fun z_9 ez_9 => ?_)
  refine lv_l2i hx hb d_Model_type_58 rfl ?_
  refine lv_topi (fun z_10 ez_10 => ?_)
  refine va_iast hx hb hK.1 hP hD hS 1 0 rfl rfl (by unfold vp_in; decide) d_Model_type_59 (fun H_11 locs hP hD hS => ?_)
  have hP : va_P D classes [(m0, .inr (11, [.int 0, .int 0, .ref m1, .int 0, .int 0, .ref m2, .int 0, .int 0, .int 0, .int 0, .int 0, .ref m42, .ref m3, .ref m4, .int 0, .int 0, .ref m5, .ref m6, .ref m7, .ref m8, .ref m9, .ref m10, .ref m11, .ref m12, .ref m13, .ref m14, .ref m15, .ref m16, .ref m17, .ref m18, .ref m19, .int 0, .ref m20, .int 0, .ref m21, .int 0, .int 0, .int 0, .int 0, .int 0, .int 0, .int 0, .ref m22, .int 0, .int 0, .ref m23, .ref m24, .ref m25, .ref m26, .int 0, .ref m27, .int 0, .ref m28, .int 0, .ref m29, .ref m30, .int (-1), .int 0, .int 0, .ref m31, .ref m32, .ref m33, .ref m34, .ref m35, .ref m36, .ref m37, .ref m38, .ref m39, .int 0, .ref m40, .int 0, .ref m41])), (m1, .inl (ax 0, 400, .inl (upd (fun _ => 0) 0 z_10)))] H_11 := hP
  have hD : va_D A [(m0, .inr (11, [.int 0, .int 0, .ref m1, .int 0, .int 0, .ref m2, .int 0, .int 0, .int 0, .int 0, .int 0, .ref m42, .ref m3, .ref m4, .int 0, .int 0, .ref m5, .ref m6, .ref m7, .ref m8, .ref m9, .ref m10, .ref m11, .ref m12, .ref m13, .ref m14, .ref m15, .ref m16, .ref m17, .ref m18, .ref m19, .int 0, .ref m20, .int 0, .ref m21, .int 0, .int 0, .int 0, .int 0, .int 0, .int 0, .int 0, .ref m22, .int 0, .int 0, .ref m23, .ref m24, .ref m25, .ref m26, .int 0, .ref m27, .int 0, .ref m28, .int 0, .ref m29, .ref m30, .int (-1), .int 0, .int 0, .ref m31, .ref m32, .ref m33, .ref m34, .ref m35, .ref m36, .ref m37, .ref m38, .ref m39, .int 0, .ref m40, .int 0, .ref m41])), (m1, .inl (ax 0, 400, .inl (upd (fun _ => 0) 0 z_10)))] := hD
  refine lv_aload_n hx hb d_Model_type_60 rfl (lv_at hl1 1 rfl) ?_
  refine lv_dup hx hb d_Model_type_61 rfl ?_
  refine va_get (D := D) (ci := 11) (v := .int 0) (C := R_Model) (T := F_Model) (N := 72) hx hb hts i_Model hown hK.1 hP 0 rfl rfl 1 (by decide) (hts _ wd_1037) (fun _ h9 => h9) rfl d_Model_type_62 ?_
  refine lv_iconst (v := 1) hx hb d_Model_type_65 (by decide) ?_
  refine lv_iadd hx hb d_Model_type_66 ?_
  refine lv_topi (fun z_12 ez_12 => ?_)
  have ez_12 : z_12 = 1 := ez_12.trans (by first | rfl | decide)
  subst ez_12
  refine va_put (D := D) (ci := 11) (v := .int 1) (ty := .int) (C := R_Model) (T := F_Model) (N := 72) hx hb hts i_Model t_Model t_Model_ok n_Model hown hK.1 hP hD hS 0 rfl rfl 1 (by decide) (hts _ wd_1037) (fun _ h9 => h9) rfl (by decide +kernel) rfl rfl (Nat.le_of_ble_eq_true rfl) d_Model_type_67 (fun H_13 locs hP hD hS => ?_)
  have hP : va_P D classes [(m0, .inr (11, [.int 0, .int 1, .ref m1, .int 0, .int 0, .ref m2, .int 0, .int 0, .int 0, .int 0, .int 0, .ref m42, .ref m3, .ref m4, .int 0, .int 0, .ref m5, .ref m6, .ref m7, .ref m8, .ref m9, .ref m10, .ref m11, .ref m12, .ref m13, .ref m14, .ref m15, .ref m16, .ref m17, .ref m18, .ref m19, .int 0, .ref m20, .int 0, .ref m21, .int 0, .int 0, .int 0, .int 0, .int 0, .int 0, .int 0, .ref m22, .int 0, .int 0, .ref m23, .ref m24, .ref m25, .ref m26, .int 0, .ref m27, .int 0, .ref m28, .int 0, .ref m29, .ref m30, .int (-1), .int 0, .int 0, .ref m31, .ref m32, .ref m33, .ref m34, .ref m35, .ref m36, .ref m37, .ref m38, .ref m39, .int 0, .ref m40, .int 0, .ref m41])), (m1, .inl (ax 0, 400, .inl (upd (fun _ => 0) 0 z_10)))] H_13 := hP
  have hD : va_D A [(m0, .inr (11, [.int 0, .int 1, .ref m1, .int 0, .int 0, .ref m2, .int 0, .int 0, .int 0, .int 0, .int 0, .ref m42, .ref m3, .ref m4, .int 0, .int 0, .ref m5, .ref m6, .ref m7, .ref m8, .ref m9, .ref m10, .ref m11, .ref m12, .ref m13, .ref m14, .ref m15, .ref m16, .ref m17, .ref m18, .ref m19, .int 0, .ref m20, .int 0, .ref m21, .int 0, .int 0, .int 0, .int 0, .int 0, .int 0, .int 0, .ref m22, .int 0, .int 0, .ref m23, .ref m24, .ref m25, .ref m26, .int 0, .ref m27, .int 0, .ref m28, .int 0, .ref m29, .ref m30, .int (-1), .int 0, .int 0, .ref m31, .ref m32, .ref m33, .ref m34, .ref m35, .ref m36, .ref m37, .ref m38, .ref m39, .int 0, .ref m40, .int 0, .ref m41])), (m1, .inl (ax 0, 400, .inl (upd (fun _ => 0) 0 z_10)))] := hD
  refine lv_iinc (v := 1) (lv' := [(4, .int 1), (0, .ref m0), (1, .long w), (3, .int 8)]) hx hb d_Model_type_70 hl1 (k := 0) rfl (by decide) (by decide) rfl (fun ls hl1 => ?_)
  refine lv_goto (tgt := 33) hx hb d_Model_type_73 (by decide) ?_
  refine lv_iload hx hb d_Model_type_33 (lv_at hl1 0 rfl) ?_
  refine lv_iload_n hx hb d_Model_type_35 rfl (lv_at hl1 3 rfl) ?_
  refine lv_icmp_ge (tgt := 76) hx hb d_Model_type_36 (by decide) (fun c_14 => ?_) (fun c_14 => ?_)
  · first | exact absurd c_14 (by decide) | exact absurd (by decide) c_14
  refine lv_aload_n hx hb d_Model_type_39 rfl (lv_at hl1 1 rfl) ?_
  refine va_get (D := D) (ci := 11) (v := .ref m1) (C := R_Model) (T := F_Model) (N := 72) hx hb hts i_Model hown hK.1 hP 0 rfl rfl 2 (by decide) (hts _ wd_1038) (fun _ h9 => h9) rfl d_Model_type_40 ?_
  refine lv_aload_n hx hb d_Model_type_43 rfl (lv_at hl1 1 rfl) ?_
  refine va_get (D := D) (ci := 11) (v := .int 1) (C := R_Model) (T := F_Model) (N := 72) hx hb hts i_Model hown hK.1 hP 0 rfl rfl 1 (by decide) (hts _ wd_1037) (fun _ h9 => h9) rfl d_Model_type_44 ?_
  refine lv_lload_n hx hb d_Model_type_47 rfl (lv_at hl1 2 rfl) ?_
  refine lv_bipush (v := 8) hx hb d_Model_type_48 (by decide) ?_
  refine lv_iload hx hb d_Model_type_50 (lv_at hl1 0 rfl) ?_
  refine lv_imul hx hb d_Model_type_52 ?_
  refine lv_topi (fun z_15 ez_15 => ?_)
  have ez_15 : z_15 = 8 := ez_15.trans (by first | rfl | decide)
  subst ez_15
  refine lv_lshr hx hb d_Model_type_53 rfl ?_
  refine lv_topl (fun z_16 ez_16 => ?_)
  refine lv_ldc2 (v := 255) hx hb hown (hts _ wd_1262) d_Model_type_54 ?_
  refine lv_land hx hb d_Model_type_57 ?_
  refine lv_topl (fun z_17 ez_17 => ?_)
  refine lv_l2i hx hb d_Model_type_58 rfl ?_
  refine lv_topi (fun z_18 ez_18 => ?_)
  refine va_iast hx hb hK.1 hP hD hS 1 0 rfl rfl (by unfold vp_in; decide) d_Model_type_59 (fun H_19 locs hP hD hS => ?_)
  have hP : va_P D classes [(m0, .inr (11, [.int 0, .int 1, .ref m1, .int 0, .int 0, .ref m2, .int 0, .int 0, .int 0, .int 0, .int 0, .ref m42, .ref m3, .ref m4, .int 0, .int 0, .ref m5, .ref m6, .ref m7, .ref m8, .ref m9, .ref m10, .ref m11, .ref m12, .ref m13, .ref m14, .ref m15, .ref m16, .ref m17, .ref m18, .ref m19, .int 0, .ref m20, .int 0, .ref m21, .int 0, .int 0, .int 0, .int 0, .int 0, .int 0, .int 0, .ref m22, .int 0, .int 0, .ref m23, .ref m24, .ref m25, .ref m26, .int 0, .ref m27, .int 0, .ref m28, .int 0, .ref m29, .ref m30, .int (-1), .int 0, .int 0, .ref m31, .ref m32, .ref m33, .ref m34, .ref m35, .ref m36, .ref m37, .ref m38, .ref m39, .int 0, .ref m40, .int 0, .ref m41])), (m1, .inl (ax 0, 400, .inl (upd (upd (fun _ => 0) 0 z_10) 1 z_18)))] H_19 := hP
  have hD : va_D A [(m0, .inr (11, [.int 0, .int 1, .ref m1, .int 0, .int 0, .ref m2, .int 0, .int 0, .int 0, .int 0, .int 0, .ref m42, .ref m3, .ref m4, .int 0, .int 0, .ref m5, .ref m6, .ref m7, .ref m8, .ref m9, .ref m10, .ref m11, .ref m12, .ref m13, .ref m14, .ref m15, .ref m16, .ref m17, .ref m18, .ref m19, .int 0, .ref m20, .int 0, .ref m21, .int 0, .int 0, .int 0, .int 0, .int 0, .int 0, .int 0, .ref m22, .int 0, .int 0, .ref m23, .ref m24, .ref m25, .ref m26, .int 0, .ref m27, .int 0, .ref m28, .int 0, .ref m29, .ref m30, .int (-1), .int 0, .int 0, .ref m31, .ref m32, .ref m33, .ref m34, .ref m35, .ref m36, .ref m37, .ref m38, .ref m39, .int 0, .ref m40, .int 0, .ref m41])), (m1, .inl (ax 0, 400, .inl (upd (upd (fun _ => 0) 0 z_10) 1 z_18)))] := hD
  refine lv_aload_n hx hb d_Model_type_60 rfl (lv_at hl1 1 rfl) ?_
  refine lv_dup hx hb d_Model_type_61 rfl ?_
  refine va_get (D := D) (ci := 11) (v := .int 1) (C := R_Model) (T := F_Model) (N := 72) hx hb hts i_Model hown hK.1 hP 0 rfl rfl 1 (by decide) (hts _ wd_1037) (fun _ h9 => h9) rfl d_Model_type_62 ?_
  refine lv_iconst (v := 1) hx hb d_Model_type_65 (by decide) ?_
  refine lv_iadd hx hb d_Model_type_66 ?_
  refine lv_topi (fun z_20 ez_20 => ?_)
  have ez_20 : z_20 = 2 := ez_20.trans (by first | rfl | decide)
  subst ez_20
  refine va_put (D := D) (ci := 11) (v := .int 2) (ty := .int) (C := R_Model) (T := F_Model) (N := 72) hx hb hts i_Model t_Model t_Model_ok n_Model hown hK.1 hP hD hS 0 rfl rfl 1 (by decide) (hts _ wd_1037) (fun _ h9 => h9) rfl (by decide +kernel) rfl rfl (Nat.le_of_ble_eq_true rfl) d_Model_type_67 (fun H_21 locs hP hD hS => ?_)
  have hP : va_P D classes [(m0, .inr (11, [.int 0, .int 2, .ref m1, .int 0, .int 0, .ref m2, .int 0, .int 0, .int 0, .int 0, .int 0, .ref m42, .ref m3, .ref m4, .int 0, .int 0, .ref m5, .ref m6, .ref m7, .ref m8, .ref m9, .ref m10, .ref m11, .ref m12, .ref m13, .ref m14, .ref m15, .ref m16, .ref m17, .ref m18, .ref m19, .int 0, .ref m20, .int 0, .ref m21, .int 0, .int 0, .int 0, .int 0, .int 0, .int 0, .int 0, .ref m22, .int 0, .int 0, .ref m23, .ref m24, .ref m25, .ref m26, .int 0, .ref m27, .int 0, .ref m28, .int 0, .ref m29, .ref m30, .int (-1), .int 0, .int 0, .ref m31, .ref m32, .ref m33, .ref m34, .ref m35, .ref m36, .ref m37, .ref m38, .ref m39, .int 0, .ref m40, .int 0, .ref m41])), (m1, .inl (ax 0, 400, .inl (upd (upd (fun _ => 0) 0 z_10) 1 z_18)))] H_21 := hP
  have hD : va_D A [(m0, .inr (11, [.int 0, .int 2, .ref m1, .int 0, .int 0, .ref m2, .int 0, .int 0, .int 0, .int 0, .int 0, .ref m42, .ref m3, .ref m4, .int 0, .int 0, .ref m5, .ref m6, .ref m7, .ref m8, .ref m9, .ref m10, .ref m11, .ref m12, .ref m13, .ref m14, .ref m15, .ref m16, .ref m17, .ref m18, .ref m19, .int 0, .ref m20, .int 0, .ref m21, .int 0, .int 0, .int 0, .int 0, .int 0, .int 0, .int 0, .ref m22, .int 0, .int 0, .ref m23, .ref m24, .ref m25, .ref m26, .int 0, .ref m27, .int 0, .ref m28, .int 0, .ref m29, .ref m30, .int (-1), .int 0, .int 0, .ref m31, .ref m32, .ref m33, .ref m34, .ref m35, .ref m36, .ref m37, .ref m38, .ref m39, .int 0, .ref m40, .int 0, .ref m41])), (m1, .inl (ax 0, 400, .inl (upd (upd (fun _ => 0) 0 z_10) 1 z_18)))] := hD
  refine lv_iinc (v := 2) (lv' := [(4, .int 2), (0, .ref m0), (1, .long w), (3, .int 8)]) hx hb d_Model_type_70 hl1 (k := 0) rfl (by decide) (by decide) rfl (fun ls hl1 => ?_)
  refine lv_goto (tgt := 33) hx hb d_Model_type_73 (by decide) ?_
  refine lv_iload hx hb d_Model_type_33 (lv_at hl1 0 rfl) ?_
  refine lv_iload_n hx hb d_Model_type_35 rfl (lv_at hl1 3 rfl) ?_
  refine lv_icmp_ge (tgt := 76) hx hb d_Model_type_36 (by decide) (fun c_22 => ?_) (fun c_22 => ?_)
  · first | exact absurd c_22 (by decide) | exact absurd (by decide) c_22
  refine lv_aload_n hx hb d_Model_type_39 rfl (lv_at hl1 1 rfl) ?_
  refine va_get (D := D) (ci := 11) (v := .ref m1) (C := R_Model) (T := F_Model) (N := 72) hx hb hts i_Model hown hK.1 hP 0 rfl rfl 2 (by decide) (hts _ wd_1038) (fun _ h9 => h9) rfl d_Model_type_40 ?_
  refine lv_aload_n hx hb d_Model_type_43 rfl (lv_at hl1 1 rfl) ?_
  refine va_get (D := D) (ci := 11) (v := .int 2) (C := R_Model) (T := F_Model) (N := 72) hx hb hts i_Model hown hK.1 hP 0 rfl rfl 1 (by decide) (hts _ wd_1037) (fun _ h9 => h9) rfl d_Model_type_44 ?_
  refine lv_lload_n hx hb d_Model_type_47 rfl (lv_at hl1 2 rfl) ?_
  refine lv_bipush (v := 8) hx hb d_Model_type_48 (by decide) ?_
  refine lv_iload hx hb d_Model_type_50 (lv_at hl1 0 rfl) ?_
  refine lv_imul hx hb d_Model_type_52 ?_
  refine lv_topi (fun z_23 ez_23 => ?_)
  have ez_23 : z_23 = 16 := ez_23.trans (by first | rfl | decide)
  subst ez_23
  refine lv_lshr hx hb d_Model_type_53 rfl ?_
  refine lv_topl (fun z_24 ez_24 => ?_)
  refine lv_ldc2 (v := 255) hx hb hown (hts _ wd_1262) d_Model_type_54 ?_
  refine lv_land hx hb d_Model_type_57 ?_
  refine lv_topl (fun z_25 ez_25 => ?_)
  refine lv_l2i hx hb d_Model_type_58 rfl ?_
  refine lv_topi (fun z_26 ez_26 => ?_)
  refine va_iast hx hb hK.1 hP hD hS 1 0 rfl rfl (by unfold vp_in; decide) d_Model_type_59 (fun H_27 locs hP hD hS => ?_)
  have hP : va_P D classes [(m0, .inr (11, [.int 0, .int 2, .ref m1, .int 0, .int 0, .ref m2, .int 0, .int 0, .int 0, .int 0, .int 0, .ref m42, .ref m3, .ref m4, .int 0, .int 0, .ref m5, .ref m6, .ref m7, .ref m8, .ref m9, .ref m10, .ref m11, .ref m12, .ref m13, .ref m14, .ref m15, .ref m16, .ref m17, .ref m18, .ref m19, .int 0, .ref m20, .int 0, .ref m21, .int 0, .int 0, .int 0, .int 0, .int 0, .int 0, .int 0, .ref m22, .int 0, .int 0, .ref m23, .ref m24, .ref m25, .ref m26, .int 0, .ref m27, .int 0, .ref m28, .int 0, .ref m29, .ref m30, .int (-1), .int 0, .int 0, .ref m31, .ref m32, .ref m33, .ref m34, .ref m35, .ref m36, .ref m37, .ref m38, .ref m39, .int 0, .ref m40, .int 0, .ref m41])), (m1, .inl (ax 0, 400, .inl (upd (upd (upd (fun _ => 0) 0 z_10) 1 z_18) 2 z_26)))] H_27 := hP
  have hD : va_D A [(m0, .inr (11, [.int 0, .int 2, .ref m1, .int 0, .int 0, .ref m2, .int 0, .int 0, .int 0, .int 0, .int 0, .ref m42, .ref m3, .ref m4, .int 0, .int 0, .ref m5, .ref m6, .ref m7, .ref m8, .ref m9, .ref m10, .ref m11, .ref m12, .ref m13, .ref m14, .ref m15, .ref m16, .ref m17, .ref m18, .ref m19, .int 0, .ref m20, .int 0, .ref m21, .int 0, .int 0, .int 0, .int 0, .int 0, .int 0, .int 0, .ref m22, .int 0, .int 0, .ref m23, .ref m24, .ref m25, .ref m26, .int 0, .ref m27, .int 0, .ref m28, .int 0, .ref m29, .ref m30, .int (-1), .int 0, .int 0, .ref m31, .ref m32, .ref m33, .ref m34, .ref m35, .ref m36, .ref m37, .ref m38, .ref m39, .int 0, .ref m40, .int 0, .ref m41])), (m1, .inl (ax 0, 400, .inl (upd (upd (upd (fun _ => 0) 0 z_10) 1 z_18) 2 z_26)))] := hD
  refine lv_aload_n hx hb d_Model_type_60 rfl (lv_at hl1 1 rfl) ?_
  refine lv_dup hx hb d_Model_type_61 rfl ?_
  refine va_get (D := D) (ci := 11) (v := .int 2) (C := R_Model) (T := F_Model) (N := 72) hx hb hts i_Model hown hK.1 hP 0 rfl rfl 1 (by decide) (hts _ wd_1037) (fun _ h9 => h9) rfl d_Model_type_62 ?_
  refine lv_iconst (v := 1) hx hb d_Model_type_65 (by decide) ?_
  refine lv_iadd hx hb d_Model_type_66 ?_
  refine lv_topi (fun z_28 ez_28 => ?_)
  have ez_28 : z_28 = 3 := ez_28.trans (by first | rfl | decide)
  subst ez_28
  refine va_put (D := D) (ci := 11) (v := .int 3) (ty := .int) (C := R_Model) (T := F_Model) (N := 72) hx hb hts i_Model t_Model t_Model_ok n_Model hown hK.1 hP hD hS 0 rfl rfl 1 (by decide) (hts _ wd_1037) (fun _ h9 => h9) rfl (by decide +kernel) rfl rfl (Nat.le_of_ble_eq_true rfl) d_Model_type_67 (fun H_29 locs hP hD hS => ?_)
  have hP : va_P D classes [(m0, .inr (11, [.int 0, .int 3, .ref m1, .int 0, .int 0, .ref m2, .int 0, .int 0, .int 0, .int 0, .int 0, .ref m42, .ref m3, .ref m4, .int 0, .int 0, .ref m5, .ref m6, .ref m7, .ref m8, .ref m9, .ref m10, .ref m11, .ref m12, .ref m13, .ref m14, .ref m15, .ref m16, .ref m17, .ref m18, .ref m19, .int 0, .ref m20, .int 0, .ref m21, .int 0, .int 0, .int 0, .int 0, .int 0, .int 0, .int 0, .ref m22, .int 0, .int 0, .ref m23, .ref m24, .ref m25, .ref m26, .int 0, .ref m27, .int 0, .ref m28, .int 0, .ref m29, .ref m30, .int (-1), .int 0, .int 0, .ref m31, .ref m32, .ref m33, .ref m34, .ref m35, .ref m36, .ref m37, .ref m38, .ref m39, .int 0, .ref m40, .int 0, .ref m41])), (m1, .inl (ax 0, 400, .inl (upd (upd (upd (fun _ => 0) 0 z_10) 1 z_18) 2 z_26)))] H_29 := hP
  have hD : va_D A [(m0, .inr (11, [.int 0, .int 3, .ref m1, .int 0, .int 0, .ref m2, .int 0, .int 0, .int 0, .int 0, .int 0, .ref m42, .ref m3, .ref m4, .int 0, .int 0, .ref m5, .ref m6, .ref m7, .ref m8, .ref m9, .ref m10, .ref m11, .ref m12, .ref m13, .ref m14, .ref m15, .ref m16, .ref m17, .ref m18, .ref m19, .int 0, .ref m20, .int 0, .ref m21, .int 0, .int 0, .int 0, .int 0, .int 0, .int 0, .int 0, .ref m22, .int 0, .int 0, .ref m23, .ref m24, .ref m25, .ref m26, .int 0, .ref m27, .int 0, .ref m28, .int 0, .ref m29, .ref m30, .int (-1), .int 0, .int 0, .ref m31, .ref m32, .ref m33, .ref m34, .ref m35, .ref m36, .ref m37, .ref m38, .ref m39, .int 0, .ref m40, .int 0, .ref m41])), (m1, .inl (ax 0, 400, .inl (upd (upd (upd (fun _ => 0) 0 z_10) 1 z_18) 2 z_26)))] := hD
  refine lv_iinc (v := 3) (lv' := [(4, .int 3), (0, .ref m0), (1, .long w), (3, .int 8)]) hx hb d_Model_type_70 hl1 (k := 0) rfl (by decide) (by decide) rfl (fun ls hl1 => ?_)
  refine lv_goto (tgt := 33) hx hb d_Model_type_73 (by decide) ?_
  refine lv_iload hx hb d_Model_type_33 (lv_at hl1 0 rfl) ?_
  refine lv_iload_n hx hb d_Model_type_35 rfl (lv_at hl1 3 rfl) ?_
  refine lv_icmp_ge (tgt := 76) hx hb d_Model_type_36 (by decide) (fun c_30 => ?_) (fun c_30 => ?_)
  · first | exact absurd c_30 (by decide) | exact absurd (by decide) c_30
  refine lv_aload_n hx hb d_Model_type_39 rfl (lv_at hl1 1 rfl) ?_
  refine va_get (D := D) (ci := 11) (v := .ref m1) (C := R_Model) (T := F_Model) (N := 72) hx hb hts i_Model hown hK.1 hP 0 rfl rfl 2 (by decide) (hts _ wd_1038) (fun _ h9 => h9) rfl d_Model_type_40 ?_
  refine lv_aload_n hx hb d_Model_type_43 rfl (lv_at hl1 1 rfl) ?_
  refine va_get (D := D) (ci := 11) (v := .int 3) (C := R_Model) (T := F_Model) (N := 72) hx hb hts i_Model hown hK.1 hP 0 rfl rfl 1 (by decide) (hts _ wd_1037) (fun _ h9 => h9) rfl d_Model_type_44 ?_
  refine lv_lload_n hx hb d_Model_type_47 rfl (lv_at hl1 2 rfl) ?_
  refine lv_bipush (v := 8) hx hb d_Model_type_48 (by decide) ?_
  refine lv_iload hx hb d_Model_type_50 (lv_at hl1 0 rfl) ?_
  refine lv_imul hx hb d_Model_type_52 ?_
  refine lv_topi (fun z_31 ez_31 => ?_)
  have ez_31 : z_31 = 24 := ez_31.trans (by first | rfl | decide)
  subst ez_31
  refine lv_lshr hx hb d_Model_type_53 rfl ?_
  refine lv_topl (fun z_32 ez_32 => ?_)
  refine lv_ldc2 (v := 255) hx hb hown (hts _ wd_1262) d_Model_type_54 ?_
  refine lv_land hx hb d_Model_type_57 ?_
  refine lv_topl (fun z_33 ez_33 => ?_)
  refine lv_l2i hx hb d_Model_type_58 rfl ?_
  refine lv_topi (fun z_34 ez_34 => ?_)
  refine va_iast hx hb hK.1 hP hD hS 1 0 rfl rfl (by unfold vp_in; decide) d_Model_type_59 (fun H_35 locs hP hD hS => ?_)
  have hP : va_P D classes [(m0, .inr (11, [.int 0, .int 3, .ref m1, .int 0, .int 0, .ref m2, .int 0, .int 0, .int 0, .int 0, .int 0, .ref m42, .ref m3, .ref m4, .int 0, .int 0, .ref m5, .ref m6, .ref m7, .ref m8, .ref m9, .ref m10, .ref m11, .ref m12, .ref m13, .ref m14, .ref m15, .ref m16, .ref m17, .ref m18, .ref m19, .int 0, .ref m20, .int 0, .ref m21, .int 0, .int 0, .int 0, .int 0, .int 0, .int 0, .int 0, .ref m22, .int 0, .int 0, .ref m23, .ref m24, .ref m25, .ref m26, .int 0, .ref m27, .int 0, .ref m28, .int 0, .ref m29, .ref m30, .int (-1), .int 0, .int 0, .ref m31, .ref m32, .ref m33, .ref m34, .ref m35, .ref m36, .ref m37, .ref m38, .ref m39, .int 0, .ref m40, .int 0, .ref m41])), (m1, .inl (ax 0, 400, .inl (upd (upd (upd (upd (fun _ => 0) 0 z_10) 1 z_18) 2 z_26) 3 z_34)))] H_35 := hP
  have hD : va_D A [(m0, .inr (11, [.int 0, .int 3, .ref m1, .int 0, .int 0, .ref m2, .int 0, .int 0, .int 0, .int 0, .int 0, .ref m42, .ref m3, .ref m4, .int 0, .int 0, .ref m5, .ref m6, .ref m7, .ref m8, .ref m9, .ref m10, .ref m11, .ref m12, .ref m13, .ref m14, .ref m15, .ref m16, .ref m17, .ref m18, .ref m19, .int 0, .ref m20, .int 0, .ref m21, .int 0, .int 0, .int 0, .int 0, .int 0, .int 0, .int 0, .ref m22, .int 0, .int 0, .ref m23, .ref m24, .ref m25, .ref m26, .int 0, .ref m27, .int 0, .ref m28, .int 0, .ref m29, .ref m30, .int (-1), .int 0, .int 0, .ref m31, .ref m32, .ref m33, .ref m34, .ref m35, .ref m36, .ref m37, .ref m38, .ref m39, .int 0, .ref m40, .int 0, .ref m41])), (m1, .inl (ax 0, 400, .inl (upd (upd (upd (upd (fun _ => 0) 0 z_10) 1 z_18) 2 z_26) 3 z_34)))] := hD
  refine lv_aload_n hx hb d_Model_type_60 rfl (lv_at hl1 1 rfl) ?_
  refine lv_dup hx hb d_Model_type_61 rfl ?_
  refine va_get (D := D) (ci := 11) (v := .int 3) (C := R_Model) (T := F_Model) (N := 72) hx hb hts i_Model hown hK.1 hP 0 rfl rfl 1 (by decide) (hts _ wd_1037) (fun _ h9 => h9) rfl d_Model_type_62 ?_
  refine lv_iconst (v := 1) hx hb d_Model_type_65 (by decide) ?_
  refine lv_iadd hx hb d_Model_type_66 ?_
  refine lv_topi (fun z_36 ez_36 => ?_)
  have ez_36 : z_36 = 4 := ez_36.trans (by first | rfl | decide)
  subst ez_36
  refine va_put (D := D) (ci := 11) (v := .int 4) (ty := .int) (C := R_Model) (T := F_Model) (N := 72) hx hb hts i_Model t_Model t_Model_ok n_Model hown hK.1 hP hD hS 0 rfl rfl 1 (by decide) (hts _ wd_1037) (fun _ h9 => h9) rfl (by decide +kernel) rfl rfl (Nat.le_of_ble_eq_true rfl) d_Model_type_67 (fun H_37 locs hP hD hS => ?_)
  have hP : va_P D classes [(m0, .inr (11, [.int 0, .int 4, .ref m1, .int 0, .int 0, .ref m2, .int 0, .int 0, .int 0, .int 0, .int 0, .ref m42, .ref m3, .ref m4, .int 0, .int 0, .ref m5, .ref m6, .ref m7, .ref m8, .ref m9, .ref m10, .ref m11, .ref m12, .ref m13, .ref m14, .ref m15, .ref m16, .ref m17, .ref m18, .ref m19, .int 0, .ref m20, .int 0, .ref m21, .int 0, .int 0, .int 0, .int 0, .int 0, .int 0, .int 0, .ref m22, .int 0, .int 0, .ref m23, .ref m24, .ref m25, .ref m26, .int 0, .ref m27, .int 0, .ref m28, .int 0, .ref m29, .ref m30, .int (-1), .int 0, .int 0, .ref m31, .ref m32, .ref m33, .ref m34, .ref m35, .ref m36, .ref m37, .ref m38, .ref m39, .int 0, .ref m40, .int 0, .ref m41])), (m1, .inl (ax 0, 400, .inl (upd (upd (upd (upd (fun _ => 0) 0 z_10) 1 z_18) 2 z_26) 3 z_34)))] H_37 := hP
  have hD : va_D A [(m0, .inr (11, [.int 0, .int 4, .ref m1, .int 0, .int 0, .ref m2, .int 0, .int 0, .int 0, .int 0, .int 0, .ref m42, .ref m3, .ref m4, .int 0, .int 0, .ref m5, .ref m6, .ref m7, .ref m8, .ref m9, .ref m10, .ref m11, .ref m12, .ref m13, .ref m14, .ref m15, .ref m16, .ref m17, .ref m18, .ref m19, .int 0, .ref m20, .int 0, .ref m21, .int 0, .int 0, .int 0, .int 0, .int 0, .int 0, .int 0, .ref m22, .int 0, .int 0, .ref m23, .ref m24, .ref m25, .ref m26, .int 0, .ref m27, .int 0, .ref m28, .int 0, .ref m29, .ref m30, .int (-1), .int 0, .int 0, .ref m31, .ref m32, .ref m33, .ref m34, .ref m35, .ref m36, .ref m37, .ref m38, .ref m39, .int 0, .ref m40, .int 0, .ref m41])), (m1, .inl (ax 0, 400, .inl (upd (upd (upd (upd (fun _ => 0) 0 z_10) 1 z_18) 2 z_26) 3 z_34)))] := hD
  refine lv_iinc (v := 4) (lv' := [(4, .int 4), (0, .ref m0), (1, .long w), (3, .int 8)]) hx hb d_Model_type_70 hl1 (k := 0) rfl (by decide) (by decide) rfl (fun ls hl1 => ?_)
  refine lv_goto (tgt := 33) hx hb d_Model_type_73 (by decide) ?_
  refine lv_iload hx hb d_Model_type_33 (lv_at hl1 0 rfl) ?_
  refine lv_iload_n hx hb d_Model_type_35 rfl (lv_at hl1 3 rfl) ?_
  refine lv_icmp_ge (tgt := 76) hx hb d_Model_type_36 (by decide) (fun c_38 => ?_) (fun c_38 => ?_)
  · first | exact absurd c_38 (by decide) | exact absurd (by decide) c_38
  refine lv_aload_n hx hb d_Model_type_39 rfl (lv_at hl1 1 rfl) ?_
  refine va_get (D := D) (ci := 11) (v := .ref m1) (C := R_Model) (T := F_Model) (N := 72) hx hb hts i_Model hown hK.1 hP 0 rfl rfl 2 (by decide) (hts _ wd_1038) (fun _ h9 => h9) rfl d_Model_type_40 ?_
  refine lv_aload_n hx hb d_Model_type_43 rfl (lv_at hl1 1 rfl) ?_
  refine va_get (D := D) (ci := 11) (v := .int 4) (C := R_Model) (T := F_Model) (N := 72) hx hb hts i_Model hown hK.1 hP 0 rfl rfl 1 (by decide) (hts _ wd_1037) (fun _ h9 => h9) rfl d_Model_type_44 ?_
  refine lv_lload_n hx hb d_Model_type_47 rfl (lv_at hl1 2 rfl) ?_
  refine lv_bipush (v := 8) hx hb d_Model_type_48 (by decide) ?_
  refine lv_iload hx hb d_Model_type_50 (lv_at hl1 0 rfl) ?_
  refine lv_imul hx hb d_Model_type_52 ?_
  refine lv_topi (fun z_39 ez_39 => ?_)
  have ez_39 : z_39 = 32 := ez_39.trans (by first | rfl | decide)
  subst ez_39
  refine lv_lshr hx hb d_Model_type_53 rfl ?_
  refine lv_topl (fun z_40 ez_40 => ?_)
  refine lv_ldc2 (v := 255) hx hb hown (hts _ wd_1262) d_Model_type_54 ?_
  refine lv_land hx hb d_Model_type_57 ?_
  refine lv_topl (fun z_41 ez_41 => ?_)
  refine lv_l2i hx hb d_Model_type_58 rfl ?_
  refine lv_topi (fun z_42 ez_42 => ?_)
  refine va_iast hx hb hK.1 hP hD hS 1 0 rfl rfl (by unfold vp_in; decide) d_Model_type_59 (fun H_43 locs hP hD hS => ?_)
  have hP : va_P D classes [(m0, .inr (11, [.int 0, .int 4, .ref m1, .int 0, .int 0, .ref m2, .int 0, .int 0, .int 0, .int 0, .int 0, .ref m42, .ref m3, .ref m4, .int 0, .int 0, .ref m5, .ref m6, .ref m7, .ref m8, .ref m9, .ref m10, .ref m11, .ref m12, .ref m13, .ref m14, .ref m15, .ref m16, .ref m17, .ref m18, .ref m19, .int 0, .ref m20, .int 0, .ref m21, .int 0, .int 0, .int 0, .int 0, .int 0, .int 0, .int 0, .ref m22, .int 0, .int 0, .ref m23, .ref m24, .ref m25, .ref m26, .int 0, .ref m27, .int 0, .ref m28, .int 0, .ref m29, .ref m30, .int (-1), .int 0, .int 0, .ref m31, .ref m32, .ref m33, .ref m34, .ref m35, .ref m36, .ref m37, .ref m38, .ref m39, .int 0, .ref m40, .int 0, .ref m41])), (m1, .inl (ax 0, 400, .inl (upd (upd (upd (upd (upd (fun _ => 0) 0 z_10) 1 z_18) 2 z_26) 3 z_34) 4 z_42)))] H_43 := hP
  have hD : va_D A [(m0, .inr (11, [.int 0, .int 4, .ref m1, .int 0, .int 0, .ref m2, .int 0, .int 0, .int 0, .int 0, .int 0, .ref m42, .ref m3, .ref m4, .int 0, .int 0, .ref m5, .ref m6, .ref m7, .ref m8, .ref m9, .ref m10, .ref m11, .ref m12, .ref m13, .ref m14, .ref m15, .ref m16, .ref m17, .ref m18, .ref m19, .int 0, .ref m20, .int 0, .ref m21, .int 0, .int 0, .int 0, .int 0, .int 0, .int 0, .int 0, .ref m22, .int 0, .int 0, .ref m23, .ref m24, .ref m25, .ref m26, .int 0, .ref m27, .int 0, .ref m28, .int 0, .ref m29, .ref m30, .int (-1), .int 0, .int 0, .ref m31, .ref m32, .ref m33, .ref m34, .ref m35, .ref m36, .ref m37, .ref m38, .ref m39, .int 0, .ref m40, .int 0, .ref m41])), (m1, .inl (ax 0, 400, .inl (upd (upd (upd (upd (upd (fun _ => 0) 0 z_10) 1 z_18) 2 z_26) 3 z_34) 4 z_42)))] := hD
  refine lv_aload_n hx hb d_Model_type_60 rfl (lv_at hl1 1 rfl) ?_
  refine lv_dup hx hb d_Model_type_61 rfl ?_
  refine va_get (D := D) (ci := 11) (v := .int 4) (C := R_Model) (T := F_Model) (N := 72) hx hb hts i_Model hown hK.1 hP 0 rfl rfl 1 (by decide) (hts _ wd_1037) (fun _ h9 => h9) rfl d_Model_type_62 ?_
  refine lv_iconst (v := 1) hx hb d_Model_type_65 (by decide) ?_
  refine lv_iadd hx hb d_Model_type_66 ?_
  refine lv_topi (fun z_44 ez_44 => ?_)
  have ez_44 : z_44 = 5 := ez_44.trans (by first | rfl | decide)
  subst ez_44
  refine va_put (D := D) (ci := 11) (v := .int 5) (ty := .int) (C := R_Model) (T := F_Model) (N := 72) hx hb hts i_Model t_Model t_Model_ok n_Model hown hK.1 hP hD hS 0 rfl rfl 1 (by decide) (hts _ wd_1037) (fun _ h9 => h9) rfl (by decide +kernel) rfl rfl (Nat.le_of_ble_eq_true rfl) d_Model_type_67 (fun H_45 locs hP hD hS => ?_)
  have hP : va_P D classes [(m0, .inr (11, [.int 0, .int 5, .ref m1, .int 0, .int 0, .ref m2, .int 0, .int 0, .int 0, .int 0, .int 0, .ref m42, .ref m3, .ref m4, .int 0, .int 0, .ref m5, .ref m6, .ref m7, .ref m8, .ref m9, .ref m10, .ref m11, .ref m12, .ref m13, .ref m14, .ref m15, .ref m16, .ref m17, .ref m18, .ref m19, .int 0, .ref m20, .int 0, .ref m21, .int 0, .int 0, .int 0, .int 0, .int 0, .int 0, .int 0, .ref m22, .int 0, .int 0, .ref m23, .ref m24, .ref m25, .ref m26, .int 0, .ref m27, .int 0, .ref m28, .int 0, .ref m29, .ref m30, .int (-1), .int 0, .int 0, .ref m31, .ref m32, .ref m33, .ref m34, .ref m35, .ref m36, .ref m37, .ref m38, .ref m39, .int 0, .ref m40, .int 0, .ref m41])), (m1, .inl (ax 0, 400, .inl (upd (upd (upd (upd (upd (fun _ => 0) 0 z_10) 1 z_18) 2 z_26) 3 z_34) 4 z_42)))] H_45 := hP
  have hD : va_D A [(m0, .inr (11, [.int 0, .int 5, .ref m1, .int 0, .int 0, .ref m2, .int 0, .int 0, .int 0, .int 0, .int 0, .ref m42, .ref m3, .ref m4, .int 0, .int 0, .ref m5, .ref m6, .ref m7, .ref m8, .ref m9, .ref m10, .ref m11, .ref m12, .ref m13, .ref m14, .ref m15, .ref m16, .ref m17, .ref m18, .ref m19, .int 0, .ref m20, .int 0, .ref m21, .int 0, .int 0, .int 0, .int 0, .int 0, .int 0, .int 0, .ref m22, .int 0, .int 0, .ref m23, .ref m24, .ref m25, .ref m26, .int 0, .ref m27, .int 0, .ref m28, .int 0, .ref m29, .ref m30, .int (-1), .int 0, .int 0, .ref m31, .ref m32, .ref m33, .ref m34, .ref m35, .ref m36, .ref m37, .ref m38, .ref m39, .int 0, .ref m40, .int 0, .ref m41])), (m1, .inl (ax 0, 400, .inl (upd (upd (upd (upd (upd (fun _ => 0) 0 z_10) 1 z_18) 2 z_26) 3 z_34) 4 z_42)))] := hD
  refine lv_iinc (v := 5) (lv' := [(4, .int 5), (0, .ref m0), (1, .long w), (3, .int 8)]) hx hb d_Model_type_70 hl1 (k := 0) rfl (by decide) (by decide) rfl (fun ls hl1 => ?_)
  refine lv_goto (tgt := 33) hx hb d_Model_type_73 (by decide) ?_
  refine lv_iload hx hb d_Model_type_33 (lv_at hl1 0 rfl) ?_
  refine lv_iload_n hx hb d_Model_type_35 rfl (lv_at hl1 3 rfl) ?_
  refine lv_icmp_ge (tgt := 76) hx hb d_Model_type_36 (by decide) (fun c_46 => ?_) (fun c_46 => ?_)
  · first | exact absurd c_46 (by decide) | exact absurd (by decide) c_46
  refine lv_aload_n hx hb d_Model_type_39 rfl (lv_at hl1 1 rfl) ?_
  refine va_get (D := D) (ci := 11) (v := .ref m1) (C := R_Model) (T := F_Model) (N := 72) hx hb hts i_Model hown hK.1 hP 0 rfl rfl 2 (by decide) (hts _ wd_1038) (fun _ h9 => h9) rfl d_Model_type_40 ?_
  refine lv_aload_n hx hb d_Model_type_43 rfl (lv_at hl1 1 rfl) ?_
  refine va_get (D := D) (ci := 11) (v := .int 5) (C := R_Model) (T := F_Model) (N := 72) hx hb hts i_Model hown hK.1 hP 0 rfl rfl 1 (by decide) (hts _ wd_1037) (fun _ h9 => h9) rfl d_Model_type_44 ?_
  refine lv_lload_n hx hb d_Model_type_47 rfl (lv_at hl1 2 rfl) ?_
  refine lv_bipush (v := 8) hx hb d_Model_type_48 (by decide) ?_
  refine lv_iload hx hb d_Model_type_50 (lv_at hl1 0 rfl) ?_
  refine lv_imul hx hb d_Model_type_52 ?_
  refine lv_topi (fun z_47 ez_47 => ?_)
  have ez_47 : z_47 = 40 := ez_47.trans (by first | rfl | decide)
  subst ez_47
  refine lv_lshr hx hb d_Model_type_53 rfl ?_
  refine lv_topl (fun z_48 ez_48 => ?_)
  refine lv_ldc2 (v := 255) hx hb hown (hts _ wd_1262) d_Model_type_54 ?_
  refine lv_land hx hb d_Model_type_57 ?_
  refine lv_topl (fun z_49 ez_49 => ?_)
  refine lv_l2i hx hb d_Model_type_58 rfl ?_
  refine lv_topi (fun z_50 ez_50 => ?_)
  refine va_iast hx hb hK.1 hP hD hS 1 0 rfl rfl (by unfold vp_in; decide) d_Model_type_59 (fun H_51 locs hP hD hS => ?_)
  have hP : va_P D classes [(m0, .inr (11, [.int 0, .int 5, .ref m1, .int 0, .int 0, .ref m2, .int 0, .int 0, .int 0, .int 0, .int 0, .ref m42, .ref m3, .ref m4, .int 0, .int 0, .ref m5, .ref m6, .ref m7, .ref m8, .ref m9, .ref m10, .ref m11, .ref m12, .ref m13, .ref m14, .ref m15, .ref m16, .ref m17, .ref m18, .ref m19, .int 0, .ref m20, .int 0, .ref m21, .int 0, .int 0, .int 0, .int 0, .int 0, .int 0, .int 0, .ref m22, .int 0, .int 0, .ref m23, .ref m24, .ref m25, .ref m26, .int 0, .ref m27, .int 0, .ref m28, .int 0, .ref m29, .ref m30, .int (-1), .int 0, .int 0, .ref m31, .ref m32, .ref m33, .ref m34, .ref m35, .ref m36, .ref m37, .ref m38, .ref m39, .int 0, .ref m40, .int 0, .ref m41])), (m1, .inl (ax 0, 400, .inl (upd (upd (upd (upd (upd (upd (fun _ => 0) 0 z_10) 1 z_18) 2 z_26) 3 z_34) 4 z_42) 5 z_50)))] H_51 := hP
  have hD : va_D A [(m0, .inr (11, [.int 0, .int 5, .ref m1, .int 0, .int 0, .ref m2, .int 0, .int 0, .int 0, .int 0, .int 0, .ref m42, .ref m3, .ref m4, .int 0, .int 0, .ref m5, .ref m6, .ref m7, .ref m8, .ref m9, .ref m10, .ref m11, .ref m12, .ref m13, .ref m14, .ref m15, .ref m16, .ref m17, .ref m18, .ref m19, .int 0, .ref m20, .int 0, .ref m21, .int 0, .int 0, .int 0, .int 0, .int 0, .int 0, .int 0, .ref m22, .int 0, .int 0, .ref m23, .ref m24, .ref m25, .ref m26, .int 0, .ref m27, .int 0, .ref m28, .int 0, .ref m29, .ref m30, .int (-1), .int 0, .int 0, .ref m31, .ref m32, .ref m33, .ref m34, .ref m35, .ref m36, .ref m37, .ref m38, .ref m39, .int 0, .ref m40, .int 0, .ref m41])), (m1, .inl (ax 0, 400, .inl (upd (upd (upd (upd (upd (upd (fun _ => 0) 0 z_10) 1 z_18) 2 z_26) 3 z_34) 4 z_42) 5 z_50)))] := hD
  refine lv_aload_n hx hb d_Model_type_60 rfl (lv_at hl1 1 rfl) ?_
  refine lv_dup hx hb d_Model_type_61 rfl ?_
  refine va_get (D := D) (ci := 11) (v := .int 5) (C := R_Model) (T := F_Model) (N := 72) hx hb hts i_Model hown hK.1 hP 0 rfl rfl 1 (by decide) (hts _ wd_1037) (fun _ h9 => h9) rfl d_Model_type_62 ?_
  refine lv_iconst (v := 1) hx hb d_Model_type_65 (by decide) ?_
  refine lv_iadd hx hb d_Model_type_66 ?_
  refine lv_topi (fun z_52 ez_52 => ?_)
  have ez_52 : z_52 = 6 := ez_52.trans (by first | rfl | decide)
  subst ez_52
  refine va_put (D := D) (ci := 11) (v := .int 6) (ty := .int) (C := R_Model) (T := F_Model) (N := 72) hx hb hts i_Model t_Model t_Model_ok n_Model hown hK.1 hP hD hS 0 rfl rfl 1 (by decide) (hts _ wd_1037) (fun _ h9 => h9) rfl (by decide +kernel) rfl rfl (Nat.le_of_ble_eq_true rfl) d_Model_type_67 (fun H_53 locs hP hD hS => ?_)
  have hP : va_P D classes [(m0, .inr (11, [.int 0, .int 6, .ref m1, .int 0, .int 0, .ref m2, .int 0, .int 0, .int 0, .int 0, .int 0, .ref m42, .ref m3, .ref m4, .int 0, .int 0, .ref m5, .ref m6, .ref m7, .ref m8, .ref m9, .ref m10, .ref m11, .ref m12, .ref m13, .ref m14, .ref m15, .ref m16, .ref m17, .ref m18, .ref m19, .int 0, .ref m20, .int 0, .ref m21, .int 0, .int 0, .int 0, .int 0, .int 0, .int 0, .int 0, .ref m22, .int 0, .int 0, .ref m23, .ref m24, .ref m25, .ref m26, .int 0, .ref m27, .int 0, .ref m28, .int 0, .ref m29, .ref m30, .int (-1), .int 0, .int 0, .ref m31, .ref m32, .ref m33, .ref m34, .ref m35, .ref m36, .ref m37, .ref m38, .ref m39, .int 0, .ref m40, .int 0, .ref m41])), (m1, .inl (ax 0, 400, .inl (upd (upd (upd (upd (upd (upd (fun _ => 0) 0 z_10) 1 z_18) 2 z_26) 3 z_34) 4 z_42) 5 z_50)))] H_53 := hP
  have hD : va_D A [(m0, .inr (11, [.int 0, .int 6, .ref m1, .int 0, .int 0, .ref m2, .int 0, .int 0, .int 0, .int 0, .int 0, .ref m42, .ref m3, .ref m4, .int 0, .int 0, .ref m5, .ref m6, .ref m7, .ref m8, .ref m9, .ref m10, .ref m11, .ref m12, .ref m13, .ref m14, .ref m15, .ref m16, .ref m17, .ref m18, .ref m19, .int 0, .ref m20, .int 0, .ref m21, .int 0, .int 0, .int 0, .int 0, .int 0, .int 0, .int 0, .ref m22, .int 0, .int 0, .ref m23, .ref m24, .ref m25, .ref m26, .int 0, .ref m27, .int 0, .ref m28, .int 0, .ref m29, .ref m30, .int (-1), .int 0, .int 0, .ref m31, .ref m32, .ref m33, .ref m34, .ref m35, .ref m36, .ref m37, .ref m38, .ref m39, .int 0, .ref m40, .int 0, .ref m41])), (m1, .inl (ax 0, 400, .inl (upd (upd (upd (upd (upd (upd (fun _ => 0) 0 z_10) 1 z_18) 2 z_26) 3 z_34) 4 z_42) 5 z_50)))] := hD
  refine lv_iinc (v := 6) (lv' := [(4, .int 6), (0, .ref m0), (1, .long w), (3, .int 8)]) hx hb d_Model_type_70 hl1 (k := 0) rfl (by decide) (by decide) rfl (fun ls hl1 => ?_)
  refine lv_goto (tgt := 33) hx hb d_Model_type_73 (by decide) ?_
  refine lv_iload hx hb d_Model_type_33 (lv_at hl1 0 rfl) ?_
  refine lv_iload_n hx hb d_Model_type_35 rfl (lv_at hl1 3 rfl) ?_
  refine lv_icmp_ge (tgt := 76) hx hb d_Model_type_36 (by decide) (fun c_54 => ?_) (fun c_54 => ?_)
  · first | exact absurd c_54 (by decide) | exact absurd (by decide) c_54
  refine lv_aload_n hx hb d_Model_type_39 rfl (lv_at hl1 1 rfl) ?_
  refine va_get (D := D) (ci := 11) (v := .ref m1) (C := R_Model) (T := F_Model) (N := 72) hx hb hts i_Model hown hK.1 hP 0 rfl rfl 2 (by decide) (hts _ wd_1038) (fun _ h9 => h9) rfl d_Model_type_40 ?_
  refine lv_aload_n hx hb d_Model_type_43 rfl (lv_at hl1 1 rfl) ?_
  refine va_get (D := D) (ci := 11) (v := .int 6) (C := R_Model) (T := F_Model) (N := 72) hx hb hts i_Model hown hK.1 hP 0 rfl rfl 1 (by decide) (hts _ wd_1037) (fun _ h9 => h9) rfl d_Model_type_44 ?_
  refine lv_lload_n hx hb d_Model_type_47 rfl (lv_at hl1 2 rfl) ?_
  refine lv_bipush (v := 8) hx hb d_Model_type_48 (by decide) ?_
  refine lv_iload hx hb d_Model_type_50 (lv_at hl1 0 rfl) ?_
  refine lv_imul hx hb d_Model_type_52 ?_
  refine lv_topi (fun z_55 ez_55 => ?_)
  have ez_55 : z_55 = 48 := ez_55.trans (by first | rfl | decide)
  subst ez_55
  refine lv_lshr hx hb d_Model_type_53 rfl ?_
  refine lv_topl (fun z_56 ez_56 => ?_)
  refine lv_ldc2 (v := 255) hx hb hown (hts _ wd_1262) d_Model_type_54 ?_
  refine lv_land hx hb d_Model_type_57 ?_
  refine lv_topl (fun z_57 ez_57 => ?_)
  refine lv_l2i hx hb d_Model_type_58 rfl ?_
  refine lv_topi (fun z_58 ez_58 => ?_)
  refine va_iast hx hb hK.1 hP hD hS 1 0 rfl rfl (by unfold vp_in; decide) d_Model_type_59 (fun H_59 locs hP hD hS => ?_)
  have hP : va_P D classes [(m0, .inr (11, [.int 0, .int 6, .ref m1, .int 0, .int 0, .ref m2, .int 0, .int 0, .int 0, .int 0, .int 0, .ref m42, .ref m3, .ref m4, .int 0, .int 0, .ref m5, .ref m6, .ref m7, .ref m8, .ref m9, .ref m10, .ref m11, .ref m12, .ref m13, .ref m14, .ref m15, .ref m16, .ref m17, .ref m18, .ref m19, .int 0, .ref m20, .int 0, .ref m21, .int 0, .int 0, .int 0, .int 0, .int 0, .int 0, .int 0, .ref m22, .int 0, .int 0, .ref m23, .ref m24, .ref m25, .ref m26, .int 0, .ref m27, .int 0, .ref m28, .int 0, .ref m29, .ref m30, .int (-1), .int 0, .int 0, .ref m31, .ref m32, .ref m33, .ref m34, .ref m35, .ref m36, .ref m37, .ref m38, .ref m39, .int 0, .ref m40, .int 0, .ref m41])), (m1, .inl (ax 0, 400, .inl (upd (upd (upd (upd (upd (upd (upd (fun _ => 0) 0 z_10) 1 z_18) 2 z_26) 3 z_34) 4 z_42) 5 z_50) 6 z_58)))] H_59 := hP
  have hD : va_D A [(m0, .inr (11, [.int 0, .int 6, .ref m1, .int 0, .int 0, .ref m2, .int 0, .int 0, .int 0, .int 0, .int 0, .ref m42, .ref m3, .ref m4, .int 0, .int 0, .ref m5, .ref m6, .ref m7, .ref m8, .ref m9, .ref m10, .ref m11, .ref m12, .ref m13, .ref m14, .ref m15, .ref m16, .ref m17, .ref m18, .ref m19, .int 0, .ref m20, .int 0, .ref m21, .int 0, .int 0, .int 0, .int 0, .int 0, .int 0, .int 0, .ref m22, .int 0, .int 0, .ref m23, .ref m24, .ref m25, .ref m26, .int 0, .ref m27, .int 0, .ref m28, .int 0, .ref m29, .ref m30, .int (-1), .int 0, .int 0, .ref m31, .ref m32, .ref m33, .ref m34, .ref m35, .ref m36, .ref m37, .ref m38, .ref m39, .int 0, .ref m40, .int 0, .ref m41])), (m1, .inl (ax 0, 400, .inl (upd (upd (upd (upd (upd (upd (upd (fun _ => 0) 0 z_10) 1 z_18) 2 z_26) 3 z_34) 4 z_42) 5 z_50) 6 z_58)))] := hD
  refine lv_aload_n hx hb d_Model_type_60 rfl (lv_at hl1 1 rfl) ?_
  refine lv_dup hx hb d_Model_type_61 rfl ?_
  refine va_get (D := D) (ci := 11) (v := .int 6) (C := R_Model) (T := F_Model) (N := 72) hx hb hts i_Model hown hK.1 hP 0 rfl rfl 1 (by decide) (hts _ wd_1037) (fun _ h9 => h9) rfl d_Model_type_62 ?_
  refine lv_iconst (v := 1) hx hb d_Model_type_65 (by decide) ?_
  refine lv_iadd hx hb d_Model_type_66 ?_
  refine lv_topi (fun z_60 ez_60 => ?_)
  have ez_60 : z_60 = 7 := ez_60.trans (by first | rfl | decide)
  subst ez_60
  refine va_put (D := D) (ci := 11) (v := .int 7) (ty := .int) (C := R_Model) (T := F_Model) (N := 72) hx hb hts i_Model t_Model t_Model_ok n_Model hown hK.1 hP hD hS 0 rfl rfl 1 (by decide) (hts _ wd_1037) (fun _ h9 => h9) rfl (by decide +kernel) rfl rfl (Nat.le_of_ble_eq_true rfl) d_Model_type_67 (fun H_61 locs hP hD hS => ?_)
  have hP : va_P D classes [(m0, .inr (11, [.int 0, .int 7, .ref m1, .int 0, .int 0, .ref m2, .int 0, .int 0, .int 0, .int 0, .int 0, .ref m42, .ref m3, .ref m4, .int 0, .int 0, .ref m5, .ref m6, .ref m7, .ref m8, .ref m9, .ref m10, .ref m11, .ref m12, .ref m13, .ref m14, .ref m15, .ref m16, .ref m17, .ref m18, .ref m19, .int 0, .ref m20, .int 0, .ref m21, .int 0, .int 0, .int 0, .int 0, .int 0, .int 0, .int 0, .ref m22, .int 0, .int 0, .ref m23, .ref m24, .ref m25, .ref m26, .int 0, .ref m27, .int 0, .ref m28, .int 0, .ref m29, .ref m30, .int (-1), .int 0, .int 0, .ref m31, .ref m32, .ref m33, .ref m34, .ref m35, .ref m36, .ref m37, .ref m38, .ref m39, .int 0, .ref m40, .int 0, .ref m41])), (m1, .inl (ax 0, 400, .inl (upd (upd (upd (upd (upd (upd (upd (fun _ => 0) 0 z_10) 1 z_18) 2 z_26) 3 z_34) 4 z_42) 5 z_50) 6 z_58)))] H_61 := hP
  have hD : va_D A [(m0, .inr (11, [.int 0, .int 7, .ref m1, .int 0, .int 0, .ref m2, .int 0, .int 0, .int 0, .int 0, .int 0, .ref m42, .ref m3, .ref m4, .int 0, .int 0, .ref m5, .ref m6, .ref m7, .ref m8, .ref m9, .ref m10, .ref m11, .ref m12, .ref m13, .ref m14, .ref m15, .ref m16, .ref m17, .ref m18, .ref m19, .int 0, .ref m20, .int 0, .ref m21, .int 0, .int 0, .int 0, .int 0, .int 0, .int 0, .int 0, .ref m22, .int 0, .int 0, .ref m23, .ref m24, .ref m25, .ref m26, .int 0, .ref m27, .int 0, .ref m28, .int 0, .ref m29, .ref m30, .int (-1), .int 0, .int 0, .ref m31, .ref m32, .ref m33, .ref m34, .ref m35, .ref m36, .ref m37, .ref m38, .ref m39, .int 0, .ref m40, .int 0, .ref m41])), (m1, .inl (ax 0, 400, .inl (upd (upd (upd (upd (upd (upd (upd (fun _ => 0) 0 z_10) 1 z_18) 2 z_26) 3 z_34) 4 z_42) 5 z_50) 6 z_58)))] := hD
  refine lv_iinc (v := 7) (lv' := [(4, .int 7), (0, .ref m0), (1, .long w), (3, .int 8)]) hx hb d_Model_type_70 hl1 (k := 0) rfl (by decide) (by decide) rfl (fun ls hl1 => ?_)
  refine lv_goto (tgt := 33) hx hb d_Model_type_73 (by decide) ?_
  refine lv_iload hx hb d_Model_type_33 (lv_at hl1 0 rfl) ?_
  refine lv_iload_n hx hb d_Model_type_35 rfl (lv_at hl1 3 rfl) ?_
  refine lv_icmp_ge (tgt := 76) hx hb d_Model_type_36 (by decide) (fun c_62 => ?_) (fun c_62 => ?_)
  · first | exact absurd c_62 (by decide) | exact absurd (by decide) c_62
  refine lv_aload_n hx hb d_Model_type_39 rfl (lv_at hl1 1 rfl) ?_
  refine va_get (D := D) (ci := 11) (v := .ref m1) (C := R_Model) (T := F_Model) (N := 72) hx hb hts i_Model hown hK.1 hP 0 rfl rfl 2 (by decide) (hts _ wd_1038) (fun _ h9 => h9) rfl d_Model_type_40 ?_
  refine lv_aload_n hx hb d_Model_type_43 rfl (lv_at hl1 1 rfl) ?_
  refine va_get (D := D) (ci := 11) (v := .int 7) (C := R_Model) (T := F_Model) (N := 72) hx hb hts i_Model hown hK.1 hP 0 rfl rfl 1 (by decide) (hts _ wd_1037) (fun _ h9 => h9) rfl d_Model_type_44 ?_
  refine lv_lload_n hx hb d_Model_type_47 rfl (lv_at hl1 2 rfl) ?_
  refine lv_bipush (v := 8) hx hb d_Model_type_48 (by decide) ?_
  refine lv_iload hx hb d_Model_type_50 (lv_at hl1 0 rfl) ?_
  refine lv_imul hx hb d_Model_type_52 ?_
  refine lv_topi (fun z_63 ez_63 => ?_)
  have ez_63 : z_63 = 56 := ez_63.trans (by first | rfl | decide)
  subst ez_63
  refine lv_lshr hx hb d_Model_type_53 rfl ?_
  refine lv_topl (fun z_64 ez_64 => ?_)
  refine lv_ldc2 (v := 255) hx hb hown (hts _ wd_1262) d_Model_type_54 ?_
  refine lv_land hx hb d_Model_type_57 ?_
  refine lv_topl (fun z_65 ez_65 => ?_)
  refine lv_l2i hx hb d_Model_type_58 rfl ?_
  refine lv_topi (fun z_66 ez_66 => ?_)
  refine va_iast hx hb hK.1 hP hD hS 1 0 rfl rfl (by unfold vp_in; decide) d_Model_type_59 (fun H_67 locs hP hD hS => ?_)
  have hP : va_P D classes [(m0, .inr (11, [.int 0, .int 7, .ref m1, .int 0, .int 0, .ref m2, .int 0, .int 0, .int 0, .int 0, .int 0, .ref m42, .ref m3, .ref m4, .int 0, .int 0, .ref m5, .ref m6, .ref m7, .ref m8, .ref m9, .ref m10, .ref m11, .ref m12, .ref m13, .ref m14, .ref m15, .ref m16, .ref m17, .ref m18, .ref m19, .int 0, .ref m20, .int 0, .ref m21, .int 0, .int 0, .int 0, .int 0, .int 0, .int 0, .int 0, .ref m22, .int 0, .int 0, .ref m23, .ref m24, .ref m25, .ref m26, .int 0, .ref m27, .int 0, .ref m28, .int 0, .ref m29, .ref m30, .int (-1), .int 0, .int 0, .ref m31, .ref m32, .ref m33, .ref m34, .ref m35, .ref m36, .ref m37, .ref m38, .ref m39, .int 0, .ref m40, .int 0, .ref m41])), (m1, .inl (ax 0, 400, .inl (upd (upd (upd (upd (upd (upd (upd (upd (fun _ => 0) 0 z_10) 1 z_18) 2 z_26) 3 z_34) 4 z_42) 5 z_50) 6 z_58) 7 z_66)))] H_67 := hP
  have hD : va_D A [(m0, .inr (11, [.int 0, .int 7, .ref m1, .int 0, .int 0, .ref m2, .int 0, .int 0, .int 0, .int 0, .int 0, .ref m42, .ref m3, .ref m4, .int 0, .int 0, .ref m5, .ref m6, .ref m7, .ref m8, .ref m9, .ref m10, .ref m11, .ref m12, .ref m13, .ref m14, .ref m15, .ref m16, .ref m17, .ref m18, .ref m19, .int 0, .ref m20, .int 0, .ref m21, .int 0, .int 0, .int 0, .int 0, .int 0, .int 0, .int 0, .ref m22, .int 0, .int 0, .ref m23, .ref m24, .ref m25, .ref m26, .int 0, .ref m27, .int 0, .ref m28, .int 0, .ref m29, .ref m30, .int (-1), .int 0, .int 0, .ref m31, .ref m32, .ref m33, .ref m34, .ref m35, .ref m36, .ref m37, .ref m38, .ref m39, .int 0, .ref m40, .int 0, .ref m41])), (m1, .inl (ax 0, 400, .inl (upd (upd (upd (upd (upd (upd (upd (upd (fun _ => 0) 0 z_10) 1 z_18) 2 z_26) 3 z_34) 4 z_42) 5 z_50) 6 z_58) 7 z_66)))] := hD
  refine lv_aload_n hx hb d_Model_type_60 rfl (lv_at hl1 1 rfl) ?_
  refine lv_dup hx hb d_Model_type_61 rfl ?_
  refine va_get (D := D) (ci := 11) (v := .int 7) (C := R_Model) (T := F_Model) (N := 72) hx hb hts i_Model hown hK.1 hP 0 rfl rfl 1 (by decide) (hts _ wd_1037) (fun _ h9 => h9) rfl d_Model_type_62 ?_
  refine lv_iconst (v := 1) hx hb d_Model_type_65 (by decide) ?_
  refine lv_iadd hx hb d_Model_type_66 ?_
  refine lv_topi (fun z_68 ez_68 => ?_)
  have ez_68 : z_68 = 8 := ez_68.trans (by first | rfl | decide)
  subst ez_68
  refine va_put (D := D) (ci := 11) (v := .int 8) (ty := .int) (C := R_Model) (T := F_Model) (N := 72) hx hb hts i_Model t_Model t_Model_ok n_Model hown hK.1 hP hD hS 0 rfl rfl 1 (by decide) (hts _ wd_1037) (fun _ h9 => h9) rfl (by decide +kernel) rfl rfl (Nat.le_of_ble_eq_true rfl) d_Model_type_67 (fun H_69 locs hP hD hS => ?_)
  have hP : va_P D classes [(m0, .inr (11, [.int 0, .int 8, .ref m1, .int 0, .int 0, .ref m2, .int 0, .int 0, .int 0, .int 0, .int 0, .ref m42, .ref m3, .ref m4, .int 0, .int 0, .ref m5, .ref m6, .ref m7, .ref m8, .ref m9, .ref m10, .ref m11, .ref m12, .ref m13, .ref m14, .ref m15, .ref m16, .ref m17, .ref m18, .ref m19, .int 0, .ref m20, .int 0, .ref m21, .int 0, .int 0, .int 0, .int 0, .int 0, .int 0, .int 0, .ref m22, .int 0, .int 0, .ref m23, .ref m24, .ref m25, .ref m26, .int 0, .ref m27, .int 0, .ref m28, .int 0, .ref m29, .ref m30, .int (-1), .int 0, .int 0, .ref m31, .ref m32, .ref m33, .ref m34, .ref m35, .ref m36, .ref m37, .ref m38, .ref m39, .int 0, .ref m40, .int 0, .ref m41])), (m1, .inl (ax 0, 400, .inl (upd (upd (upd (upd (upd (upd (upd (upd (fun _ => 0) 0 z_10) 1 z_18) 2 z_26) 3 z_34) 4 z_42) 5 z_50) 6 z_58) 7 z_66)))] H_69 := hP
  have hD : va_D A [(m0, .inr (11, [.int 0, .int 8, .ref m1, .int 0, .int 0, .ref m2, .int 0, .int 0, .int 0, .int 0, .int 0, .ref m42, .ref m3, .ref m4, .int 0, .int 0, .ref m5, .ref m6, .ref m7, .ref m8, .ref m9, .ref m10, .ref m11, .ref m12, .ref m13, .ref m14, .ref m15, .ref m16, .ref m17, .ref m18, .ref m19, .int 0, .ref m20, .int 0, .ref m21, .int 0, .int 0, .int 0, .int 0, .int 0, .int 0, .int 0, .ref m22, .int 0, .int 0, .ref m23, .ref m24, .ref m25, .ref m26, .int 0, .ref m27, .int 0, .ref m28, .int 0, .ref m29, .ref m30, .int (-1), .int 0, .int 0, .ref m31, .ref m32, .ref m33, .ref m34, .ref m35, .ref m36, .ref m37, .ref m38, .ref m39, .int 0, .ref m40, .int 0, .ref m41])), (m1, .inl (ax 0, 400, .inl (upd (upd (upd (upd (upd (upd (upd (upd (fun _ => 0) 0 z_10) 1 z_18) 2 z_26) 3 z_34) 4 z_42) 5 z_50) 6 z_58) 7 z_66)))] := hD
  refine lv_iinc (v := 8) (lv' := [(4, .int 8), (0, .ref m0), (1, .long w), (3, .int 8)]) hx hb d_Model_type_70 hl1 (k := 0) rfl (by decide) (by decide) rfl (fun ls hl1 => ?_)
  refine lv_goto (tgt := 33) hx hb d_Model_type_73 (by decide) ?_
  refine lv_iload hx hb d_Model_type_33 (lv_at hl1 0 rfl) ?_
  refine lv_iload_n hx hb d_Model_type_35 rfl (lv_at hl1 3 rfl) ?_
  refine lv_icmp_ge (tgt := 76) hx hb d_Model_type_36 (by decide) (fun c_70 => ?_) (fun c_70 => ?_)
  rotate_left
  · first | exact absurd c_70 (by decide) | exact absurd (by decide) c_70
  refine lv_iconst (v := 1) hx hb d_Model_type_76 (by decide) ?_
  exact W.zret (v := 1) hx hb hr rfl (fun t ht hW => ⟨⟨1, fun _ => 0, rfl, rfl, trivial⟩, hS.F ht⟩) hS.2.2 d_Model_type_77
set_option maxHeartbeats 4000000 in
set_option maxRecDepth 100000 in
theorem c_Model_type_bad (l : Launch) (D : va_G) (ax : Nat → ClassId) (m0 m1 m2 m3 m4 m5 m6 m7 m8 m9 m10 m11 m12 m13 m14 m15 m16 m17 m18 m19 m20 m21 m22 m23 m24 m25 m26 m27 m28 m29 m30 m31 m32 m33 m34 m35 m36 m37 m38 m39 m40 m41 m42 : Nat) (w : Int64) (n : Int32) (sz : Nat) (hq0 : n < 1 ∨ 8 < n) : Met l y_Model_type (xws (.code y_Model_type b_Model_type 5 (some .boolean))) ({ frames := 10, cells := 0, slots := 0, locals := 400 }) (va_Pc [.ref m0, .long w, .int n] (xo D ax [(m0, .inr (11, [.int 0, .int 0, .ref m1, .int 0, .int 0, .ref m2, .int 0, .int 0, .int 0, .int 0, .int 0, .ref m42, .ref m3, .ref m4, .int 0, .int 0, .ref m5, .ref m6, .ref m7, .ref m8, .ref m9, .ref m10, .ref m11, .ref m12, .ref m13, .ref m14, .ref m15, .ref m16, .ref m17, .ref m18, .ref m19, .int 0, .ref m20, .int 0, .ref m21, .int 0, .int 0, .int 0, .int 0, .int 0, .int 0, .int 0, .ref m22, .int 0, .int 0, .ref m23, .ref m24, .ref m25, .ref m26, .int 0, .ref m27, .int 0, .ref m28, .int 0, .ref m29, .ref m30, .int (-1), .int 0, .int 0, .ref m31, .ref m32, .ref m33, .ref m34, .ref m35, .ref m36, .ref m37, .ref m38, .ref m39, .int 0, .ref m40, .int 0, .ref m41]))] sz)) ((va_Qi (fun (r : Int32) (u : Nat → Nat) => r = 0) (fun (_ : Nat → Nat) (_ : State) => True) (va_A [(m0, .inr (11, [.int 0, .int 0, .ref m1, .int 0, .int 0, .ref m2, .int 0, .int 0, .int 0, .int 0, .int 0, .ref m42, .ref m3, .ref m4, .int 0, .int 0, .ref m5, .ref m6, .ref m7, .ref m8, .ref m9, .ref m10, .ref m11, .ref m12, .ref m13, .ref m14, .ref m15, .ref m16, .ref m17, .ref m18, .ref m19, .int 0, .ref m20, .int 0, .ref m21, .int 0, .int 0, .int 0, .int 0, .int 0, .int 0, .int 0, .ref m22, .int 0, .int 0, .ref m23, .ref m24, .ref m25, .ref m26, .int 0, .ref m27, .int 0, .ref m28, .int 0, .ref m29, .ref m30, .int (-1), .int 0, .int 0, .ref m31, .ref m32, .ref m33, .ref m34, .ref m35, .ref m36, .ref m37, .ref m38, .ref m39, .int 0, .ref m40, .int 0, .ref m41]))] sz))) 0 0 (va_A [(m0, .inr (11, [.int 0, .int 0, .ref m1, .int 0, .int 0, .ref m2, .int 0, .int 0, .int 0, .int 0, .int 0, .ref m42, .ref m3, .ref m4, .int 0, .int 0, .ref m5, .ref m6, .ref m7, .ref m8, .ref m9, .ref m10, .ref m11, .ref m12, .ref m13, .ref m14, .ref m15, .ref m16, .ref m17, .ref m18, .ref m19, .int 0, .ref m20, .int 0, .ref m21, .int 0, .int 0, .int 0, .int 0, .int 0, .int 0, .int 0, .ref m22, .int 0, .int 0, .ref m23, .ref m24, .ref m25, .ref m26, .int 0, .ref m27, .int 0, .ref m28, .int 0, .ref m29, .ref m30, .int (-1), .int 0, .int 0, .ref m31, .ref m32, .ref m33, .ref m34, .ref m35, .ref m36, .ref m37, .ref m38, .ref m39, .int 0, .ref m40, .int 0, .ref m41]))] sz) := by
  refine Met.ofW (cc := b_Model_type) (maxL := 5) (ret := (some .boolean)) (by decide) rfl ?_
  intro p e s m args below meth c s₁ B hml hv
  obtain ⟨rfl, hsz, hP, hK, hD0⟩ := hv
  have hx := B.exec
  have hb := B.bytes
  have hr := B.returns
  have hts := xw_hts B.pre
  have hown : s.vm.findClass R_Model = some m.cls := findClass_of_methodNamed B.named
  have hlocks := B.notSynchronized
  subst hsz
  have hD := hD0.self (sz := s.heap.size)
  have hN := xz_entry hP
  generalize hAe : va_A [(m0, .inr (11, [.int 0, .int 0, .ref m1, .int 0, .int 0, .ref m2, .int 0, .int 0, .int 0, .int 0, .int 0, .ref m42, .ref m3, .ref m4, .int 0, .int 0, .ref m5, .ref m6, .ref m7, .ref m8, .ref m9, .ref m10, .ref m11, .ref m12, .ref m13, .ref m14, .ref m15, .ref m16, .ref m17, .ref m18, .ref m19, .int 0, .ref m20, .int 0, .ref m21, .int 0, .int 0, .int 0, .int 0, .int 0, .int 0, .int 0, .ref m22, .int 0, .int 0, .ref m23, .ref m24, .ref m25, .ref m26, .int 0, .ref m27, .int 0, .ref m28, .int 0, .ref m29, .ref m30, .int (-1), .int 0, .int 0, .ref m31, .ref m32, .ref m33, .ref m34, .ref m35, .ref m36, .ref m37, .ref m38, .ref m39, .int 0, .ref m40, .int 0, .ref m41]))] s.heap.size = A at hD hN ⊢
  have hA : ∀ q : Nat, s.heap.size ≤ q → A q := fun q h => by rw [← hAe]; exact Or.inr h
  have hS : va_S A s.heap s.heap [] := va_S.rf
  have hl0 := lv_entry ([.ref m0, .long w, .int n]) (n := 5) (Nat.le_of_ble_eq_true rfl)
  rw [lg_entry_eq]
  generalize (lg_sl ([.ref m0, .long w, .int n]) ++ List.replicate (5 - (lg_sl ([.ref m0, .long w, .int n])).length) Slot.unset).toArray = ls at hl0 ⊢
  have hl1 : lv_has ls 5 [(0, .ref m0), (1, .long w), (3, .int n)] := hl0
  refine lv_aload_n hx hb d_Model_type_0 rfl (lv_at hl1 0 rfl) ?_
  refine lv_iconst (v := 0) hx hb d_Model_type_1 (by decide) ?_
  refine va_put (D := D) (ci := 11) (v := .int 0) (ty := .int) (C := R_Model) (T := F_Model) (N := 72) hx hb hts i_Model t_Model t_Model_ok n_Model hown hK.1 hP hD hS 0 rfl rfl 0 (by decide) (hts _ wd_1036) (fun _ h9 => h9) rfl (by decide +kernel) rfl rfl (Nat.le_of_ble_eq_true rfl) d_Model_type_2 (fun H_1 locs hP hD hS => ?_)
  have hP : va_P D classes [(m0, .inr (11, [.int 0, .int 0, .ref m1, .int 0, .int 0, .ref m2, .int 0, .int 0, .int 0, .int 0, .int 0, .ref m42, .ref m3, .ref m4, .int 0, .int 0, .ref m5, .ref m6, .ref m7, .ref m8, .ref m9, .ref m10, .ref m11, .ref m12, .ref m13, .ref m14, .ref m15, .ref m16, .ref m17, .ref m18, .ref m19, .int 0, .ref m20, .int 0, .ref m21, .int 0, .int 0, .int 0, .int 0, .int 0, .int 0, .int 0, .ref m22, .int 0, .int 0, .ref m23, .ref m24, .ref m25, .ref m26, .int 0, .ref m27, .int 0, .ref m28, .int 0, .ref m29, .ref m30, .int (-1), .int 0, .int 0, .ref m31, .ref m32, .ref m33, .ref m34, .ref m35, .ref m36, .ref m37, .ref m38, .ref m39, .int 0, .ref m40, .int 0, .ref m41]))] H_1 := hP
  have hD : va_D A [(m0, .inr (11, [.int 0, .int 0, .ref m1, .int 0, .int 0, .ref m2, .int 0, .int 0, .int 0, .int 0, .int 0, .ref m42, .ref m3, .ref m4, .int 0, .int 0, .ref m5, .ref m6, .ref m7, .ref m8, .ref m9, .ref m10, .ref m11, .ref m12, .ref m13, .ref m14, .ref m15, .ref m16, .ref m17, .ref m18, .ref m19, .int 0, .ref m20, .int 0, .ref m21, .int 0, .int 0, .int 0, .int 0, .int 0, .int 0, .int 0, .ref m22, .int 0, .int 0, .ref m23, .ref m24, .ref m25, .ref m26, .int 0, .ref m27, .int 0, .ref m28, .int 0, .ref m29, .ref m30, .int (-1), .int 0, .int 0, .ref m31, .ref m32, .ref m33, .ref m34, .ref m35, .ref m36, .ref m37, .ref m38, .ref m39, .int 0, .ref m40, .int 0, .ref m41]))] := hD
  refine lv_iload_n hx hb d_Model_type_5 rfl (lv_at hl1 2 rfl) ?_
  refine lv_iconst (v := 1) hx hb d_Model_type_6 (by decide) ?_
  refine lv_icmp_lt (tgt := 28) hx hb d_Model_type_7 (by decide) (fun c_2 => ?_) (fun c_2 => ?_)
  · refine lv_iconst (v := 0) hx hb d_Model_type_28 (by decide) ?_
    exact W.zret (v := 0) hx hb hr rfl (fun t ht hW => ⟨⟨0, fun _ => 0, rfl, rfl, trivial⟩, hS.F ht⟩) hS.2.2 d_Model_type_29
  · refine lv_iload_n hx hb d_Model_type_10 rfl (lv_at hl1 2 rfl) ?_
    refine lv_bipush (v := 8) hx hb d_Model_type_11 (by decide) ?_
    refine lv_icmp_gt (tgt := 28) hx hb d_Model_type_13 (by decide) (fun c_3 => ?_) (fun c_3 => ?_)
    rotate_left
    · exact absurd (hq0.resolve_left (by assumption)) c_3
    refine lv_iconst (v := 0) hx hb d_Model_type_28 (by decide) ?_
    exact W.zret (v := 0) hx hb hr rfl (fun t ht hW => ⟨⟨0, fun _ => 0, rfl, rfl, trivial⟩, hS.F ht⟩) hS.2.2 d_Model_type_29
