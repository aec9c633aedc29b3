theorem wd_40 : ((Jvm.Cond.fieldLink "TripleDesk$Tokens" (9 : Nat) "TripleDesk$Tokens" "tape" "[B")) ∈ lw_gd := lw_gd_in (i := 40) (by decide +kernel) rfl
theorem wd_42 : ((Jvm.Cond.fieldLink "TripleDesk$Tokens" (23 : Nat) "TripleDesk$Tokens" "size" "I")) ∈ lw_gd := lw_gd_in (i := 42) (by decide +kernel) rfl
abbrev b_Tokens_append : ByteArray := prog_11_method_2_code
def y_Tokens_append : MethodName := ⟨R_Tokens, "append", "(JI)Z"⟩
theorem d_Tokens_append_0 : decode b_Tokens_append 0 = .ok (.iload_n 3, 1) := by decide +kernel
theorem d_Tokens_append_1 : decode b_Tokens_append 1 = .ok (.iconst 1, 1) := by decide +kernel
theorem d_Tokens_append_2 : decode b_Tokens_append 2 = .ok (.if_icmp .lt 21, 3) := by decide +kernel
theorem d_Tokens_append_5 : decode b_Tokens_append 5 = .ok (.iload_n 3, 1) := by decide +kernel
theorem d_Tokens_append_6 : decode b_Tokens_append 6 = .ok (.bipush 8, 2) := by decide +kernel
theorem d_Tokens_append_8 : decode b_Tokens_append 8 = .ok (.if_icmp .gt 15, 3) := by decide +kernel
theorem d_Tokens_append_11 : decode b_Tokens_append 11 = .ok (.aload_n 0, 1) := by decide +kernel
theorem d_Tokens_append_12 : decode b_Tokens_append 12 = .ok (.getfield 23, 3) := by decide +kernel
theorem d_Tokens_append_15 : decode b_Tokens_append 15 = .ok (.iload_n 3, 1) := by decide +kernel
theorem d_Tokens_append_16 : decode b_Tokens_append 16 = .ok (.iadd, 1) := by decide +kernel
theorem d_Tokens_append_17 : decode b_Tokens_append 17 = .ok (.sipush 400, 3) := by decide +kernel
theorem d_Tokens_append_20 : decode b_Tokens_append 20 = .ok (.if_icmp .le 5, 3) := by decide +kernel
theorem d_Tokens_append_23 : decode b_Tokens_append 23 = .ok (.iconst 0, 1) := by decide +kernel
theorem d_Tokens_append_24 : decode b_Tokens_append 24 = .ok (.ireturn, 1) := by decide +kernel
theorem d_Tokens_append_25 : decode b_Tokens_append 25 = .ok (.iconst 0, 1) := by decide +kernel
theorem d_Tokens_append_26 : decode b_Tokens_append 26 = .ok (.istore 4, 2) := by decide +kernel
theorem d_Tokens_append_28 : decode b_Tokens_append 28 = .ok (.iload 4, 2) := by decide +kernel
theorem d_Tokens_append_30 : decode b_Tokens_append 30 = .ok (.iload_n 3, 1) := by decide +kernel
theorem d_Tokens_append_31 : decode b_Tokens_append 31 = .ok (.if_icmp .ge 30, 3) := by decide +kernel
theorem d_Tokens_append_34 : decode b_Tokens_append 34 = .ok (.aload_n 0, 1) := by decide +kernel
theorem d_Tokens_append_35 : decode b_Tokens_append 35 = .ok (.getfield 9, 3) := by decide +kernel
theorem d_Tokens_append_38 : decode b_Tokens_append 38 = .ok (.aload_n 0, 1) := by decide +kernel
theorem d_Tokens_append_39 : decode b_Tokens_append 39 = .ok (.getfield 23, 3) := by decide +kernel
theorem d_Tokens_append_42 : decode b_Tokens_append 42 = .ok (.iload 4, 2) := by decide +kernel
theorem d_Tokens_append_44 : decode b_Tokens_append 44 = .ok (.iadd, 1) := by decide +kernel
theorem d_Tokens_append_45 : decode b_Tokens_append 45 = .ok (.lload_n 1, 1) := by decide +kernel
theorem d_Tokens_append_46 : decode b_Tokens_append 46 = .ok (.bipush 8, 2) := by decide +kernel
theorem d_Tokens_append_48 : decode b_Tokens_append 48 = .ok (.iload 4, 2) := by decide +kernel
theorem d_Tokens_append_50 : decode b_Tokens_append 50 = .ok (.imul, 1) := by decide +kernel
theorem d_Tokens_append_51 : decode b_Tokens_append 51 = .ok (.lushr, 1) := by decide +kernel
theorem d_Tokens_append_52 : decode b_Tokens_append 52 = .ok (.l2i, 1) := by decide +kernel
theorem d_Tokens_append_53 : decode b_Tokens_append 53 = .ok (.i2b, 1) := by decide +kernel
theorem d_Tokens_append_54 : decode b_Tokens_append 54 = .ok (.bastore, 1) := by decide +kernel
theorem d_Tokens_append_55 : decode b_Tokens_append 55 = .ok (.iinc 4 1, 3) := by decide +kernel
theorem d_Tokens_append_58 : decode b_Tokens_append 58 = .ok (.goto (-30), 3) := by decide +kernel
theorem d_Tokens_append_61 : decode b_Tokens_append 61 = .ok (.aload_n 0, 1) := by decide +kernel
theorem d_Tokens_append_62 : decode b_Tokens_append 62 = .ok (.dup, 1) := by decide +kernel
theorem d_Tokens_append_63 : decode b_Tokens_append 63 = .ok (.getfield 23, 3) := by decide +kernel
theorem d_Tokens_append_66 : decode b_Tokens_append 66 = .ok (.iload_n 3, 1) := by decide +kernel
theorem d_Tokens_append_67 : decode b_Tokens_append 67 = .ok (.iadd, 1) := by decide +kernel
theorem d_Tokens_append_68 : decode b_Tokens_append 68 = .ok (.putfield 23, 3) := by decide +kernel
theorem d_Tokens_append_71 : decode b_Tokens_append 71 = .ok (.iconst 1, 1) := by decide +kernel
theorem d_Tokens_append_72 : decode b_Tokens_append 72 = .ok (.ireturn, 1) := by decide +kernel
set_option maxHeartbeats 40000000 in
set_option maxRecDepth 100000 in
theorem c_T_append_no (l : Launch) (D : va_G) (ax : Nat → ClassId) (k0 k1 k2 ts : Nat) (s_ahead s_at s_fault s_next s_amount : Int32) (tb : Nat → Int32) (tk : Nat → Nat) (w0 : Int64) (x1 : Int32) (sz : Nat) (hno : ∀ j : Nat, 1 ≤ j → j ≤ 8 → x1 ≠ nI j) : Met l y_Tokens_append (xws (.code y_Tokens_append b_Tokens_append 5 (some .boolean))) ({ frames := 10, cells := 0, slots := 0, locals := 400 }) (va_Pc [.ref k0, .long w0, .int x1] (xo D ax [(k0, .inr (9, [.ref k1, .ref k2, .int (nI ts), .int s_ahead, .int s_at, .int s_fault, .int s_next, .int s_amount])), (k1, .inl (ax 1, 400, .inl tb)), (k2, .inl (ax 0, 401, .inl (fun j => nI (tk j))))] sz)) ((va_Qi (fun (r : Int32) (u : Nat → Nat) => r = 0) (xb D (va_A [(k0, .inr (9, [.ref k1, .ref k2, .int (nI ts), .int s_ahead, .int s_at, .int s_fault, .int s_next, .int s_amount])), (k1, .inl (ax 1, 400, .inl tb)), (k2, .inl (ax 0, 401, .inl (fun j => nI (tk j))))] sz) (fun u => [(k0, .inr (9, [.ref k1, .ref k2, .int (nI ts), .int s_ahead, .int s_at, .int s_fault, .int s_next, .int s_amount])), (k1, .inl (ax 1, 400, .inl tb)), (k2, .inl (ax 0, 401, .inl (fun j => nI (tk j))))])) (va_A [(k0, .inr (9, [.ref k1, .ref k2, .int (nI ts), .int s_ahead, .int s_at, .int s_fault, .int s_next, .int s_amount])), (k1, .inl (ax 1, 400, .inl tb)), (k2, .inl (ax 0, 401, .inl (fun j => nI (tk j))))] sz))) 0 0 (va_A [(k0, .inr (9, [.ref k1, .ref k2, .int (nI ts), .int s_ahead, .int s_at, .int s_fault, .int s_next, .int s_amount])), (k1, .inl (ax 1, 400, .inl tb)), (k2, .inl (ax 0, 401, .inl (fun j => nI (tk j))))] sz) := by
  refine Met.ofW (cc := b_Tokens_append) (maxL := 5) (ret := (some .boolean)) (by decide) rfl ?_
  intro p e s m args below meth c s₁ B hml hv
  obtain ⟨rfl, hsz, hP, hK, hD0⟩ := hv
  have hx := B.exec
  have hb := B.bytes
  have hr := B.returns
  have hts := xw_hts B.pre
  have hown : s.vm.findClass R_Tokens = some m.cls := findClass_of_methodNamed B.named
  have hlocks := B.notSynchronized
  subst hsz
  have hD := hD0.self (sz := s.heap.size)
  have hN := xz_entry hP
  generalize hAe : va_A [(k0, .inr (9, [.ref k1, .ref k2, .int (nI ts), .int s_ahead, .int s_at, .int s_fault, .int s_next, .int s_amount])), (k1, .inl (ax 1, 400, .inl tb)), (k2, .inl (ax 0, 401, .inl (fun j => nI (tk j))))] s.heap.size = A at hD hN ⊢
  have hA : ∀ q : Nat, s.heap.size ≤ q → A q := fun q h => by rw [← hAe]; exact Or.inr h
  have hS : va_S A s.heap s.heap [] := va_S.rf
  have hl0 := lv_entry ([.ref k0, .long w0, .int x1]) (n := 5) (Nat.le_of_ble_eq_true rfl)
  rw [lg_entry_eq]
  generalize (lg_sl ([.ref k0, .long w0, .int x1]) ++ List.replicate (5 - (lg_sl ([.ref k0, .long w0, .int x1])).length) Slot.unset).toArray = ls at hl0 ⊢
  have hl1 : lv_has ls 5 [(0, .ref k0), (1, .long w0), (3, .int x1)] := hl0
  refine xw_gen (fun Z9 hQe => ?_)
  refine lv_iload_n hx hb d_Tokens_append_0 rfl (lv_at hl1 2 rfl) ?_
  refine lv_iconst (v := 1) hx hb d_Tokens_append_1 (by decide) ?_
  refine lv_icmp_lt (tgt := 23) hx hb d_Tokens_append_2 (by decide) (fun c_1 => ?_) (fun c_1 => ?_)
  · refine lv_iconst (v := 0) hx hb d_Tokens_append_23 (by decide) ?_
    rw [← hQe]
    obtain ⟨hP9, hD9⟩ := xw_sub2 (wc := (fun u : Nat → Nat => [(k0, .inr (9, [.ref k1, .ref k2, .int (nI ts), .int s_ahead, .int s_at, .int s_fault, .int s_next, .int s_amount])), (k1, .inl (ax 1, 400, .inl tb)), (k2, .inl (ax 0, 401, .inl (fun j => nI (tk j))))]) (ixn [])) hP hD [0, 1, 2] (by decide) rfl
    exact W.zret (v := 0) hx hb hr rfl (fun t ht hW => ⟨⟨0, ixn [], rfl, rfl, ⟨by rw [ht]; exact hP9, hD9⟩⟩, hS.F ht⟩) hS.2.2 d_Tokens_append_24
  · refine lv_iload_n hx hb d_Tokens_append_5 rfl (lv_at hl1 2 rfl) ?_
    refine lv_bipush (v := 8) hx hb d_Tokens_append_6 (by decide) ?_
    refine lv_icmp_gt (tgt := 23) hx hb d_Tokens_append_8 (by decide) (fun c_2 => ?_) (fun c_2 => ?_)
    · refine lv_iconst (v := 0) hx hb d_Tokens_append_23 (by decide) ?_
      rw [← hQe]
      obtain ⟨hP9, hD9⟩ := xw_sub2 (wc := (fun u : Nat → Nat => [(k0, .inr (9, [.ref k1, .ref k2, .int (nI ts), .int s_ahead, .int s_at, .int s_fault, .int s_next, .int s_amount])), (k1, .inl (ax 1, 400, .inl tb)), (k2, .inl (ax 0, 401, .inl (fun j => nI (tk j))))]) (ixn [])) hP hD [0, 1, 2] (by decide) rfl
      exact W.zret (v := 0) hx hb hr rfl (fun t ht hW => ⟨⟨0, ixn [], rfl, rfl, ⟨by rw [ht]; exact hP9, hD9⟩⟩, hS.F ht⟩) hS.2.2 d_Tokens_append_24
    · obtain ⟨j, a1, a2, e9⟩ := rng (a := 1) (b := 8) rfl rfl (by assumption) (by first | assumption | exact nle (by assumption))
      exact absurd e9 (hno j a1 a2)
set_option maxHeartbeats 40000000 in
set_option maxRecDepth 100000 in
theorem c_T_append_full (l : Launch) (D : va_G) (ax : Nat → ClassId) (k0 k1 k2 ts : Nat) (s_ahead s_at s_fault s_next s_amount : Int32) (tb : Nat → Int32) (tk : Nat → Nat) (w0 : Int64) (j1 : Nat) (sz : Nat) (hj1 : 1 ≤ j1) (hj8 : j1 ≤ 8) (hts : ts ≤ 400) (hf : 400 < ts + j1) : Met l y_Tokens_append (xws (.code y_Tokens_append b_Tokens_append 5 (some .boolean))) ({ frames := 10, cells := 0, slots := 0, locals := 400 }) (va_Pc [.ref k0, .long w0, .int (nI j1)] (xo D ax [(k0, .inr (9, [.ref k1, .ref k2, .int (nI ts), .int s_ahead, .int s_at, .int s_fault, .int s_next, .int s_amount])), (k1, .inl (ax 1, 400, .inl tb)), (k2, .inl (ax 0, 401, .inl (fun j => nI (tk j))))] sz)) ((va_Qi (fun (r : Int32) (u : Nat → Nat) => r = 0) (xb D (va_A [(k0, .inr (9, [.ref k1, .ref k2, .int (nI ts), .int s_ahead, .int s_at, .int s_fault, .int s_next, .int s_amount])), (k1, .inl (ax 1, 400, .inl tb)), (k2, .inl (ax 0, 401, .inl (fun j => nI (tk j))))] sz) (fun u => [(k0, .inr (9, [.ref k1, .ref k2, .int (nI ts), .int s_ahead, .int s_at, .int s_fault, .int s_next, .int s_amount])), (k1, .inl (ax 1, 400, .inl tb)), (k2, .inl (ax 0, 401, .inl (fun j => nI (tk j))))])) (va_A [(k0, .inr (9, [.ref k1, .ref k2, .int (nI ts), .int s_ahead, .int s_at, .int s_fault, .int s_next, .int s_amount])), (k1, .inl (ax 1, 400, .inl tb)), (k2, .inl (ax 0, 401, .inl (fun j => nI (tk j))))] sz))) 0 0 (va_A [(k0, .inr (9, [.ref k1, .ref k2, .int (nI ts), .int s_ahead, .int s_at, .int s_fault, .int s_next, .int s_amount])), (k1, .inl (ax 1, 400, .inl tb)), (k2, .inl (ax 0, 401, .inl (fun j => nI (tk j))))] sz) := by
  refine Met.ofW (cc := b_Tokens_append) (maxL := 5) (ret := (some .boolean)) (by decide) rfl ?_
  intro p e s m args below meth c s₁ B hml hv
  obtain ⟨rfl, hsz, hP, hK, hD0⟩ := hv
  have hx := B.exec
  have hb := B.bytes
  have hr := B.returns
  have hts := xw_hts B.pre
  have hown : s.vm.findClass R_Tokens = some m.cls := findClass_of_methodNamed B.named
  have hlocks := B.notSynchronized
  subst hsz
  have hD := hD0.self (sz := s.heap.size)
  have hN := xz_entry hP
  generalize hAe : va_A [(k0, .inr (9, [.ref k1, .ref k2, .int (nI ts), .int s_ahead, .int s_at, .int s_fault, .int s_next, .int s_amount])), (k1, .inl (ax 1, 400, .inl tb)), (k2, .inl (ax 0, 401, .inl (fun j => nI (tk j))))] s.heap.size = A at hD hN ⊢
  have hA : ∀ q : Nat, s.heap.size ≤ q → A q := fun q h => by rw [← hAe]; exact Or.inr h
  have hS : va_S A s.heap s.heap [] := va_S.rf
  have hl0 := lv_entry ([.ref k0, .long w0, .int (nI j1)]) (n := 5) (Nat.le_of_ble_eq_true rfl)
  rw [lg_entry_eq]
  generalize (lg_sl ([.ref k0, .long w0, .int (nI j1)]) ++ List.replicate (5 - (lg_sl ([.ref k0, .long w0, .int (nI j1)])).length) Slot.unset).toArray = ls at hl0 ⊢
  have hl1 : lv_has ls 5 [(0, .ref k0), (1, .long w0), (3, .int (nI j1))] := hl0
  refine xw_gen (fun Z9 hQe => ?_)
  refine lv_iload_n hx hb d_Tokens_append_0 rfl (lv_at hl1 2 rfl) ?_
  refine lv_iconst (v := 1) hx hb d_Tokens_append_1 (by decide) ?_
  refine lv_icmp_lt (tgt := 23) hx hb d_Tokens_append_2 (by decide) (fun c_1 => ?_) (fun c_1 => ?_)
  · exfalso
    replace c_1 : j1 < 1 := (nI_ltI (a := j1) (b := 1) (by first | exact Nat.lt_of_lt_of_le (by assumption) (by decide) | exact Nat.lt_of_le_of_lt (by assumption) (by decide) | omega) (by decide)).mp c_1
    omega
  replace c_1 : ¬ j1 < 1 := fun hq9 => c_1 ((nI_ltI (a := j1) (b := 1) (by first | exact Nat.lt_of_lt_of_le (by assumption) (by decide) | exact Nat.lt_of_le_of_lt (by assumption) (by decide) | omega) (by decide)).mpr hq9)
  refine lv_iload_n hx hb d_Tokens_append_5 rfl (lv_at hl1 2 rfl) ?_
  refine lv_bipush (v := 8) hx hb d_Tokens_append_6 (by decide) ?_
  refine lv_icmp_gt (tgt := 23) hx hb d_Tokens_append_8 (by decide) (fun c_2 => ?_) (fun c_2 => ?_)
  · exfalso
    replace c_2 : 8 < j1 := (nI_ltI (a := 8) (b := j1) (by decide) (by first | exact Nat.lt_of_lt_of_le (by assumption) (by decide) | exact Nat.lt_of_le_of_lt (by assumption) (by decide) | omega)).mp c_2
    omega
  replace c_2 : ¬ 8 < j1 := fun hq9 => c_2 ((nI_ltI (a := 8) (b := j1) (by decide) (by first | exact Nat.lt_of_lt_of_le (by assumption) (by decide) | exact Nat.lt_of_le_of_lt (by assumption) (by decide) | omega)).mpr hq9)
  refine lv_aload_n hx hb d_Tokens_append_11 rfl (lv_at hl1 0 rfl) ?_
  refine va_get (D := D) (ci := 9) (v := .int (nI ts)) (C := R_Tokens) (T := F_Tokens) (N := 8) hx hb hts i_Tokens hown hK.1 hP 0 rfl rfl 2 (by decide) (hts _ wd_42) (fun _ h9 => h9) rfl d_Tokens_append_12 ?_
  refine lv_iload_n hx hb d_Tokens_append_15 rfl (lv_at hl1 2 rfl) ?_
  refine lv_iadd hx hb d_Tokens_append_16 ?_
  refine lv_topi (fun z_3 ez_3 => ?_)
  have ez_3 : z_3 = nI (ts + j1) := ez_3.trans (nI_add ts j1)
  subst ez_3
  refine lv_sipush (v := 400) hx hb d_Tokens_append_17 (by decide) ?_
  refine lv_icmp_le (tgt := 25) hx hb d_Tokens_append_20 (by decide) (fun c_4 => ?_) (fun c_4 => ?_)
  · exfalso
    replace c_4 : ts + j1 ≤ 400 := (nI_leI (a := ts + j1) (b := 400) (by first | exact Nat.lt_of_lt_of_le (by assumption) (by decide) | exact Nat.lt_of_le_of_lt (by assumption) (by decide) | omega) (by decide)).mp c_4
    omega
  replace c_4 : ¬ ts + j1 ≤ 400 := fun hq9 => c_4 ((nI_leI (a := ts + j1) (b := 400) (by first | exact Nat.lt_of_lt_of_le (by assumption) (by decide) | exact Nat.lt_of_le_of_lt (by assumption) (by decide) | omega) (by decide)).mpr hq9)
  refine lv_iconst (v := 0) hx hb d_Tokens_append_23 (by decide) ?_
  rw [← hQe]
  obtain ⟨hP9, hD9⟩ := xw_sub2 (wc := (fun u : Nat → Nat => [(k0, .inr (9, [.ref k1, .ref k2, .int (nI ts), .int s_ahead, .int s_at, .int s_fault, .int s_next, .int s_amount])), (k1, .inl (ax 1, 400, .inl tb)), (k2, .inl (ax 0, 401, .inl (fun j => nI (tk j))))]) (ixn [])) hP hD [0, 1, 2] (by decide) rfl
  exact W.zret (v := 0) hx hb hr rfl (fun t ht hW => ⟨⟨0, ixn [], rfl, rfl, ⟨by rw [ht]; exact hP9, hD9⟩⟩, hS.F ht⟩) hS.2.2 d_Tokens_append_24
set_option maxHeartbeats 40000000 in
set_option maxRecDepth 100000 in
theorem c_T_append_ok (l : Launch) (D : va_G) (ax : Nat → ClassId) (k0 k1 k2 ts : Nat) (s_ahead s_at s_fault s_next s_amount : Int32) (tb : Nat → Int32) (tk : Nat → Nat) (w0 : Int64) (j1 : Nat) (sz : Nat) (hj1 : 1 ≤ j1) (hj8 : j1 ≤ 8) (hts : ts ≤ 400) (hf : ts + j1 ≤ 400) (hbt : bts tb 400) : Met l y_Tokens_append (xws (.code y_Tokens_append b_Tokens_append 5 (some .boolean))) ({ frames := 10, cells := 0, slots := 0, locals := 400 }) (va_Pc [.ref k0, .long w0, .int (nI j1)] (xo D ax [(k0, .inr (9, [.ref k1, .ref k2, .int (nI ts), .int s_ahead, .int s_at, .int s_fault, .int s_next, .int s_amount])), (k1, .inl (ax 1, 400, .inl tb)), (k2, .inl (ax 0, 401, .inl (fun j => nI (tk j))))] sz)) ((va_Qi (fun (r : Int32) (u : Nat → Nat) => r = 1) (fun (u : Nat → Nat) (t9 : State) => ∃ xtb : Nat → Int32, (tyI (gtb tb) (gtb xtb) ts j1 w0) ∧ (bts xtb 400) ∧ va_P D classes [(k0, .inr (9, [.ref k1, .ref k2, .int (nI (ts + j1)), .int s_ahead, .int s_at, .int s_fault, .int s_next, .int s_amount])), (k1, .inl (ax 1, 400, .inl xtb)), (k2, .inl (ax 0, 401, .inl (fun j => nI (tk j))))] t9.heap ∧ va_D (va_A [(k0, .inr (9, [.ref k1, .ref k2, .int (nI ts), .int s_ahead, .int s_at, .int s_fault, .int s_next, .int s_amount])), (k1, .inl (ax 1, 400, .inl tb)), (k2, .inl (ax 0, 401, .inl (fun j => nI (tk j))))] sz) [(k0, .inr (9, [.ref k1, .ref k2, .int (nI (ts + j1)), .int s_ahead, .int s_at, .int s_fault, .int s_next, .int s_amount])), (k1, .inl (ax 1, 400, .inl xtb)), (k2, .inl (ax 0, 401, .inl (fun j => nI (tk j))))]) (va_A [(k0, .inr (9, [.ref k1, .ref k2, .int (nI ts), .int s_ahead, .int s_at, .int s_fault, .int s_next, .int s_amount])), (k1, .inl (ax 1, 400, .inl tb)), (k2, .inl (ax 0, 401, .inl (fun j => nI (tk j))))] sz))) 0 0 (va_A [(k0, .inr (9, [.ref k1, .ref k2, .int (nI ts), .int s_ahead, .int s_at, .int s_fault, .int s_next, .int s_amount])), (k1, .inl (ax 1, 400, .inl tb)), (k2, .inl (ax 0, 401, .inl (fun j => nI (tk j))))] sz) := by
  refine Met.ofW (cc := b_Tokens_append) (maxL := 5) (ret := (some .boolean)) (by decide) rfl ?_
  intro p e s m args below meth c s₁ B hml hv
  obtain ⟨rfl, hsz, hP, hK, hD0⟩ := hv
  have hx := B.exec
  have hb := B.bytes
  have hr := B.returns
  have hts := xw_hts B.pre
  have hown : s.vm.findClass R_Tokens = some m.cls := findClass_of_methodNamed B.named
  have hlocks := B.notSynchronized
  subst hsz
  have hD := hD0.self (sz := s.heap.size)
  have hN := xz_entry hP
  generalize hAe : va_A [(k0, .inr (9, [.ref k1, .ref k2, .int (nI ts), .int s_ahead, .int s_at, .int s_fault, .int s_next, .int s_amount])), (k1, .inl (ax 1, 400, .inl tb)), (k2, .inl (ax 0, 401, .inl (fun j => nI (tk j))))] s.heap.size = A at hD hN ⊢
  have hA : ∀ q : Nat, s.heap.size ≤ q → A q := fun q h => by rw [← hAe]; exact Or.inr h
  have hS : va_S A s.heap s.heap [] := va_S.rf
  have hl0 := lv_entry ([.ref k0, .long w0, .int (nI j1)]) (n := 5) (Nat.le_of_ble_eq_true rfl)
  rw [lg_entry_eq]
  generalize (lg_sl ([.ref k0, .long w0, .int (nI j1)]) ++ List.replicate (5 - (lg_sl ([.ref k0, .long w0, .int (nI j1)])).length) Slot.unset).toArray = ls at hl0 ⊢
  have hl1 : lv_has ls 5 [(0, .ref k0), (1, .long w0), (3, .int (nI j1))] := hl0
  refine xw_gen (fun Z9 hQe => ?_)
  refine lv_iload_n hx hb d_Tokens_append_0 rfl (lv_at hl1 2 rfl) ?_
  refine lv_iconst (v := 1) hx hb d_Tokens_append_1 (by decide) ?_
  refine lv_icmp_lt (tgt := 23) hx hb d_Tokens_append_2 (by decide) (fun c_1 => ?_) (fun c_1 => ?_)
  · exfalso
    replace c_1 : j1 < 1 := (nI_ltI (a := j1) (b := 1) (by first | exact Nat.lt_of_lt_of_le (by assumption) (by decide) | exact Nat.lt_of_le_of_lt (by assumption) (by decide) | omega) (by decide)).mp c_1
    omega
  replace c_1 : ¬ j1 < 1 := fun hq9 => c_1 ((nI_ltI (a := j1) (b := 1) (by first | exact Nat.lt_of_lt_of_le (by assumption) (by decide) | exact Nat.lt_of_le_of_lt (by assumption) (by decide) | omega) (by decide)).mpr hq9)
  refine lv_iload_n hx hb d_Tokens_append_5 rfl (lv_at hl1 2 rfl) ?_
  refine lv_bipush (v := 8) hx hb d_Tokens_append_6 (by decide) ?_
  refine lv_icmp_gt (tgt := 23) hx hb d_Tokens_append_8 (by decide) (fun c_2 => ?_) (fun c_2 => ?_)
  · exfalso
    replace c_2 : 8 < j1 := (nI_ltI (a := 8) (b := j1) (by decide) (by first | exact Nat.lt_of_lt_of_le (by assumption) (by decide) | exact Nat.lt_of_le_of_lt (by assumption) (by decide) | omega)).mp c_2
    omega
  replace c_2 : ¬ 8 < j1 := fun hq9 => c_2 ((nI_ltI (a := 8) (b := j1) (by decide) (by first | exact Nat.lt_of_lt_of_le (by assumption) (by decide) | exact Nat.lt_of_le_of_lt (by assumption) (by decide) | omega)).mpr hq9)
  refine lv_aload_n hx hb d_Tokens_append_11 rfl (lv_at hl1 0 rfl) ?_
  refine va_get (D := D) (ci := 9) (v := .int (nI ts)) (C := R_Tokens) (T := F_Tokens) (N := 8) hx hb hts i_Tokens hown hK.1 hP 0 rfl rfl 2 (by decide) (hts _ wd_42) (fun _ h9 => h9) rfl d_Tokens_append_12 ?_
  refine lv_iload_n hx hb d_Tokens_append_15 rfl (lv_at hl1 2 rfl) ?_
  refine lv_iadd hx hb d_Tokens_append_16 ?_
  refine lv_topi (fun z_3 ez_3 => ?_)
  have ez_3 : z_3 = nI (ts + j1) := ez_3.trans (nI_add ts j1)
  subst ez_3
  refine lv_sipush (v := 400) hx hb d_Tokens_append_17 (by decide) ?_
  refine lv_icmp_le (tgt := 25) hx hb d_Tokens_append_20 (by decide) (fun c_4 => ?_) (fun c_4 => ?_)
  rotate_left
  · exfalso
    replace c_4 : ¬ ts + j1 ≤ 400 := fun hq9 => c_4 ((nI_leI (a := ts + j1) (b := 400) (by first | exact Nat.lt_of_lt_of_le (by assumption) (by decide) | exact Nat.lt_of_le_of_lt (by assumption) (by decide) | omega) (by decide)).mpr hq9)
    omega
  replace c_4 : ts + j1 ≤ 400 := (nI_leI (a := ts + j1) (b := 400) (by first | exact Nat.lt_of_lt_of_le (by assumption) (by decide) | exact Nat.lt_of_le_of_lt (by assumption) (by decide) | omega) (by decide)).mp c_4
  refine lv_iconst (v := 0) hx hb d_Tokens_append_25 (by decide) ?_
  refine lv_istore (lv' := [(4, .int 0), (0, .ref k0), (1, .long w0), (3, .int (nI j1))]) hx hb d_Tokens_append_26 hl1 (by decide) rfl (fun ls hl2 => ?_)
  clear hl1; have hl1 := hl2; clear hl2
  suffices key_5 : ∀ (k : Nat) (i1 : Nat) (tb1 : Nat → Int32), j1 - i1 < k → i1 ≤ j1 → tyI (gtb tb) (gtb tb1) ts i1 w0 → bts tb1 400 → ∀ (H : Heap) (locs : List Loc) (ls : Array Slot), va_P D classes [(k0, .inr (9, [.ref k1, .ref k2, .int (nI ts), .int s_ahead, .int s_at, .int s_fault, .int s_next, .int s_amount])), (k1, .inl (ax 1, 400, .inl tb1)), (k2, .inl (ax 0, 401, .inl (fun j => nI (tk j))))] H → va_D A [(k0, .inr (9, [.ref k1, .ref k2, .int (nI ts), .int s_ahead, .int s_at, .int s_fault, .int s_next, .int s_amount])), (k1, .inl (ax 1, 400, .inl tb1)), (k2, .inl (ax 0, 401, .inl (fun j => nI (tk j))))] → va_S A s.heap H locs → lv_has ls 5 [(0, .ref k0), (1, .long w0), (3, .int (nI j1)), (4, .int (nI i1))] → W p l e (headSpec (xws (.code y_Tokens_append b_Tokens_append 5 (some .boolean))) ({ frames := 10, cells := 0, slots := 0, locals := 400 })).room s m ([.ref k0, .long w0, .int (nI j1)] : List Value).toArray below meth c H locs 0 0 Z9 (F0 m 28 ls []) from key_5 (j1 - 0 + 1) 0 tb (Nat.lt_succ_self _) (by first | assumption | omega) tyI_0 hbt _ _ _ (hP) (hD) hS (lv_sub hl1 [1, 2, 3, 0] rfl)
  intro k_6
  induction k_6 with
  | zero =>
    intro i1 tb1 hk_8
    exact absurd hk_8 (Nat.not_lt_zero _)
  | succ k_6 ih_7 =>
    clear hP hD hS hl1
    intro i1 tb1 hk_8 hi1 h2 h3 H locs ls hP hD hS hl1
    refine lv_iload hx hb d_Tokens_append_28 (lv_at hl1 3 rfl) ?_
    refine lv_iload_n hx hb d_Tokens_append_30 rfl (lv_at hl1 2 rfl) ?_
    refine lv_icmp_ge (tgt := 61) hx hb d_Tokens_append_31 (by decide) (fun c_9 => ?_) (fun c_9 => ?_)
    · replace c_9 : j1 ≤ i1 := (nI_leI (a := j1) (b := i1) (by first | exact Nat.lt_of_lt_of_le (by assumption) (by decide) | exact Nat.lt_of_le_of_lt (by assumption) (by decide) | omega) (by first | exact Nat.lt_of_lt_of_le (by assumption) (by decide) | exact Nat.lt_of_le_of_lt (by assumption) (by decide) | omega)).mp c_9
      refine lv_aload_n hx hb d_Tokens_append_61 rfl (lv_at hl1 0 rfl) ?_
      refine lv_dup hx hb d_Tokens_append_62 rfl ?_
      refine va_get (D := D) (ci := 9) (v := .int (nI ts)) (C := R_Tokens) (T := F_Tokens) (N := 8) hx hb hts i_Tokens hown hK.1 hP 0 rfl rfl 2 (by decide) (hts _ wd_42) (fun _ h9 => h9) rfl d_Tokens_append_63 ?_
      refine lv_iload_n hx hb d_Tokens_append_66 rfl (lv_at hl1 2 rfl) ?_
      refine lv_iadd hx hb d_Tokens_append_67 ?_
      refine lv_topi (fun z_10 ez_10 => ?_)
      have ez_10 : z_10 = nI (ts + j1) := ez_10.trans (nI_add ts j1)
      subst ez_10
      refine va_put (D := D) (ci := 9) (v := .int (nI (ts + j1))) (ty := .int) (C := R_Tokens) (T := F_Tokens) (N := 8) hx hb hts i_Tokens t_Tokens t_Tokens_ok n_Tokens hown hK.1 hP hD hS 0 rfl rfl 2 (by decide) (hts _ wd_42) (fun _ h9 => h9) rfl (by decide +kernel) rfl rfl (Nat.le_of_ble_eq_true rfl) d_Tokens_append_68 (fun H_11 locs hP1 hD1 hS1 => ?_)
      clear hP hD hS
      have hS := hS1
      have hW7 : (fun w9 : va_W => va_P D classes w9 H_11 ∧ va_D A w9) [(k0, .inr (9, [.ref k1, .ref k2, .int (nI (ts + j1)), .int s_ahead, .int s_at, .int s_fault, .int s_next, .int s_amount])), (k1, .inl (ax 1, 400, .inl tb1)), (k2, .inl (ax 0, 401, .inl (fun j => nI (tk j))))] := ⟨hP1, hD1⟩
      obtain ⟨hP, hD⟩ := hW7
      clear hP1 hD1 hS1
      refine lv_iconst (v := 1) hx hb d_Tokens_append_71 (by decide) ?_
      rw [← hQe]
      obtain ⟨hP9, hD9⟩ := xw_sub2 (wc := (fun (u : Nat → Nat) (xtb : Nat → Int32) => [(k0, .inr (9, [.ref k1, .ref k2, .int (nI (ts + j1)), .int s_ahead, .int s_at, .int s_fault, .int s_next, .int s_amount])), (k1, .inl (ax 1, 400, .inl xtb)), (k2, .inl (ax 0, 401, .inl (fun j => nI (tk j))))]) (ixn []) tb1) hP hD [0, 1, 2] (by decide) rfl
      have hex0 : tyI (gtb tb) (gtb tb1) ts j1 w0 := (by rw [show j1 = i1 by omega]; exact h2)
      have hex1 : bts tb1 400 := h3
      exact W.zret (v := 1) hx hb hr rfl (fun t ht hW => ⟨⟨1, ixn [], rfl, rfl, ⟨tb1, hex0, hex1, by rw [ht]; exact hP9, hD9⟩⟩, hS.F ht⟩) hS.2.2 d_Tokens_append_72
    · replace c_9 : ¬ j1 ≤ i1 := fun hq9 => c_9 ((nI_leI (a := j1) (b := i1) (by first | exact Nat.lt_of_lt_of_le (by assumption) (by decide) | exact Nat.lt_of_le_of_lt (by assumption) (by decide) | omega) (by first | exact Nat.lt_of_lt_of_le (by assumption) (by decide) | exact Nat.lt_of_le_of_lt (by assumption) (by decide) | omega)).mpr hq9)
      refine lv_aload_n hx hb d_Tokens_append_34 rfl (lv_at hl1 0 rfl) ?_
      refine va_get (D := D) (ci := 9) (v := .ref k1) (C := R_Tokens) (T := F_Tokens) (N := 8) hx hb hts i_Tokens hown hK.1 hP 0 rfl rfl 0 (by decide) (hts _ wd_40) (fun _ h9 => h9) rfl d_Tokens_append_35 ?_
      refine lv_aload_n hx hb d_Tokens_append_38 rfl (lv_at hl1 0 rfl) ?_
      refine va_get (D := D) (ci := 9) (v := .int (nI ts)) (C := R_Tokens) (T := F_Tokens) (N := 8) hx hb hts i_Tokens hown hK.1 hP 0 rfl rfl 2 (by decide) (hts _ wd_42) (fun _ h9 => h9) rfl d_Tokens_append_39 ?_
      refine lv_iload hx hb d_Tokens_append_42 (lv_at hl1 3 rfl) ?_
      refine lv_iadd hx hb d_Tokens_append_44 ?_
      refine lv_topi (fun z_12 ez_12 => ?_)
      have ez_12 : z_12 = nI (ts + i1) := ez_12.trans (nI_add ts i1)
      subst ez_12
      refine lv_lload_n hx hb d_Tokens_append_45 rfl (lv_at hl1 1 rfl) ?_
      refine lv_bipush (v := 8) hx hb d_Tokens_append_46 (by decide) ?_
      refine lv_iload hx hb d_Tokens_append_48 (lv_at hl1 3 rfl) ?_
      refine lv_imul hx hb d_Tokens_append_50 ?_
      refine lv_topi (fun z_13 ez_13 => ?_)
      have ez_13 : z_13 = nI (8 * i1) := ez_13.trans (pk_mul 8 i1)
      subst ez_13
      refine lv_lushr hx hb d_Tokens_append_51 rfl ?_
      refine lv_topl (fun z_14 ez_14 => ?_)
      refine lv_l2i hx hb d_Tokens_append_52 rfl ?_
      refine lv_topi (fun z_15 ez_15 => ?_)
      refine lv_i2b hx hb d_Tokens_append_53 rfl ?_
      refine lv_topi (fun z_16 ez_16 => ?_)
      refine va_bast hx hb hK.1 hP hD hS 1 1 rfl rfl (vp_in_nI (by first | assumption | omega) (by decide)) d_Tokens_append_54 (fun H_17 locs hP1 hD1 hS1 => ?_)
      rw [nI_clamp (by first | exact Nat.lt_of_lt_of_le (by assumption) (by decide) | exact Nat.lt_of_le_of_lt (by assumption) (by decide) | omega)] at hP1 hD1
      clear hP hD hS
      have hS := hS1
      have hW7 : (fun w9 : va_W => va_P D classes w9 H_17 ∧ va_D A w9) [(k0, .inr (9, [.ref k1, .ref k2, .int (nI ts), .int s_ahead, .int s_at, .int s_fault, .int s_next, .int s_amount])), (k1, .inl (ax 1, 400, .inl (upd tb1 (ts + i1) (vp_nar .byte z_16)))), (k2, .inl (ax 0, 401, .inl (fun j => nI (tk j))))] := ⟨hP1, hD1⟩
      obtain ⟨hP, hD⟩ := hW7
      clear hP1 hD1 hS1
      refine lv_iinc (v := nI (i1 + 1)) (lv' := [(4, .int (nI (i1 + 1))), (0, .ref k0), (1, .long w0), (3, .int (nI j1))]) hx hb d_Tokens_append_55 hl1 (k := 3) rfl (nI_add i1 1) (by decide) rfl (fun ls hl2 => ?_)
      clear hl1; have hl1 := hl2; clear hl2
      refine lv_goto (tgt := 28) hx hb d_Tokens_append_58 (by decide) ?_
      exact ih_7 (i1 + 1) (upd tb1 (ts + i1) (vp_nar .byte z_16)) (by first | assumption | omega) (by first | assumption | omega) (ap_s h2 (by first | assumption | omega) ez_14 ez_15 ez_16 rfl) (bts.up h3 (ap8 (by first | assumption | omega) ez_14 ez_15 ez_16).2) _ _ _ (hP.sub [0, 1, 2] rfl) (hD.sub [0, 1, 2] (by decide) rfl) hS (lv_sub hl1 [1, 2, 3, 0] rfl)
