theorem wd_375 : ((Jvm.Cond.fieldLink "TripleDesk" (12 : Nat) "TripleDesk" "tokens" "LTripleDesk$Tokens;")) ∈ lw_gd := lw_gd_in (i := 375) (by decide +kernel) rfl
theorem wd_419 : ((Jvm.Cond.methodLink "TripleDesk" (87 : Nat) ({ cls := "TripleDesk$Tokens", name := "append", desc := "(JI)Z" } : Jvm.MethodName))) ∈ lw_gd := lw_gd_in (i := 419) (by decide +kernel) rfl
theorem wd_420 : ((Jvm.Cond.instanceMethod ({ cls := "TripleDesk$Tokens", name := "append", desc := "(JI)Z" } : Jvm.MethodName))) ∈ lw_gd := lw_gd_in (i := 420) (by decide +kernel) rfl
theorem wd_421 : ((Jvm.Cond.selects "TripleDesk$Tokens" ({ cls := "TripleDesk$Tokens", name := "append", desc := "(JI)Z" } : Jvm.MethodName) ({ cls := "TripleDesk$Tokens", name := "append", desc := "(JI)Z" } : Jvm.MethodName))) ∈ lw_gd := lw_gd_in (i := 421) (by decide +kernel) rfl
theorem wd_422 : ((Jvm.Cond.code ({ cls := "TripleDesk$Tokens", name := "append", desc := "(JI)Z" } : Jvm.MethodName) prog_11_method_2_code (5 : Nat) (Option.some Jvm.ClassFile.FieldType.boolean))) ∈ lw_gd := lw_gd_in (i := 422) (by decide +kernel) rfl
abbrev b_Desk_type : ByteArray := prog_1_method_2_code
def y_Desk_type : MethodName := ⟨R_Desk, "type", "(JI)Z"⟩
theorem d_Desk_type_0 : decode b_Desk_type 0 = .ok (.aload_n 0, 1) := by decide +kernel
theorem d_Desk_type_1 : decode b_Desk_type 1 = .ok (.getfield 12, 3) := by decide +kernel
theorem d_Desk_type_4 : decode b_Desk_type 4 = .ok (.lload_n 1, 1) := by decide +kernel
theorem d_Desk_type_5 : decode b_Desk_type 5 = .ok (.iload_n 3, 1) := by decide +kernel
theorem d_Desk_type_6 : decode b_Desk_type 6 = .ok (.invokevirtual 87, 3) := by decide +kernel
theorem d_Desk_type_9 : decode b_Desk_type 9 = .ok (.ireturn, 1) := by decide +kernel
set_option maxHeartbeats 40000000 in
set_option maxRecDepth 100000 in
theorem c_D_type_no (l : Launch) (D : va_G) (ax : Nat → ClassId) (d0 k0 r0 c0 p0 fd0 w0 e0 b0 a0 y0 g0 i0 ld k1 k2 ts : Nat) (s_ahead s_at s_fault s_next s_amount : Int32) (tb : Nat → Int32) (tk : Nat → Nat) (w1 : Int64) (x1 : Int32) (sz : Nat) (hno : ∀ j : Nat, 1 ≤ j → j ≤ 8 → x1 ≠ nI j) : Met l y_Desk_type (xws (.code y_Desk_type b_Desk_type 4 (some .boolean))) ({ frames := 30, cells := 0, slots := 0, locals := 1200 }) (va_Pc [.ref d0, .long w1, .int x1] (xo D ax [(d0, .inr (10, [.ref k0, .ref r0, .ref c0, .ref p0, .ref fd0, .ref w0, .ref e0, .ref b0, .ref a0, .ref y0, .ref g0, .ref i0, .int (nI ld)])), (k0, .inr (9, [.ref k1, .ref k2, .int (nI ts), .int s_ahead, .int s_at, .int s_fault, .int s_next, .int s_amount])), (k1, .inl (ax 1, 400, .inl tb)), (k2, .inl (ax 0, 401, .inl (fun j => nI (tk j))))] sz)) ((va_Qi (fun (r : Int32) (u : Nat → Nat) => r = 0) (xb D (va_A [(d0, .inr (10, [.ref k0, .ref r0, .ref c0, .ref p0, .ref fd0, .ref w0, .ref e0, .ref b0, .ref a0, .ref y0, .ref g0, .ref i0, .int (nI ld)])), (k0, .inr (9, [.ref k1, .ref k2, .int (nI ts), .int s_ahead, .int s_at, .int s_fault, .int s_next, .int s_amount])), (k1, .inl (ax 1, 400, .inl tb)), (k2, .inl (ax 0, 401, .inl (fun j => nI (tk j))))] sz) (fun u => [(d0, .inr (10, [.ref k0, .ref r0, .ref c0, .ref p0, .ref fd0, .ref w0, .ref e0, .ref b0, .ref a0, .ref y0, .ref g0, .ref i0, .int (nI ld)])), (k0, .inr (9, [.ref k1, .ref k2, .int (nI ts), .int s_ahead, .int s_at, .int s_fault, .int s_next, .int s_amount])), (k1, .inl (ax 1, 400, .inl tb)), (k2, .inl (ax 0, 401, .inl (fun j => nI (tk j))))])) (va_A [(d0, .inr (10, [.ref k0, .ref r0, .ref c0, .ref p0, .ref fd0, .ref w0, .ref e0, .ref b0, .ref a0, .ref y0, .ref g0, .ref i0, .int (nI ld)])), (k0, .inr (9, [.ref k1, .ref k2, .int (nI ts), .int s_ahead, .int s_at, .int s_fault, .int s_next, .int s_amount])), (k1, .inl (ax 1, 400, .inl tb)), (k2, .inl (ax 0, 401, .inl (fun j => nI (tk j))))] sz))) 0 0 (va_A [(d0, .inr (10, [.ref k0, .ref r0, .ref c0, .ref p0, .ref fd0, .ref w0, .ref e0, .ref b0, .ref a0, .ref y0, .ref g0, .ref i0, .int (nI ld)])), (k0, .inr (9, [.ref k1, .ref k2, .int (nI ts), .int s_ahead, .int s_at, .int s_fault, .int s_next, .int s_amount])), (k1, .inl (ax 1, 400, .inl tb)), (k2, .inl (ax 0, 401, .inl (fun j => nI (tk j))))] sz) := by
  refine Met.ofW (cc := b_Desk_type) (maxL := 4) (ret := (some .boolean)) (by decide) rfl ?_
  intro p e s m args below meth c s₁ B hml hv
  obtain ⟨rfl, hsz, hP, hK, hD0⟩ := hv
  have hx := B.exec
  have hb := B.bytes
  have hr := B.returns
  have hts := xw_hts B.pre
  have hown : s.vm.findClass R_Desk = some m.cls := findClass_of_methodNamed B.named
  have hlocks := B.notSynchronized
  subst hsz
  have hD := hD0.self (sz := s.heap.size)
  have hN := xz_entry hP
  generalize hAe : va_A [(d0, .inr (10, [.ref k0, .ref r0, .ref c0, .ref p0, .ref fd0, .ref w0, .ref e0, .ref b0, .ref a0, .ref y0, .ref g0, .ref i0, .int (nI ld)])), (k0, .inr (9, [.ref k1, .ref k2, .int (nI ts), .int s_ahead, .int s_at, .int s_fault, .int s_next, .int s_amount])), (k1, .inl (ax 1, 400, .inl tb)), (k2, .inl (ax 0, 401, .inl (fun j => nI (tk j))))] s.heap.size = A at hD hN ⊢
  have hA : ∀ q : Nat, s.heap.size ≤ q → A q := fun q h => by rw [← hAe]; exact Or.inr h
  have hS : va_S A s.heap s.heap [] := va_S.rf
  have hl0 := lv_entry ([.ref d0, .long w1, .int x1]) (n := 4) (Nat.le_of_ble_eq_true rfl)
  rw [lg_entry_eq]
  generalize (lg_sl ([.ref d0, .long w1, .int x1]) ++ List.replicate (4 - (lg_sl ([.ref d0, .long w1, .int x1])).length) Slot.unset).toArray = ls at hl0 ⊢
  have hl1 : lv_has ls 4 [(0, .ref d0), (1, .long w1), (3, .int x1)] := hl0
  refine xw_gen (fun Z9 hQe => ?_)
  refine lv_aload_n hx hb d_Desk_type_0 rfl (lv_at hl1 0 rfl) ?_
  refine va_get (D := D) (ci := 10) (v := .ref k0) (C := R_Desk) (T := F_Desk) (N := 13) hx hb hts i_Desk hown hK.1 hP 0 rfl rfl 0 (by decide) (hts _ wd_375) (fun _ h9 => h9) rfl d_Desk_type_1 ?_
  refine lv_lload_n hx hb d_Desk_type_4 rfl (lv_at hl1 1 rfl) ?_
  refine lv_iload_n hx hb d_Desk_type_5 rfl (lv_at hl1 2 rfl) ?_
  obtain ⟨hPc, hDc, hFc, hCs⟩ := xw_sub3 (wc := [(k0, .inr (9, [.ref k1, .ref k2, .int (nI ts), .int s_ahead, .int s_at, .int s_fault, .int s_next, .int s_amount])), (k1, .inl (ax 1, 400, .inl tb)), (k2, .inl (ax 0, 401, .inl (fun j => nI (tk j))))]) hP hD hS hA [1, 2, 3] (by decide) rfl
  have hz := xz_of hN hS
  refine va_calli (va_runV (As := [.long w1, .int x1]) (rest := []) ⟨hx, hb, hml, hown, hts⟩ (c_T_append_no l D ax k0 k1 k2 ts s_ahead s_at s_fault s_next s_amount tb tk w1 x1 s.heap.size hno) (xcV (n := 2) hts wd_422 wd_2 wd_419 wd_420 wd_421 rfl rfl (by decide +kernel) ⟨Nat.le_of_ble_eq_true rfl, Nat.le_of_ble_eq_true rfl⟩) (xpV (ci := 9) (q0 := 0) (As := [.long w1, .int x1]) hPc hK hz hDc rfl rfl) rfl rfl hl1.1 rfl (lv_room (Nat.le_of_ble_eq_true rfl)) d_Desk_type_6 ⟨Nat.le_of_ble_eq_true rfl, Nat.le_of_ble_eq_true rfl⟩) hS (fun q _ h => hFc q h) hFc (fun r_3 u_1 t H_2 locs ht hvm hw hB hz1 hk1 hS1 => ?_)
  try dsimp only at hw
  subst hw
  obtain ⟨hP1, hD1⟩ := hB
  rw [ht] at hP1
  have hjn := xw_join3 (wl := [(d0, .inr (10, [.ref k0, .ref r0, .ref c0, .ref p0, .ref fd0, .ref w0, .ref e0, .ref b0, .ref a0, .ref y0, .ref g0, .ref i0, .int (nI ld)])), (k0, .inr (9, [.ref k1, .ref k2, .int (nI ts), .int s_ahead, .int s_at, .int s_fault, .int s_next, .int s_amount])), (k1, .inl (ax 1, 400, .inl tb)), (k2, .inl (ax 0, 401, .inl (fun j => nI (tk j))))]) hP hD [1, 2, 3] [0] hCs (by decide) (by decide) hk1 hFc hP1 hD1 rfl
  clear hP1 hD1
  clear hPc hDc hFc hCs hz hz1 hk1 ht hvm
  clear hP hD hS
  have hS := hS1
  obtain ⟨hP, hD⟩ := hjn
  clear hS1
  rw [← hQe]
  obtain ⟨hP9, hD9⟩ := xw_sub2 (wc := (fun u : Nat → Nat => [(d0, .inr (10, [.ref k0, .ref r0, .ref c0, .ref p0, .ref fd0, .ref w0, .ref e0, .ref b0, .ref a0, .ref y0, .ref g0, .ref i0, .int (nI ld)])), (k0, .inr (9, [.ref k1, .ref k2, .int (nI ts), .int s_ahead, .int s_at, .int s_fault, .int s_next, .int s_amount])), (k1, .inl (ax 1, 400, .inl tb)), (k2, .inl (ax 0, 401, .inl (fun j => nI (tk j))))]) (ixn [])) hP hD [0, 1, 2, 3] (by decide) rfl
  exact W.zret (v := 0) hx hb hr rfl (fun t ht hW => ⟨⟨0, ixn [], rfl, rfl, ⟨by rw [ht]; exact hP9, hD9⟩⟩, hS.F ht⟩) hS.2.2 d_Desk_type_9
set_option maxHeartbeats 40000000 in
set_option maxRecDepth 100000 in
theorem c_D_type_full (l : Launch) (D : va_G) (ax : Nat → ClassId) (d0 k0 r0 c0 p0 fd0 w0 e0 b0 a0 y0 g0 i0 ld k1 k2 ts : Nat) (s_ahead s_at s_fault s_next s_amount : Int32) (tb : Nat → Int32) (tk : Nat → Nat) (w1 : Int64) (j1 : Nat) (sz : Nat) (hts4 : ts ≤ 400) (hj1 : 1 ≤ j1) (hj2 : j1 ≤ 8) (hf : 400 < ts + j1) : Met l y_Desk_type (xws (.code y_Desk_type b_Desk_type 4 (some .boolean))) ({ frames := 30, cells := 0, slots := 0, locals := 1200 }) (va_Pc [.ref d0, .long w1, .int (nI j1)] (xo D ax [(d0, .inr (10, [.ref k0, .ref r0, .ref c0, .ref p0, .ref fd0, .ref w0, .ref e0, .ref b0, .ref a0, .ref y0, .ref g0, .ref i0, .int (nI ld)])), (k0, .inr (9, [.ref k1, .ref k2, .int (nI ts), .int s_ahead, .int s_at, .int s_fault, .int s_next, .int s_amount])), (k1, .inl (ax 1, 400, .inl tb)), (k2, .inl (ax 0, 401, .inl (fun j => nI (tk j))))] sz)) ((va_Qi (fun (r : Int32) (u : Nat → Nat) => r = 0) (xb D (va_A [(d0, .inr (10, [.ref k0, .ref r0, .ref c0, .ref p0, .ref fd0, .ref w0, .ref e0, .ref b0, .ref a0, .ref y0, .ref g0, .ref i0, .int (nI ld)])), (k0, .inr (9, [.ref k1, .ref k2, .int (nI ts), .int s_ahead, .int s_at, .int s_fault, .int s_next, .int s_amount])), (k1, .inl (ax 1, 400, .inl tb)), (k2, .inl (ax 0, 401, .inl (fun j => nI (tk j))))] sz) (fun u => [(d0, .inr (10, [.ref k0, .ref r0, .ref c0, .ref p0, .ref fd0, .ref w0, .ref e0, .ref b0, .ref a0, .ref y0, .ref g0, .ref i0, .int (nI ld)])), (k0, .inr (9, [.ref k1, .ref k2, .int (nI ts), .int s_ahead, .int s_at, .int s_fault, .int s_next, .int s_amount])), (k1, .inl (ax 1, 400, .inl tb)), (k2, .inl (ax 0, 401, .inl (fun j => nI (tk j))))])) (va_A [(d0, .inr (10, [.ref k0, .ref r0, .ref c0, .ref p0, .ref fd0, .ref w0, .ref e0, .ref b0, .ref a0, .ref y0, .ref g0, .ref i0, .int (nI ld)])), (k0, .inr (9, [.ref k1, .ref k2, .int (nI ts), .int s_ahead, .int s_at, .int s_fault, .int s_next, .int s_amount])), (k1, .inl (ax 1, 400, .inl tb)), (k2, .inl (ax 0, 401, .inl (fun j => nI (tk j))))] sz))) 0 0 (va_A [(d0, .inr (10, [.ref k0, .ref r0, .ref c0, .ref p0, .ref fd0, .ref w0, .ref e0, .ref b0, .ref a0, .ref y0, .ref g0, .ref i0, .int (nI ld)])), (k0, .inr (9, [.ref k1, .ref k2, .int (nI ts), .int s_ahead, .int s_at, .int s_fault, .int s_next, .int s_amount])), (k1, .inl (ax 1, 400, .inl tb)), (k2, .inl (ax 0, 401, .inl (fun j => nI (tk j))))] sz) := by
  refine Met.ofW (cc := b_Desk_type) (maxL := 4) (ret := (some .boolean)) (by decide) rfl ?_
  intro p e s m args below meth c s₁ B hml hv
  obtain ⟨rfl, hsz, hP, hK, hD0⟩ := hv
  have hx := B.exec
  have hb := B.bytes
  have hr := B.returns
  have hts := xw_hts B.pre
  have hown : s.vm.findClass R_Desk = some m.cls := findClass_of_methodNamed B.named
  have hlocks := B.notSynchronized
  subst hsz
  have hD := hD0.self (sz := s.heap.size)
  have hN := xz_entry hP
  generalize hAe : va_A [(d0, .inr (10, [.ref k0, .ref r0, .ref c0, .ref p0, .ref fd0, .ref w0, .ref e0, .ref b0, .ref a0, .ref y0, .ref g0, .ref i0, .int (nI ld)])), (k0, .inr (9, [.ref k1, .ref k2, .int (nI ts), .int s_ahead, .int s_at, .int s_fault, .int s_next, .int s_amount])), (k1, .inl (ax 1, 400, .inl tb)), (k2, .inl (ax 0, 401, .inl (fun j => nI (tk j))))] s.heap.size = A at hD hN ⊢
  have hA : ∀ q : Nat, s.heap.size ≤ q → A q := fun q h => by rw [← hAe]; exact Or.inr h
  have hS : va_S A s.heap s.heap [] := va_S.rf
  have hl0 := lv_entry ([.ref d0, .long w1, .int (nI j1)]) (n := 4) (Nat.le_of_ble_eq_true rfl)
  rw [lg_entry_eq]
  generalize (lg_sl ([.ref d0, .long w1, .int (nI j1)]) ++ List.replicate (4 - (lg_sl ([.ref d0, .long w1, .int (nI j1)])).length) Slot.unset).toArray = ls at hl0 ⊢
  have hl1 : lv_has ls 4 [(0, .ref d0), (1, .long w1), (3, .int (nI j1))] := hl0
  refine xw_gen (fun Z9 hQe => ?_)
  refine lv_aload_n hx hb d_Desk_type_0 rfl (lv_at hl1 0 rfl) ?_
  refine va_get (D := D) (ci := 10) (v := .ref k0) (C := R_Desk) (T := F_Desk) (N := 13) hx hb hts i_Desk hown hK.1 hP 0 rfl rfl 0 (by decide) (hts _ wd_375) (fun _ h9 => h9) rfl d_Desk_type_1 ?_
  refine lv_lload_n hx hb d_Desk_type_4 rfl (lv_at hl1 1 rfl) ?_
  refine lv_iload_n hx hb d_Desk_type_5 rfl (lv_at hl1 2 rfl) ?_
  obtain ⟨hPc, hDc, hFc, hCs⟩ := xw_sub3 (wc := [(k0, .inr (9, [.ref k1, .ref k2, .int (nI ts), .int s_ahead, .int s_at, .int s_fault, .int s_next, .int s_amount])), (k1, .inl (ax 1, 400, .inl tb)), (k2, .inl (ax 0, 401, .inl (fun j => nI (tk j))))]) hP hD hS hA [1, 2, 3] (by decide) rfl
  have hz := xz_of hN hS
  refine va_calli (va_runV (As := [.long w1, .int (nI j1)]) (rest := []) ⟨hx, hb, hml, hown, hts⟩ (c_T_append_full l D ax k0 k1 k2 ts s_ahead s_at s_fault s_next s_amount tb tk w1 j1 s.heap.size (by first | assumption | omega) (by first | assumption | omega) (by first | assumption | omega) (by first | assumption | omega)) (xcV (n := 2) hts wd_422 wd_2 wd_419 wd_420 wd_421 rfl rfl (by decide +kernel) ⟨Nat.le_of_ble_eq_true rfl, Nat.le_of_ble_eq_true rfl⟩) (xpV (ci := 9) (q0 := 0) (As := [.long w1, .int (nI j1)]) hPc hK hz hDc rfl rfl) rfl rfl hl1.1 rfl (lv_room (Nat.le_of_ble_eq_true rfl)) d_Desk_type_6 ⟨Nat.le_of_ble_eq_true rfl, Nat.le_of_ble_eq_true rfl⟩) hS (fun q _ h => hFc q h) hFc (fun r_3 u_1 t H_2 locs ht hvm hw hB hz1 hk1 hS1 => ?_)
  try dsimp only at hw
  subst hw
  obtain ⟨hP1, hD1⟩ := hB
  rw [ht] at hP1
  have hjn := xw_join3 (wl := [(d0, .inr (10, [.ref k0, .ref r0, .ref c0, .ref p0, .ref fd0, .ref w0, .ref e0, .ref b0, .ref a0, .ref y0, .ref g0, .ref i0, .int (nI ld)])), (k0, .inr (9, [.ref k1, .ref k2, .int (nI ts), .int s_ahead, .int s_at, .int s_fault, .int s_next, .int s_amount])), (k1, .inl (ax 1, 400, .inl tb)), (k2, .inl (ax 0, 401, .inl (fun j => nI (tk j))))]) hP hD [1, 2, 3] [0] hCs (by decide) (by decide) hk1 hFc hP1 hD1 rfl
  clear hP1 hD1
  clear hPc hDc hFc hCs hz hz1 hk1 ht hvm
  clear hP hD hS
  have hS := hS1
  obtain ⟨hP, hD⟩ := hjn
  clear hS1
  rw [← hQe]
  obtain ⟨hP9, hD9⟩ := xw_sub2 (wc := (fun u : Nat → Nat => [(d0, .inr (10, [.ref k0, .ref r0, .ref c0, .ref p0, .ref fd0, .ref w0, .ref e0, .ref b0, .ref a0, .ref y0, .ref g0, .ref i0, .int (nI ld)])), (k0, .inr (9, [.ref k1, .ref k2, .int (nI ts), .int s_ahead, .int s_at, .int s_fault, .int s_next, .int s_amount])), (k1, .inl (ax 1, 400, .inl tb)), (k2, .inl (ax 0, 401, .inl (fun j => nI (tk j))))]) (ixn [])) hP hD [0, 1, 2, 3] (by decide) rfl
  exact W.zret (v := 0) hx hb hr rfl (fun t ht hW => ⟨⟨0, ixn [], rfl, rfl, ⟨by rw [ht]; exact hP9, hD9⟩⟩, hS.F ht⟩) hS.2.2 d_Desk_type_9
set_option maxHeartbeats 40000000 in
set_option maxRecDepth 100000 in
theorem c_D_type_ok (l : Launch) (D : va_G) (ax : Nat → ClassId) (d0 k0 r0 c0 p0 fd0 w0 e0 b0 a0 y0 g0 i0 ld k1 k2 ts : Nat) (s_ahead s_at s_fault s_next s_amount : Int32) (tb : Nat → Int32) (tk : Nat → Nat) (w1 : Int64) (j1 : Nat) (sz : Nat) (hts4 : ts ≤ 400) (hj1 : 1 ≤ j1) (hj2 : j1 ≤ 8) (hf : ts + j1 ≤ 400) (hbt : bts tb 400) : Met l y_Desk_type (xws (.code y_Desk_type b_Desk_type 4 (some .boolean))) ({ frames := 30, cells := 0, slots := 0, locals := 1200 }) (va_Pc [.ref d0, .long w1, .int (nI j1)] (xo D ax [(d0, .inr (10, [.ref k0, .ref r0, .ref c0, .ref p0, .ref fd0, .ref w0, .ref e0, .ref b0, .ref a0, .ref y0, .ref g0, .ref i0, .int (nI ld)])), (k0, .inr (9, [.ref k1, .ref k2, .int (nI ts), .int s_ahead, .int s_at, .int s_fault, .int s_next, .int s_amount])), (k1, .inl (ax 1, 400, .inl tb)), (k2, .inl (ax 0, 401, .inl (fun j => nI (tk j))))] sz)) ((va_Qi (fun (r : Int32) (u : Nat → Nat) => r = 1) (fun (u : Nat → Nat) (t9 : State) => ∃ xtb : Nat → Int32, (tyI (gtb tb) (gtb xtb) ts j1 w1) ∧ (bts xtb 400) ∧ va_P D classes [(d0, .inr (10, [.ref k0, .ref r0, .ref c0, .ref p0, .ref fd0, .ref w0, .ref e0, .ref b0, .ref a0, .ref y0, .ref g0, .ref i0, .int (nI ld)])), (k0, .inr (9, [.ref k1, .ref k2, .int (nI (ts + j1)), .int s_ahead, .int s_at, .int s_fault, .int s_next, .int s_amount])), (k1, .inl (ax 1, 400, .inl xtb)), (k2, .inl (ax 0, 401, .inl (fun j => nI (tk j))))] t9.heap ∧ va_D (va_A [(d0, .inr (10, [.ref k0, .ref r0, .ref c0, .ref p0, .ref fd0, .ref w0, .ref e0, .ref b0, .ref a0, .ref y0, .ref g0, .ref i0, .int (nI ld)])), (k0, .inr (9, [.ref k1, .ref k2, .int (nI ts), .int s_ahead, .int s_at, .int s_fault, .int s_next, .int s_amount])), (k1, .inl (ax 1, 400, .inl tb)), (k2, .inl (ax 0, 401, .inl (fun j => nI (tk j))))] sz) [(d0, .inr (10, [.ref k0, .ref r0, .ref c0, .ref p0, .ref fd0, .ref w0, .ref e0, .ref b0, .ref a0, .ref y0, .ref g0, .ref i0, .int (nI ld)])), (k0, .inr (9, [.ref k1, .ref k2, .int (nI (ts + j1)), .int s_ahead, .int s_at, .int s_fault, .int s_next, .int s_amount])), (k1, .inl (ax 1, 400, .inl xtb)), (k2, .inl (ax 0, 401, .inl (fun j => nI (tk j))))]) (va_A [(d0, .inr (10, [.ref k0, .ref r0, .ref c0, .ref p0, .ref fd0, .ref w0, .ref e0, .ref b0, .ref a0, .ref y0, .ref g0, .ref i0, .int (nI ld)])), (k0, .inr (9, [.ref k1, .ref k2, .int (nI ts), .int s_ahead, .int s_at, .int s_fault, .int s_next, .int s_amount])), (k1, .inl (ax 1, 400, .inl tb)), (k2, .inl (ax 0, 401, .inl (fun j => nI (tk j))))] sz))) 0 0 (va_A [(d0, .inr (10, [.ref k0, .ref r0, .ref c0, .ref p0, .ref fd0, .ref w0, .ref e0, .ref b0, .ref a0, .ref y0, .ref g0, .ref i0, .int (nI ld)])), (k0, .inr (9, [.ref k1, .ref k2, .int (nI ts), .int s_ahead, .int s_at, .int s_fault, .int s_next, .int s_amount])), (k1, .inl (ax 1, 400, .inl tb)), (k2, .inl (ax 0, 401, .inl (fun j => nI (tk j))))] sz) := by
  refine Met.ofW (cc := b_Desk_type) (maxL := 4) (ret := (some .boolean)) (by decide) rfl ?_
  intro p e s m args below meth c s₁ B hml hv
  obtain ⟨rfl, hsz, hP, hK, hD0⟩ := hv
  have hx := B.exec
  have hb := B.bytes
  have hr := B.returns
  have hts := xw_hts B.pre
  have hown : s.vm.findClass R_Desk = some m.cls := findClass_of_methodNamed B.named
  have hlocks := B.notSynchronized
  subst hsz
  have hD := hD0.self (sz := s.heap.size)
  have hN := xz_entry hP
  generalize hAe : va_A [(d0, .inr (10, [.ref k0, .ref r0, .ref c0, .ref p0, .ref fd0, .ref w0, .ref e0, .ref b0, .ref a0, .ref y0, .ref g0, .ref i0, .int (nI ld)])), (k0, .inr (9, [.ref k1, .ref k2, .int (nI ts), .int s_ahead, .int s_at, .int s_fault, .int s_next, .int s_amount])), (k1, .inl (ax 1, 400, .inl tb)), (k2, .inl (ax 0, 401, .inl (fun j => nI (tk j))))] s.heap.size = A at hD hN ⊢
  have hA : ∀ q : Nat, s.heap.size ≤ q → A q := fun q h => by rw [← hAe]; exact Or.inr h
  have hS : va_S A s.heap s.heap [] := va_S.rf
  have hl0 := lv_entry ([.ref d0, .long w1, .int (nI j1)]) (n := 4) (Nat.le_of_ble_eq_true rfl)
  rw [lg_entry_eq]
  generalize (lg_sl ([.ref d0, .long w1, .int (nI j1)]) ++ List.replicate (4 - (lg_sl ([.ref d0, .long w1, .int (nI j1)])).length) Slot.unset).toArray = ls at hl0 ⊢
  have hl1 : lv_has ls 4 [(0, .ref d0), (1, .long w1), (3, .int (nI j1))] := hl0
  refine xw_gen (fun Z9 hQe => ?_)
  refine lv_aload_n hx hb d_Desk_type_0 rfl (lv_at hl1 0 rfl) ?_
  refine va_get (D := D) (ci := 10) (v := .ref k0) (C := R_Desk) (T := F_Desk) (N := 13) hx hb hts i_Desk hown hK.1 hP 0 rfl rfl 0 (by decide) (hts _ wd_375) (fun _ h9 => h9) rfl d_Desk_type_1 ?_
  refine lv_lload_n hx hb d_Desk_type_4 rfl (lv_at hl1 1 rfl) ?_
  refine lv_iload_n hx hb d_Desk_type_5 rfl (lv_at hl1 2 rfl) ?_
  obtain ⟨hPc, hDc, hFc, hCs⟩ := xw_sub3 (wc := [(k0, .inr (9, [.ref k1, .ref k2, .int (nI ts), .int s_ahead, .int s_at, .int s_fault, .int s_next, .int s_amount])), (k1, .inl (ax 1, 400, .inl tb)), (k2, .inl (ax 0, 401, .inl (fun j => nI (tk j))))]) hP hD hS hA [1, 2, 3] (by decide) rfl
  have hz := xz_of hN hS
  refine va_calli (va_runV (As := [.long w1, .int (nI j1)]) (rest := []) ⟨hx, hb, hml, hown, hts⟩ (c_T_append_ok l D ax k0 k1 k2 ts s_ahead s_at s_fault s_next s_amount tb tk w1 j1 s.heap.size (by first | assumption | omega) (by first | assumption | omega) (by first | assumption | omega) (by first | assumption | omega) hbt) (xcV (n := 2) hts wd_422 wd_2 wd_419 wd_420 wd_421 rfl rfl (by decide +kernel) ⟨Nat.le_of_ble_eq_true rfl, Nat.le_of_ble_eq_true rfl⟩) (xpV (ci := 9) (q0 := 0) (As := [.long w1, .int (nI j1)]) hPc hK hz hDc rfl rfl) rfl rfl hl1.1 rfl (lv_room (Nat.le_of_ble_eq_true rfl)) d_Desk_type_6 ⟨Nat.le_of_ble_eq_true rfl, Nat.le_of_ble_eq_true rfl⟩) hS (fun q _ h => hFc q h) hFc (fun r_3 u_1 t H_2 locs ht hvm hw hB hz1 hk1 hS1 => ?_)
  try dsimp only at hw
  subst hw
  obtain ⟨x_4, hx_5, hx_6, hP1, hD1⟩ := hB
  rw [ht] at hP1
  have hjn := xw_join3 (wl := [(d0, .inr (10, [.ref k0, .ref r0, .ref c0, .ref p0, .ref fd0, .ref w0, .ref e0, .ref b0, .ref a0, .ref y0, .ref g0, .ref i0, .int (nI ld)])), (k0, .inr (9, [.ref k1, .ref k2, .int (nI (ts + j1)), .int s_ahead, .int s_at, .int s_fault, .int s_next, .int s_amount])), (k1, .inl (ax 1, 400, .inl x_4)), (k2, .inl (ax 0, 401, .inl (fun j => nI (tk j))))]) hP hD [1, 2, 3] [0] hCs (by decide) (by decide) hk1 hFc hP1 hD1 rfl
  clear hP1 hD1
  clear hPc hDc hFc hCs hz hz1 hk1 ht hvm
  clear hP hD hS
  have hS := hS1
  obtain ⟨hP, hD⟩ := hjn
  clear hS1
  rw [← hQe]
  obtain ⟨hP9, hD9⟩ := xw_sub2 (wc := (fun (u : Nat → Nat) (xtb : Nat → Int32) => [(d0, .inr (10, [.ref k0, .ref r0, .ref c0, .ref p0, .ref fd0, .ref w0, .ref e0, .ref b0, .ref a0, .ref y0, .ref g0, .ref i0, .int (nI ld)])), (k0, .inr (9, [.ref k1, .ref k2, .int (nI (ts + j1)), .int s_ahead, .int s_at, .int s_fault, .int s_next, .int s_amount])), (k1, .inl (ax 1, 400, .inl xtb)), (k2, .inl (ax 0, 401, .inl (fun j => nI (tk j))))]) (ixn []) x_4) hP hD [0, 1, 2, 3] (by decide) rfl
  have hex0 : tyI (gtb tb) (gtb x_4) ts j1 w1 := (by assumption)
  have hex1 : bts x_4 400 := (by assumption)
  exact W.zret (v := 1) hx hb hr rfl (fun t ht hW => ⟨⟨1, ixn [], rfl, rfl, ⟨x_4, hex0, hex1, by rw [ht]; exact hP9, hD9⟩⟩, hS.F ht⟩) hS.2.2 d_Desk_type_9
