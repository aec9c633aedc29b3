abbrev b_Nodes_init : ByteArray := prog_6_method_1_code
def y_Nodes_init : MethodName := ⟨R_Nodes, "<init>", "()V"⟩
theorem d_Nodes_init_0 : decode b_Nodes_init 0 = .ok (.aload_n 0, 1) := by decide +kernel
theorem d_Nodes_init_1 : decode b_Nodes_init 1 = .ok (.invokespecial 1, 3) := by decide +kernel
theorem d_Nodes_init_4 : decode b_Nodes_init 4 = .ok (.aload_n 0, 1) := by decide +kernel
theorem d_Nodes_init_5 : decode b_Nodes_init 5 = .ok (.bipush 8, 2) := by decide +kernel
theorem d_Nodes_init_7 : decode b_Nodes_init 7 = .ok (.newarray .byte, 2) := by decide +kernel
theorem d_Nodes_init_9 : decode b_Nodes_init 9 = .ok (.putfield 7, 3) := by decide +kernel
theorem d_Nodes_init_12 : decode b_Nodes_init 12 = .ok (.aload_n 0, 1) := by decide +kernel
theorem d_Nodes_init_13 : decode b_Nodes_init 13 = .ok (.bipush 8, 2) := by decide +kernel
theorem d_Nodes_init_15 : decode b_Nodes_init 15 = .ok (.newarray .int, 2) := by decide +kernel
theorem d_Nodes_init_17 : decode b_Nodes_init 17 = .ok (.putfield 13, 3) := by decide +kernel
theorem d_Nodes_init_20 : decode b_Nodes_init 20 = .ok (.aload_n 0, 1) := by decide +kernel
theorem d_Nodes_init_21 : decode b_Nodes_init 21 = .ok (.bipush 8, 2) := by decide +kernel
theorem d_Nodes_init_23 : decode b_Nodes_init 23 = .ok (.newarray .int, 2) := by decide +kernel
theorem d_Nodes_init_25 : decode b_Nodes_init 25 = .ok (.putfield 17, 3) := by decide +kernel
theorem d_Nodes_init_28 : decode b_Nodes_init 28 = .ok (.return_, 1) := by decide +kernel
set_option maxHeartbeats 4000000 in
set_option maxRecDepth 100000 in
theorem c_Nodes_init (l : Launch) (D : va_G) (ax : Nat → ClassId) (h0 : Nat) (sz : Nat) : Met l y_Nodes_init (xws (.code y_Nodes_init b_Nodes_init 1 none)) ({ frames := 10, cells := 3, slots := 24, locals := 400 }) (va_Pc [.ref h0] (xo D ax [(h0, .inr (4, [.null, .null, .null, .int 0]))] sz)) ((va_Qv (fun (u : Nat → Nat) => True) (xb D (va_A [(h0, .inr (4, [.null, .null, .null, .int 0]))] sz) (fun u => [(h0, .inr (4, [.ref (u 0), .ref (u 1), .ref (u 2), .int 0])), (u 0, .inl (ax 1, 8, .inl (fun _ => 0))), (u 1, .inl (ax 0, 8, .inl (fun _ => 0))), (u 2, .inl (ax 0, 8, .inl (fun _ => 0)))])) (va_A [(h0, .inr (4, [.null, .null, .null, .int 0]))] sz))) 3 24 (va_A [(h0, .inr (4, [.null, .null, .null, .int 0]))] sz) := by
  refine Met.ofW (cc := b_Nodes_init) (maxL := 1) (ret := none) (by decide) rfl ?_
  intro p e s m args below meth c s₁ B hml hv
  obtain ⟨rfl, hsz, hP, hK, hD0⟩ := hv
  have hx := B.exec
  have hb := B.bytes
  have hr := B.returns
  have hts := xw_hts B.pre
  have hown : s.vm.findClass R_Nodes = some m.cls := findClass_of_methodNamed B.named
  have hlocks := B.notSynchronized
  have hin : meth.name = "<init>" := (name_of_methodNamed B.named B.method).1
  subst hsz
  have hD := hD0.self (sz := s.heap.size)
  have hN := xz_entry hP
  generalize hAe : va_A [(h0, .inr (4, [.null, .null, .null, .int 0]))] s.heap.size = A at hD hN ⊢
  have hA : ∀ q : Nat, s.heap.size ≤ q → A q := fun q h => by rw [← hAe]; exact Or.inr h
  have hS : va_S A s.heap s.heap [] := va_S.rf
  have hl0 := lv_entry ([.ref h0]) (n := 1) (Nat.le_of_ble_eq_true rfl)
  rw [lg_entry_eq]
  generalize (lg_sl ([.ref h0]) ++ List.replicate (1 - (lg_sl ([.ref h0])).length) Slot.unset).toArray = ls at hl0 ⊢
  have hl1 : lv_has ls 1 [(0, .ref h0)] := hl0
  refine lv_aload_n hx hb d_Nodes_init_0 rfl (lv_at hl1 0 rfl) ?_
  refine W.objInit hx hb hown (hts _ wd_102) (hts _ wd_32) (hts _ wd_oi) rfl (by rw [hml]; exact hl1.1) rfl d_Nodes_init_1 (Nat.le_of_ble_eq_true rfl) (Nat.le_of_ble_eq_true rfl) ?_
  refine W.eq (g2 := F0 m 4 ls []) rfl ?_
  refine lv_aload_n hx hb d_Nodes_init_4 rfl (lv_at hl1 0 rfl) ?_
  refine lv_bipush (v := 8) hx hb d_Nodes_init_5 (by decide) ?_
  refine xnewa (atype := .byte) (ty := .byte) (aX := ax 1) hx hb (hts _ wd_67) rfl hK.2.1.2.1 hP hD hS hA (xa_b 8) (by decide) (by decide) (by decide) (Nat.le_of_ble_eq_true rfl) (Nat.le_of_ble_eq_true rfl) d_Nodes_init_7 (fun q_1 H_2 hP hD hS => ?_)
  have hP : va_P D classes [(h0, .inr (4, [.null, .null, .null, .int 0])), (q_1, .inl (ax 1, 8, .inl (fun _ => 0)))] H_2 := hP
  have hD : va_D A [(h0, .inr (4, [.null, .null, .null, .int 0])), (q_1, .inl (ax 1, 8, .inl (fun _ => 0)))] := hD
  refine W.widen (k := 1) (n := 8) (Nat.le_of_ble_eq_true rfl) (Nat.le_of_ble_eq_true rfl) ?_
  refine va_put (D := D) (ci := 4) (v := .ref q_1) (ty := .array .byte) (C := R_Nodes) (T := F_Nodes) (N := 4) hx hb hts i_Nodes t_Nodes t_Nodes_ok n_Nodes hown hK.1 hP hD hS 0 rfl rfl 0 (by decide) (hts _ wd_103) (fun _ h9 => h9) rfl (by decide +kernel) rfl rfl (Nat.le_of_ble_eq_true rfl) d_Nodes_init_9 (fun H_3 locs hP hD hS => ?_)
  have hP : va_P D classes [(h0, .inr (4, [.ref q_1, .null, .null, .int 0])), (q_1, .inl (ax 1, 8, .inl (fun _ => 0)))] H_3 := hP
  have hD : va_D A [(h0, .inr (4, [.ref q_1, .null, .null, .int 0])), (q_1, .inl (ax 1, 8, .inl (fun _ => 0)))] := hD
  refine lv_aload_n hx hb d_Nodes_init_12 rfl (lv_at hl1 0 rfl) ?_
  refine lv_bipush (v := 8) hx hb d_Nodes_init_13 (by decide) ?_
  refine xnewa (atype := .int) (ty := .int) (aX := ax 0) hx hb (hts _ wd_68) rfl hK.2.1.1 hP hD hS hA (xa_i 8) (by decide) (by decide) (by decide) (Nat.le_of_ble_eq_true rfl) (Nat.le_of_ble_eq_true rfl) d_Nodes_init_15 (fun q_4 H_5 hP hD hS => ?_)
  have hP : va_P D classes [(h0, .inr (4, [.ref q_1, .null, .null, .int 0])), (q_1, .inl (ax 1, 8, .inl (fun _ => 0))), (q_4, .inl (ax 0, 8, .inl (fun _ => 0)))] H_5 := hP
  have hD : va_D A [(h0, .inr (4, [.ref q_1, .null, .null, .int 0])), (q_1, .inl (ax 1, 8, .inl (fun _ => 0))), (q_4, .inl (ax 0, 8, .inl (fun _ => 0)))] := hD
  refine W.widen (k := 2) (n := 16) (Nat.le_of_ble_eq_true rfl) (Nat.le_of_ble_eq_true rfl) ?_
  refine va_put (D := D) (ci := 4) (v := .ref q_4) (ty := .array .int) (C := R_Nodes) (T := F_Nodes) (N := 4) hx hb hts i_Nodes t_Nodes t_Nodes_ok n_Nodes hown hK.1 hP hD hS 0 rfl rfl 1 (by decide) (hts _ wd_108) (fun _ h9 => h9) rfl (by decide +kernel) rfl rfl (Nat.le_of_ble_eq_true rfl) d_Nodes_init_17 (fun H_6 locs hP hD hS => ?_)
  have hP : va_P D classes [(h0, .inr (4, [.ref q_1, .ref q_4, .null, .int 0])), (q_1, .inl (ax 1, 8, .inl (fun _ => 0))), (q_4, .inl (ax 0, 8, .inl (fun _ => 0)))] H_6 := hP
  have hD : va_D A [(h0, .inr (4, [.ref q_1, .ref q_4, .null, .int 0])), (q_1, .inl (ax 1, 8, .inl (fun _ => 0))), (q_4, .inl (ax 0, 8, .inl (fun _ => 0)))] := hD
  refine lv_aload_n hx hb d_Nodes_init_20 rfl (lv_at hl1 0 rfl) ?_
  refine lv_bipush (v := 8) hx hb d_Nodes_init_21 (by decide) ?_
  refine xnewa (atype := .int) (ty := .int) (aX := ax 0) hx hb (hts _ wd_68) rfl hK.2.1.1 hP hD hS hA (xa_i 8) (by decide) (by decide) (by decide) (Nat.le_of_ble_eq_true rfl) (Nat.le_of_ble_eq_true rfl) d_Nodes_init_23 (fun q_7 H_8 hP hD hS => ?_)
  have hP : va_P D classes [(h0, .inr (4, [.ref q_1, .ref q_4, .null, .int 0])), (q_1, .inl (ax 1, 8, .inl (fun _ => 0))), (q_4, .inl (ax 0, 8, .inl (fun _ => 0))), (q_7, .inl (ax 0, 8, .inl (fun _ => 0)))] H_8 := hP
  have hD : va_D A [(h0, .inr (4, [.ref q_1, .ref q_4, .null, .int 0])), (q_1, .inl (ax 1, 8, .inl (fun _ => 0))), (q_4, .inl (ax 0, 8, .inl (fun _ => 0))), (q_7, .inl (ax 0, 8, .inl (fun _ => 0)))] := hD
  refine W.widen (k := 3) (n := 24) (Nat.le_of_ble_eq_true rfl) (Nat.le_of_ble_eq_true rfl) ?_
  refine va_put (D := D) (ci := 4) (v := .ref q_7) (ty := .array .int) (C := R_Nodes) (T := F_Nodes) (N := 4) hx hb hts i_Nodes t_Nodes t_Nodes_ok n_Nodes hown hK.1 hP hD hS 0 rfl rfl 2 (by decide) (hts _ wd_113) (fun _ h9 => h9) rfl (by decide +kernel) rfl rfl (Nat.le_of_ble_eq_true rfl) d_Nodes_init_25 (fun H_9 locs hP hD hS => ?_)
  have hP : va_P D classes [(h0, .inr (4, [.ref q_1, .ref q_4, .ref q_7, .int 0])), (q_1, .inl (ax 1, 8, .inl (fun _ => 0))), (q_4, .inl (ax 0, 8, .inl (fun _ => 0))), (q_7, .inl (ax 0, 8, .inl (fun _ => 0)))] H_9 := hP
  have hD : va_D A [(h0, .inr (4, [.ref q_1, .ref q_4, .ref q_7, .int 0])), (q_1, .inl (ax 1, 8, .inl (fun _ => 0))), (q_4, .inl (ax 0, 8, .inl (fun _ => 0))), (q_7, .inl (ax 0, 8, .inl (fun _ => 0)))] := hD
  have hP9 := hP.sub (ws' := (fun u : Nat → Nat => [(h0, .inr (4, [.ref (u 0), .ref (u 1), .ref (u 2), .int 0])), (u 0, .inl (ax 1, 8, .inl (fun _ => 0))), (u 1, .inl (ax 0, 8, .inl (fun _ => 0))), (u 2, .inl (ax 0, 8, .inl (fun _ => 0)))]) (ixn [q_1, q_4, q_7])) [0, 1, 2, 3] rfl
  have hD9 := hD.sub (ws' := (fun u : Nat → Nat => [(h0, .inr (4, [.ref (u 0), .ref (u 1), .ref (u 2), .int 0])), (u 0, .inl (ax 1, 8, .inl (fun _ => 0))), (u 1, .inl (ax 0, 8, .inl (fun _ => 0))), (u 2, .inl (ax 0, 8, .inl (fun _ => 0)))]) (ixn [q_1, q_4, q_7])) [0, 1, 2, 3] (by decide) rfl
  exact W.vret hx hb hr (fun t ht hW => ⟨⟨ixn [q_1, q_4, q_7], rfl, trivial, ⟨by rw [ht]; exact hP9, hD9⟩⟩, hS.F ht⟩) hS.2.2 d_Nodes_init_28
abbrev b_Tokens_init : ByteArray := prog_11_method_1_code
def y_Tokens_init : MethodName := ⟨R_Tokens, "<init>", "()V"⟩
theorem d_Tokens_init_0 : decode b_Tokens_init 0 = .ok (.aload_n 0, 1) := by decide +kernel
theorem d_Tokens_init_1 : decode b_Tokens_init 1 = .ok (.invokespecial 3, 3) := by decide +kernel
theorem d_Tokens_init_4 : decode b_Tokens_init 4 = .ok (.aload_n 0, 1) := by decide +kernel
theorem d_Tokens_init_5 : decode b_Tokens_init 5 = .ok (.sipush 400, 3) := by decide +kernel
theorem d_Tokens_init_8 : decode b_Tokens_init 8 = .ok (.newarray .byte, 2) := by decide +kernel
theorem d_Tokens_init_10 : decode b_Tokens_init 10 = .ok (.putfield 9, 3) := by decide +kernel
theorem d_Tokens_init_13 : decode b_Tokens_init 13 = .ok (.aload_n 0, 1) := by decide +kernel
theorem d_Tokens_init_14 : decode b_Tokens_init 14 = .ok (.sipush 401, 3) := by decide +kernel
theorem d_Tokens_init_17 : decode b_Tokens_init 17 = .ok (.newarray .int, 2) := by decide +kernel
theorem d_Tokens_init_19 : decode b_Tokens_init 19 = .ok (.putfield 15, 3) := by decide +kernel
theorem d_Tokens_init_22 : decode b_Tokens_init 22 = .ok (.aload_n 0, 1) := by decide +kernel
theorem d_Tokens_init_23 : decode b_Tokens_init 23 = .ok (.iconst (-1), 1) := by decide +kernel
theorem d_Tokens_init_24 : decode b_Tokens_init 24 = .ok (.putfield 19, 3) := by decide +kernel
theorem d_Tokens_init_27 : decode b_Tokens_init 27 = .ok (.return_, 1) := by decide +kernel
set_option maxHeartbeats 4000000 in
set_option maxRecDepth 100000 in
theorem c_Tokens_init (l : Launch) (D : va_G) (ax : Nat → ClassId) (h0 : Nat) (sz : Nat) : Met l y_Tokens_init (xws (.code y_Tokens_init b_Tokens_init 1 none)) ({ frames := 10, cells := 2, slots := 801, locals := 400 }) (va_Pc [.ref h0] (xo D ax [(h0, .inr (9, [.null, .null, .int 0, .int 0, .int 0, .int 0, .int 0, .int 0]))] sz)) ((va_Qv (fun (u : Nat → Nat) => True) (xb D (va_A [(h0, .inr (9, [.null, .null, .int 0, .int 0, .int 0, .int 0, .int 0, .int 0]))] sz) (fun u => [(h0, .inr (9, [.ref (u 0), .ref (u 1), .int 0, .int 0, .int 0, .int (-1), .int 0, .int 0])), (u 0, .inl (ax 1, 400, .inl (fun _ => 0))), (u 1, .inl (ax 0, 401, .inl (fun _ => 0)))])) (va_A [(h0, .inr (9, [.null, .null, .int 0, .int 0, .int 0, .int 0, .int 0, .int 0]))] sz))) 2 801 (va_A [(h0, .inr (9, [.null, .null, .int 0, .int 0, .int 0, .int 0, .int 0, .int 0]))] sz) := by
  refine Met.ofW (cc := b_Tokens_init) (maxL := 1) (ret := none) (by decide) rfl ?_
  intro p e s m args below meth c s₁ B hml hv
  obtain ⟨rfl, hsz, hP, hK, hD0⟩ := hv
  have hx := B.exec
  have hb := B.bytes
  have hr := B.returns
  have hts := xw_hts B.pre
  have hown : s.vm.findClass R_Tokens = some m.cls := findClass_of_methodNamed B.named
  have hlocks := B.notSynchronized
  have hin : meth.name = "<init>" := (name_of_methodNamed B.named B.method).1
  subst hsz
  have hD := hD0.self (sz := s.heap.size)
  have hN := xz_entry hP
  generalize hAe : va_A [(h0, .inr (9, [.null, .null, .int 0, .int 0, .int 0, .int 0, .int 0, .int 0]))] s.heap.size = A at hD hN ⊢
  have hA : ∀ q : Nat, s.heap.size ≤ q → A q := fun q h => by rw [← hAe]; exact Or.inr h
  have hS : va_S A s.heap s.heap [] := va_S.rf
  have hl0 := lv_entry ([.ref h0]) (n := 1) (Nat.le_of_ble_eq_true rfl)
  rw [lg_entry_eq]
  generalize (lg_sl ([.ref h0]) ++ List.replicate (1 - (lg_sl ([.ref h0])).length) Slot.unset).toArray = ls at hl0 ⊢
  have hl1 : lv_has ls 1 [(0, .ref h0)] := hl0
  refine lv_aload_n hx hb d_Tokens_init_0 rfl (lv_at hl1 0 rfl) ?_
  refine W.objInit hx hb hown (hts _ wd_39) (hts _ wd_32) (hts _ wd_oi) rfl (by rw [hml]; exact hl1.1) rfl d_Tokens_init_1 (Nat.le_of_ble_eq_true rfl) (Nat.le_of_ble_eq_true rfl) ?_
  refine W.eq (g2 := F0 m 4 ls []) rfl ?_
  refine lv_aload_n hx hb d_Tokens_init_4 rfl (lv_at hl1 0 rfl) ?_
  refine lv_sipush (v := 400) hx hb d_Tokens_init_5 (by decide) ?_
  refine xnewa (atype := .byte) (ty := .byte) (aX := ax 1) hx hb (hts _ wd_67) rfl hK.2.1.2.1 hP hD hS hA (xa_b 400) (by decide) (by decide) (by decide) (Nat.le_of_ble_eq_true rfl) (Nat.le_of_ble_eq_true rfl) d_Tokens_init_8 (fun q_1 H_2 hP hD hS => ?_)
  have hP : va_P D classes [(h0, .inr (9, [.null, .null, .int 0, .int 0, .int 0, .int 0, .int 0, .int 0])), (q_1, .inl (ax 1, 400, .inl (fun _ => 0)))] H_2 := hP
  have hD : va_D A [(h0, .inr (9, [.null, .null, .int 0, .int 0, .int 0, .int 0, .int 0, .int 0])), (q_1, .inl (ax 1, 400, .inl (fun _ => 0)))] := hD
  refine W.widen (k := 1) (n := 400) (Nat.le_of_ble_eq_true rfl) (Nat.le_of_ble_eq_true rfl) ?_
  refine va_putF (D := D) (ci := 9) (v := .ref q_1) (ty := .array .byte) (C := R_Tokens) (T := F_Tokens) (N := 8) hx hb hts i_Tokens t_Tokens t_Tokens_ok n_Tokens hown hK.1 hP hD hS 0 rfl rfl 0 (by decide) (hts _ wd_40) (fun _ h9 => h9) rfl hin rfl (by decide +kernel) rfl rfl (Nat.le_of_ble_eq_true rfl) d_Tokens_init_10 (fun H_3 locs hP hD hS => ?_)
  have hP : va_P D classes [(h0, .inr (9, [.ref q_1, .null, .int 0, .int 0, .int 0, .int 0, .int 0, .int 0])), (q_1, .inl (ax 1, 400, .inl (fun _ => 0)))] H_3 := hP
  have hD : va_D A [(h0, .inr (9, [.ref q_1, .null, .int 0, .int 0, .int 0, .int 0, .int 0, .int 0])), (q_1, .inl (ax 1, 400, .inl (fun _ => 0)))] := hD
  refine lv_aload_n hx hb d_Tokens_init_13 rfl (lv_at hl1 0 rfl) ?_
  refine lv_sipush (v := 401) hx hb d_Tokens_init_14 (by decide) ?_
  refine xnewa (atype := .int) (ty := .int) (aX := ax 0) hx hb (hts _ wd_68) rfl hK.2.1.1 hP hD hS hA (xa_i 401) (by decide) (by decide) (by decide) (Nat.le_of_ble_eq_true rfl) (Nat.le_of_ble_eq_true rfl) d_Tokens_init_17 (fun q_4 H_5 hP hD hS => ?_)
  have hP : va_P D classes [(h0, .inr (9, [.ref q_1, .null, .int 0, .int 0, .int 0, .int 0, .int 0, .int 0])), (q_1, .inl (ax 1, 400, .inl (fun _ => 0))), (q_4, .inl (ax 0, 401, .inl (fun _ => 0)))] H_5 := hP
  have hD : va_D A [(h0, .inr (9, [.ref q_1, .null, .int 0, .int 0, .int 0, .int 0, .int 0, .int 0])), (q_1, .inl (ax 1, 400, .inl (fun _ => 0))), (q_4, .inl (ax 0, 401, .inl (fun _ => 0)))] := hD
  refine W.widen (k := 2) (n := 801) (Nat.le_of_ble_eq_true rfl) (Nat.le_of_ble_eq_true rfl) ?_
  refine va_putF (D := D) (ci := 9) (v := .ref q_4) (ty := .array .int) (C := R_Tokens) (T := F_Tokens) (N := 8) hx hb hts i_Tokens t_Tokens t_Tokens_ok n_Tokens hown hK.1 hP hD hS 0 rfl rfl 1 (by decide) (hts _ wd_41) (fun _ h9 => h9) rfl hin rfl (by decide +kernel) rfl rfl (Nat.le_of_ble_eq_true rfl) d_Tokens_init_19 (fun H_6 locs hP hD hS => ?_)
  have hP : va_P D classes [(h0, .inr (9, [.ref q_1, .ref q_4, .int 0, .int 0, .int 0, .int 0, .int 0, .int 0])), (q_1, .inl (ax 1, 400, .inl (fun _ => 0))), (q_4, .inl (ax 0, 401, .inl (fun _ => 0)))] H_6 := hP
  have hD : va_D A [(h0, .inr (9, [.ref q_1, .ref q_4, .int 0, .int 0, .int 0, .int 0, .int 0, .int 0])), (q_1, .inl (ax 1, 400, .inl (fun _ => 0))), (q_4, .inl (ax 0, 401, .inl (fun _ => 0)))] := hD
  refine lv_aload_n hx hb d_Tokens_init_22 rfl (lv_at hl1 0 rfl) ?_
  refine lv_iconst (v := (-1)) hx hb d_Tokens_init_23 (by decide) ?_
  refine va_put (D := D) (ci := 9) (v := .int (-1)) (ty := .int) (C := R_Tokens) (T := F_Tokens) (N := 8) hx hb hts i_Tokens t_Tokens t_Tokens_ok n_Tokens hown hK.1 hP hD hS 0 rfl rfl 5 (by decide) (hts _ wd_45) (fun _ h9 => h9) rfl (by decide +kernel) rfl rfl (Nat.le_of_ble_eq_true rfl) d_Tokens_init_24 (fun H_7 locs hP hD hS => ?_)
  have hP : va_P D classes [(h0, .inr (9, [.ref q_1, .ref q_4, .int 0, .int 0, .int 0, .int (-1), .int 0, .int 0])), (q_1, .inl (ax 1, 400, .inl (fun _ => 0))), (q_4, .inl (ax 0, 401, .inl (fun _ => 0)))] H_7 := hP
  have hD : va_D A [(h0, .inr (9, [.ref q_1, .ref q_4, .int 0, .int 0, .int 0, .int (-1), .int 0, .int 0])), (q_1, .inl (ax 1, 400, .inl (fun _ => 0))), (q_4, .inl (ax 0, 401, .inl (fun _ => 0)))] := hD
  have hP9 := hP.sub (ws' := (fun u : Nat → Nat => [(h0, .inr (9, [.ref (u 0), .ref (u 1), .int 0, .int 0, .int 0, .int (-1), .int 0, .int 0])), (u 0, .inl (ax 1, 400, .inl (fun _ => 0))), (u 1, .inl (ax 0, 401, .inl (fun _ => 0)))]) (ixn [q_1, q_4])) [0, 1, 2] rfl
  have hD9 := hD.sub (ws' := (fun u : Nat → Nat => [(h0, .inr (9, [.ref (u 0), .ref (u 1), .int 0, .int 0, .int 0, .int (-1), .int 0, .int 0])), (u 0, .inl (ax 1, 400, .inl (fun _ => 0))), (u 1, .inl (ax 0, 401, .inl (fun _ => 0)))]) (ixn [q_1, q_4])) [0, 1, 2] (by decide) rfl
  exact W.vret hx hb hr (fun t ht hW => ⟨⟨ixn [q_1, q_4], rfl, trivial, ⟨by rw [ht]; exact hP9, hD9⟩⟩, hS.F ht⟩) hS.2.2 d_Tokens_init_27
abbrev b_Reader_init : ByteArray := prog_9_method_1_code
def y_Reader_init : MethodName := ⟨R_Reader, "<init>", "(LTripleDesk$Tokens;)V"⟩
theorem d_Reader_init_0 : decode b_Reader_init 0 = .ok (.aload_n 0, 1) := by decide +kernel
theorem d_Reader_init_1 : decode b_Reader_init 1 = .ok (.invokespecial 3, 3) := by decide +kernel
theorem d_Reader_init_4 : decode b_Reader_init 4 = .ok (.aload_n 0, 1) := by decide +kernel
theorem d_Reader_init_5 : decode b_Reader_init 5 = .ok (.aload_n 1, 1) := by decide +kernel
theorem d_Reader_init_6 : decode b_Reader_init 6 = .ok (.putfield 9, 3) := by decide +kernel
theorem d_Reader_init_9 : decode b_Reader_init 9 = .ok (.return_, 1) := by decide +kernel
set_option maxHeartbeats 4000000 in
set_option maxRecDepth 100000 in
theorem c_Reader_init (l : Launch) (D : va_G) (ax : Nat → ClassId) (h0 h1 : Nat) (sz : Nat) : Met l y_Reader_init (xws (.code y_Reader_init b_Reader_init 2 none)) ({ frames := 10, cells := 0, slots := 0, locals := 400 }) (va_Pc [.ref h0, .ref h1] (xo D ax [(h0, .inr (7, [.null, .null, .null, .int 0, .int 0]))] sz)) ((va_Qv (fun (u : Nat → Nat) => True) (xb D (va_A [(h0, .inr (7, [.null, .null, .null, .int 0, .int 0]))] sz) (fun u => [(h0, .inr (7, [.ref h1, .null, .null, .int 0, .int 0]))])) (va_A [(h0, .inr (7, [.null, .null, .null, .int 0, .int 0]))] sz))) 0 0 (va_A [(h0, .inr (7, [.null, .null, .null, .int 0, .int 0]))] sz) := by
  refine Met.ofW (cc := b_Reader_init) (maxL := 2) (ret := none) (by decide) rfl ?_
  intro p e s m args below meth c s₁ B hml hv
  obtain ⟨rfl, hsz, hP, hK, hD0⟩ := hv
  have hx := B.exec
  have hb := B.bytes
  have hr := B.returns
  have hts := xw_hts B.pre
  have hown : s.vm.findClass R_Reader = some m.cls := findClass_of_methodNamed B.named
  have hlocks := B.notSynchronized
  have hin : meth.name = "<init>" := (name_of_methodNamed B.named B.method).1
  subst hsz
  have hD := hD0.self (sz := s.heap.size)
  have hN := xz_entry hP
  generalize hAe : va_A [(h0, .inr (7, [.null, .null, .null, .int 0, .int 0]))] s.heap.size = A at hD hN ⊢
  have hA : ∀ q : Nat, s.heap.size ≤ q → A q := fun q h => by rw [← hAe]; exact Or.inr h
  have hS : va_S A s.heap s.heap [] := va_S.rf
  have hl0 := lv_entry ([.ref h0, .ref h1]) (n := 2) (Nat.le_of_ble_eq_true rfl)
  rw [lg_entry_eq]
  generalize (lg_sl ([.ref h0, .ref h1]) ++ List.replicate (2 - (lg_sl ([.ref h0, .ref h1])).length) Slot.unset).toArray = ls at hl0 ⊢
  have hl1 : lv_has ls 2 [(0, .ref h0), (1, .ref h1)] := hl0
  refine lv_aload_n hx hb d_Reader_init_0 rfl (lv_at hl1 0 rfl) ?_
  refine W.objInit hx hb hown (hts _ wd_74) (hts _ wd_32) (hts _ wd_oi) rfl (by rw [hml]; exact hl1.1) rfl d_Reader_init_1 (Nat.le_of_ble_eq_true rfl) (Nat.le_of_ble_eq_true rfl) ?_
  refine W.eq (g2 := F0 m 4 ls []) rfl ?_
  refine lv_aload_n hx hb d_Reader_init_4 rfl (lv_at hl1 0 rfl) ?_
  refine lv_aload_n hx hb d_Reader_init_5 rfl (lv_at hl1 1 rfl) ?_
  refine va_putF (D := D) (ci := 7) (v := .ref h1) (ty := .object "TripleDesk$Tokens") (C := R_Reader) (T := F_Reader) (N := 5) hx hb hts i_Reader t_Reader t_Reader_ok n_Reader hown hK.1 hP hD hS 0 rfl rfl 0 (by decide) (hts _ wd_75) (fun _ h9 => h9) rfl hin rfl (by decide +kernel) rfl rfl (Nat.le_of_ble_eq_true rfl) d_Reader_init_6 (fun H_1 locs hP hD hS => ?_)
  have hP : va_P D classes [(h0, .inr (7, [.ref h1, .null, .null, .int 0, .int 0]))] H_1 := hP
  have hD : va_D A [(h0, .inr (7, [.ref h1, .null, .null, .int 0, .int 0]))] := hD
  have hP9 := hP.sub (ws' := (fun u : Nat → Nat => [(h0, .inr (7, [.ref h1, .null, .null, .int 0, .int 0]))]) (ixn [])) [0] rfl
  have hD9 := hD.sub (ws' := (fun u : Nat → Nat => [(h0, .inr (7, [.ref h1, .null, .null, .int 0, .int 0]))]) (ixn [])) [0] (by decide) rfl
  exact W.vret hx hb hr (fun t ht hW => ⟨⟨ixn [], rfl, trivial, ⟨by rw [ht]; exact hP9, hD9⟩⟩, hS.F ht⟩) hS.2.2 d_Reader_init_9
abbrev b_Findings_init : ByteArray := prog_3_method_1_code
def y_Findings_init : MethodName := ⟨R_Findings, "<init>", "()V"⟩
theorem d_Findings_init_0 : decode b_Findings_init 0 = .ok (.aload_n 0, 1) := by decide +kernel
theorem d_Findings_init_1 : decode b_Findings_init 1 = .ok (.invokespecial 3, 3) := by decide +kernel
theorem d_Findings_init_4 : decode b_Findings_init 4 = .ok (.aload_n 0, 1) := by decide +kernel
theorem d_Findings_init_5 : decode b_Findings_init 5 = .ok (.bipush 29, 2) := by decide +kernel
theorem d_Findings_init_7 : decode b_Findings_init 7 = .ok (.newarray .short, 2) := by decide +kernel
theorem d_Findings_init_9 : decode b_Findings_init 9 = .ok (.putfield 9, 3) := by decide +kernel
theorem d_Findings_init_12 : decode b_Findings_init 12 = .ok (.aload_n 0, 1) := by decide +kernel
theorem d_Findings_init_13 : decode b_Findings_init 13 = .ok (.bipush 29, 2) := by decide +kernel
theorem d_Findings_init_15 : decode b_Findings_init 15 = .ok (.newarray .short, 2) := by decide +kernel
theorem d_Findings_init_17 : decode b_Findings_init 17 = .ok (.putfield 15, 3) := by decide +kernel
theorem d_Findings_init_20 : decode b_Findings_init 20 = .ok (.aload_n 0, 1) := by decide +kernel
theorem d_Findings_init_21 : decode b_Findings_init 21 = .ok (.bipush 29, 2) := by decide +kernel
theorem d_Findings_init_23 : decode b_Findings_init 23 = .ok (.newarray .short, 2) := by decide +kernel
theorem d_Findings_init_25 : decode b_Findings_init 25 = .ok (.putfield 18, 3) := by decide +kernel
theorem d_Findings_init_28 : decode b_Findings_init 28 = .ok (.aload_n 0, 1) := by decide +kernel
theorem d_Findings_init_29 : decode b_Findings_init 29 = .ok (.sipush 290, 3) := by decide +kernel
theorem d_Findings_init_32 : decode b_Findings_init 32 = .ok (.newarray .int, 2) := by decide +kernel
theorem d_Findings_init_34 : decode b_Findings_init 34 = .ok (.putfield 21, 3) := by decide +kernel
theorem d_Findings_init_37 : decode b_Findings_init 37 = .ok (.return_, 1) := by decide +kernel
set_option maxHeartbeats 4000000 in
set_option maxRecDepth 100000 in
theorem c_Findings_init (l : Launch) (D : va_G) (ax : Nat → ClassId) (h0 : Nat) (sz : Nat) : Met l y_Findings_init (xws (.code y_Findings_init b_Findings_init 1 none)) ({ frames := 10, cells := 4, slots := 377, locals := 400 }) (va_Pc [.ref h0] (xo D ax [(h0, .inr (1, [.null, .null, .null, .null]))] sz)) ((va_Qv (fun (u : Nat → Nat) => True) (xb D (va_A [(h0, .inr (1, [.null, .null, .null, .null]))] sz) (fun u => [(h0, .inr (1, [.ref (u 0), .ref (u 1), .ref (u 2), .ref (u 3)])), (u 0, .inl (ax 2, 29, .inl (fun _ => 0))), (u 1, .inl (ax 2, 29, .inl (fun _ => 0))), (u 2, .inl (ax 2, 29, .inl (fun _ => 0))), (u 3, .inl (ax 0, 290, .inl (fun _ => 0)))])) (va_A [(h0, .inr (1, [.null, .null, .null, .null]))] sz))) 4 377 (va_A [(h0, .inr (1, [.null, .null, .null, .null]))] sz) := by
  refine Met.ofW (cc := b_Findings_init) (maxL := 1) (ret := none) (by decide) rfl ?_
  intro p e s m args below meth c s₁ B hml hv
  obtain ⟨rfl, hsz, hP, hK, hD0⟩ := hv
  have hx := B.exec
  have hb := B.bytes
  have hr := B.returns
  have hts := xw_hts B.pre
  have hown : s.vm.findClass R_Findings = some m.cls := findClass_of_methodNamed B.named
  have hlocks := B.notSynchronized
  have hin : meth.name = "<init>" := (name_of_methodNamed B.named B.method).1
  subst hsz
  have hD := hD0.self (sz := s.heap.size)
  have hN := xz_entry hP
  generalize hAe : va_A [(h0, .inr (1, [.null, .null, .null, .null]))] s.heap.size = A at hD hN ⊢
  have hA : ∀ q : Nat, s.heap.size ≤ q → A q := fun q h => by rw [← hAe]; exact Or.inr h
  have hS : va_S A s.heap s.heap [] := va_S.rf
  have hl0 := lv_entry ([.ref h0]) (n := 1) (Nat.le_of_ble_eq_true rfl)
  rw [lg_entry_eq]
  generalize (lg_sl ([.ref h0]) ++ List.replicate (1 - (lg_sl ([.ref h0])).length) Slot.unset).toArray = ls at hl0 ⊢
  have hl1 : lv_has ls 1 [(0, .ref h0)] := hl0
  refine lv_aload_n hx hb d_Findings_init_0 rfl (lv_at hl1 0 rfl) ?_
  refine W.objInit hx hb hown (hts _ wd_213) (hts _ wd_32) (hts _ wd_oi) rfl (by rw [hml]; exact hl1.1) rfl d_Findings_init_1 (Nat.le_of_ble_eq_true rfl) (Nat.le_of_ble_eq_true rfl) ?_
  refine W.eq (g2 := F0 m 4 ls []) rfl ?_
  refine lv_aload_n hx hb d_Findings_init_4 rfl (lv_at hl1 0 rfl) ?_
  refine lv_bipush (v := 29) hx hb d_Findings_init_5 (by decide) ?_
  refine xnewa (atype := .short) (ty := .short) (aX := ax 2) hx hb (hts _ wd_207) rfl hK.2.1.2.2.1 hP hD hS hA (xa_s 29) (by decide) (by decide) (by decide) (Nat.le_of_ble_eq_true rfl) (Nat.le_of_ble_eq_true rfl) d_Findings_init_7 (fun q_1 H_2 hP hD hS => ?_)
  have hP : va_P D classes [(h0, .inr (1, [.null, .null, .null, .null])), (q_1, .inl (ax 2, 29, .inl (fun _ => 0)))] H_2 := hP
  have hD : va_D A [(h0, .inr (1, [.null, .null, .null, .null])), (q_1, .inl (ax 2, 29, .inl (fun _ => 0)))] := hD
  refine W.widen (k := 1) (n := 29) (Nat.le_of_ble_eq_true rfl) (Nat.le_of_ble_eq_true rfl) ?_
  refine va_putF (D := D) (ci := 1) (v := .ref q_1) (ty := .array .short) (C := R_Findings) (T := F_Findings) (N := 4) hx hb hts i_Findings t_Findings t_Findings_ok n_Findings hown hK.1 hP hD hS 0 rfl rfl 0 (by decide) (hts _ wd_214) (fun _ h9 => h9) rfl hin rfl (by decide +kernel) rfl rfl (Nat.le_of_ble_eq_true rfl) d_Findings_init_9 (fun H_3 locs hP hD hS => ?_)
  have hP : va_P D classes [(h0, .inr (1, [.ref q_1, .null, .null, .null])), (q_1, .inl (ax 2, 29, .inl (fun _ => 0)))] H_3 := hP
  have hD : va_D A [(h0, .inr (1, [.ref q_1, .null, .null, .null])), (q_1, .inl (ax 2, 29, .inl (fun _ => 0)))] := hD
  refine lv_aload_n hx hb d_Findings_init_12 rfl (lv_at hl1 0 rfl) ?_
  refine lv_bipush (v := 29) hx hb d_Findings_init_13 (by decide) ?_
  refine xnewa (atype := .short) (ty := .short) (aX := ax 2) hx hb (hts _ wd_207) rfl hK.2.1.2.2.1 hP hD hS hA (xa_s 29) (by decide) (by decide) (by decide) (Nat.le_of_ble_eq_true rfl) (Nat.le_of_ble_eq_true rfl) d_Findings_init_15 (fun q_4 H_5 hP hD hS => ?_)
  have hP : va_P D classes [(h0, .inr (1, [.ref q_1, .null, .null, .null])), (q_1, .inl (ax 2, 29, .inl (fun _ => 0))), (q_4, .inl (ax 2, 29, .inl (fun _ => 0)))] H_5 := hP
  have hD : va_D A [(h0, .inr (1, [.ref q_1, .null, .null, .null])), (q_1, .inl (ax 2, 29, .inl (fun _ => 0))), (q_4, .inl (ax 2, 29, .inl (fun _ => 0)))] := hD
  refine W.widen (k := 2) (n := 58) (Nat.le_of_ble_eq_true rfl) (Nat.le_of_ble_eq_true rfl) ?_
  refine va_putF (D := D) (ci := 1) (v := .ref q_4) (ty := .array .short) (C := R_Findings) (T := F_Findings) (N := 4) hx hb hts i_Findings t_Findings t_Findings_ok n_Findings hown hK.1 hP hD hS 0 rfl rfl 1 (by decide) (hts _ wd_216) (fun _ h9 => h9) rfl hin rfl (by decide +kernel) rfl rfl (Nat.le_of_ble_eq_true rfl) d_Findings_init_17 (fun H_6 locs hP hD hS => ?_)
  have hP : va_P D classes [(h0, .inr (1, [.ref q_1, .ref q_4, .null, .null])), (q_1, .inl (ax 2, 29, .inl (fun _ => 0))), (q_4, .inl (ax 2, 29, .inl (fun _ => 0)))] H_6 := hP
  have hD : va_D A [(h0, .inr (1, [.ref q_1, .ref q_4, .null, .null])), (q_1, .inl (ax 2, 29, .inl (fun _ => 0))), (q_4, .inl (ax 2, 29, .inl (fun _ => 0)))] := hD
  refine lv_aload_n hx hb d_Findings_init_20 rfl (lv_at hl1 0 rfl) ?_
  refine lv_bipush (v := 29) hx hb d_Findings_init_21 (by decide) ?_
  refine xnewa (atype := .short) (ty := .short) (aX := ax 2) hx hb (hts _ wd_207) rfl hK.2.1.2.2.1 hP hD hS hA (xa_s 29) (by decide) (by decide) (by decide) (Nat.le_of_ble_eq_true rfl) (Nat.le_of_ble_eq_true rfl) d_Findings_init_23 (fun q_7 H_8 hP hD hS => ?_)
  have hP : va_P D classes [(h0, .inr (1, [.ref q_1, .ref q_4, .null, .null])), (q_1, .inl (ax 2, 29, .inl (fun _ => 0))), (q_4, .inl (ax 2, 29, .inl (fun _ => 0))), (q_7, .inl (ax 2, 29, .inl (fun _ => 0)))] H_8 := hP
  have hD : va_D A [(h0, .inr (1, [.ref q_1, .ref q_4, .null, .null])), (q_1, .inl (ax 2, 29, .inl (fun _ => 0))), (q_4, .inl (ax 2, 29, .inl (fun _ => 0))), (q_7, .inl (ax 2, 29, .inl (fun _ => 0)))] := hD
  refine W.widen (k := 3) (n := 87) (Nat.le_of_ble_eq_true rfl) (Nat.le_of_ble_eq_true rfl) ?_
  refine va_putF (D := D) (ci := 1) (v := .ref q_7) (ty := .array .short) (C := R_Findings) (T := F_Findings) (N := 4) hx hb hts i_Findings t_Findings t_Findings_ok n_Findings hown hK.1 hP hD hS 0 rfl rfl 2 (by decide) (hts _ wd_218) (fun _ h9 => h9) rfl hin rfl (by decide +kernel) rfl rfl (Nat.le_of_ble_eq_true rfl) d_Findings_init_25 (fun H_9 locs hP hD hS => ?_)
  have hP : va_P D classes [(h0, .inr (1, [.ref q_1, .ref q_4, .ref q_7, .null])), (q_1, .inl (ax 2, 29, .inl (fun _ => 0))), (q_4, .inl (ax 2, 29, .inl (fun _ => 0))), (q_7, .inl (ax 2, 29, .inl (fun _ => 0)))] H_9 := hP
  have hD : va_D A [(h0, .inr (1, [.ref q_1, .ref q_4, .ref q_7, .null])), (q_1, .inl (ax 2, 29, .inl (fun _ => 0))), (q_4, .inl (ax 2, 29, .inl (fun _ => 0))), (q_7, .inl (ax 2, 29, .inl (fun _ => 0)))] := hD
  refine lv_aload_n hx hb d_Findings_init_28 rfl (lv_at hl1 0 rfl) ?_
  refine lv_sipush (v := 290) hx hb d_Findings_init_29 (by decide) ?_
  refine xnewa (atype := .int) (ty := .int) (aX := ax 0) hx hb (hts _ wd_68) rfl hK.2.1.1 hP hD hS hA (xa_i 290) (by decide) (by decide) (by decide) (Nat.le_of_ble_eq_true rfl) (Nat.le_of_ble_eq_true rfl) d_Findings_init_32 (fun q_10 H_11 hP hD hS => ?_)
  have hP : va_P D classes [(h0, .inr (1, [.ref q_1, .ref q_4, .ref q_7, .null])), (q_1, .inl (ax 2, 29, .inl (fun _ => 0))), (q_4, .inl (ax 2, 29, .inl (fun _ => 0))), (q_7, .inl (ax 2, 29, .inl (fun _ => 0))), (q_10, .inl (ax 0, 290, .inl (fun _ => 0)))] H_11 := hP
  have hD : va_D A [(h0, .inr (1, [.ref q_1, .ref q_4, .ref q_7, .null])), (q_1, .inl (ax 2, 29, .inl (fun _ => 0))), (q_4, .inl (ax 2, 29, .inl (fun _ => 0))), (q_7, .inl (ax 2, 29, .inl (fun _ => 0))), (q_10, .inl (ax 0, 290, .inl (fun _ => 0)))] := hD
  refine W.widen (k := 4) (n := 377) (Nat.le_of_ble_eq_true rfl) (Nat.le_of_ble_eq_true rfl) ?_
  refine va_putF (D := D) (ci := 1) (v := .ref q_10) (ty := .array .int) (C := R_Findings) (T := F_Findings) (N := 4) hx hb hts i_Findings t_Findings t_Findings_ok n_Findings hown hK.1 hP hD hS 0 rfl rfl 3 (by decide) (hts _ wd_220) (fun _ h9 => h9) rfl hin rfl (by decide +kernel) rfl rfl (Nat.le_of_ble_eq_true rfl) d_Findings_init_34 (fun H_12 locs hP hD hS => ?_)
  have hP : va_P D classes [(h0, .inr (1, [.ref q_1, .ref q_4, .ref q_7, .ref q_10])), (q_1, .inl (ax 2, 29, .inl (fun _ => 0))), (q_4, .inl (ax 2, 29, .inl (fun _ => 0))), (q_7, .inl (ax 2, 29, .inl (fun _ => 0))), (q_10, .inl (ax 0, 290, .inl (fun _ => 0)))] H_12 := hP
  have hD : va_D A [(h0, .inr (1, [.ref q_1, .ref q_4, .ref q_7, .ref q_10])), (q_1, .inl (ax 2, 29, .inl (fun _ => 0))), (q_4, .inl (ax 2, 29, .inl (fun _ => 0))), (q_7, .inl (ax 2, 29, .inl (fun _ => 0))), (q_10, .inl (ax 0, 290, .inl (fun _ => 0)))] := hD
  have hP9 := hP.sub (ws' := (fun u : Nat → Nat => [(h0, .inr (1, [.ref (u 0), .ref (u 1), .ref (u 2), .ref (u 3)])), (u 0, .inl (ax 2, 29, .inl (fun _ => 0))), (u 1, .inl (ax 2, 29, .inl (fun _ => 0))), (u 2, .inl (ax 2, 29, .inl (fun _ => 0))), (u 3, .inl (ax 0, 290, .inl (fun _ => 0)))]) (ixn [q_1, q_4, q_7, q_10])) [0, 1, 2, 3, 4] rfl
  have hD9 := hD.sub (ws' := (fun u : Nat → Nat => [(h0, .inr (1, [.ref (u 0), .ref (u 1), .ref (u 2), .ref (u 3)])), (u 0, .inl (ax 2, 29, .inl (fun _ => 0))), (u 1, .inl (ax 2, 29, .inl (fun _ => 0))), (u 2, .inl (ax 2, 29, .inl (fun _ => 0))), (u 3, .inl (ax 0, 290, .inl (fun _ => 0)))]) (ixn [q_1, q_4, q_7, q_10])) [0, 1, 2, 3, 4] (by decide) rfl
  exact W.vret hx hb hr (fun t ht hW => ⟨⟨ixn [q_1, q_4, q_7, q_10], rfl, trivial, ⟨by rw [ht]; exact hP9, hD9⟩⟩, hS.F ht⟩) hS.2.2 d_Findings_init_37
abbrev b_Paper_init : ByteArray := prog_7_method_1_code
def y_Paper_init : MethodName := ⟨R_Paper, "<init>", "()V"⟩
theorem d_Paper_init_0 : decode b_Paper_init 0 = .ok (.aload_n 0, 1) := by decide +kernel
theorem d_Paper_init_1 : decode b_Paper_init 1 = .ok (.invokespecial 3, 3) := by decide +kernel
theorem d_Paper_init_4 : decode b_Paper_init 4 = .ok (.aload_n 0, 1) := by decide +kernel
theorem d_Paper_init_5 : decode b_Paper_init 5 = .ok (.bipush 32, 2) := by decide +kernel
theorem d_Paper_init_7 : decode b_Paper_init 7 = .ok (.newarray .byte, 2) := by decide +kernel
theorem d_Paper_init_9 : decode b_Paper_init 9 = .ok (.putfield 9, 3) := by decide +kernel
theorem d_Paper_init_12 : decode b_Paper_init 12 = .ok (.return_, 1) := by decide +kernel
set_option maxHeartbeats 4000000 in
set_option maxRecDepth 100000 in
theorem c_Paper_init (l : Launch) (D : va_G) (ax : Nat → ClassId) (h0 : Nat) (sz : Nat) : Met l y_Paper_init (xws (.code y_Paper_init b_Paper_init 1 none)) ({ frames := 10, cells := 1, slots := 32, locals := 400 }) (va_Pc [.ref h0] (xo D ax [(h0, .inr (5, [.null, .int 0]))] sz)) ((va_Qv (fun (u : Nat → Nat) => True) (xb D (va_A [(h0, .inr (5, [.null, .int 0]))] sz) (fun u => [(h0, .inr (5, [.ref (u 0), .int 0])), (u 0, .inl (ax 1, 32, .inl (fun _ => 0)))])) (va_A [(h0, .inr (5, [.null, .int 0]))] sz))) 1 32 (va_A [(h0, .inr (5, [.null, .int 0]))] sz) := by
  refine Met.ofW (cc := b_Paper_init) (maxL := 1) (ret := none) (by decide) rfl ?_
  intro p e s m args below meth c s₁ B hml hv
  obtain ⟨rfl, hsz, hP, hK, hD0⟩ := hv
  have hx := B.exec
  have hb := B.bytes
  have hr := B.returns
  have hts := xw_hts B.pre
  have hown : s.vm.findClass R_Paper = some m.cls := findClass_of_methodNamed B.named
  have hlocks := B.notSynchronized
  have hin : meth.name = "<init>" := (name_of_methodNamed B.named B.method).1
  subst hsz
  have hD := hD0.self (sz := s.heap.size)
  have hN := xz_entry hP
  generalize hAe : va_A [(h0, .inr (5, [.null, .int 0]))] s.heap.size = A at hD hN ⊢
  have hA : ∀ q : Nat, s.heap.size ≤ q → A q := fun q h => by rw [← hAe]; exact Or.inr h
  have hS : va_S A s.heap s.heap [] := va_S.rf
  have hl0 := lv_entry ([.ref h0]) (n := 1) (Nat.le_of_ble_eq_true rfl)
  rw [lg_entry_eq]
  generalize (lg_sl ([.ref h0]) ++ List.replicate (1 - (lg_sl ([.ref h0])).length) Slot.unset).toArray = ls at hl0 ⊢
  have hl1 : lv_has ls 1 [(0, .ref h0)] := hl0
  refine lv_aload_n hx hb d_Paper_init_0 rfl (lv_at hl1 0 rfl) ?_
  refine W.objInit hx hb hown (hts _ wd_235) (hts _ wd_32) (hts _ wd_oi) rfl (by rw [hml]; exact hl1.1) rfl d_Paper_init_1 (Nat.le_of_ble_eq_true rfl) (Nat.le_of_ble_eq_true rfl) ?_
  refine W.eq (g2 := F0 m 4 ls []) rfl ?_
  refine lv_aload_n hx hb d_Paper_init_4 rfl (lv_at hl1 0 rfl) ?_
  refine lv_bipush (v := 32) hx hb d_Paper_init_5 (by decide) ?_
  refine xnewa (atype := .byte) (ty := .byte) (aX := ax 1) hx hb (hts _ wd_67) rfl hK.2.1.2.1 hP hD hS hA (xa_b 32) (by decide) (by decide) (by decide) (Nat.le_of_ble_eq_true rfl) (Nat.le_of_ble_eq_true rfl) d_Paper_init_7 (fun q_1 H_2 hP hD hS => ?_)
  have hP : va_P D classes [(h0, .inr (5, [.null, .int 0])), (q_1, .inl (ax 1, 32, .inl (fun _ => 0)))] H_2 := hP
  have hD : va_D A [(h0, .inr (5, [.null, .int 0])), (q_1, .inl (ax 1, 32, .inl (fun _ => 0)))] := hD
  refine W.widen (k := 1) (n := 32) (Nat.le_of_ble_eq_true rfl) (Nat.le_of_ble_eq_true rfl) ?_
  refine va_put (D := D) (ci := 5) (v := .ref q_1) (ty := .array .byte) (C := R_Paper) (T := F_Paper) (N := 2) hx hb hts i_Paper t_Paper t_Paper_ok n_Paper hown hK.1 hP hD hS 0 rfl rfl 0 (by decide) (hts _ wd_236) (fun _ h9 => h9) rfl (by decide +kernel) rfl rfl (Nat.le_of_ble_eq_true rfl) d_Paper_init_9 (fun H_3 locs hP hD hS => ?_)
  have hP : va_P D classes [(h0, .inr (5, [.ref q_1, .int 0])), (q_1, .inl (ax 1, 32, .inl (fun _ => 0)))] H_3 := hP
  have hD : va_D A [(h0, .inr (5, [.ref q_1, .int 0])), (q_1, .inl (ax 1, 32, .inl (fun _ => 0)))] := hD
  have hP9 := hP.sub (ws' := (fun u : Nat → Nat => [(h0, .inr (5, [.ref (u 0), .int 0])), (u 0, .inl (ax 1, 32, .inl (fun _ => 0)))]) (ixn [q_1])) [0, 1] rfl
  have hD9 := hD.sub (ws' := (fun u : Nat → Nat => [(h0, .inr (5, [.ref (u 0), .int 0])), (u 0, .inl (ax 1, 32, .inl (fun _ => 0)))]) (ixn [q_1])) [0, 1] (by decide) rfl
  exact W.vret hx hb hr (fun t ht hW => ⟨⟨ixn [q_1], rfl, trivial, ⟨by rw [ht]; exact hP9, hD9⟩⟩, hS.F ht⟩) hS.2.2 d_Paper_init_12
abbrev b_Runner_init : ByteArray := prog_10_method_1_code
def y_Runner_init : MethodName := ⟨R_Runner, "<init>", "()V"⟩
theorem d_Runner_init_0 : decode b_Runner_init 0 = .ok (.aload_n 0, 1) := by decide +kernel
theorem d_Runner_init_1 : decode b_Runner_init 1 = .ok (.invokespecial 3, 3) := by decide +kernel
theorem d_Runner_init_4 : decode b_Runner_init 4 = .ok (.aload_n 0, 1) := by decide +kernel
theorem d_Runner_init_5 : decode b_Runner_init 5 = .ok (.bipush 6, 2) := by decide +kernel
theorem d_Runner_init_7 : decode b_Runner_init 7 = .ok (.newarray .long, 2) := by decide +kernel
theorem d_Runner_init_9 : decode b_Runner_init 9 = .ok (.putfield 9, 3) := by decide +kernel
theorem d_Runner_init_12 : decode b_Runner_init 12 = .ok (.return_, 1) := by decide +kernel
set_option maxHeartbeats 4000000 in
set_option maxRecDepth 100000 in
theorem c_Runner_init (l : Launch) (D : va_G) (ax : Nat → ClassId) (h0 : Nat) (sz : Nat) : Met l y_Runner_init (xws (.code y_Runner_init b_Runner_init 1 none)) ({ frames := 10, cells := 1, slots := 6, locals := 400 }) (va_Pc [.ref h0] (xo D ax [(h0, .inr (8, [.null]))] sz)) ((va_Qv (fun (u : Nat → Nat) => True) (xb D (va_A [(h0, .inr (8, [.null]))] sz) (fun u => [(h0, .inr (8, [.ref (u 0)])), (u 0, .inl (ax 4, 6, .inr (.inl (fun _ => 0))))])) (va_A [(h0, .inr (8, [.null]))] sz))) 1 6 (va_A [(h0, .inr (8, [.null]))] sz) := by
  refine Met.ofW (cc := b_Runner_init) (maxL := 1) (ret := none) (by decide) rfl ?_
  intro p e s m args below meth c s₁ B hml hv
  obtain ⟨rfl, hsz, hP, hK, hD0⟩ := hv
  have hx := B.exec
  have hb := B.bytes
  have hr := B.returns
  have hts := xw_hts B.pre
  have hown : s.vm.findClass R_Runner = some m.cls := findClass_of_methodNamed B.named
  have hlocks := B.notSynchronized
  have hin : meth.name = "<init>" := (name_of_methodNamed B.named B.method).1
  subst hsz
  have hD := hD0.self (sz := s.heap.size)
  have hN := xz_entry hP
  generalize hAe : va_A [(h0, .inr (8, [.null]))] s.heap.size = A at hD hN ⊢
  have hA : ∀ q : Nat, s.heap.size ≤ q → A q := fun q h => by rw [← hAe]; exact Or.inr h
  have hS : va_S A s.heap s.heap [] := va_S.rf
  have hl0 := lv_entry ([.ref h0]) (n := 1) (Nat.le_of_ble_eq_true rfl)
  rw [lg_entry_eq]
  generalize (lg_sl ([.ref h0]) ++ List.replicate (1 - (lg_sl ([.ref h0])).length) Slot.unset).toArray = ls at hl0 ⊢
  have hl1 : lv_has ls 1 [(0, .ref h0)] := hl0
  refine lv_aload_n hx hb d_Runner_init_0 rfl (lv_at hl1 0 rfl) ?_
  refine W.objInit hx hb hown (hts _ wd_250) (hts _ wd_32) (hts _ wd_oi) rfl (by rw [hml]; exact hl1.1) rfl d_Runner_init_1 (Nat.le_of_ble_eq_true rfl) (Nat.le_of_ble_eq_true rfl) ?_
  refine W.eq (g2 := F0 m 4 ls []) rfl ?_
  refine lv_aload_n hx hb d_Runner_init_4 rfl (lv_at hl1 0 rfl) ?_
  refine lv_bipush (v := 6) hx hb d_Runner_init_5 (by decide) ?_
  refine xnewa (atype := .long) (ty := .long) (aX := ax 4) hx hb (hts _ wd_256) rfl hK.2.1.2.2.2.2 hP hD hS hA (xa_j 6) (by decide) (by decide) (by decide) (Nat.le_of_ble_eq_true rfl) (Nat.le_of_ble_eq_true rfl) d_Runner_init_7 (fun q_1 H_2 hP hD hS => ?_)
  have hP : va_P D classes [(h0, .inr (8, [.null])), (q_1, .inl (ax 4, 6, .inr (.inl (fun _ => 0))))] H_2 := hP
  have hD : va_D A [(h0, .inr (8, [.null])), (q_1, .inl (ax 4, 6, .inr (.inl (fun _ => 0))))] := hD
  refine W.widen (k := 1) (n := 6) (Nat.le_of_ble_eq_true rfl) (Nat.le_of_ble_eq_true rfl) ?_
  refine va_putF (D := D) (ci := 8) (v := .ref q_1) (ty := .array .long) (C := R_Runner) (T := F_Runner) (N := 1) hx hb hts i_Runner t_Runner t_Runner_ok n_Runner hown hK.1 hP hD hS 0 rfl rfl 0 (by decide) (hts _ wd_251) (fun _ h9 => h9) rfl hin rfl (by decide +kernel) rfl rfl (Nat.le_of_ble_eq_true rfl) d_Runner_init_9 (fun H_3 locs hP hD hS => ?_)
  have hP : va_P D classes [(h0, .inr (8, [.ref q_1])), (q_1, .inl (ax 4, 6, .inr (.inl (fun _ => 0))))] H_3 := hP
  have hD : va_D A [(h0, .inr (8, [.ref q_1])), (q_1, .inl (ax 4, 6, .inr (.inl (fun _ => 0))))] := hD
  have hP9 := hP.sub (ws' := (fun u : Nat → Nat => [(h0, .inr (8, [.ref (u 0)])), (u 0, .inl (ax 4, 6, .inr (.inl (fun _ => 0))))]) (ixn [q_1])) [0, 1] rfl
  have hD9 := hD.sub (ws' := (fun u : Nat → Nat => [(h0, .inr (8, [.ref (u 0)])), (u 0, .inl (ax 4, 6, .inr (.inl (fun _ => 0))))]) (ixn [q_1])) [0, 1] (by decide) rfl
  exact W.vret hx hb hr (fun t ht hW => ⟨⟨ixn [q_1], rfl, trivial, ⟨by rw [ht]; exact hP9, hD9⟩⟩, hS.F ht⟩) hS.2.2 d_Runner_init_12
abbrev b_Maker_init : ByteArray := prog_5_method_1_code
def y_Maker_init : MethodName := ⟨R_Maker, "<init>", "()V"⟩
theorem d_Maker_init_0 : decode b_Maker_init 0 = .ok (.aload_n 0, 1) := by decide +kernel
theorem d_Maker_init_1 : decode b_Maker_init 1 = .ok (.invokespecial 3, 3) := by decide +kernel
theorem d_Maker_init_4 : decode b_Maker_init 4 = .ok (.aload_n 0, 1) := by decide +kernel
theorem d_Maker_init_5 : decode b_Maker_init 5 = .ok (.new 9, 3) := by decide +kernel
theorem d_Maker_init_8 : decode b_Maker_init 8 = .ok (.dup, 1) := by decide +kernel
theorem d_Maker_init_9 : decode b_Maker_init 9 = .ok (.invokespecial 11, 3) := by decide +kernel
theorem d_Maker_init_12 : decode b_Maker_init 12 = .ok (.putfield 12, 3) := by decide +kernel
theorem d_Maker_init_15 : decode b_Maker_init 15 = .ok (.aload_n 0, 1) := by decide +kernel
theorem d_Maker_init_16 : decode b_Maker_init 16 = .ok (.bipush 16, 2) := by decide +kernel
theorem d_Maker_init_18 : decode b_Maker_init 18 = .ok (.newarray .int, 2) := by decide +kernel
theorem d_Maker_init_20 : decode b_Maker_init 20 = .ok (.putfield 18, 3) := by decide +kernel
theorem d_Maker_init_23 : decode b_Maker_init 23 = .ok (.aload_n 0, 1) := by decide +kernel
theorem d_Maker_init_24 : decode b_Maker_init 24 = .ok (.iconst (-1), 1) := by decide +kernel
theorem d_Maker_init_25 : decode b_Maker_init 25 = .ok (.putfield 22, 3) := by decide +kernel
theorem d_Maker_init_28 : decode b_Maker_init 28 = .ok (.return_, 1) := by decide +kernel
set_option maxHeartbeats 4000000 in
set_option maxRecDepth 100000 in
theorem c_Maker_init (l : Launch) (D : va_G) (ax : Nat → ClassId) (h0 : Nat) (sz : Nat) : Met l y_Maker_init (xws (.code y_Maker_init b_Maker_init 1 none)) ({ frames := 20, cells := 5, slots := 44, locals := 800 }) (va_Pc [.ref h0] (xo D ax [(h0, .inr (3, [.null, .null, .null, .null, .int 0]))] sz)) ((va_Qv (fun (u : Nat → Nat) => True) (xb D (va_A [(h0, .inr (3, [.null, .null, .null, .null, .int 0]))] sz) (fun u => [(h0, .inr (3, [.ref (u 0), .ref (u 4), .null, .null, .int (-1)])), (u 0, .inr (4, [.ref (u 1), .ref (u 2), .ref (u 3), .int 0])), (u 1, .inl (ax 1, 8, .inl (fun _ => 0))), (u 2, .inl (ax 0, 8, .inl (fun _ => 0))), (u 3, .inl (ax 0, 8, .inl (fun _ => 0))), (u 4, .inl (ax 0, 16, .inl (fun _ => 0)))])) (va_A [(h0, .inr (3, [.null, .null, .null, .null, .int 0]))] sz))) 5 44 (va_A [(h0, .inr (3, [.null, .null, .null, .null, .int 0]))] sz) := by
  refine Met.ofW (cc := b_Maker_init) (maxL := 1) (ret := none) (by decide) rfl ?_
  intro p e s m args below meth c s₁ B hml hv
  obtain ⟨rfl, hsz, hP, hK, hD0⟩ := hv
  have hx := B.exec
  have hb := B.bytes
  have hr := B.returns
  have hts := xw_hts B.pre
  have hown : s.vm.findClass R_Maker = some m.cls := findClass_of_methodNamed B.named
  have hlocks := B.notSynchronized
  have hin : meth.name = "<init>" := (name_of_methodNamed B.named B.method).1
  subst hsz
  have hD := hD0.self (sz := s.heap.size)
  have hN := xz_entry hP
  generalize hAe : va_A [(h0, .inr (3, [.null, .null, .null, .null, .int 0]))] s.heap.size = A at hD hN ⊢
  have hA : ∀ q : Nat, s.heap.size ≤ q → A q := fun q h => by rw [← hAe]; exact Or.inr h
  have hS : va_S A s.heap s.heap [] := va_S.rf
  have hl0 := lv_entry ([.ref h0]) (n := 1) (Nat.le_of_ble_eq_true rfl)
  rw [lg_entry_eq]
  generalize (lg_sl ([.ref h0]) ++ List.replicate (1 - (lg_sl ([.ref h0])).length) Slot.unset).toArray = ls at hl0 ⊢
  have hl1 : lv_has ls 1 [(0, .ref h0)] := hl0
  refine lv_aload_n hx hb d_Maker_init_0 rfl (lv_at hl1 0 rfl) ?_
  refine W.objInit hx hb hown (hts _ wd_96) (hts _ wd_32) (hts _ wd_oi) rfl (by rw [hml]; exact hl1.1) rfl d_Maker_init_1 (Nat.le_of_ble_eq_true rfl) (Nat.le_of_ble_eq_true rfl) ?_
  refine W.eq (g2 := F0 m 4 ls []) rfl ?_
  refine lv_aload_n hx hb d_Maker_init_4 rfl (lv_at hl1 0 rfl) ?_
  refine va_new (ci := 4) (fs := [.null, .null, .null, .int 0]) (C := R_Nodes) (T := F_Nodes) (N := 4) hx hb hts i_Nodes t_Nodes t_Nodes_ok hown (hts _ wd_97) (hts _ wd_98) (hts _ wd_5) hK.1 hP hD hS hA rfl (by decide +kernel) (Nat.le_of_ble_eq_true rfl) (Nat.le_of_ble_eq_true rfl) d_Maker_init_5 (fun q_1 H_2 hP hD hS => ?_)
  have hP : va_P D classes [(h0, .inr (3, [.null, .null, .null, .null, .int 0])), (q_1, .inr (4, [.null, .null, .null, .int 0]))] H_2 := hP
  have hD : va_D A [(h0, .inr (3, [.null, .null, .null, .null, .int 0])), (q_1, .inr (4, [.null, .null, .null, .int 0]))] := hD
  refine W.widen (k := 1) (n := 4) (Nat.le_of_ble_eq_true rfl) (Nat.le_of_ble_eq_true rfl) ?_
  refine lv_dup hx hb d_Maker_init_8 rfl ?_
  have hPc := hP.sub (ws' := [(q_1, .inr (4, [.null, .null, .null, .int 0]))]) [1] rfl
  have hDc := hD.sub (ws' := [(q_1, .inr (4, [.null, .null, .null, .int 0]))]) [1] (by decide) rfl
  have hFc := va_free (wc := [(q_1, .inr (4, [.null, .null, .null, .int 0]))]) hD hS hA [1] rfl
  have hz := xz_of hN hS
  refine va_callv (va_runIN (As := []) (rest := [.ref q_1, .ref h0]) ⟨hx, hb, hml, hown, hts⟩ (c_Nodes_init l D ax q_1 H_2.size) (xcN (n := 0) hts wd_101 wd_5 (hK.2.2.1 (.methodLinkNest "TripleDesk$Maker" (11 : Nat) ({ cls := "TripleDesk$Nodes", name := "<init>", desc := "()V" } : Jvm.MethodName) "TripleDesk") (by decide +kernel)) wd_100 rfl rfl rfl (by decide +kernel) ⟨Nat.le_of_ble_eq_true rfl, Nat.le_of_ble_eq_true rfl⟩) (xpS (As := [.ref q_1]) hPc hK hz hDc) rfl rfl hl1.1 rfl (lv_room (Nat.le_of_ble_eq_true rfl)) d_Maker_init_9 ⟨Nat.le_of_ble_eq_true rfl, Nat.le_of_ble_eq_true rfl⟩) hS (fun q _ h => hFc q h) hFc (fun u_3 t H_4 locs ht hvm hw hB hz1 hk1 hS => ?_)
  try dsimp only at hw
  obtain ⟨hP1, hD1⟩ := hB
  rw [ht] at hP1
  obtain ⟨hP, hD⟩ := va_join (wr := [(h0, .inr (3, [.null, .null, .null, .null, .int 0]))]) (w1 := [(q_1, .inr (4, [.ref (u_3 0), .ref (u_3 1), .ref (u_3 2), .int 0])), ((u_3 0), .inl (ax 1, 8, .inl (fun _ => 0))), ((u_3 1), .inl (ax 0, 8, .inl (fun _ => 0))), ((u_3 2), .inl (ax 0, 8, .inl (fun _ => 0)))]) hP hD [1] [0] rfl rfl (by decide) (by decide) hk1 hFc hP1 hD1
  have hP : va_P D classes [(h0, .inr (3, [.null, .null, .null, .null, .int 0])), (q_1, .inr (4, [.ref (u_3 0), .ref (u_3 1), .ref (u_3 2), .int 0])), ((u_3 0), .inl (ax 1, 8, .inl (fun _ => 0))), ((u_3 1), .inl (ax 0, 8, .inl (fun _ => 0))), ((u_3 2), .inl (ax 0, 8, .inl (fun _ => 0)))] H_4 := hP
  have hD : va_D A [(h0, .inr (3, [.null, .null, .null, .null, .int 0])), (q_1, .inr (4, [.ref (u_3 0), .ref (u_3 1), .ref (u_3 2), .int 0])), ((u_3 0), .inl (ax 1, 8, .inl (fun _ => 0))), ((u_3 1), .inl (ax 0, 8, .inl (fun _ => 0))), ((u_3 2), .inl (ax 0, 8, .inl (fun _ => 0)))] := hD
  refine W.widen (k := 4) (n := 28) (Nat.le_of_ble_eq_true rfl) (Nat.le_of_ble_eq_true rfl) ?_
  refine va_putF (D := D) (ci := 3) (v := .ref q_1) (ty := .object "TripleDesk$Nodes") (C := R_Maker) (T := F_Maker) (N := 5) hx hb hts i_Maker t_Maker t_Maker_ok n_Maker hown hK.1 hP hD hS 0 rfl rfl 0 (by decide) (hts _ wd_129) (fun _ h9 => h9) rfl hin rfl (by decide +kernel) rfl rfl (Nat.le_of_ble_eq_true rfl) d_Maker_init_12 (fun H_6 locs hP hD hS => ?_)
  have hP : va_P D classes [(h0, .inr (3, [.ref q_1, .null, .null, .null, .int 0])), (q_1, .inr (4, [.ref (u_3 0), .ref (u_3 1), .ref (u_3 2), .int 0])), ((u_3 0), .inl (ax 1, 8, .inl (fun _ => 0))), ((u_3 1), .inl (ax 0, 8, .inl (fun _ => 0))), ((u_3 2), .inl (ax 0, 8, .inl (fun _ => 0)))] H_6 := hP
  have hD : va_D A [(h0, .inr (3, [.ref q_1, .null, .null, .null, .int 0])), (q_1, .inr (4, [.ref (u_3 0), .ref (u_3 1), .ref (u_3 2), .int 0])), ((u_3 0), .inl (ax 1, 8, .inl (fun _ => 0))), ((u_3 1), .inl (ax 0, 8, .inl (fun _ => 0))), ((u_3 2), .inl (ax 0, 8, .inl (fun _ => 0)))] := hD
  refine lv_aload_n hx hb d_Maker_init_15 rfl (lv_at hl1 0 rfl) ?_
  refine lv_bipush (v := 16) hx hb d_Maker_init_16 (by decide) ?_
  refine xnewa (atype := .int) (ty := .int) (aX := ax 0) hx hb (hts _ wd_68) rfl hK.2.1.1 hP hD hS hA (xa_i 16) (by decide) (by decide) (by decide) (Nat.le_of_ble_eq_true rfl) (Nat.le_of_ble_eq_true rfl) d_Maker_init_18 (fun q_7 H_8 hP hD hS => ?_)
  have hP : va_P D classes [(h0, .inr (3, [.ref q_1, .null, .null, .null, .int 0])), (q_1, .inr (4, [.ref (u_3 0), .ref (u_3 1), .ref (u_3 2), .int 0])), ((u_3 0), .inl (ax 1, 8, .inl (fun _ => 0))), ((u_3 1), .inl (ax 0, 8, .inl (fun _ => 0))), ((u_3 2), .inl (ax 0, 8, .inl (fun _ => 0))), (q_7, .inl (ax 0, 16, .inl (fun _ => 0)))] H_8 := hP
  have hD : va_D A [(h0, .inr (3, [.ref q_1, .null, .null, .null, .int 0])), (q_1, .inr (4, [.ref (u_3 0), .ref (u_3 1), .ref (u_3 2), .int 0])), ((u_3 0), .inl (ax 1, 8, .inl (fun _ => 0))), ((u_3 1), .inl (ax 0, 8, .inl (fun _ => 0))), ((u_3 2), .inl (ax 0, 8, .inl (fun _ => 0))), (q_7, .inl (ax 0, 16, .inl (fun _ => 0)))] := hD
  refine W.widen (k := 5) (n := 44) (Nat.le_of_ble_eq_true rfl) (Nat.le_of_ble_eq_true rfl) ?_
  refine va_putF (D := D) (ci := 3) (v := .ref q_7) (ty := .array .int) (C := R_Maker) (T := F_Maker) (N := 5) hx hb hts i_Maker t_Maker t_Maker_ok n_Maker hown hK.1 hP hD hS 0 rfl rfl 1 (by decide) (hts _ wd_131) (fun _ h9 => h9) rfl hin rfl (by decide +kernel) rfl rfl (Nat.le_of_ble_eq_true rfl) d_Maker_init_20 (fun H_9 locs hP hD hS => ?_)
  have hP : va_P D classes [(h0, .inr (3, [.ref q_1, .ref q_7, .null, .null, .int 0])), (q_1, .inr (4, [.ref (u_3 0), .ref (u_3 1), .ref (u_3 2), .int 0])), ((u_3 0), .inl (ax 1, 8, .inl (fun _ => 0))), ((u_3 1), .inl (ax 0, 8, .inl (fun _ => 0))), ((u_3 2), .inl (ax 0, 8, .inl (fun _ => 0))), (q_7, .inl (ax 0, 16, .inl (fun _ => 0)))] H_9 := hP
  have hD : va_D A [(h0, .inr (3, [.ref q_1, .ref q_7, .null, .null, .int 0])), (q_1, .inr (4, [.ref (u_3 0), .ref (u_3 1), .ref (u_3 2), .int 0])), ((u_3 0), .inl (ax 1, 8, .inl (fun _ => 0))), ((u_3 1), .inl (ax 0, 8, .inl (fun _ => 0))), ((u_3 2), .inl (ax 0, 8, .inl (fun _ => 0))), (q_7, .inl (ax 0, 16, .inl (fun _ => 0)))] := hD
  refine lv_aload_n hx hb d_Maker_init_23 rfl (lv_at hl1 0 rfl) ?_
  refine lv_iconst (v := (-1)) hx hb d_Maker_init_24 (by decide) ?_
  refine va_put (D := D) (ci := 3) (v := .int (-1)) (ty := .int) (C := R_Maker) (T := F_Maker) (N := 5) hx hb hts i_Maker t_Maker t_Maker_ok n_Maker hown hK.1 hP hD hS 0 rfl rfl 4 (by decide) (hts _ wd_134) (fun _ h9 => h9) rfl (by decide +kernel) rfl rfl (Nat.le_of_ble_eq_true rfl) d_Maker_init_25 (fun H_10 locs hP hD hS => ?_)
  have hP : va_P D classes [(h0, .inr (3, [.ref q_1, .ref q_7, .null, .null, .int (-1)])), (q_1, .inr (4, [.ref (u_3 0), .ref (u_3 1), .ref (u_3 2), .int 0])), ((u_3 0), .inl (ax 1, 8, .inl (fun _ => 0))), ((u_3 1), .inl (ax 0, 8, .inl (fun _ => 0))), ((u_3 2), .inl (ax 0, 8, .inl (fun _ => 0))), (q_7, .inl (ax 0, 16, .inl (fun _ => 0)))] H_10 := hP
  have hD : va_D A [(h0, .inr (3, [.ref q_1, .ref q_7, .null, .null, .int (-1)])), (q_1, .inr (4, [.ref (u_3 0), .ref (u_3 1), .ref (u_3 2), .int 0])), ((u_3 0), .inl (ax 1, 8, .inl (fun _ => 0))), ((u_3 1), .inl (ax 0, 8, .inl (fun _ => 0))), ((u_3 2), .inl (ax 0, 8, .inl (fun _ => 0))), (q_7, .inl (ax 0, 16, .inl (fun _ => 0)))] := hD
  have hP9 := hP.sub (ws' := (fun u : Nat → Nat => [(h0, .inr (3, [.ref (u 0), .ref (u 4), .null, .null, .int (-1)])), (u 0, .inr (4, [.ref (u 1), .ref (u 2), .ref (u 3), .int 0])), (u 1, .inl (ax 1, 8, .inl (fun _ => 0))), (u 2, .inl (ax 0, 8, .inl (fun _ => 0))), (u 3, .inl (ax 0, 8, .inl (fun _ => 0))), (u 4, .inl (ax 0, 16, .inl (fun _ => 0)))]) (ixn [q_1, (u_3 0), (u_3 1), (u_3 2), q_7])) [0, 1, 2, 3, 4, 5] rfl
  have hD9 := hD.sub (ws' := (fun u : Nat → Nat => [(h0, .inr (3, [.ref (u 0), .ref (u 4), .null, .null, .int (-1)])), (u 0, .inr (4, [.ref (u 1), .ref (u 2), .ref (u 3), .int 0])), (u 1, .inl (ax 1, 8, .inl (fun _ => 0))), (u 2, .inl (ax 0, 8, .inl (fun _ => 0))), (u 3, .inl (ax 0, 8, .inl (fun _ => 0))), (u 4, .inl (ax 0, 16, .inl (fun _ => 0)))]) (ixn [q_1, (u_3 0), (u_3 1), (u_3 2), q_7])) [0, 1, 2, 3, 4, 5] (by decide) rfl
  exact W.vret hx hb hr (fun t ht hW => ⟨⟨ixn [q_1, (u_3 0), (u_3 1), (u_3 2), q_7], rfl, trivial, ⟨by rw [ht]; exact hP9, hD9⟩⟩, hS.F ht⟩) hS.2.2 d_Maker_init_28
