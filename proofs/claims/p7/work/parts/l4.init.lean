theorem wd_32 : ((Jvm.Cond.instanceMethod ({ cls := "java/lang/Object", name := "<init>", desc := "()V" } : Jvm.MethodName))) ∈ lw_gd := lw_gd_in (i := 32) (by decide +kernel) rfl
theorem wd_39 : ((Jvm.Cond.methodLink "TripleDesk$Tokens" (3 : Nat) ({ cls := "java/lang/Object", name := "<init>", desc := "()V" } : Jvm.MethodName))) ∈ lw_gd := lw_gd_in (i := 39) (by decide +kernel) rfl
theorem wd_74 : ((Jvm.Cond.methodLink "TripleDesk$Reader" (3 : Nat) ({ cls := "java/lang/Object", name := "<init>", desc := "()V" } : Jvm.MethodName))) ∈ lw_gd := lw_gd_in (i := 74) (by decide +kernel) rfl
theorem wd_96 : ((Jvm.Cond.methodLink "TripleDesk$Maker" (3 : Nat) ({ cls := "java/lang/Object", name := "<init>", desc := "()V" } : Jvm.MethodName))) ∈ lw_gd := lw_gd_in (i := 96) (by decide +kernel) rfl
theorem wd_97 : ((Jvm.Cond.classLink "TripleDesk$Maker" (9 : Nat) "TripleDesk$Nodes")) ∈ lw_gd := lw_gd_in (i := 97) (by decide +kernel) rfl
theorem wd_98 : ((Jvm.Cond.instantiable "TripleDesk$Nodes" (4 : Nat))) ∈ lw_gd := lw_gd_in (i := 98) (by decide +kernel) rfl
theorem wd_100 : ((Jvm.Cond.instanceMethod ({ cls := "TripleDesk$Nodes", name := "<init>", desc := "()V" } : Jvm.MethodName))) ∈ lw_gd := lw_gd_in (i := 100) (by decide +kernel) rfl
theorem wd_101 : ((Jvm.Cond.code ({ cls := "TripleDesk$Nodes", name := "<init>", desc := "()V" } : Jvm.MethodName) prog_6_method_1_code (1 : Nat) (Option.none : Option Jvm.ClassFile.FieldType))) ∈ lw_gd := lw_gd_in (i := 101) (by decide +kernel) rfl
theorem wd_102 : ((Jvm.Cond.methodLink "TripleDesk$Nodes" (1 : Nat) ({ cls := "java/lang/Object", name := "<init>", desc := "()V" } : Jvm.MethodName))) ∈ lw_gd := lw_gd_in (i := 102) (by decide +kernel) rfl
theorem wd_151 : ((Jvm.Cond.methodLink "TripleDesk$Prover" (3 : Nat) ({ cls := "java/lang/Object", name := "<init>", desc := "()V" } : Jvm.MethodName))) ∈ lw_gd := lw_gd_in (i := 151) (by decide +kernel) rfl
theorem wd_152 : ((Jvm.Cond.classLink "TripleDesk$Prover" (9 : Nat) "TripleDesk$Bounds")) ∈ lw_gd := lw_gd_in (i := 152) (by decide +kernel) rfl
theorem wd_153 : ((Jvm.Cond.instantiable "TripleDesk$Bounds" (4 : Nat))) ∈ lw_gd := lw_gd_in (i := 153) (by decide +kernel) rfl
theorem wd_154 : ((Jvm.Cond.methodLink "TripleDesk$Prover" (11 : Nat) ({ cls := "TripleDesk$Bounds", name := "<init>", desc := "()V" } : Jvm.MethodName))) ∈ lw_gd := lw_gd_in (i := 154) (by decide +kernel) rfl
theorem wd_155 : ((Jvm.Cond.instanceMethod ({ cls := "TripleDesk$Bounds", name := "<init>", desc := "()V" } : Jvm.MethodName))) ∈ lw_gd := lw_gd_in (i := 155) (by decide +kernel) rfl
theorem wd_156 : ((Jvm.Cond.code ({ cls := "TripleDesk$Bounds", name := "<init>", desc := "()V" } : Jvm.MethodName) prog_2_method_1_code (1 : Nat) (Option.none : Option Jvm.ClassFile.FieldType))) ∈ lw_gd := lw_gd_in (i := 156) (by decide +kernel) rfl
theorem wd_157 : ((Jvm.Cond.methodLink "TripleDesk$Bounds" (3 : Nat) ({ cls := "java/lang/Object", name := "<init>", desc := "()V" } : Jvm.MethodName))) ∈ lw_gd := lw_gd_in (i := 157) (by decide +kernel) rfl
theorem wd_213 : ((Jvm.Cond.methodLink "TripleDesk$Findings" (3 : Nat) ({ cls := "java/lang/Object", name := "<init>", desc := "()V" } : Jvm.MethodName))) ∈ lw_gd := lw_gd_in (i := 213) (by decide +kernel) rfl
theorem wd_235 : ((Jvm.Cond.methodLink "TripleDesk$Paper" (3 : Nat) ({ cls := "java/lang/Object", name := "<init>", desc := "()V" } : Jvm.MethodName))) ∈ lw_gd := lw_gd_in (i := 235) (by decide +kernel) rfl
theorem wd_250 : ((Jvm.Cond.methodLink "TripleDesk$Runner" (3 : Nat) ({ cls := "java/lang/Object", name := "<init>", desc := "()V" } : Jvm.MethodName))) ∈ lw_gd := lw_gd_in (i := 250) (by decide +kernel) rfl
theorem wd_256 : ((Jvm.Cond.arrayClass Jvm.ClassFile.FieldType.long)) ∈ lw_gd := lw_gd_in (i := 256) (by decide +kernel) rfl
theorem wd_264 : ((Jvm.Cond.methodLink "TripleDesk$Listing" (3 : Nat) ({ cls := "java/lang/Object", name := "<init>", desc := "()V" } : Jvm.MethodName))) ∈ lw_gd := lw_gd_in (i := 264) (by decide +kernel) rfl
theorem wd_265 : ((Jvm.Cond.classLink "TripleDesk$Listing" (9 : Nat) "TripleDesk$Nodes")) ∈ lw_gd := lw_gd_in (i := 265) (by decide +kernel) rfl
theorem wd_285 : ((Jvm.Cond.fieldLink "TripleDesk$Listing" (34 : Nat) "TripleDesk$Listing" "test" "[S")) ∈ lw_gd := lw_gd_in (i := 285) (by decide +kernel) rfl
theorem wd_289 : ((Jvm.Cond.fieldLink "TripleDesk$Listing" (38 : Nat) "TripleDesk$Listing" "kept" "[S")) ∈ lw_gd := lw_gd_in (i := 289) (by decide +kernel) rfl
abbrev b_Nodes_init : ByteArray := prog_6_method_1_code
def y_Nodes_init : MethodName := ⟨R_Nodes, "<init>", "()V"⟩
theorem d_Nodes_init_0 : decode b_Nodes_init 0 = .ok (.aload_n 0, 1) := by decide +kernel
theorem d_Nodes_init_1 : decode b_Nodes_init 1 = .ok (.invokespecial 1, 3) := by decide +kernel
theorem d_Nodes_init_4 : decode b_Nodes_init 4 = .ok (.aload_n 0, 1) := by decide +kernel
theorem d_Nodes_init_5 : decode b_Nodes_init 5 = .ok (.bipush 8, 2) := by decide +kernel
theorem d_Nodes_init_7 : decode b_Nodes_init 7 = .ok (.newarray .byte, 2) := by decide +kernel
theorem d_Nodes_init_9 : decode b_Nodes_init 9 = .ok (.putfield 7, 3) := by decide +kernel
theorem d_Nodes_init_12 : decode b_Nodes_init 12 = .ok (.aload_n 0, 1) := by decide +kernel
theorem d_Nodes_init_13 : decode b_Nodes_init 13 = .ok (.bipush 8, 2) := by decide +kernel
theorem d_Nodes_init_15 : decode b_Nodes_init 15 = .ok (.newarray .int, 2) := by decide +kernel
theorem d_Nodes_init_17 : decode b_Nodes_init 17 = .ok (.putfield 13, 3) := by decide +kernel
theorem d_Nodes_init_20 : decode b_Nodes_init 20 = .ok (.aload_n 0, 1) := by decide +kernel
theorem d_Nodes_init_21 : decode b_Nodes_init 21 = .ok (.bipush 8, 2) := by decide +kernel
theorem d_Nodes_init_23 : decode b_Nodes_init 23 = .ok (.newarray .int, 2) := by decide +kernel
theorem d_Nodes_init_25 : decode b_Nodes_init 25 = .ok (.putfield 17, 3) := by decide +kernel
theorem d_Nodes_init_28 : decode b_Nodes_init 28 = .ok (.return_, 1) := by decide +kernel
set_option maxHeartbeats 40000000 in
set_option maxRecDepth 100000 in
theorem c_Nodes_init (l : Launch) (D : va_G) (ax : Nat → ClassId) (h0 : Nat) (sz : Nat) : Met l y_Nodes_init (xws (.code y_Nodes_init b_Nodes_init 1 none)) ({ frames := 10, cells := 3, slots := 24, locals := 400 }) (va_Pc [.ref h0] (xo D ax [(h0, .inr (4, [.null, .null, .null, .int 0]))] sz)) ((va_Qv (fun (u : Nat → Nat) => True) (xb D (va_A [(h0, .inr (4, [.null, .null, .null, .int 0]))] sz) (fun u => [(h0, .inr (4, [.ref (u 0), .ref (u 1), .ref (u 2), .int 0])), (u 0, .inl (ax 1, 8, .inl (fun _ => 0))), (u 1, .inl (ax 0, 8, .inl (fun _ => 0))), (u 2, .inl (ax 0, 8, .inl (fun _ => 0)))])) (va_A [(h0, .inr (4, [.null, .null, .null, .int 0]))] sz))) 3 24 (va_A [(h0, .inr (4, [.null, .null, .null, .int 0]))] sz) := by
  refine Met.ofW (cc := b_Nodes_init) (maxL := 1) (ret := none) (by decide) rfl ?_
  intro p e s m args below meth c s₁ B hml hv
  obtain ⟨rfl, hsz, hP, hK, hD0⟩ := hv
  have hx := B.exec
  have hb := B.bytes
  have hr := B.returns
  have hts := xw_hts B.pre
  have hown : s.vm.findClass R_Nodes = some m.cls := findClass_of_methodNamed B.named
  have hlocks := B.notSynchronized
  have hin : meth.name = "<init>" := (name_of_methodNamed B.named B.method).1
  subst hsz
  have hD := hD0.self (sz := s.heap.size)
  have hN := xz_entry hP
  generalize hAe : va_A [(h0, .inr (4, [.null, .null, .null, .int 0]))] s.heap.size = A at hD hN ⊢
  have hA : ∀ q : Nat, s.heap.size ≤ q → A q := fun q h => by rw [← hAe]; exact Or.inr h
  have hS : va_S A s.heap s.heap [] := va_S.rf
  have hl0 := lv_entry ([.ref h0]) (n := 1) (Nat.le_of_ble_eq_true rfl)
  rw [lg_entry_eq]
  generalize (lg_sl ([.ref h0]) ++ List.replicate (1 - (lg_sl ([.ref h0])).length) Slot.unset).toArray = ls at hl0 ⊢
  have hl1 : lv_has ls 1 [(0, .ref h0)] := hl0
  refine xw_gen (fun Z9 hQe => ?_)
  refine lv_aload_n hx hb d_Nodes_init_0 rfl (lv_at hl1 0 rfl) ?_
  refine W.objInit hx hb hown (hts _ wd_102) (hts _ wd_32) (hts _ wd_oi) rfl (by rw [hml]; exact hl1.1) rfl d_Nodes_init_1 (Nat.le_of_ble_eq_true rfl) (Nat.le_of_ble_eq_true rfl) ?_
  refine W.eq (g2 := F0 m 4 ls []) rfl ?_
  refine lv_aload_n hx hb d_Nodes_init_4 rfl (lv_at hl1 0 rfl) ?_
  refine lv_bipush (v := 8) hx hb d_Nodes_init_5 (by decide) ?_
  refine xnewa (atype := .byte) (ty := .byte) (aX := ax 1) hx hb (hts _ wd_67) rfl hK.2.1.2.1 hP hD hS hA (xa_b 8) (by decide) (by decide) (by decide) (Nat.le_of_ble_eq_true rfl) (Nat.le_of_ble_eq_true rfl) d_Nodes_init_7 (fun q_1 H_2 hP1 hD1 hS1 => ?_)
  clear hP hD hS
  have hS := hS1
  have hW7 : (fun w9 : va_W => va_P D classes w9 H_2 ∧ va_D A w9) [(h0, .inr (4, [.null, .null, .null, .int 0])), (q_1, .inl (ax 1, 8, .inl (fun _ => 0)))] := ⟨hP1, hD1⟩
  obtain ⟨hP, hD⟩ := hW7
  clear hP1 hD1 hS1
  refine W.widen (k := 1) (n := 8) (Nat.le_of_ble_eq_true rfl) (Nat.le_of_ble_eq_true rfl) ?_
  refine va_put (D := D) (ci := 4) (v := .ref q_1) (ty := .array .byte) (C := R_Nodes) (T := F_Nodes) (N := 4) hx hb hts i_Nodes t_Nodes t_Nodes_ok n_Nodes hown hK.1 hP hD hS 0 rfl rfl 0 (by decide) (hts _ wd_103) (fun _ h9 => h9) rfl (by decide +kernel) rfl rfl (Nat.le_of_ble_eq_true rfl) d_Nodes_init_9 (fun H_3 locs hP1 hD1 hS1 => ?_)
  clear hP hD hS
  have hS := hS1
  have hW7 : (fun w9 : va_W => va_P D classes w9 H_3 ∧ va_D A w9) [(h0, .inr (4, [.ref q_1, .null, .null, .int 0])), (q_1, .inl (ax 1, 8, .inl (fun _ => 0)))] := ⟨hP1, hD1⟩
  obtain ⟨hP, hD⟩ := hW7
  clear hP1 hD1 hS1
  refine lv_aload_n hx hb d_Nodes_init_12 rfl (lv_at hl1 0 rfl) ?_
  refine lv_bipush (v := 8) hx hb d_Nodes_init_13 (by decide) ?_
  refine xnewa (atype := .int) (ty := .int) (aX := ax 0) hx hb (hts _ wd_68) rfl hK.2.1.1 hP hD hS hA (xa_i 8) (by decide) (by decide) (by decide) (Nat.le_of_ble_eq_true rfl) (Nat.le_of_ble_eq_true rfl) d_Nodes_init_15 (fun q_4 H_5 hP1 hD1 hS1 => ?_)
  clear hP hD hS
  have hS := hS1
  have hW7 : (fun w9 : va_W => va_P D classes w9 H_5 ∧ va_D A w9) [(h0, .inr (4, [.ref q_1, .null, .null, .int 0])), (q_1, .inl (ax 1, 8, .inl (fun _ => 0))), (q_4, .inl (ax 0, 8, .inl (fun _ => 0)))] := ⟨hP1, hD1⟩
  obtain ⟨hP, hD⟩ := hW7
  clear hP1 hD1 hS1
  refine W.widen (k := 2) (n := 16) (Nat.le_of_ble_eq_true rfl) (Nat.le_of_ble_eq_true rfl) ?_
  refine va_put (D := D) (ci := 4) (v := .ref q_4) (ty := .array .int) (C := R_Nodes) (T := F_Nodes) (N := 4) hx hb hts i_Nodes t_Nodes t_Nodes_ok n_Nodes hown hK.1 hP hD hS 0 rfl rfl 1 (by decide) (hts _ wd_108) (fun _ h9 => h9) rfl (by decide +kernel) rfl rfl (Nat.le_of_ble_eq_true rfl) d_Nodes_init_17 (fun H_6 locs hP1 hD1 hS1 => ?_)
  clear hP hD hS
  have hS := hS1
  have hW7 : (fun w9 : va_W => va_P D classes w9 H_6 ∧ va_D A w9) [(h0, .inr (4, [.ref q_1, .ref q_4, .null, .int 0])), (q_1, .inl (ax 1, 8, .inl (fun _ => 0))), (q_4, .inl (ax 0, 8, .inl (fun _ => 0)))] := ⟨hP1, hD1⟩
  obtain ⟨hP, hD⟩ := hW7
  clear hP1 hD1 hS1
  refine lv_aload_n hx hb d_Nodes_init_20 rfl (lv_at hl1 0 rfl) ?_
  refine lv_bipush (v := 8) hx hb d_Nodes_init_21 (by decide) ?_
  refine xnewa (atype := .int) (ty := .int) (aX := ax 0) hx hb (hts _ wd_68) rfl hK.2.1.1 hP hD hS hA (xa_i 8) (by decide) (by decide) (by decide) (Nat.le_of_ble_eq_true rfl) (Nat.le_of_ble_eq_true rfl) d_Nodes_init_23 (fun q_7 H_8 hP1 hD1 hS1 => ?_)
  clear hP hD hS
  have hS := hS1
  have hW7 : (fun w9 : va_W => va_P D classes w9 H_8 ∧ va_D A w9) [(h0, .inr (4, [.ref q_1, .ref q_4, .null, .int 0])), (q_1, .inl (ax 1, 8, .inl (fun _ => 0))), (q_4, .inl (ax 0, 8, .inl (fun _ => 0))), (q_7, .inl (ax 0, 8, .inl (fun _ => 0)))] := ⟨hP1, hD1⟩
  obtain ⟨hP, hD⟩ := hW7
  clear hP1 hD1 hS1
  refine W.widen (k := 3) (n := 24) (Nat.le_of_ble_eq_true rfl) (Nat.le_of_ble_eq_true rfl) ?_
  refine va_put (D := D) (ci := 4) (v := .ref q_7) (ty := .array .int) (C := R_Nodes) (T := F_Nodes) (N := 4) hx hb hts i_Nodes t_Nodes t_Nodes_ok n_Nodes hown hK.1 hP hD hS 0 rfl rfl 2 (by decide) (hts _ wd_113) (fun _ h9 => h9) rfl (by decide +kernel) rfl rfl (Nat.le_of_ble_eq_true rfl) d_Nodes_init_25 (fun H_9 locs hP1 hD1 hS1 => ?_)
  clear hP hD hS
  have hS := hS1
  have hW7 : (fun w9 : va_W => va_P D classes w9 H_9 ∧ va_D A w9) [(h0, .inr (4, [.ref q_1, .ref q_4, .ref q_7, .int 0])), (q_1, .inl (ax 1, 8, .inl (fun _ => 0))), (q_4, .inl (ax 0, 8, .inl (fun _ => 0))), (q_7, .inl (ax 0, 8, .inl (fun _ => 0)))] := ⟨hP1, hD1⟩
  obtain ⟨hP, hD⟩ := hW7
  clear hP1 hD1 hS1
  rw [← hQe]
  obtain ⟨hP9, hD9⟩ := xw_sub2 (wc := (fun u : Nat → Nat => [(h0, .inr (4, [.ref (u 0), .ref (u 1), .ref (u 2), .int 0])), (u 0, .inl (ax 1, 8, .inl (fun _ => 0))), (u 1, .inl (ax 0, 8, .inl (fun _ => 0))), (u 2, .inl (ax 0, 8, .inl (fun _ => 0)))]) (ixn [q_1, q_4, q_7])) hP hD [0, 1, 2, 3] (by decide) rfl
  exact W.vret hx hb hr (fun t ht hW => ⟨⟨ixn [q_1, q_4, q_7], rfl, trivial, ⟨by rw [ht]; exact hP9, hD9⟩⟩, hS.F ht⟩) hS.2.2 d_Nodes_init_28
abbrev b_Tokens_init : ByteArray := prog_11_method_1_code
def y_Tokens_init : MethodName := ⟨R_Tokens, "<init>", "()V"⟩
theorem d_Tokens_init_0 : decode b_Tokens_init 0 = .ok (.aload_n 0, 1) := by decide +kernel
theorem d_Tokens_init_1 : decode b_Tokens_init 1 = .ok (.invokespecial 3, 3) := by decide +kernel
theorem d_Tokens_init_4 : decode b_Tokens_init 4 = .ok (.aload_n 0, 1) := by decide +kernel
theorem d_Tokens_init_5 : decode b_Tokens_init 5 = .ok (.sipush 400, 3) := by decide +kernel
theorem d_Tokens_init_8 : decode b_Tokens_init 8 = .ok (.newarray .byte, 2) := by decide +kernel
theorem d_Tokens_init_10 : decode b_Tokens_init 10 = .ok (.putfield 9, 3) := by decide +kernel
theorem d_Tokens_init_13 : decode b_Tokens_init 13 = .ok (.aload_n 0, 1) := by decide +kernel
theorem d_Tokens_init_14 : decode b_Tokens_init 14 = .ok (.sipush 401, 3) := by decide +kernel
theorem d_Tokens_init_17 : decode b_Tokens_init 17 = .ok (.newarray .int, 2) := by decide +kernel
theorem d_Tokens_init_19 : decode b_Tokens_init 19 = .ok (.putfield 15, 3) := by decide +kernel
theorem d_Tokens_init_22 : decode b_Tokens_init 22 = .ok (.aload_n 0, 1) := by decide +kernel
theorem d_Tokens_init_23 : decode b_Tokens_init 23 = .ok (.iconst (-1), 1) := by decide +kernel
theorem d_Tokens_init_24 : decode b_Tokens_init 24 = .ok (.putfield 19, 3) := by decide +kernel
theorem d_Tokens_init_27 : decode b_Tokens_init 27 = .ok (.return_, 1) := by decide +kernel
set_option maxHeartbeats 40000000 in
set_option maxRecDepth 100000 in
theorem c_Tokens_init (l : Launch) (D : va_G) (ax : Nat → ClassId) (h0 : Nat) (sz : Nat) : Met l y_Tokens_init (xws (.code y_Tokens_init b_Tokens_init 1 none)) ({ frames := 10, cells := 2, slots := 801, locals := 400 }) (va_Pc [.ref h0] (xo D ax [(h0, .inr (9, [.null, .null, .int 0, .int 0, .int 0, .int 0, .int 0, .int 0]))] sz)) ((va_Qv (fun (u : Nat → Nat) => True) (xb D (va_A [(h0, .inr (9, [.null, .null, .int 0, .int 0, .int 0, .int 0, .int 0, .int 0]))] sz) (fun u => [(h0, .inr (9, [.ref (u 0), .ref (u 1), .int 0, .int 0, .int 0, .int (-1), .int 0, .int 0])), (u 0, .inl (ax 1, 400, .inl (fun _ => 0))), (u 1, .inl (ax 0, 401, .inl (fun _ => 0)))])) (va_A [(h0, .inr (9, [.null, .null, .int 0, .int 0, .int 0, .int 0, .int 0, .int 0]))] sz))) 2 801 (va_A [(h0, .inr (9, [.null, .null, .int 0, .int 0, .int 0, .int 0, .int 0, .int 0]))] sz) := by
  refine Met.ofW (cc := b_Tokens_init) (maxL := 1) (ret := none) (by decide) rfl ?_
  intro p e s m args below meth c s₁ B hml hv
  obtain ⟨rfl, hsz, hP, hK, hD0⟩ := hv
  have hx := B.exec
  have hb := B.bytes
  have hr := B.returns
  have hts := xw_hts B.pre
  have hown : s.vm.findClass R_Tokens = some m.cls := findClass_of_methodNamed B.named
  have hlocks := B.notSynchronized
  have hin : meth.name = "<init>" := (name_of_methodNamed B.named B.method).1
  subst hsz
  have hD := hD0.self (sz := s.heap.size)
  have hN := xz_entry hP
  generalize hAe : va_A [(h0, .inr (9, [.null, .null, .int 0, .int 0, .int 0, .int 0, .int 0, .int 0]))] s.heap.size = A at hD hN ⊢
  have hA : ∀ q : Nat, s.heap.size ≤ q → A q := fun q h => by rw [← hAe]; exact Or.inr h
  have hS : va_S A s.heap s.heap [] := va_S.rf
  have hl0 := lv_entry ([.ref h0]) (n := 1) (Nat.le_of_ble_eq_true rfl)
  rw [lg_entry_eq]
  generalize (lg_sl ([.ref h0]) ++ List.replicate (1 - (lg_sl ([.ref h0])).length) Slot.unset).toArray = ls at hl0 ⊢
  have hl1 : lv_has ls 1 [(0, .ref h0)] := hl0
  refine xw_gen (fun Z9 hQe => ?_)
  refine lv_aload_n hx hb d_Tokens_init_0 rfl (lv_at hl1 0 rfl) ?_
  refine W.objInit hx hb hown (hts _ wd_39) (hts _ wd_32) (hts _ wd_oi) rfl (by rw [hml]; exact hl1.1) rfl d_Tokens_init_1 (Nat.le_of_ble_eq_true rfl) (Nat.le_of_ble_eq_true rfl) ?_
  refine W.eq (g2 := F0 m 4 ls []) rfl ?_
  refine lv_aload_n hx hb d_Tokens_init_4 rfl (lv_at hl1 0 rfl) ?_
  refine lv_sipush (v := 400) hx hb d_Tokens_init_5 (by decide) ?_
  refine xnewa (atype := .byte) (ty := .byte) (aX := ax 1) hx hb (hts _ wd_67) rfl hK.2.1.2.1 hP hD hS hA (xa_b 400) (by decide) (by decide) (by decide) (Nat.le_of_ble_eq_true rfl) (Nat.le_of_ble_eq_true rfl) d_Tokens_init_8 (fun q_1 H_2 hP1 hD1 hS1 => ?_)
  clear hP hD hS
  have hS := hS1
  have hW7 : (fun w9 : va_W => va_P D classes w9 H_2 ∧ va_D A w9) [(h0, .inr (9, [.null, .null, .int 0, .int 0, .int 0, .int 0, .int 0, .int 0])), (q_1, .inl (ax 1, 400, .inl (fun _ => 0)))] := ⟨hP1, hD1⟩
  obtain ⟨hP, hD⟩ := hW7
  clear hP1 hD1 hS1
  refine W.widen (k := 1) (n := 400) (Nat.le_of_ble_eq_true rfl) (Nat.le_of_ble_eq_true rfl) ?_
  refine va_putF (D := D) (ci := 9) (v := .ref q_1) (ty := .array .byte) (C := R_Tokens) (T := F_Tokens) (N := 8) hx hb hts i_Tokens t_Tokens t_Tokens_ok n_Tokens hown hK.1 hP hD hS 0 rfl rfl 0 (by decide) (hts _ wd_40) (fun _ h9 => h9) rfl hin rfl (by decide +kernel) rfl rfl (Nat.le_of_ble_eq_true rfl) d_Tokens_init_10 (fun H_3 locs hP1 hD1 hS1 => ?_)
  clear hP hD hS
  have hS := hS1
  have hW7 : (fun w9 : va_W => va_P D classes w9 H_3 ∧ va_D A w9) [(h0, .inr (9, [.ref q_1, .null, .int 0, .int 0, .int 0, .int 0, .int 0, .int 0])), (q_1, .inl (ax 1, 400, .inl (fun _ => 0)))] := ⟨hP1, hD1⟩
  obtain ⟨hP, hD⟩ := hW7
  clear hP1 hD1 hS1
  refine lv_aload_n hx hb d_Tokens_init_13 rfl (lv_at hl1 0 rfl) ?_
  refine lv_sipush (v := 401) hx hb d_Tokens_init_14 (by decide) ?_
  refine xnewa (atype := .int) (ty := .int) (aX := ax 0) hx hb (hts _ wd_68) rfl hK.2.1.1 hP hD hS hA (xa_i 401) (by decide) (by decide) (by decide) (Nat.le_of_ble_eq_true rfl) (Nat.le_of_ble_eq_true rfl) d_Tokens_init_17 (fun q_4 H_5 hP1 hD1 hS1 => ?_)
  clear hP hD hS
  have hS := hS1
  have hW7 : (fun w9 : va_W => va_P D classes w9 H_5 ∧ va_D A w9) [(h0, .inr (9, [.ref q_1, .null, .int 0, .int 0, .int 0, .int 0, .int 0, .int 0])), (q_1, .inl (ax 1, 400, .inl (fun _ => 0))), (q_4, .inl (ax 0, 401, .inl (fun _ => 0)))] := ⟨hP1, hD1⟩
  obtain ⟨hP, hD⟩ := hW7
  clear hP1 hD1 hS1
  refine W.widen (k := 2) (n := 801) (Nat.le_of_ble_eq_true rfl) (Nat.le_of_ble_eq_true rfl) ?_
  refine va_putF (D := D) (ci := 9) (v := .ref q_4) (ty := .array .int) (C := R_Tokens) (T := F_Tokens) (N := 8) hx hb hts i_Tokens t_Tokens t_Tokens_ok n_Tokens hown hK.1 hP hD hS 0 rfl rfl 1 (by decide) (hts _ wd_41) (fun _ h9 => h9) rfl hin rfl (by decide +kernel) rfl rfl (Nat.le_of_ble_eq_true rfl) d_Tokens_init_19 (fun H_6 locs hP1 hD1 hS1 => ?_)
  clear hP hD hS
  have hS := hS1
  have hW7 : (fun w9 : va_W => va_P D classes w9 H_6 ∧ va_D A w9) [(h0, .inr (9, [.ref q_1, .ref q_4, .int 0, .int 0, .int 0, .int 0, .int 0, .int 0])), (q_1, .inl (ax 1, 400, .inl (fun _ => 0))), (q_4, .inl (ax 0, 401, .inl (fun _ => 0)))] := ⟨hP1, hD1⟩
  obtain ⟨hP, hD⟩ := hW7
  clear hP1 hD1 hS1
  refine lv_aload_n hx hb d_Tokens_init_22 rfl (lv_at hl1 0 rfl) ?_
  refine lv_iconst (v := (-1)) hx hb d_Tokens_init_23 (by decide) ?_
  refine va_put (D := D) (ci := 9) (v := .int (-1)) (ty := .int) (C := R_Tokens) (T := F_Tokens) (N := 8) hx hb hts i_Tokens t_Tokens t_Tokens_ok n_Tokens hown hK.1 hP hD hS 0 rfl rfl 5 (by decide) (hts _ wd_45) (fun _ h9 => h9) rfl (by decide +kernel) rfl rfl (Nat.le_of_ble_eq_true rfl) d_Tokens_init_24 (fun H_7 locs hP1 hD1 hS1 => ?_)
  clear hP hD hS
  have hS := hS1
  have hW7 : (fun w9 : va_W => va_P D classes w9 H_7 ∧ va_D A w9) [(h0, .inr (9, [.ref q_1, .ref q_4, .int 0, .int 0, .int 0, .int (-1), .int 0, .int 0])), (q_1, .inl (ax 1, 400, .inl (fun _ => 0))), (q_4, .inl (ax 0, 401, .inl (fun _ => 0)))] := ⟨hP1, hD1⟩
  obtain ⟨hP, hD⟩ := hW7
  clear hP1 hD1 hS1
  rw [← hQe]
  obtain ⟨hP9, hD9⟩ := xw_sub2 (wc := (fun u : Nat → Nat => [(h0, .inr (9, [.ref (u 0), .ref (u 1), .int 0, .int 0, .int 0, .int (-1), .int 0, .int 0])), (u 0, .inl (ax 1, 400, .inl (fun _ => 0))), (u 1, .inl (ax 0, 401, .inl (fun _ => 0)))]) (ixn [q_1, q_4])) hP hD [0, 1, 2] (by decide) rfl
  exact W.vret hx hb hr (fun t ht hW => ⟨⟨ixn [q_1, q_4], rfl, trivial, ⟨by rw [ht]; exact hP9, hD9⟩⟩, hS.F ht⟩) hS.2.2 d_Tokens_init_27
abbrev b_Reader_init : ByteArray := prog_9_method_1_code
def y_Reader_init : MethodName := ⟨R_Reader, "<init>", "(LTripleDesk$Tokens;)V"⟩
theorem d_Reader_init_0 : decode b_Reader_init 0 = .ok (.aload_n 0, 1) := by decide +kernel
theorem d_Reader_init_1 : decode b_Reader_init 1 = .ok (.invokespecial 3, 3) := by decide +kernel
theorem d_Reader_init_4 : decode b_Reader_init 4 = .ok (.aload_n 0, 1) := by decide +kernel
theorem d_Reader_init_5 : decode b_Reader_init 5 = .ok (.aload_n 1, 1) := by decide +kernel
theorem d_Reader_init_6 : decode b_Reader_init 6 = .ok (.putfield 9, 3) := by decide +kernel
theorem d_Reader_init_9 : decode b_Reader_init 9 = .ok (.return_, 1) := by decide +kernel
set_option maxHeartbeats 40000000 in
set_option maxRecDepth 100000 in
theorem c_Reader_init (l : Launch) (D : va_G) (ax : Nat → ClassId) (h0 h1 : Nat) (sz : Nat) : Met l y_Reader_init (xws (.code y_Reader_init b_Reader_init 2 none)) ({ frames := 10, cells := 0, slots := 0, locals := 400 }) (va_Pc [.ref h0, .ref h1] (xo D ax [(h0, .inr (7, [.null, .null, .null, .int 0, .int 0]))] sz)) ((va_Qv (fun (u : Nat → Nat) => True) (xb D (va_A [(h0, .inr (7, [.null, .null, .null, .int 0, .int 0]))] sz) (fun u => [(h0, .inr (7, [.ref h1, .null, .null, .int 0, .int 0]))])) (va_A [(h0, .inr (7, [.null, .null, .null, .int 0, .int 0]))] sz))) 0 0 (va_A [(h0, .inr (7, [.null, .null, .null, .int 0, .int 0]))] sz) := by
  refine Met.ofW (cc := b_Reader_init) (maxL := 2) (ret := none) (by decide) rfl ?_
  intro p e s m args below meth c s₁ B hml hv
  obtain ⟨rfl, hsz, hP, hK, hD0⟩ := hv
  have hx := B.exec
  have hb := B.bytes
  have hr := B.returns
  have hts := xw_hts B.pre
  have hown : s.vm.findClass R_Reader = some m.cls := findClass_of_methodNamed B.named
  have hlocks := B.notSynchronized
  have hin : meth.name = "<init>" := (name_of_methodNamed B.named B.method).1
  subst hsz
  have hD := hD0.self (sz := s.heap.size)
  have hN := xz_entry hP
  generalize hAe : va_A [(h0, .inr (7, [.null, .null, .null, .int 0, .int 0]))] s.heap.size = A at hD hN ⊢
  have hA : ∀ q : Nat, s.heap.size ≤ q → A q := fun q h => by rw [← hAe]; exact Or.inr h
  have hS : va_S A s.heap s.heap [] := va_S.rf
  have hl0 := lv_entry ([.ref h0, .ref h1]) (n := 2) (Nat.le_of_ble_eq_true rfl)
  rw [lg_entry_eq]
  generalize (lg_sl ([.ref h0, .ref h1]) ++ List.replicate (2 - (lg_sl ([.ref h0, .ref h1])).length) Slot.unset).toArray = ls at hl0 ⊢
  have hl1 : lv_has ls 2 [(0, .ref h0), (1, .ref h1)] := hl0
  refine xw_gen (fun Z9 hQe => ?_)
  refine lv_aload_n hx hb d_Reader_init_0 rfl (lv_at hl1 0 rfl) ?_
  refine W.objInit hx hb hown (hts _ wd_74) (hts _ wd_32) (hts _ wd_oi) rfl (by rw [hml]; exact hl1.1) rfl d_Reader_init_1 (Nat.le_of_ble_eq_true rfl) (Nat.le_of_ble_eq_true rfl) ?_
  refine W.eq (g2 := F0 m 4 ls []) rfl ?_
  refine lv_aload_n hx hb d_Reader_init_4 rfl (lv_at hl1 0 rfl) ?_
  refine lv_aload_n hx hb d_Reader_init_5 rfl (lv_at hl1 1 rfl) ?_
  refine va_putF (D := D) (ci := 7) (v := .ref h1) (ty := .object "TripleDesk$Tokens") (C := R_Reader) (T := F_Reader) (N := 5) hx hb hts i_Reader t_Reader t_Reader_ok n_Reader hown hK.1 hP hD hS 0 rfl rfl 0 (by decide) (hts _ wd_75) (fun _ h9 => h9) rfl hin rfl (by decide +kernel) rfl rfl (Nat.le_of_ble_eq_true rfl) d_Reader_init_6 (fun H_1 locs hP1 hD1 hS1 => ?_)
  clear hP hD hS
  have hS := hS1
  have hW7 : (fun w9 : va_W => va_P D classes w9 H_1 ∧ va_D A w9) [(h0, .inr (7, [.ref h1, .null, .null, .int 0, .int 0]))] := ⟨hP1, hD1⟩
  obtain ⟨hP, hD⟩ := hW7
  clear hP1 hD1 hS1
  rw [← hQe]
  obtain ⟨hP9, hD9⟩ := xw_sub2 (wc := (fun u : Nat → Nat => [(h0, .inr (7, [.ref h1, .null, .null, .int 0, .int 0]))]) (ixn [])) hP hD [0] (by decide) rfl
  exact W.vret hx hb hr (fun t ht hW => ⟨⟨ixn [], rfl, trivial, ⟨by rw [ht]; exact hP9, hD9⟩⟩, hS.F ht⟩) hS.2.2 d_Reader_init_9
abbrev b_Findings_init : ByteArray := prog_3_method_1_code
def y_Findings_init : MethodName := ⟨R_Findings, "<init>", "()V"⟩
theorem d_Findings_init_0 : decode b_Findings_init 0 = .ok (.aload_n 0, 1) := by decide +kernel
theorem d_Findings_init_1 : decode b_Findings_init 1 = .ok (.invokespecial 3, 3) := by decide +kernel
theorem d_Findings_init_4 : decode b_Findings_init 4 = .ok (.aload_n 0, 1) := by decide +kernel
theorem d_Findings_init_5 : decode b_Findings_init 5 = .ok (.bipush 29, 2) := by decide +kernel
theorem d_Findings_init_7 : decode b_Findings_init 7 = .ok (.newarray .short, 2) := by decide +kernel
theorem d_Findings_init_9 : decode b_Findings_init 9 = .ok (.putfield 9, 3) := by decide +kernel
theorem d_Findings_init_12 : decode b_Findings_init 12 = .ok (.aload_n 0, 1) := by decide +kernel
theorem d_Findings_init_13 : decode b_Findings_init 13 = .ok (.bipush 29, 2) := by decide +kernel
theorem d_Findings_init_15 : decode b_Findings_init 15 = .ok (.newarray .short, 2) := by decide +kernel
theorem d_Findings_init_17 : decode b_Findings_init 17 = .ok (.putfield 15, 3) := by decide +kernel
theorem d_Findings_init_20 : decode b_Findings_init 20 = .ok (.aload_n 0, 1) := by decide +kernel
theorem d_Findings_init_21 : decode b_Findings_init 21 = .ok (.bipush 29, 2) := by decide +kernel
theorem d_Findings_init_23 : decode b_Findings_init 23 = .ok (.newarray .short, 2) := by decide +kernel
theorem d_Findings_init_25 : decode b_Findings_init 25 = .ok (.putfield 18, 3) := by decide +kernel
theorem d_Findings_init_28 : decode b_Findings_init 28 = .ok (.aload_n 0, 1) := by decide +kernel
theorem d_Findings_init_29 : decode b_Findings_init 29 = .ok (.sipush 290, 3) := by decide +kernel
theorem d_Findings_init_32 : decode b_Findings_init 32 = .ok (.newarray .int, 2) := by decide +kernel
theorem d_Findings_init_34 : decode b_Findings_init 34 = .ok (.putfield 21, 3) := by decide +kernel
theorem d_Findings_init_37 : decode b_Findings_init 37 = .ok (.return_, 1) := by decide +kernel
set_option maxHeartbeats 40000000 in
set_option maxRecDepth 100000 in
theorem c_Findings_init (l : Launch) (D : va_G) (ax : Nat → ClassId) (h0 : Nat) (sz : Nat) : Met l y_Findings_init (xws (.code y_Findings_init b_Findings_init 1 none)) ({ frames := 10, cells := 4, slots := 377, locals := 400 }) (va_Pc [.ref h0] (xo D ax [(h0, .inr (1, [.null, .null, .null, .null]))] sz)) ((va_Qv (fun (u : Nat → Nat) => True) (xb D (va_A [(h0, .inr (1, [.null, .null, .null, .null]))] sz) (fun u => [(h0, .inr (1, [.ref (u 0), .ref (u 1), .ref (u 2), .ref (u 3)])), (u 0, .inl (ax 2, 29, .inl (fun _ => 0))), (u 1, .inl (ax 2, 29, .inl (fun _ => 0))), (u 2, .inl (ax 2, 29, .inl (fun _ => 0))), (u 3, .inl (ax 0, 290, .inl (fun _ => 0)))])) (va_A [(h0, .inr (1, [.null, .null, .null, .null]))] sz))) 4 377 (va_A [(h0, .inr (1, [.null, .null, .null, .null]))] sz) := by
  refine Met.ofW (cc := b_Findings_init) (maxL := 1) (ret := none) (by decide) rfl ?_
  intro p e s m args below meth c s₁ B hml hv
  obtain ⟨rfl, hsz, hP, hK, hD0⟩ := hv
  have hx := B.exec
  have hb := B.bytes
  have hr := B.returns
  have hts := xw_hts B.pre
  have hown : s.vm.findClass R_Findings = some m.cls := findClass_of_methodNamed B.named
  have hlocks := B.notSynchronized
  have hin : meth.name = "<init>" := (name_of_methodNamed B.named B.method).1
  subst hsz
  have hD := hD0.self (sz := s.heap.size)
  have hN := xz_entry hP
  generalize hAe : va_A [(h0, .inr (1, [.null, .null, .null, .null]))] s.heap.size = A at hD hN ⊢
  have hA : ∀ q : Nat, s.heap.size ≤ q → A q := fun q h => by rw [← hAe]; exact Or.inr h
  have hS : va_S A s.heap s.heap [] := va_S.rf
  have hl0 := lv_entry ([.ref h0]) (n := 1) (Nat.le_of_ble_eq_true rfl)
  rw [lg_entry_eq]
  generalize (lg_sl ([.ref h0]) ++ List.replicate (1 - (lg_sl ([.ref h0])).length) Slot.unset).toArray = ls at hl0 ⊢
  have hl1 : lv_has ls 1 [(0, .ref h0)] := hl0
  refine xw_gen (fun Z9 hQe => ?_)
  refine lv_aload_n hx hb d_Findings_init_0 rfl (lv_at hl1 0 rfl) ?_
  refine W.objInit hx hb hown (hts _ wd_213) (hts _ wd_32) (hts _ wd_oi) rfl (by rw [hml]; exact hl1.1) rfl d_Findings_init_1 (Nat.le_of_ble_eq_true rfl) (Nat.le_of_ble_eq_true rfl) ?_
  refine W.eq (g2 := F0 m 4 ls []) rfl ?_
  refine lv_aload_n hx hb d_Findings_init_4 rfl (lv_at hl1 0 rfl) ?_
  refine lv_bipush (v := 29) hx hb d_Findings_init_5 (by decide) ?_
  refine xnewa (atype := .short) (ty := .short) (aX := ax 2) hx hb (hts _ wd_207) rfl hK.2.1.2.2.1 hP hD hS hA (xa_s 29) (by decide) (by decide) (by decide) (Nat.le_of_ble_eq_true rfl) (Nat.le_of_ble_eq_true rfl) d_Findings_init_7 (fun q_1 H_2 hP1 hD1 hS1 => ?_)
  clear hP hD hS
  have hS := hS1
  have hW7 : (fun w9 : va_W => va_P D classes w9 H_2 ∧ va_D A w9) [(h0, .inr (1, [.null, .null, .null, .null])), (q_1, .inl (ax 2, 29, .inl (fun _ => 0)))] := ⟨hP1, hD1⟩
  obtain ⟨hP, hD⟩ := hW7
  clear hP1 hD1 hS1
  refine W.widen (k := 1) (n := 29) (Nat.le_of_ble_eq_true rfl) (Nat.le_of_ble_eq_true rfl) ?_
  refine va_putF (D := D) (ci := 1) (v := .ref q_1) (ty := .array .short) (C := R_Findings) (T := F_Findings) (N := 4) hx hb hts i_Findings t_Findings t_Findings_ok n_Findings hown hK.1 hP hD hS 0 rfl rfl 0 (by decide) (hts _ wd_214) (fun _ h9 => h9) rfl hin rfl (by decide +kernel) rfl rfl (Nat.le_of_ble_eq_true rfl) d_Findings_init_9 (fun H_3 locs hP1 hD1 hS1 => ?_)
  clear hP hD hS
  have hS := hS1
  have hW7 : (fun w9 : va_W => va_P D classes w9 H_3 ∧ va_D A w9) [(h0, .inr (1, [.ref q_1, .null, .null, .null])), (q_1, .inl (ax 2, 29, .inl (fun _ => 0)))] := ⟨hP1, hD1⟩
  obtain ⟨hP, hD⟩ := hW7
  clear hP1 hD1 hS1
  refine lv_aload_n hx hb d_Findings_init_12 rfl (lv_at hl1 0 rfl) ?_
  refine lv_bipush (v := 29) hx hb d_Findings_init_13 (by decide) ?_
  refine xnewa (atype := .short) (ty := .short) (aX := ax 2) hx hb (hts _ wd_207) rfl hK.2.1.2.2.1 hP hD hS hA (xa_s 29) (by decide) (by decide) (by decide) (Nat.le_of_ble_eq_true rfl) (Nat.le_of_ble_eq_true rfl) d_Findings_init_15 (fun q_4 H_5 hP1 hD1 hS1 => ?_)
  clear hP hD hS
  have hS := hS1
  have hW7 : (fun w9 : va_W => va_P D classes w9 H_5 ∧ va_D A w9) [(h0, .inr (1, [.ref q_1, .null, .null, .null])), (q_1, .inl (ax 2, 29, .inl (fun _ => 0))), (q_4, .inl (ax 2, 29, .inl (fun _ => 0)))] := ⟨hP1, hD1⟩
  obtain ⟨hP, hD⟩ := hW7
  clear hP1 hD1 hS1
  refine W.widen (k := 2) (n := 58) (Nat.le_of_ble_eq_true rfl) (Nat.le_of_ble_eq_true rfl) ?_
  refine va_putF (D := D) (ci := 1) (v := .ref q_4) (ty := .array .short) (C := R_Findings) (T := F_Findings) (N := 4) hx hb hts i_Findings t_Findings t_Findings_ok n_Findings hown hK.1 hP hD hS 0 rfl rfl 1 (by decide) (hts _ wd_216) (fun _ h9 => h9) rfl hin rfl (by decide +kernel) rfl rfl (Nat.le_of_ble_eq_true rfl) d_Findings_init_17 (fun H_6 locs hP1 hD1 hS1 => ?_)
  clear hP hD hS
  have hS := hS1
  have hW7 : (fun w9 : va_W => va_P D classes w9 H_6 ∧ va_D A w9) [(h0, .inr (1, [.ref q_1, .ref q_4, .null, .null])), (q_1, .inl (ax 2, 29, .inl (fun _ => 0))), (q_4, .inl (ax 2, 29, .inl (fun _ => 0)))] := ⟨hP1, hD1⟩
  obtain ⟨hP, hD⟩ := hW7
  clear hP1 hD1 hS1
  refine lv_aload_n hx hb d_Findings_init_20 rfl (lv_at hl1 0 rfl) ?_
  refine lv_bipush (v := 29) hx hb d_Findings_init_21 (by decide) ?_
  refine xnewa (atype := .short) (ty := .short) (aX := ax 2) hx hb (hts _ wd_207) rfl hK.2.1.2.2.1 hP hD hS hA (xa_s 29) (by decide) (by decide) (by decide) (Nat.le_of_ble_eq_true rfl) (Nat.le_of_ble_eq_true rfl) d_Findings_init_23 (fun q_7 H_8 hP1 hD1 hS1 => ?_)
  clear hP hD hS
  have hS := hS1
  have hW7 : (fun w9 : va_W => va_P D classes w9 H_8 ∧ va_D A w9) [(h0, .inr (1, [.ref q_1, .ref q_4, .null, .null])), (q_1, .inl (ax 2, 29, .inl (fun _ => 0))), (q_4, .inl (ax 2, 29, .inl (fun _ => 0))), (q_7, .inl (ax 2, 29, .inl (fun _ => 0)))] := ⟨hP1, hD1⟩
  obtain ⟨hP, hD⟩ := hW7
  clear hP1 hD1 hS1
  refine W.widen (k := 3) (n := 87) (Nat.le_of_ble_eq_true rfl) (Nat.le_of_ble_eq_true rfl) ?_
  refine va_putF (D := D) (ci := 1) (v := .ref q_7) (ty := .array .short) (C := R_Findings) (T := F_Findings) (N := 4) hx hb hts i_Findings t_Findings t_Findings_ok n_Findings hown hK.1 hP hD hS 0 rfl rfl 2 (by decide) (hts _ wd_218) (fun _ h9 => h9) rfl hin rfl (by decide +kernel) rfl rfl (Nat.le_of_ble_eq_true rfl) d_Findings_init_25 (fun H_9 locs hP1 hD1 hS1 => ?_)
  clear hP hD hS
  have hS := hS1
  have hW7 : (fun w9 : va_W => va_P D classes w9 H_9 ∧ va_D A w9) [(h0, .inr (1, [.ref q_1, .ref q_4, .ref q_7, .null])), (q_1, .inl (ax 2, 29, .inl (fun _ => 0))), (q_4, .inl (ax 2, 29, .inl (fun _ => 0))), (q_7, .inl (ax 2, 29, .inl (fun _ => 0)))] := ⟨hP1, hD1⟩
  obtain ⟨hP, hD⟩ := hW7
  clear hP1 hD1 hS1
  refine lv_aload_n hx hb d_Findings_init_28 rfl (lv_at hl1 0 rfl) ?_
  refine lv_sipush (v := 290) hx hb d_Findings_init_29 (by decide) ?_
  refine xnewa (atype := .int) (ty := .int) (aX := ax 0) hx hb (hts _ wd_68) rfl hK.2.1.1 hP hD hS hA (xa_i 290) (by decide) (by decide) (by decide) (Nat.le_of_ble_eq_true rfl) (Nat.le_of_ble_eq_true rfl) d_Findings_init_32 (fun q_10 H_11 hP1 hD1 hS1 => ?_)
  clear hP hD hS
  have hS := hS1
  have hW7 : (fun w9 : va_W => va_P D classes w9 H_11 ∧ va_D A w9) [(h0, .inr (1, [.ref q_1, .ref q_4, .ref q_7, .null])), (q_1, .inl (ax 2, 29, .inl (fun _ => 0))), (q_4, .inl (ax 2, 29, .inl (fun _ => 0))), (q_7, .inl (ax 2, 29, .inl (fun _ => 0))), (q_10, .inl (ax 0, 290, .inl (fun _ => 0)))] := ⟨hP1, hD1⟩
  obtain ⟨hP, hD⟩ := hW7
  clear hP1 hD1 hS1
  refine W.widen (k := 4) (n := 377) (Nat.le_of_ble_eq_true rfl) (Nat.le_of_ble_eq_true rfl) ?_
  refine va_putF (D := D) (ci := 1) (v := .ref q_10) (ty := .array .int) (C := R_Findings) (T := F_Findings) (N := 4) hx hb hts i_Findings t_Findings t_Findings_ok n_Findings hown hK.1 hP hD hS 0 rfl rfl 3 (by decide) (hts _ wd_220) (fun _ h9 => h9) rfl hin rfl (by decide +kernel) rfl rfl (Nat.le_of_ble_eq_true rfl) d_Findings_init_34 (fun H_12 locs hP1 hD1 hS1 => ?_)
  clear hP hD hS
  have hS := hS1
  have hW7 : (fun w9 : va_W => va_P D classes w9 H_12 ∧ va_D A w9) [(h0, .inr (1, [.ref q_1, .ref q_4, .ref q_7, .ref q_10])), (q_1, .inl (ax 2, 29, .inl (fun _ => 0))), (q_4, .inl (ax 2, 29, .inl (fun _ => 0))), (q_7, .inl (ax 2, 29, .inl (fun _ => 0))), (q_10, .inl (ax 0, 290, .inl (fun _ => 0)))] := ⟨hP1, hD1⟩
  obtain ⟨hP, hD⟩ := hW7
  clear hP1 hD1 hS1
  rw [← hQe]
  obtain ⟨hP9, hD9⟩ := xw_sub2 (wc := (fun u : Nat → Nat => [(h0, .inr (1, [.ref (u 0), .ref (u 1), .ref (u 2), .ref (u 3)])), (u 0, .inl (ax 2, 29, .inl (fun _ => 0))), (u 1, .inl (ax 2, 29, .inl (fun _ => 0))), (u 2, .inl (ax 2, 29, .inl (fun _ => 0))), (u 3, .inl (ax 0, 290, .inl (fun _ => 0)))]) (ixn [q_1, q_4, q_7, q_10])) hP hD [0, 1, 2, 3, 4] (by decide) rfl
  exact W.vret hx hb hr (fun t ht hW => ⟨⟨ixn [q_1, q_4, q_7, q_10], rfl, trivial, ⟨by rw [ht]; exact hP9, hD9⟩⟩, hS.F ht⟩) hS.2.2 d_Findings_init_37
abbrev b_Paper_init : ByteArray := prog_7_method_1_code
def y_Paper_init : MethodName := ⟨R_Paper, "<init>", "()V"⟩
theorem d_Paper_init_0 : decode b_Paper_init 0 = .ok (.aload_n 0, 1) := by decide +kernel
theorem d_Paper_init_1 : decode b_Paper_init 1 = .ok (.invokespecial 3, 3) := by decide +kernel
theorem d_Paper_init_4 : decode b_Paper_init 4 = .ok (.aload_n 0, 1) := by decide +kernel
theorem d_Paper_init_5 : decode b_Paper_init 5 = .ok (.bipush 32, 2) := by decide +kernel
theorem d_Paper_init_7 : decode b_Paper_init 7 = .ok (.newarray .byte, 2) := by decide +kernel
theorem d_Paper_init_9 : decode b_Paper_init 9 = .ok (.putfield 9, 3) := by decide +kernel
theorem d_Paper_init_12 : decode b_Paper_init 12 = .ok (.return_, 1) := by decide +kernel
set_option maxHeartbeats 40000000 in
set_option maxRecDepth 100000 in
theorem c_Paper_init (l : Launch) (D : va_G) (ax : Nat → ClassId) (h0 : Nat) (sz : Nat) : Met l y_Paper_init (xws (.code y_Paper_init b_Paper_init 1 none)) ({ frames := 10, cells := 1, slots := 32, locals := 400 }) (va_Pc [.ref h0] (xo D ax [(h0, .inr (5, [.null, .int 0]))] sz)) ((va_Qv (fun (u : Nat → Nat) => True) (xb D (va_A [(h0, .inr (5, [.null, .int 0]))] sz) (fun u => [(h0, .inr (5, [.ref (u 0), .int 0])), (u 0, .inl (ax 1, 32, .inl (fun _ => 0)))])) (va_A [(h0, .inr (5, [.null, .int 0]))] sz))) 1 32 (va_A [(h0, .inr (5, [.null, .int 0]))] sz) := by
  refine Met.ofW (cc := b_Paper_init) (maxL := 1) (ret := none) (by decide) rfl ?_
  intro p e s m args below meth c s₁ B hml hv
  obtain ⟨rfl, hsz, hP, hK, hD0⟩ := hv
  have hx := B.exec
  have hb := B.bytes
  have hr := B.returns
  have hts := xw_hts B.pre
  have hown : s.vm.findClass R_Paper = some m.cls := findClass_of_methodNamed B.named
  have hlocks := B.notSynchronized
  have hin : meth.name = "<init>" := (name_of_methodNamed B.named B.method).1
  subst hsz
  have hD := hD0.self (sz := s.heap.size)
  have hN := xz_entry hP
  generalize hAe : va_A [(h0, .inr (5, [.null, .int 0]))] s.heap.size = A at hD hN ⊢
  have hA : ∀ q : Nat, s.heap.size ≤ q → A q := fun q h => by rw [← hAe]; exact Or.inr h
  have hS : va_S A s.heap s.heap [] := va_S.rf
  have hl0 := lv_entry ([.ref h0]) (n := 1) (Nat.le_of_ble_eq_true rfl)
  rw [lg_entry_eq]
  generalize (lg_sl ([.ref h0]) ++ List.replicate (1 - (lg_sl ([.ref h0])).length) Slot.unset).toArray = ls at hl0 ⊢
  have hl1 : lv_has ls 1 [(0, .ref h0)] := hl0
  refine xw_gen (fun Z9 hQe => ?_)
  refine lv_aload_n hx hb d_Paper_init_0 rfl (lv_at hl1 0 rfl) ?_
  refine W.objInit hx hb hown (hts _ wd_235) (hts _ wd_32) (hts _ wd_oi) rfl (by rw [hml]; exact hl1.1) rfl d_Paper_init_1 (Nat.le_of_ble_eq_true rfl) (Nat.le_of_ble_eq_true rfl) ?_
  refine W.eq (g2 := F0 m 4 ls []) rfl ?_
  refine lv_aload_n hx hb d_Paper_init_4 rfl (lv_at hl1 0 rfl) ?_
  refine lv_bipush (v := 32) hx hb d_Paper_init_5 (by decide) ?_
  refine xnewa (atype := .byte) (ty := .byte) (aX := ax 1) hx hb (hts _ wd_67) rfl hK.2.1.2.1 hP hD hS hA (xa_b 32) (by decide) (by decide) (by decide) (Nat.le_of_ble_eq_true rfl) (Nat.le_of_ble_eq_true rfl) d_Paper_init_7 (fun q_1 H_2 hP1 hD1 hS1 => ?_)
  clear hP hD hS
  have hS := hS1
  have hW7 : (fun w9 : va_W => va_P D classes w9 H_2 ∧ va_D A w9) [(h0, .inr (5, [.null, .int 0])), (q_1, .inl (ax 1, 32, .inl (fun _ => 0)))] := ⟨hP1, hD1⟩
  obtain ⟨hP, hD⟩ := hW7
  clear hP1 hD1 hS1
  refine W.widen (k := 1) (n := 32) (Nat.le_of_ble_eq_true rfl) (Nat.le_of_ble_eq_true rfl) ?_
  refine va_put (D := D) (ci := 5) (v := .ref q_1) (ty := .array .byte) (C := R_Paper) (T := F_Paper) (N := 2) hx hb hts i_Paper t_Paper t_Paper_ok n_Paper hown hK.1 hP hD hS 0 rfl rfl 0 (by decide) (hts _ wd_236) (fun _ h9 => h9) rfl (by decide +kernel) rfl rfl (Nat.le_of_ble_eq_true rfl) d_Paper_init_9 (fun H_3 locs hP1 hD1 hS1 => ?_)
  clear hP hD hS
  have hS := hS1
  have hW7 : (fun w9 : va_W => va_P D classes w9 H_3 ∧ va_D A w9) [(h0, .inr (5, [.ref q_1, .int 0])), (q_1, .inl (ax 1, 32, .inl (fun _ => 0)))] := ⟨hP1, hD1⟩
  obtain ⟨hP, hD⟩ := hW7
  clear hP1 hD1 hS1
  rw [← hQe]
  obtain ⟨hP9, hD9⟩ := xw_sub2 (wc := (fun u : Nat → Nat => [(h0, .inr (5, [.ref (u 0), .int 0])), (u 0, .inl (ax 1, 32, .inl (fun _ => 0)))]) (ixn [q_1])) hP hD [0, 1] (by decide) rfl
  exact W.vret hx hb hr (fun t ht hW => ⟨⟨ixn [q_1], rfl, trivial, ⟨by rw [ht]; exact hP9, hD9⟩⟩, hS.F ht⟩) hS.2.2 d_Paper_init_12
abbrev b_Runner_init : ByteArray := prog_10_method_1_code
def y_Runner_init : MethodName := ⟨R_Runner, "<init>", "()V"⟩
theorem d_Runner_init_0 : decode b_Runner_init 0 = .ok (.aload_n 0, 1) := by decide +kernel
theorem d_Runner_init_1 : decode b_Runner_init 1 = .ok (.invokespecial 3, 3) := by decide +kernel
theorem d_Runner_init_4 : decode b_Runner_init 4 = .ok (.aload_n 0, 1) := by decide +kernel
theorem d_Runner_init_5 : decode b_Runner_init 5 = .ok (.bipush 6, 2) := by decide +kernel
theorem d_Runner_init_7 : decode b_Runner_init 7 = .ok (.newarray .long, 2) := by decide +kernel
theorem d_Runner_init_9 : decode b_Runner_init 9 = .ok (.putfield 9, 3) := by decide +kernel
theorem d_Runner_init_12 : decode b_Runner_init 12 = .ok (.return_, 1) := by decide +kernel
set_option maxHeartbeats 40000000 in
set_option maxRecDepth 100000 in
theorem c_Runner_init (l : Launch) (D : va_G) (ax : Nat → ClassId) (h0 : Nat) (sz : Nat) : Met l y_Runner_init (xws (.code y_Runner_init b_Runner_init 1 none)) ({ frames := 10, cells := 1, slots := 6, locals := 400 }) (va_Pc [.ref h0] (xo D ax [(h0, .inr (8, [.null]))] sz)) ((va_Qv (fun (u : Nat → Nat) => True) (xb D (va_A [(h0, .inr (8, [.null]))] sz) (fun u => [(h0, .inr (8, [.ref (u 0)])), (u 0, .inl (ax 4, 6, .inr (.inl (fun _ => 0))))])) (va_A [(h0, .inr (8, [.null]))] sz))) 1 6 (va_A [(h0, .inr (8, [.null]))] sz) := by
  refine Met.ofW (cc := b_Runner_init) (maxL := 1) (ret := none) (by decide) rfl ?_
  intro p e s m args below meth c s₁ B hml hv
  obtain ⟨rfl, hsz, hP, hK, hD0⟩ := hv
  have hx := B.exec
  have hb := B.bytes
  have hr := B.returns
  have hts := xw_hts B.pre
  have hown : s.vm.findClass R_Runner = some m.cls := findClass_of_methodNamed B.named
  have hlocks := B.notSynchronized
  have hin : meth.name = "<init>" := (name_of_methodNamed B.named B.method).1
  subst hsz
  have hD := hD0.self (sz := s.heap.size)
  have hN := xz_entry hP
  generalize hAe : va_A [(h0, .inr (8, [.null]))] s.heap.size = A at hD hN ⊢
  have hA : ∀ q : Nat, s.heap.size ≤ q → A q := fun q h => by rw [← hAe]; exact Or.inr h
  have hS : va_S A s.heap s.heap [] := va_S.rf
  have hl0 := lv_entry ([.ref h0]) (n := 1) (Nat.le_of_ble_eq_true rfl)
  rw [lg_entry_eq]
  generalize (lg_sl ([.ref h0]) ++ List.replicate (1 - (lg_sl ([.ref h0])).length) Slot.unset).toArray = ls at hl0 ⊢
  have hl1 : lv_has ls 1 [(0, .ref h0)] := hl0
  refine xw_gen (fun Z9 hQe => ?_)
  refine lv_aload_n hx hb d_Runner_init_0 rfl (lv_at hl1 0 rfl) ?_
  refine W.objInit hx hb hown (hts _ wd_250) (hts _ wd_32) (hts _ wd_oi) rfl (by rw [hml]; exact hl1.1) rfl d_Runner_init_1 (Nat.le_of_ble_eq_true rfl) (Nat.le_of_ble_eq_true rfl) ?_
  refine W.eq (g2 := F0 m 4 ls []) rfl ?_
  refine lv_aload_n hx hb d_Runner_init_4 rfl (lv_at hl1 0 rfl) ?_
  refine lv_bipush (v := 6) hx hb d_Runner_init_5 (by decide) ?_
  refine xnewa (atype := .long) (ty := .long) (aX := ax 4) hx hb (hts _ wd_256) rfl hK.2.1.2.2.2.2 hP hD hS hA (xa_j 6) (by decide) (by decide) (by decide) (Nat.le_of_ble_eq_true rfl) (Nat.le_of_ble_eq_true rfl) d_Runner_init_7 (fun q_1 H_2 hP1 hD1 hS1 => ?_)
  clear hP hD hS
  have hS := hS1
  have hW7 : (fun w9 : va_W => va_P D classes w9 H_2 ∧ va_D A w9) [(h0, .inr (8, [.null])), (q_1, .inl (ax 4, 6, .inr (.inl (fun _ => 0))))] := ⟨hP1, hD1⟩
  obtain ⟨hP, hD⟩ := hW7
  clear hP1 hD1 hS1
  refine W.widen (k := 1) (n := 6) (Nat.le_of_ble_eq_true rfl) (Nat.le_of_ble_eq_true rfl) ?_
  refine va_putF (D := D) (ci := 8) (v := .ref q_1) (ty := .array .long) (C := R_Runner) (T := F_Runner) (N := 1) hx hb hts i_Runner t_Runner t_Runner_ok n_Runner hown hK.1 hP hD hS 0 rfl rfl 0 (by decide) (hts _ wd_251) (fun _ h9 => h9) rfl hin rfl (by decide +kernel) rfl rfl (Nat.le_of_ble_eq_true rfl) d_Runner_init_9 (fun H_3 locs hP1 hD1 hS1 => ?_)
  clear hP hD hS
  have hS := hS1
  have hW7 : (fun w9 : va_W => va_P D classes w9 H_3 ∧ va_D A w9) [(h0, .inr (8, [.ref q_1])), (q_1, .inl (ax 4, 6, .inr (.inl (fun _ => 0))))] := ⟨hP1, hD1⟩
  obtain ⟨hP, hD⟩ := hW7
  clear hP1 hD1 hS1
  rw [← hQe]
  obtain ⟨hP9, hD9⟩ := xw_sub2 (wc := (fun u : Nat → Nat => [(h0, .inr (8, [.ref (u 0)])), (u 0, .inl (ax 4, 6, .inr (.inl (fun _ => 0))))]) (ixn [q_1])) hP hD [0, 1] (by decide) rfl
  exact W.vret hx hb hr (fun t ht hW => ⟨⟨ixn [q_1], rfl, trivial, ⟨by rw [ht]; exact hP9, hD9⟩⟩, hS.F ht⟩) hS.2.2 d_Runner_init_12
abbrev b_Maker_init : ByteArray := prog_5_method_1_code
def y_Maker_init : MethodName := ⟨R_Maker, "<init>", "()V"⟩
theorem d_Maker_init_0 : decode b_Maker_init 0 = .ok (.aload_n 0, 1) := by decide +kernel
theorem d_Maker_init_1 : decode b_Maker_init 1 = .ok (.invokespecial 3, 3) := by decide +kernel
theorem d_Maker_init_4 : decode b_Maker_init 4 = .ok (.aload_n 0, 1) := by decide +kernel
theorem d_Maker_init_5 : decode b_Maker_init 5 = .ok (.new 9, 3) := by decide +kernel
theorem d_Maker_init_8 : decode b_Maker_init 8 = .ok (.dup, 1) := by decide +kernel
theorem d_Maker_init_9 : decode b_Maker_init 9 = .ok (.invokespecial 11, 3) := by decide +kernel
theorem d_Maker_init_12 : decode b_Maker_init 12 = .ok (.putfield 12, 3) := by decide +kernel
theorem d_Maker_init_15 : decode b_Maker_init 15 = .ok (.aload_n 0, 1) := by decide +kernel
theorem d_Maker_init_16 : decode b_Maker_init 16 = .ok (.bipush 16, 2) := by decide +kernel
theorem d_Maker_init_18 : decode b_Maker_init 18 = .ok (.newarray .int, 2) := by decide +kernel
theorem d_Maker_init_20 : decode b_Maker_init 20 = .ok (.putfield 18, 3) := by decide +kernel
theorem d_Maker_init_23 : decode b_Maker_init 23 = .ok (.aload_n 0, 1) := by decide +kernel
theorem d_Maker_init_24 : decode b_Maker_init 24 = .ok (.iconst (-1), 1) := by decide +kernel
theorem d_Maker_init_25 : decode b_Maker_init 25 = .ok (.putfield 22, 3) := by decide +kernel
theorem d_Maker_init_28 : decode b_Maker_init 28 = .ok (.return_, 1) := by decide +kernel
set_option maxHeartbeats 40000000 in
set_option maxRecDepth 100000 in
theorem c_Maker_init (l : Launch) (D : va_G) (ax : Nat → ClassId) (h0 : Nat) (sz : Nat) : Met l y_Maker_init (xws (.code y_Maker_init b_Maker_init 1 none)) ({ frames := 20, cells := 5, slots := 44, locals := 800 }) (va_Pc [.ref h0] (xo D ax [(h0, .inr (3, [.null, .null, .null, .null, .int 0]))] sz)) ((va_Qv (fun (u : Nat → Nat) => True) (xb D (va_A [(h0, .inr (3, [.null, .null, .null, .null, .int 0]))] sz) (fun u => [(h0, .inr (3, [.ref (u 0), .ref (u 4), .null, .null, .int (-1)])), (u 0, .inr (4, [.ref (u 1), .ref (u 2), .ref (u 3), .int 0])), (u 1, .inl (ax 1, 8, .inl (fun _ => 0))), (u 2, .inl (ax 0, 8, .inl (fun _ => 0))), (u 3, .inl (ax 0, 8, .inl (fun _ => 0))), (u 4, .inl (ax 0, 16, .inl (fun _ => 0)))])) (va_A [(h0, .inr (3, [.null, .null, .null, .null, .int 0]))] sz))) 5 44 (va_A [(h0, .inr (3, [.null, .null, .null, .null, .int 0]))] sz) := by
  refine Met.ofW (cc := b_Maker_init) (maxL := 1) (ret := none) (by decide) rfl ?_
  intro p e s m args below meth c s₁ B hml hv
  obtain ⟨rfl, hsz, hP, hK, hD0⟩ := hv
  have hx := B.exec
  have hb := B.bytes
  have hr := B.returns
  have hts := xw_hts B.pre
  have hown : s.vm.findClass R_Maker = some m.cls := findClass_of_methodNamed B.named
  have hlocks := B.notSynchronized
  have hin : meth.name = "<init>" := (name_of_methodNamed B.named B.method).1
  subst hsz
  have hD := hD0.self (sz := s.heap.size)
  have hN := xz_entry hP
  generalize hAe : va_A [(h0, .inr (3, [.null, .null, .null, .null, .int 0]))] s.heap.size = A at hD hN ⊢
  have hA : ∀ q : Nat, s.heap.size ≤ q → A q := fun q h => by rw [← hAe]; exact Or.inr h
  have hS : va_S A s.heap s.heap [] := va_S.rf
  have hl0 := lv_entry ([.ref h0]) (n := 1) (Nat.le_of_ble_eq_true rfl)
  rw [lg_entry_eq]
  generalize (lg_sl ([.ref h0]) ++ List.replicate (1 - (lg_sl ([.ref h0])).length) Slot.unset).toArray = ls at hl0 ⊢
  have hl1 : lv_has ls 1 [(0, .ref h0)] := hl0
  refine xw_gen (fun Z9 hQe => ?_)
  refine lv_aload_n hx hb d_Maker_init_0 rfl (lv_at hl1 0 rfl) ?_
  refine W.objInit hx hb hown (hts _ wd_96) (hts _ wd_32) (hts _ wd_oi) rfl (by rw [hml]; exact hl1.1) rfl d_Maker_init_1 (Nat.le_of_ble_eq_true rfl) (Nat.le_of_ble_eq_true rfl) ?_
  refine W.eq (g2 := F0 m 4 ls []) rfl ?_
  refine lv_aload_n hx hb d_Maker_init_4 rfl (lv_at hl1 0 rfl) ?_
  refine va_new (ci := 4) (fs := [.null, .null, .null, .int 0]) (C := R_Nodes) (T := F_Nodes) (N := 4) hx hb hts i_Nodes t_Nodes t_Nodes_ok hown (hts _ wd_97) (hts _ wd_98) (hts _ wd_5) hK.1 hP hD hS hA rfl (by decide +kernel) (Nat.le_of_ble_eq_true rfl) (Nat.le_of_ble_eq_true rfl) d_Maker_init_5 (fun q_1 H_2 hP1 hD1 hS1 => ?_)
  clear hP hD hS
  have hS := hS1
  have hW7 : (fun w9 : va_W => va_P D classes w9 H_2 ∧ va_D A w9) [(h0, .inr (3, [.null, .null, .null, .null, .int 0])), (q_1, .inr (4, [.null, .null, .null, .int 0]))] := ⟨hP1, hD1⟩
  obtain ⟨hP, hD⟩ := hW7
  clear hP1 hD1 hS1
  refine W.widen (k := 1) (n := 4) (Nat.le_of_ble_eq_true rfl) (Nat.le_of_ble_eq_true rfl) ?_
  refine lv_dup hx hb d_Maker_init_8 rfl ?_
  obtain ⟨hPc, hDc, hFc, hCs⟩ := xw_sub3 (wc := [(q_1, .inr (4, [.null, .null, .null, .int 0]))]) hP hD hS hA [1] (by decide) rfl
  have hz := xz_of hN hS
  refine va_callv (va_runIN (As := []) (rest := [.ref q_1, .ref h0]) ⟨hx, hb, hml, hown, hts⟩ (c_Nodes_init l D ax q_1 H_2.size) (xcN (n := 0) hts wd_101 wd_5 (hK.2.2.1 (.methodLinkNest "TripleDesk$Maker" (11 : Nat) ({ cls := "TripleDesk$Nodes", name := "<init>", desc := "()V" } : Jvm.MethodName) "TripleDesk") (by decide +kernel)) wd_100 rfl rfl rfl (by decide +kernel) ⟨Nat.le_of_ble_eq_true rfl, Nat.le_of_ble_eq_true rfl⟩) (xpS (As := [.ref q_1]) hPc hK hz hDc) rfl rfl hl1.1 rfl (lv_room (Nat.le_of_ble_eq_true rfl)) d_Maker_init_9 ⟨Nat.le_of_ble_eq_true rfl, Nat.le_of_ble_eq_true rfl⟩) hS (fun q _ h => hFc q h) hFc (fun u_3 t H_4 locs ht hvm hw hB hz1 hk1 hS1 => ?_)
  try dsimp only at hw
  obtain ⟨hP1, hD1⟩ := hB
  rw [ht] at hP1
  have hjn := xw_join3 (wl := [(h0, .inr (3, [.null, .null, .null, .null, .int 0])), (q_1, .inr (4, [.ref (u_3 0), .ref (u_3 1), .ref (u_3 2), .int 0])), ((u_3 0), .inl (ax 1, 8, .inl (fun _ => 0))), ((u_3 1), .inl (ax 0, 8, .inl (fun _ => 0))), ((u_3 2), .inl (ax 0, 8, .inl (fun _ => 0)))]) hP hD [1] [0] hCs (by decide) (by decide) hk1 hFc hP1 hD1 rfl
  clear hP1 hD1
  clear hPc hDc hFc hCs hz hz1 hk1 ht hvm
  clear hP hD hS
  have hS := hS1
  obtain ⟨hP, hD⟩ := hjn
  clear hS1
  refine W.widen (k := 4) (n := 28) (Nat.le_of_ble_eq_true rfl) (Nat.le_of_ble_eq_true rfl) ?_
  refine va_putF (D := D) (ci := 3) (v := .ref q_1) (ty := .object "TripleDesk$Nodes") (C := R_Maker) (T := F_Maker) (N := 5) hx hb hts i_Maker t_Maker t_Maker_ok n_Maker hown hK.1 hP hD hS 0 rfl rfl 0 (by decide) (hts _ wd_129) (fun _ h9 => h9) rfl hin rfl (by decide +kernel) rfl rfl (Nat.le_of_ble_eq_true rfl) d_Maker_init_12 (fun H_6 locs hP1 hD1 hS1 => ?_)
  clear hP hD hS
  have hS := hS1
  have hW7 : (fun w9 : va_W => va_P D classes w9 H_6 ∧ va_D A w9) [(h0, .inr (3, [.ref q_1, .null, .null, .null, .int 0])), (q_1, .inr (4, [.ref (u_3 0), .ref (u_3 1), .ref (u_3 2), .int 0])), ((u_3 0), .inl (ax 1, 8, .inl (fun _ => 0))), ((u_3 1), .inl (ax 0, 8, .inl (fun _ => 0))), ((u_3 2), .inl (ax 0, 8, .inl (fun _ => 0)))] := ⟨hP1, hD1⟩
  obtain ⟨hP, hD⟩ := hW7
  clear hP1 hD1 hS1
  refine lv_aload_n hx hb d_Maker_init_15 rfl (lv_at hl1 0 rfl) ?_
  refine lv_bipush (v := 16) hx hb d_Maker_init_16 (by decide) ?_
  refine xnewa (atype := .int) (ty := .int) (aX := ax 0) hx hb (hts _ wd_68) rfl hK.2.1.1 hP hD hS hA (xa_i 16) (by decide) (by decide) (by decide) (Nat.le_of_ble_eq_true rfl) (Nat.le_of_ble_eq_true rfl) d_Maker_init_18 (fun q_7 H_8 hP1 hD1 hS1 => ?_)
  clear hP hD hS
  have hS := hS1
  have hW7 : (fun w9 : va_W => va_P D classes w9 H_8 ∧ va_D A w9) [(h0, .inr (3, [.ref q_1, .null, .null, .null, .int 0])), (q_1, .inr (4, [.ref (u_3 0), .ref (u_3 1), .ref (u_3 2), .int 0])), ((u_3 0), .inl (ax 1, 8, .inl (fun _ => 0))), ((u_3 1), .inl (ax 0, 8, .inl (fun _ => 0))), ((u_3 2), .inl (ax 0, 8, .inl (fun _ => 0))), (q_7, .inl (ax 0, 16, .inl (fun _ => 0)))] := ⟨hP1, hD1⟩
  obtain ⟨hP, hD⟩ := hW7
  clear hP1 hD1 hS1
  refine W.widen (k := 5) (n := 44) (Nat.le_of_ble_eq_true rfl) (Nat.le_of_ble_eq_true rfl) ?_
  refine va_putF (D := D) (ci := 3) (v := .ref q_7) (ty := .array .int) (C := R_Maker) (T := F_Maker) (N := 5) hx hb hts i_Maker t_Maker t_Maker_ok n_Maker hown hK.1 hP hD hS 0 rfl rfl 1 (by decide) (hts _ wd_131) (fun _ h9 => h9) rfl hin rfl (by decide +kernel) rfl rfl (Nat.le_of_ble_eq_true rfl) d_Maker_init_20 (fun H_9 locs hP1 hD1 hS1 => ?_)
  clear hP hD hS
  have hS := hS1
  have hW7 : (fun w9 : va_W => va_P D classes w9 H_9 ∧ va_D A w9) [(h0, .inr (3, [.ref q_1, .ref q_7, .null, .null, .int 0])), (q_1, .inr (4, [.ref (u_3 0), .ref (u_3 1), .ref (u_3 2), .int 0])), ((u_3 0), .inl (ax 1, 8, .inl (fun _ => 0))), ((u_3 1), .inl (ax 0, 8, .inl (fun _ => 0))), ((u_3 2), .inl (ax 0, 8, .inl (fun _ => 0))), (q_7, .inl (ax 0, 16, .inl (fun _ => 0)))] := ⟨hP1, hD1⟩
  obtain ⟨hP, hD⟩ := hW7
  clear hP1 hD1 hS1
  refine lv_aload_n hx hb d_Maker_init_23 rfl (lv_at hl1 0 rfl) ?_
  refine lv_iconst (v := (-1)) hx hb d_Maker_init_24 (by decide) ?_
  refine va_put (D := D) (ci := 3) (v := .int (-1)) (ty := .int) (C := R_Maker) (T := F_Maker) (N := 5) hx hb hts i_Maker t_Maker t_Maker_ok n_Maker hown hK.1 hP hD hS 0 rfl rfl 4 (by decide) (hts _ wd_134) (fun _ h9 => h9) rfl (by decide +kernel) rfl rfl (Nat.le_of_ble_eq_true rfl) d_Maker_init_25 (fun H_10 locs hP1 hD1 hS1 => ?_)
  clear hP hD hS
  have hS := hS1
  have hW7 : (fun w9 : va_W => va_P D classes w9 H_10 ∧ va_D A w9) [(h0, .inr (3, [.ref q_1, .ref q_7, .null, .null, .int (-1)])), (q_1, .inr (4, [.ref (u_3 0), .ref (u_3 1), .ref (u_3 2), .int 0])), ((u_3 0), .inl (ax 1, 8, .inl (fun _ => 0))), ((u_3 1), .inl (ax 0, 8, .inl (fun _ => 0))), ((u_3 2), .inl (ax 0, 8, .inl (fun _ => 0))), (q_7, .inl (ax 0, 16, .inl (fun _ => 0)))] := ⟨hP1, hD1⟩
  obtain ⟨hP, hD⟩ := hW7
  clear hP1 hD1 hS1
  rw [← hQe]
  obtain ⟨hP9, hD9⟩ := xw_sub2 (wc := (fun u : Nat → Nat => [(h0, .inr (3, [.ref (u 0), .ref (u 4), .null, .null, .int (-1)])), (u 0, .inr (4, [.ref (u 1), .ref (u 2), .ref (u 3), .int 0])), (u 1, .inl (ax 1, 8, .inl (fun _ => 0))), (u 2, .inl (ax 0, 8, .inl (fun _ => 0))), (u 3, .inl (ax 0, 8, .inl (fun _ => 0))), (u 4, .inl (ax 0, 16, .inl (fun _ => 0)))]) (ixn [q_1, (u_3 0), (u_3 1), (u_3 2), q_7])) hP hD [0, 1, 2, 3, 4, 5] (by decide) rfl
  exact W.vret hx hb hr (fun t ht hW => ⟨⟨ixn [q_1, (u_3 0), (u_3 1), (u_3 2), q_7], rfl, trivial, ⟨by rw [ht]; exact hP9, hD9⟩⟩, hS.F ht⟩) hS.2.2 d_Maker_init_28
abbrev b_Bounds_init : ByteArray := prog_2_method_1_code
def y_Bounds_init : MethodName := ⟨R_Bounds, "<init>", "()V"⟩
theorem d_Bounds_init_0 : decode b_Bounds_init 0 = .ok (.aload_n 0, 1) := by decide +kernel
theorem d_Bounds_init_1 : decode b_Bounds_init 1 = .ok (.invokespecial 3, 3) := by decide +kernel
theorem d_Bounds_init_4 : decode b_Bounds_init 4 = .ok (.aload_n 0, 1) := by decide +kernel
theorem d_Bounds_init_5 : decode b_Bounds_init 5 = .ok (.bipush 11, 2) := by decide +kernel
theorem d_Bounds_init_7 : decode b_Bounds_init 7 = .ok (.newarray .int, 2) := by decide +kernel
theorem d_Bounds_init_9 : decode b_Bounds_init 9 = .ok (.putfield 9, 3) := by decide +kernel
theorem d_Bounds_init_12 : decode b_Bounds_init 12 = .ok (.aload_n 0, 1) := by decide +kernel
theorem d_Bounds_init_13 : decode b_Bounds_init 13 = .ok (.bipush 121, 2) := by decide +kernel
theorem d_Bounds_init_15 : decode b_Bounds_init 15 = .ok (.newarray .int, 2) := by decide +kernel
theorem d_Bounds_init_17 : decode b_Bounds_init 17 = .ok (.putfield 15, 3) := by decide +kernel
theorem d_Bounds_init_20 : decode b_Bounds_init 20 = .ok (.aload_n 0, 1) := by decide +kernel
theorem d_Bounds_init_21 : decode b_Bounds_init 21 = .ok (.bipush 121, 2) := by decide +kernel
theorem d_Bounds_init_23 : decode b_Bounds_init 23 = .ok (.newarray .int, 2) := by decide +kernel
theorem d_Bounds_init_25 : decode b_Bounds_init 25 = .ok (.putfield 18, 3) := by decide +kernel
theorem d_Bounds_init_28 : decode b_Bounds_init 28 = .ok (.aload_n 0, 1) := by decide +kernel
theorem d_Bounds_init_29 : decode b_Bounds_init 29 = .ok (.getfield 15, 3) := by decide +kernel
theorem d_Bounds_init_32 : decode b_Bounds_init 32 = .ok (.ldc 21, 2) := by decide +kernel
theorem d_Bounds_init_34 : decode b_Bounds_init 34 = .ok (.invokestatic 22, 3) := by decide +kernel
theorem d_Bounds_init_37 : decode b_Bounds_init 37 = .ok (.return_, 1) := by decide +kernel
set_option maxHeartbeats 40000000 in
set_option maxRecDepth 100000 in
theorem c_Bounds_init (l : Launch) (D : va_G) (ax : Nat → ClassId) (h0 : Nat) (sz : Nat) : Met l y_Bounds_init (xws (.code y_Bounds_init b_Bounds_init 1 none)) ({ frames := 20, cells := 3, slots := 253, locals := 800 }) (va_Pc [.ref h0] (xo D ax [(h0, .inr (0, [.null, .null, .null, .int 0]))] sz)) ((va_Qv (fun (u : Nat → Nat) => True) (xb D (va_A [(h0, .inr (0, [.null, .null, .null, .int 0]))] sz) (fun u => [(h0, .inr (0, [.ref (u 0), .ref (u 1), .ref (u 2), .int 0])), (u 0, .inl (ax 0, 11, .inl (fun _ => 0))), (u 1, .inl (ax 0, 121, .inl (fun j => if j < 121 then 268435456 else (fun _ => 0) j))), (u 2, .inl (ax 0, 121, .inl (fun _ => 0)))])) (va_A [(h0, .inr (0, [.null, .null, .null, .int 0]))] sz))) 3 253 (va_A [(h0, .inr (0, [.null, .null, .null, .int 0]))] sz) := by
  refine Met.ofW (cc := b_Bounds_init) (maxL := 1) (ret := none) (by decide) rfl ?_
  intro p e s m args below meth c s₁ B hml hv
  obtain ⟨rfl, hsz, hP, hK, hD0⟩ := hv
  have hx := B.exec
  have hb := B.bytes
  have hr := B.returns
  have hts := xw_hts B.pre
  have hown : s.vm.findClass R_Bounds = some m.cls := findClass_of_methodNamed B.named
  have hlocks := B.notSynchronized
  have hin : meth.name = "<init>" := (name_of_methodNamed B.named B.method).1
  subst hsz
  have hD := hD0.self (sz := s.heap.size)
  have hN := xz_entry hP
  generalize hAe : va_A [(h0, .inr (0, [.null, .null, .null, .int 0]))] s.heap.size = A at hD hN ⊢
  have hA : ∀ q : Nat, s.heap.size ≤ q → A q := fun q h => by rw [← hAe]; exact Or.inr h
  have hS : va_S A s.heap s.heap [] := va_S.rf
  have hl0 := lv_entry ([.ref h0]) (n := 1) (Nat.le_of_ble_eq_true rfl)
  rw [lg_entry_eq]
  generalize (lg_sl ([.ref h0]) ++ List.replicate (1 - (lg_sl ([.ref h0])).length) Slot.unset).toArray = ls at hl0 ⊢
  have hl1 : lv_has ls 1 [(0, .ref h0)] := hl0
  refine xw_gen (fun Z9 hQe => ?_)
  refine lv_aload_n hx hb d_Bounds_init_0 rfl (lv_at hl1 0 rfl) ?_
  refine W.objInit hx hb hown (hts _ wd_157) (hts _ wd_32) (hts _ wd_oi) rfl (by rw [hml]; exact hl1.1) rfl d_Bounds_init_1 (Nat.le_of_ble_eq_true rfl) (Nat.le_of_ble_eq_true rfl) ?_
  refine W.eq (g2 := F0 m 4 ls []) rfl ?_
  refine lv_aload_n hx hb d_Bounds_init_4 rfl (lv_at hl1 0 rfl) ?_
  refine lv_bipush (v := 11) hx hb d_Bounds_init_5 (by decide) ?_
  refine xnewa (atype := .int) (ty := .int) (aX := ax 0) hx hb (hts _ wd_68) rfl hK.2.1.1 hP hD hS hA (xa_i 11) (by decide) (by decide) (by decide) (Nat.le_of_ble_eq_true rfl) (Nat.le_of_ble_eq_true rfl) d_Bounds_init_7 (fun q_1 H_2 hP1 hD1 hS1 => ?_)
  clear hP hD hS
  have hS := hS1
  have hW7 : (fun w9 : va_W => va_P D classes w9 H_2 ∧ va_D A w9) [(h0, .inr (0, [.null, .null, .null, .int 0])), (q_1, .inl (ax 0, 11, .inl (fun _ => 0)))] := ⟨hP1, hD1⟩
  obtain ⟨hP, hD⟩ := hW7
  clear hP1 hD1 hS1
  refine W.widen (k := 1) (n := 11) (Nat.le_of_ble_eq_true rfl) (Nat.le_of_ble_eq_true rfl) ?_
  refine va_putF (D := D) (ci := 0) (v := .ref q_1) (ty := .array .int) (C := R_Bounds) (T := F_Bounds) (N := 4) hx hb hts i_Bounds t_Bounds t_Bounds_ok n_Bounds hown hK.1 hP hD hS 0 rfl rfl 0 (by decide) (hts _ wd_162) (fun _ h9 => h9) rfl hin rfl (by decide +kernel) rfl rfl (Nat.le_of_ble_eq_true rfl) d_Bounds_init_9 (fun H_3 locs hP1 hD1 hS1 => ?_)
  clear hP hD hS
  have hS := hS1
  have hW7 : (fun w9 : va_W => va_P D classes w9 H_3 ∧ va_D A w9) [(h0, .inr (0, [.ref q_1, .null, .null, .int 0])), (q_1, .inl (ax 0, 11, .inl (fun _ => 0)))] := ⟨hP1, hD1⟩
  obtain ⟨hP, hD⟩ := hW7
  clear hP1 hD1 hS1
  refine lv_aload_n hx hb d_Bounds_init_12 rfl (lv_at hl1 0 rfl) ?_
  refine lv_bipush (v := 121) hx hb d_Bounds_init_13 (by decide) ?_
  refine xnewa (atype := .int) (ty := .int) (aX := ax 0) hx hb (hts _ wd_68) rfl hK.2.1.1 hP hD hS hA (xa_i 121) (by decide) (by decide) (by decide) (Nat.le_of_ble_eq_true rfl) (Nat.le_of_ble_eq_true rfl) d_Bounds_init_15 (fun q_4 H_5 hP1 hD1 hS1 => ?_)
  clear hP hD hS
  have hS := hS1
  have hW7 : (fun w9 : va_W => va_P D classes w9 H_5 ∧ va_D A w9) [(h0, .inr (0, [.ref q_1, .null, .null, .int 0])), (q_1, .inl (ax 0, 11, .inl (fun _ => 0))), (q_4, .inl (ax 0, 121, .inl (fun _ => 0)))] := ⟨hP1, hD1⟩
  obtain ⟨hP, hD⟩ := hW7
  clear hP1 hD1 hS1
  refine W.widen (k := 2) (n := 132) (Nat.le_of_ble_eq_true rfl) (Nat.le_of_ble_eq_true rfl) ?_
  refine va_putF (D := D) (ci := 0) (v := .ref q_4) (ty := .array .int) (C := R_Bounds) (T := F_Bounds) (N := 4) hx hb hts i_Bounds t_Bounds t_Bounds_ok n_Bounds hown hK.1 hP hD hS 0 rfl rfl 1 (by decide) (hts _ wd_163) (fun _ h9 => h9) rfl hin rfl (by decide +kernel) rfl rfl (Nat.le_of_ble_eq_true rfl) d_Bounds_init_17 (fun H_6 locs hP1 hD1 hS1 => ?_)
  clear hP hD hS
  have hS := hS1
  have hW7 : (fun w9 : va_W => va_P D classes w9 H_6 ∧ va_D A w9) [(h0, .inr (0, [.ref q_1, .ref q_4, .null, .int 0])), (q_1, .inl (ax 0, 11, .inl (fun _ => 0))), (q_4, .inl (ax 0, 121, .inl (fun _ => 0)))] := ⟨hP1, hD1⟩
  obtain ⟨hP, hD⟩ := hW7
  clear hP1 hD1 hS1
  refine lv_aload_n hx hb d_Bounds_init_20 rfl (lv_at hl1 0 rfl) ?_
  refine lv_bipush (v := 121) hx hb d_Bounds_init_21 (by decide) ?_
  refine xnewa (atype := .int) (ty := .int) (aX := ax 0) hx hb (hts _ wd_68) rfl hK.2.1.1 hP hD hS hA (xa_i 121) (by decide) (by decide) (by decide) (Nat.le_of_ble_eq_true rfl) (Nat.le_of_ble_eq_true rfl) d_Bounds_init_23 (fun q_7 H_8 hP1 hD1 hS1 => ?_)
  clear hP hD hS
  have hS := hS1
  have hW7 : (fun w9 : va_W => va_P D classes w9 H_8 ∧ va_D A w9) [(h0, .inr (0, [.ref q_1, .ref q_4, .null, .int 0])), (q_1, .inl (ax 0, 11, .inl (fun _ => 0))), (q_4, .inl (ax 0, 121, .inl (fun _ => 0))), (q_7, .inl (ax 0, 121, .inl (fun _ => 0)))] := ⟨hP1, hD1⟩
  obtain ⟨hP, hD⟩ := hW7
  clear hP1 hD1 hS1
  refine W.widen (k := 3) (n := 253) (Nat.le_of_ble_eq_true rfl) (Nat.le_of_ble_eq_true rfl) ?_
  refine va_putF (D := D) (ci := 0) (v := .ref q_7) (ty := .array .int) (C := R_Bounds) (T := F_Bounds) (N := 4) hx hb hts i_Bounds t_Bounds t_Bounds_ok n_Bounds hown hK.1 hP hD hS 0 rfl rfl 2 (by decide) (hts _ wd_164) (fun _ h9 => h9) rfl hin rfl (by decide +kernel) rfl rfl (Nat.le_of_ble_eq_true rfl) d_Bounds_init_25 (fun H_9 locs hP1 hD1 hS1 => ?_)
  clear hP hD hS
  have hS := hS1
  have hW7 : (fun w9 : va_W => va_P D classes w9 H_9 ∧ va_D A w9) [(h0, .inr (0, [.ref q_1, .ref q_4, .ref q_7, .int 0])), (q_1, .inl (ax 0, 11, .inl (fun _ => 0))), (q_4, .inl (ax 0, 121, .inl (fun _ => 0))), (q_7, .inl (ax 0, 121, .inl (fun _ => 0)))] := ⟨hP1, hD1⟩
  obtain ⟨hP, hD⟩ := hW7
  clear hP1 hD1 hS1
  refine lv_aload_n hx hb d_Bounds_init_28 rfl (lv_at hl1 0 rfl) ?_
  refine va_get (D := D) (ci := 0) (v := .ref q_4) (C := R_Bounds) (T := F_Bounds) (N := 4) hx hb hts i_Bounds hown hK.1 hP 0 rfl rfl 1 (by decide) (hts _ wd_163) (fun _ h9 => h9) rfl d_Bounds_init_29 ?_
  refine lv_ldc (v := 268435456) hx hb hown (hts _ wd_158) d_Bounds_init_32 ?_
  obtain ⟨hPc, hDc, hFc, hCs⟩ := xw_sub3 (wc := [(q_4, .inl (ax 0, 121, .inl (fun _ => 0)))]) hP hD hS hA [2] (by decide) rfl
  have hz := xz_of hN hS
  refine va_callv (va_runS (As := [.ref q_4, .int 268435456]) (rest := []) ⟨hx, hb, hml, hown, hts⟩ (c_Arrays_fill_I l D ax q_4 121 (fun _ => 0) 268435456 H_9.size (by decide)) (xcS (n := 2) hts wd_161 wd_8 wd_159 wd_160 rfl rfl (by decide +kernel) ⟨Nat.le_of_ble_eq_true rfl, Nat.le_of_ble_eq_true rfl⟩) (xpS (As := [.ref q_4, .int 268435456]) hPc hK hz hDc) rfl rfl hl1.1 rfl (lv_room (Nat.le_of_ble_eq_true rfl)) d_Bounds_init_34 ⟨Nat.le_of_ble_eq_true rfl, Nat.le_of_ble_eq_true rfl⟩) hS (fun q _ h => hFc q h) hFc (fun u_10 t H_11 locs ht hvm hw hB hz1 hk1 hS1 => ?_)
  try dsimp only at hw
  obtain ⟨hP1, hD1⟩ := hB
  rw [ht] at hP1
  have hjn := xw_join3 (wl := [(h0, .inr (0, [.ref q_1, .ref q_4, .ref q_7, .int 0])), (q_1, .inl (ax 0, 11, .inl (fun _ => 0))), (q_7, .inl (ax 0, 121, .inl (fun _ => 0))), (q_4, .inl (ax 0, 121, .inl (fun j => if j < 121 then 268435456 else (fun _ => 0) j)))]) hP hD [2] [0, 1, 3] hCs (by decide) (by decide) hk1 hFc hP1 hD1 rfl
  clear hP1 hD1
  clear hPc hDc hFc hCs hz hz1 hk1 ht hvm
  clear hP hD hS
  have hS := hS1
  obtain ⟨hP, hD⟩ := hjn
  clear hS1
  rw [← hQe]
  obtain ⟨hP9, hD9⟩ := xw_sub2 (wc := (fun u : Nat → Nat => [(h0, .inr (0, [.ref (u 0), .ref (u 1), .ref (u 2), .int 0])), (u 0, .inl (ax 0, 11, .inl (fun _ => 0))), (u 1, .inl (ax 0, 121, .inl (fun j => if j < 121 then 268435456 else (fun _ => 0) j))), (u 2, .inl (ax 0, 121, .inl (fun _ => 0)))]) (ixn [q_1, q_4, q_7])) hP hD [0, 1, 3, 2] (by decide) rfl
  exact W.vret hx hb hr (fun t ht hW => ⟨⟨ixn [q_1, q_4, q_7], rfl, trivial, ⟨by rw [ht]; exact hP9, hD9⟩⟩, hS.F ht⟩) hS.2.2 d_Bounds_init_37
abbrev b_Prover_init : ByteArray := prog_8_method_1_code
def y_Prover_init : MethodName := ⟨R_Prover, "<init>", "()V"⟩
theorem d_Prover_init_0 : decode b_Prover_init 0 = .ok (.aload_n 0, 1) := by decide +kernel
theorem d_Prover_init_1 : decode b_Prover_init 1 = .ok (.invokespecial 3, 3) := by decide +kernel
theorem d_Prover_init_4 : decode b_Prover_init 4 = .ok (.aload_n 0, 1) := by decide +kernel
theorem d_Prover_init_5 : decode b_Prover_init 5 = .ok (.new 9, 3) := by decide +kernel
theorem d_Prover_init_8 : decode b_Prover_init 8 = .ok (.dup, 1) := by decide +kernel
theorem d_Prover_init_9 : decode b_Prover_init 9 = .ok (.invokespecial 11, 3) := by decide +kernel
theorem d_Prover_init_12 : decode b_Prover_init 12 = .ok (.putfield 12, 3) := by decide +kernel
theorem d_Prover_init_15 : decode b_Prover_init 15 = .ok (.aload_n 0, 1) := by decide +kernel
theorem d_Prover_init_16 : decode b_Prover_init 16 = .ok (.bipush 16, 2) := by decide +kernel
theorem d_Prover_init_18 : decode b_Prover_init 18 = .ok (.newarray .short, 2) := by decide +kernel
theorem d_Prover_init_20 : decode b_Prover_init 20 = .ok (.putfield 18, 3) := by decide +kernel
theorem d_Prover_init_23 : decode b_Prover_init 23 = .ok (.aload_n 0, 1) := by decide +kernel
theorem d_Prover_init_24 : decode b_Prover_init 24 = .ok (.bipush 64, 2) := by decide +kernel
theorem d_Prover_init_26 : decode b_Prover_init 26 = .ok (.newarray .int, 2) := by decide +kernel
theorem d_Prover_init_28 : decode b_Prover_init 28 = .ok (.putfield 22, 3) := by decide +kernel
theorem d_Prover_init_31 : decode b_Prover_init 31 = .ok (.aload_n 0, 1) := by decide +kernel
theorem d_Prover_init_32 : decode b_Prover_init 32 = .ok (.bipush 64, 2) := by decide +kernel
theorem d_Prover_init_34 : decode b_Prover_init 34 = .ok (.newarray .int, 2) := by decide +kernel
theorem d_Prover_init_36 : decode b_Prover_init 36 = .ok (.putfield 26, 3) := by decide +kernel
theorem d_Prover_init_39 : decode b_Prover_init 39 = .ok (.return_, 1) := by decide +kernel
set_option maxHeartbeats 40000000 in
set_option maxRecDepth 100000 in
theorem c_Prover_init (l : Launch) (D : va_G) (ax : Nat → ClassId) (h0 : Nat) (sz : Nat) : Met l y_Prover_init (xws (.code y_Prover_init b_Prover_init 1 none)) ({ frames := 30, cells := 7, slots := 401, locals := 1200 }) (va_Pc [.ref h0] (xo D ax [(h0, .inr (6, [.null, .int 0, .int 0, .int 0, .null, .null, .null, .null, .int 0]))] sz)) ((va_Qv (fun (u : Nat → Nat) => True) (xb D (va_A [(h0, .inr (6, [.null, .int 0, .int 0, .int 0, .null, .null, .null, .null, .int 0]))] sz) (fun u => [(h0, .inr (6, [.ref (u 0), .int 0, .int 0, .int 0, .null, .ref (u 4), .ref (u 5), .ref (u 6), .int 0])), (u 0, .inr (0, [.ref (u 1), .ref (u 2), .ref (u 3), .int 0])), (u 1, .inl (ax 0, 11, .inl (fun _ => 0))), (u 2, .inl (ax 0, 121, .inl (fun j => if j < 121 then 268435456 else (fun _ => 0) j))), (u 3, .inl (ax 0, 121, .inl (fun _ => 0))), (u 4, .inl (ax 2, 16, .inl (fun _ => 0))), (u 5, .inl (ax 0, 64, .inl (fun _ => 0))), (u 6, .inl (ax 0, 64, .inl (fun _ => 0)))])) (va_A [(h0, .inr (6, [.null, .int 0, .int 0, .int 0, .null, .null, .null, .null, .int 0]))] sz))) 7 401 (va_A [(h0, .inr (6, [.null, .int 0, .int 0, .int 0, .null, .null, .null, .null, .int 0]))] sz) := by
  refine Met.ofW (cc := b_Prover_init) (maxL := 1) (ret := none) (by decide) rfl ?_
  intro p e s m args below meth c s₁ B hml hv
  obtain ⟨rfl, hsz, hP, hK, hD0⟩ := hv
  have hx := B.exec
  have hb := B.bytes
  have hr := B.returns
  have hts := xw_hts B.pre
  have hown : s.vm.findClass R_Prover = some m.cls := findClass_of_methodNamed B.named
  have hlocks := B.notSynchronized
  have hin : meth.name = "<init>" := (name_of_methodNamed B.named B.method).1
  subst hsz
  have hD := hD0.self (sz := s.heap.size)
  have hN := xz_entry hP
  generalize hAe : va_A [(h0, .inr (6, [.null, .int 0, .int 0, .int 0, .null, .null, .null, .null, .int 0]))] s.heap.size = A at hD hN ⊢
  have hA : ∀ q : Nat, s.heap.size ≤ q → A q := fun q h => by rw [← hAe]; exact Or.inr h
  have hS : va_S A s.heap s.heap [] := va_S.rf
  have hl0 := lv_entry ([.ref h0]) (n := 1) (Nat.le_of_ble_eq_true rfl)
  rw [lg_entry_eq]
  generalize (lg_sl ([.ref h0]) ++ List.replicate (1 - (lg_sl ([.ref h0])).length) Slot.unset).toArray = ls at hl0 ⊢
  have hl1 : lv_has ls 1 [(0, .ref h0)] := hl0
  refine xw_gen (fun Z9 hQe => ?_)
  refine lv_aload_n hx hb d_Prover_init_0 rfl (lv_at hl1 0 rfl) ?_
  refine W.objInit hx hb hown (hts _ wd_151) (hts _ wd_32) (hts _ wd_oi) rfl (by rw [hml]; exact hl1.1) rfl d_Prover_init_1 (Nat.le_of_ble_eq_true rfl) (Nat.le_of_ble_eq_true rfl) ?_
  refine W.eq (g2 := F0 m 4 ls []) rfl ?_
  refine lv_aload_n hx hb d_Prover_init_4 rfl (lv_at hl1 0 rfl) ?_
  refine va_new (ci := 0) (fs := [.null, .null, .null, .int 0]) (C := R_Bounds) (T := F_Bounds) (N := 4) hx hb hts i_Bounds t_Bounds t_Bounds_ok hown (hts _ wd_152) (hts _ wd_153) (hts _ wd_7) hK.1 hP hD hS hA rfl (by decide +kernel) (Nat.le_of_ble_eq_true rfl) (Nat.le_of_ble_eq_true rfl) d_Prover_init_5 (fun q_1 H_2 hP1 hD1 hS1 => ?_)
  clear hP hD hS
  have hS := hS1
  have hW7 : (fun w9 : va_W => va_P D classes w9 H_2 ∧ va_D A w9) [(h0, .inr (6, [.null, .int 0, .int 0, .int 0, .null, .null, .null, .null, .int 0])), (q_1, .inr (0, [.null, .null, .null, .int 0]))] := ⟨hP1, hD1⟩
  obtain ⟨hP, hD⟩ := hW7
  clear hP1 hD1 hS1
  refine W.widen (k := 1) (n := 4) (Nat.le_of_ble_eq_true rfl) (Nat.le_of_ble_eq_true rfl) ?_
  refine lv_dup hx hb d_Prover_init_8 rfl ?_
  obtain ⟨hPc, hDc, hFc, hCs⟩ := xw_sub3 (wc := [(q_1, .inr (0, [.null, .null, .null, .int 0]))]) hP hD hS hA [1] (by decide) rfl
  have hz := xz_of hN hS
  refine va_callv (va_runI (As := []) (rest := [.ref q_1, .ref h0]) ⟨hx, hb, hml, hown, hts⟩ (c_Bounds_init l D ax q_1 H_2.size) (xcI (n := 0) hts wd_156 wd_7 wd_154 wd_155 rfl rfl rfl (by decide +kernel) ⟨Nat.le_of_ble_eq_true rfl, Nat.le_of_ble_eq_true rfl⟩) (xpS (As := [.ref q_1]) hPc hK hz hDc) rfl rfl hl1.1 rfl (lv_room (Nat.le_of_ble_eq_true rfl)) d_Prover_init_9 ⟨Nat.le_of_ble_eq_true rfl, Nat.le_of_ble_eq_true rfl⟩) hS (fun q _ h => hFc q h) hFc (fun u_3 t H_4 locs ht hvm hw hB hz1 hk1 hS1 => ?_)
  try dsimp only at hw
  obtain ⟨hP1, hD1⟩ := hB
  rw [ht] at hP1
  have hjn := xw_join3 (wl := [(h0, .inr (6, [.null, .int 0, .int 0, .int 0, .null, .null, .null, .null, .int 0])), (q_1, .inr (0, [.ref (u_3 0), .ref (u_3 1), .ref (u_3 2), .int 0])), ((u_3 0), .inl (ax 0, 11, .inl (fun _ => 0))), ((u_3 1), .inl (ax 0, 121, .inl (fun j => if j < 121 then 268435456 else (fun _ => 0) j))), ((u_3 2), .inl (ax 0, 121, .inl (fun _ => 0)))]) hP hD [1] [0] hCs (by decide) (by decide) hk1 hFc hP1 hD1 rfl
  clear hP1 hD1
  clear hPc hDc hFc hCs hz hz1 hk1 ht hvm
  clear hP hD hS
  have hS := hS1
  obtain ⟨hP, hD⟩ := hjn
  clear hS1
  refine W.widen (k := 4) (n := 257) (Nat.le_of_ble_eq_true rfl) (Nat.le_of_ble_eq_true rfl) ?_
  refine va_putF (D := D) (ci := 6) (v := .ref q_1) (ty := .object "TripleDesk$Bounds") (C := R_Prover) (T := F_Prover) (N := 9) hx hb hts i_Prover t_Prover t_Prover_ok n_Prover hown hK.1 hP hD hS 0 rfl rfl 0 (by decide) (hts _ wd_175) (fun _ h9 => h9) rfl hin rfl (by decide +kernel) rfl rfl (Nat.le_of_ble_eq_true rfl) d_Prover_init_12 (fun H_6 locs hP1 hD1 hS1 => ?_)
  clear hP hD hS
  have hS := hS1
  have hW7 : (fun w9 : va_W => va_P D classes w9 H_6 ∧ va_D A w9) [(h0, .inr (6, [.ref q_1, .int 0, .int 0, .int 0, .null, .null, .null, .null, .int 0])), (q_1, .inr (0, [.ref (u_3 0), .ref (u_3 1), .ref (u_3 2), .int 0])), ((u_3 0), .inl (ax 0, 11, .inl (fun _ => 0))), ((u_3 1), .inl (ax 0, 121, .inl (fun j => if j < 121 then 268435456 else (fun _ => 0) j))), ((u_3 2), .inl (ax 0, 121, .inl (fun _ => 0)))] := ⟨hP1, hD1⟩
  obtain ⟨hP, hD⟩ := hW7
  clear hP1 hD1 hS1
  refine lv_aload_n hx hb d_Prover_init_15 rfl (lv_at hl1 0 rfl) ?_
  refine lv_bipush (v := 16) hx hb d_Prover_init_16 (by decide) ?_
  refine xnewa (atype := .short) (ty := .short) (aX := ax 2) hx hb (hts _ wd_207) rfl hK.2.1.2.2.1 hP hD hS hA (xa_s 16) (by decide) (by decide) (by decide) (Nat.le_of_ble_eq_true rfl) (Nat.le_of_ble_eq_true rfl) d_Prover_init_18 (fun q_7 H_8 hP1 hD1 hS1 => ?_)
  clear hP hD hS
  have hS := hS1
  have hW7 : (fun w9 : va_W => va_P D classes w9 H_8 ∧ va_D A w9) [(h0, .inr (6, [.ref q_1, .int 0, .int 0, .int 0, .null, .null, .null, .null, .int 0])), (q_1, .inr (0, [.ref (u_3 0), .ref (u_3 1), .ref (u_3 2), .int 0])), ((u_3 0), .inl (ax 0, 11, .inl (fun _ => 0))), ((u_3 1), .inl (ax 0, 121, .inl (fun j => if j < 121 then 268435456 else (fun _ => 0) j))), ((u_3 2), .inl (ax 0, 121, .inl (fun _ => 0))), (q_7, .inl (ax 2, 16, .inl (fun _ => 0)))] := ⟨hP1, hD1⟩
  obtain ⟨hP, hD⟩ := hW7
  clear hP1 hD1 hS1
  refine W.widen (k := 5) (n := 273) (Nat.le_of_ble_eq_true rfl) (Nat.le_of_ble_eq_true rfl) ?_
  refine va_put (D := D) (ci := 6) (v := .ref q_7) (ty := .array .short) (C := R_Prover) (T := F_Prover) (N := 9) hx hb hts i_Prover t_Prover t_Prover_ok n_Prover hown hK.1 hP hD hS 0 rfl rfl 5 (by decide) (hts _ wd_184) (fun _ h9 => h9) rfl (by decide +kernel) rfl rfl (Nat.le_of_ble_eq_true rfl) d_Prover_init_20 (fun H_9 locs hP1 hD1 hS1 => ?_)
  clear hP hD hS
  have hS := hS1
  have hW7 : (fun w9 : va_W => va_P D classes w9 H_9 ∧ va_D A w9) [(h0, .inr (6, [.ref q_1, .int 0, .int 0, .int 0, .null, .ref q_7, .null, .null, .int 0])), (q_1, .inr (0, [.ref (u_3 0), .ref (u_3 1), .ref (u_3 2), .int 0])), ((u_3 0), .inl (ax 0, 11, .inl (fun _ => 0))), ((u_3 1), .inl (ax 0, 121, .inl (fun j => if j < 121 then 268435456 else (fun _ => 0) j))), ((u_3 2), .inl (ax 0, 121, .inl (fun _ => 0))), (q_7, .inl (ax 2, 16, .inl (fun _ => 0)))] := ⟨hP1, hD1⟩
  obtain ⟨hP, hD⟩ := hW7
  clear hP1 hD1 hS1
  refine lv_aload_n hx hb d_Prover_init_23 rfl (lv_at hl1 0 rfl) ?_
  refine lv_bipush (v := 64) hx hb d_Prover_init_24 (by decide) ?_
  refine xnewa (atype := .int) (ty := .int) (aX := ax 0) hx hb (hts _ wd_68) rfl hK.2.1.1 hP hD hS hA (xa_i 64) (by decide) (by decide) (by decide) (Nat.le_of_ble_eq_true rfl) (Nat.le_of_ble_eq_true rfl) d_Prover_init_26 (fun q_10 H_11 hP1 hD1 hS1 => ?_)
  clear hP hD hS
  have hS := hS1
  have hW7 : (fun w9 : va_W => va_P D classes w9 H_11 ∧ va_D A w9) [(h0, .inr (6, [.ref q_1, .int 0, .int 0, .int 0, .null, .ref q_7, .null, .null, .int 0])), (q_1, .inr (0, [.ref (u_3 0), .ref (u_3 1), .ref (u_3 2), .int 0])), ((u_3 0), .inl (ax 0, 11, .inl (fun _ => 0))), ((u_3 1), .inl (ax 0, 121, .inl (fun j => if j < 121 then 268435456 else (fun _ => 0) j))), ((u_3 2), .inl (ax 0, 121, .inl (fun _ => 0))), (q_7, .inl (ax 2, 16, .inl (fun _ => 0))), (q_10, .inl (ax 0, 64, .inl (fun _ => 0)))] := ⟨hP1, hD1⟩
  obtain ⟨hP, hD⟩ := hW7
  clear hP1 hD1 hS1
  refine W.widen (k := 6) (n := 337) (Nat.le_of_ble_eq_true rfl) (Nat.le_of_ble_eq_true rfl) ?_
  refine va_putF (D := D) (ci := 6) (v := .ref q_10) (ty := .array .int) (C := R_Prover) (T := F_Prover) (N := 9) hx hb hts i_Prover t_Prover t_Prover_ok n_Prover hown hK.1 hP hD hS 0 rfl rfl 6 (by decide) (hts _ wd_185) (fun _ h9 => h9) rfl hin rfl (by decide +kernel) rfl rfl (Nat.le_of_ble_eq_true rfl) d_Prover_init_28 (fun H_12 locs hP1 hD1 hS1 => ?_)
  clear hP hD hS
  have hS := hS1
  have hW7 : (fun w9 : va_W => va_P D classes w9 H_12 ∧ va_D A w9) [(h0, .inr (6, [.ref q_1, .int 0, .int 0, .int 0, .null, .ref q_7, .ref q_10, .null, .int 0])), (q_1, .inr (0, [.ref (u_3 0), .ref (u_3 1), .ref (u_3 2), .int 0])), ((u_3 0), .inl (ax 0, 11, .inl (fun _ => 0))), ((u_3 1), .inl (ax 0, 121, .inl (fun j => if j < 121 then 268435456 else (fun _ => 0) j))), ((u_3 2), .inl (ax 0, 121, .inl (fun _ => 0))), (q_7, .inl (ax 2, 16, .inl (fun _ => 0))), (q_10, .inl (ax 0, 64, .inl (fun _ => 0)))] := ⟨hP1, hD1⟩
  obtain ⟨hP, hD⟩ := hW7
  clear hP1 hD1 hS1
  refine lv_aload_n hx hb d_Prover_init_31 rfl (lv_at hl1 0 rfl) ?_
  refine lv_bipush (v := 64) hx hb d_Prover_init_32 (by decide) ?_
  refine xnewa (atype := .int) (ty := .int) (aX := ax 0) hx hb (hts _ wd_68) rfl hK.2.1.1 hP hD hS hA (xa_i 64) (by decide) (by decide) (by decide) (Nat.le_of_ble_eq_true rfl) (Nat.le_of_ble_eq_true rfl) d_Prover_init_34 (fun q_13 H_14 hP1 hD1 hS1 => ?_)
  clear hP hD hS
  have hS := hS1
  have hW7 : (fun w9 : va_W => va_P D classes w9 H_14 ∧ va_D A w9) [(h0, .inr (6, [.ref q_1, .int 0, .int 0, .int 0, .null, .ref q_7, .ref q_10, .null, .int 0])), (q_1, .inr (0, [.ref (u_3 0), .ref (u_3 1), .ref (u_3 2), .int 0])), ((u_3 0), .inl (ax 0, 11, .inl (fun _ => 0))), ((u_3 1), .inl (ax 0, 121, .inl (fun j => if j < 121 then 268435456 else (fun _ => 0) j))), ((u_3 2), .inl (ax 0, 121, .inl (fun _ => 0))), (q_7, .inl (ax 2, 16, .inl (fun _ => 0))), (q_10, .inl (ax 0, 64, .inl (fun _ => 0))), (q_13, .inl (ax 0, 64, .inl (fun _ => 0)))] := ⟨hP1, hD1⟩
  obtain ⟨hP, hD⟩ := hW7
  clear hP1 hD1 hS1
  refine W.widen (k := 7) (n := 401) (Nat.le_of_ble_eq_true rfl) (Nat.le_of_ble_eq_true rfl) ?_
  refine va_putF (D := D) (ci := 6) (v := .ref q_13) (ty := .array .int) (C := R_Prover) (T := F_Prover) (N := 9) hx hb hts i_Prover t_Prover t_Prover_ok n_Prover hown hK.1 hP hD hS 0 rfl rfl 7 (by decide) (hts _ wd_186) (fun _ h9 => h9) rfl hin rfl (by decide +kernel) rfl rfl (Nat.le_of_ble_eq_true rfl) d_Prover_init_36 (fun H_15 locs hP1 hD1 hS1 => ?_)
  clear hP hD hS
  have hS := hS1
  have hW7 : (fun w9 : va_W => va_P D classes w9 H_15 ∧ va_D A w9) [(h0, .inr (6, [.ref q_1, .int 0, .int 0, .int 0, .null, .ref q_7, .ref q_10, .ref q_13, .int 0])), (q_1, .inr (0, [.ref (u_3 0), .ref (u_3 1), .ref (u_3 2), .int 0])), ((u_3 0), .inl (ax 0, 11, .inl (fun _ => 0))), ((u_3 1), .inl (ax 0, 121, .inl (fun j => if j < 121 then 268435456 else (fun _ => 0) j))), ((u_3 2), .inl (ax 0, 121, .inl (fun _ => 0))), (q_7, .inl (ax 2, 16, .inl (fun _ => 0))), (q_10, .inl (ax 0, 64, .inl (fun _ => 0))), (q_13, .inl (ax 0, 64, .inl (fun _ => 0)))] := ⟨hP1, hD1⟩
  obtain ⟨hP, hD⟩ := hW7
  clear hP1 hD1 hS1
  rw [← hQe]
  obtain ⟨hP9, hD9⟩ := xw_sub2 (wc := (fun u : Nat → Nat => [(h0, .inr (6, [.ref (u 0), .int 0, .int 0, .int 0, .null, .ref (u 4), .ref (u 5), .ref (u 6), .int 0])), (u 0, .inr (0, [.ref (u 1), .ref (u 2), .ref (u 3), .int 0])), (u 1, .inl (ax 0, 11, .inl (fun _ => 0))), (u 2, .inl (ax 0, 121, .inl (fun j => if j < 121 then 268435456 else (fun _ => 0) j))), (u 3, .inl (ax 0, 121, .inl (fun _ => 0))), (u 4, .inl (ax 2, 16, .inl (fun _ => 0))), (u 5, .inl (ax 0, 64, .inl (fun _ => 0))), (u 6, .inl (ax 0, 64, .inl (fun _ => 0)))]) (ixn [q_1, (u_3 0), (u_3 1), (u_3 2), q_7, q_10, q_13])) hP hD [0, 1, 2, 3, 4, 5, 6, 7] (by decide) rfl
  exact W.vret hx hb hr (fun t ht hW => ⟨⟨ixn [q_1, (u_3 0), (u_3 1), (u_3 2), q_7, q_10, q_13], rfl, trivial, ⟨by rw [ht]; exact hP9, hD9⟩⟩, hS.F ht⟩) hS.2.2 d_Prover_init_39
abbrev b_Listing_init : ByteArray := prog_4_method_1_code
def y_Listing_init : MethodName := ⟨R_Listing, "<init>", "()V"⟩
theorem d_Listing_init_0 : decode b_Listing_init 0 = .ok (.aload_n 0, 1) := by decide +kernel
theorem d_Listing_init_1 : decode b_Listing_init 1 = .ok (.invokespecial 3, 3) := by decide +kernel
theorem d_Listing_init_4 : decode b_Listing_init 4 = .ok (.aload_n 0, 1) := by decide +kernel
theorem d_Listing_init_5 : decode b_Listing_init 5 = .ok (.new 9, 3) := by decide +kernel
theorem d_Listing_init_8 : decode b_Listing_init 8 = .ok (.dup, 1) := by decide +kernel
theorem d_Listing_init_9 : decode b_Listing_init 9 = .ok (.invokespecial 11, 3) := by decide +kernel
theorem d_Listing_init_12 : decode b_Listing_init 12 = .ok (.putfield 12, 3) := by decide +kernel
theorem d_Listing_init_15 : decode b_Listing_init 15 = .ok (.aload_n 0, 1) := by decide +kernel
theorem d_Listing_init_16 : decode b_Listing_init 16 = .ok (.bipush 20, 2) := by decide +kernel
theorem d_Listing_init_18 : decode b_Listing_init 18 = .ok (.newarray .byte, 2) := by decide +kernel
theorem d_Listing_init_20 : decode b_Listing_init 20 = .ok (.putfield 18, 3) := by decide +kernel
theorem d_Listing_init_23 : decode b_Listing_init 23 = .ok (.aload_n 0, 1) := by decide +kernel
theorem d_Listing_init_24 : decode b_Listing_init 24 = .ok (.bipush 20, 2) := by decide +kernel
theorem d_Listing_init_26 : decode b_Listing_init 26 = .ok (.newarray .byte, 2) := by decide +kernel
theorem d_Listing_init_28 : decode b_Listing_init 28 = .ok (.putfield 22, 3) := by decide +kernel
theorem d_Listing_init_31 : decode b_Listing_init 31 = .ok (.aload_n 0, 1) := by decide +kernel
theorem d_Listing_init_32 : decode b_Listing_init 32 = .ok (.bipush 20, 2) := by decide +kernel
theorem d_Listing_init_34 : decode b_Listing_init 34 = .ok (.newarray .byte, 2) := by decide +kernel
theorem d_Listing_init_36 : decode b_Listing_init 36 = .ok (.putfield 25, 3) := by decide +kernel
theorem d_Listing_init_39 : decode b_Listing_init 39 = .ok (.aload_n 0, 1) := by decide +kernel
theorem d_Listing_init_40 : decode b_Listing_init 40 = .ok (.bipush 20, 2) := by decide +kernel
theorem d_Listing_init_42 : decode b_Listing_init 42 = .ok (.newarray .byte, 2) := by decide +kernel
theorem d_Listing_init_44 : decode b_Listing_init 44 = .ok (.putfield 28, 3) := by decide +kernel
theorem d_Listing_init_47 : decode b_Listing_init 47 = .ok (.aload_n 0, 1) := by decide +kernel
theorem d_Listing_init_48 : decode b_Listing_init 48 = .ok (.bipush 20, 2) := by decide +kernel
theorem d_Listing_init_50 : decode b_Listing_init 50 = .ok (.newarray .byte, 2) := by decide +kernel
theorem d_Listing_init_52 : decode b_Listing_init 52 = .ok (.putfield 31, 3) := by decide +kernel
theorem d_Listing_init_55 : decode b_Listing_init 55 = .ok (.aload_n 0, 1) := by decide +kernel
theorem d_Listing_init_56 : decode b_Listing_init 56 = .ok (.bipush 20, 2) := by decide +kernel
theorem d_Listing_init_58 : decode b_Listing_init 58 = .ok (.newarray .short, 2) := by decide +kernel
theorem d_Listing_init_60 : decode b_Listing_init 60 = .ok (.putfield 34, 3) := by decide +kernel
theorem d_Listing_init_63 : decode b_Listing_init 63 = .ok (.aload_n 0, 1) := by decide +kernel
theorem d_Listing_init_64 : decode b_Listing_init 64 = .ok (.bipush 20, 2) := by decide +kernel
theorem d_Listing_init_66 : decode b_Listing_init 66 = .ok (.newarray .short, 2) := by decide +kernel
theorem d_Listing_init_68 : decode b_Listing_init 68 = .ok (.putfield 38, 3) := by decide +kernel
theorem d_Listing_init_71 : decode b_Listing_init 71 = .ok (.aload_n 0, 1) := by decide +kernel
theorem d_Listing_init_72 : decode b_Listing_init 72 = .ok (.bipush 20, 2) := by decide +kernel
theorem d_Listing_init_74 : decode b_Listing_init 74 = .ok (.newarray .int, 2) := by decide +kernel
theorem d_Listing_init_76 : decode b_Listing_init 76 = .ok (.putfield 41, 3) := by decide +kernel
theorem d_Listing_init_79 : decode b_Listing_init 79 = .ok (.aload_n 0, 1) := by decide +kernel
theorem d_Listing_init_80 : decode b_Listing_init 80 = .ok (.bipush 20, 2) := by decide +kernel
theorem d_Listing_init_82 : decode b_Listing_init 82 = .ok (.newarray .byte, 2) := by decide +kernel
theorem d_Listing_init_84 : decode b_Listing_init 84 = .ok (.putfield 45, 3) := by decide +kernel
theorem d_Listing_init_87 : decode b_Listing_init 87 = .ok (.aload_n 0, 1) := by decide +kernel
theorem d_Listing_init_88 : decode b_Listing_init 88 = .ok (.bipush 29, 2) := by decide +kernel
theorem d_Listing_init_90 : decode b_Listing_init 90 = .ok (.newarray .byte, 2) := by decide +kernel
theorem d_Listing_init_92 : decode b_Listing_init 92 = .ok (.putfield 48, 3) := by decide +kernel
theorem d_Listing_init_95 : decode b_Listing_init 95 = .ok (.aload_n 0, 1) := by decide +kernel
theorem d_Listing_init_96 : decode b_Listing_init 96 = .ok (.bipush 29, 2) := by decide +kernel
theorem d_Listing_init_98 : decode b_Listing_init 98 = .ok (.newarray .byte, 2) := by decide +kernel
theorem d_Listing_init_100 : decode b_Listing_init 100 = .ok (.putfield 51, 3) := by decide +kernel
theorem d_Listing_init_103 : decode b_Listing_init 103 = .ok (.return_, 1) := by decide +kernel
set_option maxHeartbeats 40000000 in
set_option maxRecDepth 100000 in
theorem c_Listing_init (l : Launch) (D : va_G) (ax : Nat → ClassId) (h0 : Nat) (sz : Nat) : Met l y_Listing_init (xws (.code y_Listing_init b_Listing_init 1 none)) ({ frames := 20, cells := 15, slots := 266, locals := 800 }) (va_Pc [.ref h0] (xo D ax [(h0, .inr (2, [.null, .null, .null, .null, .null, .null, .null, .null, .null, .null, .null, .null, .int 0, .int 0, .int 0, .int 0, .int 0]))] sz)) ((va_Qv (fun (u : Nat → Nat) => True) (xb D (va_A [(h0, .inr (2, [.null, .null, .null, .null, .null, .null, .null, .null, .null, .null, .null, .null, .int 0, .int 0, .int 0, .int 0, .int 0]))] sz) (fun u => [(h0, .inr (2, [.ref (u 0), .ref (u 4), .ref (u 5), .ref (u 6), .ref (u 7), .ref (u 8), .ref (u 9), .ref (u 10), .ref (u 11), .ref (u 12), .ref (u 13), .ref (u 14), .int 0, .int 0, .int 0, .int 0, .int 0])), (u 0, .inr (4, [.ref (u 1), .ref (u 2), .ref (u 3), .int 0])), (u 1, .inl (ax 1, 8, .inl (fun _ => 0))), (u 2, .inl (ax 0, 8, .inl (fun _ => 0))), (u 3, .inl (ax 0, 8, .inl (fun _ => 0))), (u 4, .inl (ax 1, 20, .inl (fun _ => 0))), (u 5, .inl (ax 1, 20, .inl (fun _ => 0))), (u 6, .inl (ax 1, 20, .inl (fun _ => 0))), (u 7, .inl (ax 1, 20, .inl (fun _ => 0))), (u 8, .inl (ax 1, 20, .inl (fun _ => 0))), (u 9, .inl (ax 2, 20, .inl (fun _ => 0))), (u 10, .inl (ax 2, 20, .inl (fun _ => 0))), (u 11, .inl (ax 0, 20, .inl (fun _ => 0))), (u 12, .inl (ax 1, 20, .inl (fun _ => 0))), (u 13, .inl (ax 1, 29, .inl (fun _ => 0))), (u 14, .inl (ax 1, 29, .inl (fun _ => 0)))])) (va_A [(h0, .inr (2, [.null, .null, .null, .null, .null, .null, .null, .null, .null, .null, .null, .null, .int 0, .int 0, .int 0, .int 0, .int 0]))] sz))) 15 266 (va_A [(h0, .inr (2, [.null, .null, .null, .null, .null, .null, .null, .null, .null, .null, .null, .null, .int 0, .int 0, .int 0, .int 0, .int 0]))] sz) := by
  refine Met.ofW (cc := b_Listing_init) (maxL := 1) (ret := none) (by decide) rfl ?_
  intro p e s m args below meth c s₁ B hml hv
  obtain ⟨rfl, hsz, hP, hK, hD0⟩ := hv
  have hx := B.exec
  have hb := B.bytes
  have hr := B.returns
  have hts := xw_hts B.pre
  have hown : s.vm.findClass R_Listing = some m.cls := findClass_of_methodNamed B.named
  have hlocks := B.notSynchronized
  have hin : meth.name = "<init>" := (name_of_methodNamed B.named B.method).1
  subst hsz
  have hD := hD0.self (sz := s.heap.size)
  have hN := xz_entry hP
  generalize hAe : va_A [(h0, .inr (2, [.null, .null, .null, .null, .null, .null, .null, .null, .null, .null, .null, .null, .int 0, .int 0, .int 0, .int 0, .int 0]))] s.heap.size = A at hD hN ⊢
  have hA : ∀ q : Nat, s.heap.size ≤ q → A q := fun q h => by rw [← hAe]; exact Or.inr h
  have hS : va_S A s.heap s.heap [] := va_S.rf
  have hl0 := lv_entry ([.ref h0]) (n := 1) (Nat.le_of_ble_eq_true rfl)
  rw [lg_entry_eq]
  generalize (lg_sl ([.ref h0]) ++ List.replicate (1 - (lg_sl ([.ref h0])).length) Slot.unset).toArray = ls at hl0 ⊢
  have hl1 : lv_has ls 1 [(0, .ref h0)] := hl0
  refine xw_gen (fun Z9 hQe => ?_)
  refine lv_aload_n hx hb d_Listing_init_0 rfl (lv_at hl1 0 rfl) ?_
  refine W.objInit hx hb hown (hts _ wd_264) (hts _ wd_32) (hts _ wd_oi) rfl (by rw [hml]; exact hl1.1) rfl d_Listing_init_1 (Nat.le_of_ble_eq_true rfl) (Nat.le_of_ble_eq_true rfl) ?_
  refine W.eq (g2 := F0 m 4 ls []) rfl ?_
  refine lv_aload_n hx hb d_Listing_init_4 rfl (lv_at hl1 0 rfl) ?_
  refine va_new (ci := 4) (fs := [.null, .null, .null, .int 0]) (C := R_Nodes) (T := F_Nodes) (N := 4) hx hb hts i_Nodes t_Nodes t_Nodes_ok hown (hts _ wd_265) (hts _ wd_98) (hts _ wd_5) hK.1 hP hD hS hA rfl (by decide +kernel) (Nat.le_of_ble_eq_true rfl) (Nat.le_of_ble_eq_true rfl) d_Listing_init_5 (fun q_1 H_2 hP1 hD1 hS1 => ?_)
  clear hP hD hS
  have hS := hS1
  have hW7 : (fun w9 : va_W => va_P D classes w9 H_2 ∧ va_D A w9) [(h0, .inr (2, [.null, .null, .null, .null, .null, .null, .null, .null, .null, .null, .null, .null, .int 0, .int 0, .int 0, .int 0, .int 0])), (q_1, .inr (4, [.null, .null, .null, .int 0]))] := ⟨hP1, hD1⟩
  obtain ⟨hP, hD⟩ := hW7
  clear hP1 hD1 hS1
  refine W.widen (k := 1) (n := 4) (Nat.le_of_ble_eq_true rfl) (Nat.le_of_ble_eq_true rfl) ?_
  refine lv_dup hx hb d_Listing_init_8 rfl ?_
  obtain ⟨hPc, hDc, hFc, hCs⟩ := xw_sub3 (wc := [(q_1, .inr (4, [.null, .null, .null, .int 0]))]) hP hD hS hA [1] (by decide) rfl
  have hz := xz_of hN hS
  refine va_callv (va_runIN (As := []) (rest := [.ref q_1, .ref h0]) ⟨hx, hb, hml, hown, hts⟩ (c_Nodes_init l D ax q_1 H_2.size) (xcN (n := 0) hts wd_101 wd_5 (hK.2.2.1 (.methodLinkNest "TripleDesk$Listing" (11 : Nat) ({ cls := "TripleDesk$Nodes", name := "<init>", desc := "()V" } : Jvm.MethodName) "TripleDesk") (by decide +kernel)) wd_100 rfl rfl rfl (by decide +kernel) ⟨Nat.le_of_ble_eq_true rfl, Nat.le_of_ble_eq_true rfl⟩) (xpS (As := [.ref q_1]) hPc hK hz hDc) rfl rfl hl1.1 rfl (lv_room (Nat.le_of_ble_eq_true rfl)) d_Listing_init_9 ⟨Nat.le_of_ble_eq_true rfl, Nat.le_of_ble_eq_true rfl⟩) hS (fun q _ h => hFc q h) hFc (fun u_3 t H_4 locs ht hvm hw hB hz1 hk1 hS1 => ?_)
  try dsimp only at hw
  obtain ⟨hP1, hD1⟩ := hB
  rw [ht] at hP1
  have hjn := xw_join3 (wl := [(h0, .inr (2, [.null, .null, .null, .null, .null, .null, .null, .null, .null, .null, .null, .null, .int 0, .int 0, .int 0, .int 0, .int 0])), (q_1, .inr (4, [.ref (u_3 0), .ref (u_3 1), .ref (u_3 2), .int 0])), ((u_3 0), .inl (ax 1, 8, .inl (fun _ => 0))), ((u_3 1), .inl (ax 0, 8, .inl (fun _ => 0))), ((u_3 2), .inl (ax 0, 8, .inl (fun _ => 0)))]) hP hD [1] [0] hCs (by decide) (by decide) hk1 hFc hP1 hD1 rfl
  clear hP1 hD1
  clear hPc hDc hFc hCs hz hz1 hk1 ht hvm
  clear hP hD hS
  have hS := hS1
  obtain ⟨hP, hD⟩ := hjn
  clear hS1
  refine W.widen (k := 4) (n := 28) (Nat.le_of_ble_eq_true rfl) (Nat.le_of_ble_eq_true rfl) ?_
  refine va_putF (D := D) (ci := 2) (v := .ref q_1) (ty := .object "TripleDesk$Nodes") (C := R_Listing) (T := F_Listing) (N := 17) hx hb hts i_Listing t_Listing t_Listing_ok n_Listing hown hK.1 hP hD hS 0 rfl rfl 0 (by decide) (hts _ wd_267) (fun _ h9 => h9) rfl hin rfl (by decide +kernel) rfl rfl (Nat.le_of_ble_eq_true rfl) d_Listing_init_12 (fun H_6 locs hP1 hD1 hS1 => ?_)
  clear hP hD hS
  have hS := hS1
  have hW7 : (fun w9 : va_W => va_P D classes w9 H_6 ∧ va_D A w9) [(h0, .inr (2, [.ref q_1, .null, .null, .null, .null, .null, .null, .null, .null, .null, .null, .null, .int 0, .int 0, .int 0, .int 0, .int 0])), (q_1, .inr (4, [.ref (u_3 0), .ref (u_3 1), .ref (u_3 2), .int 0])), ((u_3 0), .inl (ax 1, 8, .inl (fun _ => 0))), ((u_3 1), .inl (ax 0, 8, .inl (fun _ => 0))), ((u_3 2), .inl (ax 0, 8, .inl (fun _ => 0)))] := ⟨hP1, hD1⟩
  obtain ⟨hP, hD⟩ := hW7
  clear hP1 hD1 hS1
  refine lv_aload_n hx hb d_Listing_init_15 rfl (lv_at hl1 0 rfl) ?_
  refine lv_bipush (v := 20) hx hb d_Listing_init_16 (by decide) ?_
  refine xnewa (atype := .byte) (ty := .byte) (aX := ax 1) hx hb (hts _ wd_67) rfl hK.2.1.2.1 hP hD hS hA (xa_b 20) (by decide) (by decide) (by decide) (Nat.le_of_ble_eq_true rfl) (Nat.le_of_ble_eq_true rfl) d_Listing_init_18 (fun q_7 H_8 hP1 hD1 hS1 => ?_)
  clear hP hD hS
  have hS := hS1
  have hW7 : (fun w9 : va_W => va_P D classes w9 H_8 ∧ va_D A w9) [(h0, .inr (2, [.ref q_1, .null, .null, .null, .null, .null, .null, .null, .null, .null, .null, .null, .int 0, .int 0, .int 0, .int 0, .int 0])), (q_1, .inr (4, [.ref (u_3 0), .ref (u_3 1), .ref (u_3 2), .int 0])), ((u_3 0), .inl (ax 1, 8, .inl (fun _ => 0))), ((u_3 1), .inl (ax 0, 8, .inl (fun _ => 0))), ((u_3 2), .inl (ax 0, 8, .inl (fun _ => 0))), (q_7, .inl (ax 1, 20, .inl (fun _ => 0)))] := ⟨hP1, hD1⟩
  obtain ⟨hP, hD⟩ := hW7
  clear hP1 hD1 hS1
  refine W.widen (k := 5) (n := 48) (Nat.le_of_ble_eq_true rfl) (Nat.le_of_ble_eq_true rfl) ?_
  refine va_putF (D := D) (ci := 2) (v := .ref q_7) (ty := .array .byte) (C := R_Listing) (T := F_Listing) (N := 17) hx hb hts i_Listing t_Listing t_Listing_ok n_Listing hown hK.1 hP hD hS 0 rfl rfl 1 (by decide) (hts _ wd_271) (fun _ h9 => h9) rfl hin rfl (by decide +kernel) rfl rfl (Nat.le_of_ble_eq_true rfl) d_Listing_init_20 (fun H_9 locs hP1 hD1 hS1 => ?_)
  clear hP hD hS
  have hS := hS1
  have hW7 : (fun w9 : va_W => va_P D classes w9 H_9 ∧ va_D A w9) [(h0, .inr (2, [.ref q_1, .ref q_7, .null, .null, .null, .null, .null, .null, .null, .null, .null, .null, .int 0, .int 0, .int 0, .int 0, .int 0])), (q_1, .inr (4, [.ref (u_3 0), .ref (u_3 1), .ref (u_3 2), .int 0])), ((u_3 0), .inl (ax 1, 8, .inl (fun _ => 0))), ((u_3 1), .inl (ax 0, 8, .inl (fun _ => 0))), ((u_3 2), .inl (ax 0, 8, .inl (fun _ => 0))), (q_7, .inl (ax 1, 20, .inl (fun _ => 0)))] := ⟨hP1, hD1⟩
  obtain ⟨hP, hD⟩ := hW7
  clear hP1 hD1 hS1
  refine lv_aload_n hx hb d_Listing_init_23 rfl (lv_at hl1 0 rfl) ?_
  refine lv_bipush (v := 20) hx hb d_Listing_init_24 (by decide) ?_
  refine xnewa (atype := .byte) (ty := .byte) (aX := ax 1) hx hb (hts _ wd_67) rfl hK.2.1.2.1 hP hD hS hA (xa_b 20) (by decide) (by decide) (by decide) (Nat.le_of_ble_eq_true rfl) (Nat.le_of_ble_eq_true rfl) d_Listing_init_26 (fun q_10 H_11 hP1 hD1 hS1 => ?_)
  clear hP hD hS
  have hS := hS1
  have hW7 : (fun w9 : va_W => va_P D classes w9 H_11 ∧ va_D A w9) [(h0, .inr (2, [.ref q_1, .ref q_7, .null, .null, .null, .null, .null, .null, .null, .null, .null, .null, .int 0, .int 0, .int 0, .int 0, .int 0])), (q_1, .inr (4, [.ref (u_3 0), .ref (u_3 1), .ref (u_3 2), .int 0])), ((u_3 0), .inl (ax 1, 8, .inl (fun _ => 0))), ((u_3 1), .inl (ax 0, 8, .inl (fun _ => 0))), ((u_3 2), .inl (ax 0, 8, .inl (fun _ => 0))), (q_7, .inl (ax 1, 20, .inl (fun _ => 0))), (q_10, .inl (ax 1, 20, .inl (fun _ => 0)))] := ⟨hP1, hD1⟩
  obtain ⟨hP, hD⟩ := hW7
  clear hP1 hD1 hS1
  refine W.widen (k := 6) (n := 68) (Nat.le_of_ble_eq_true rfl) (Nat.le_of_ble_eq_true rfl) ?_
  refine va_putF (D := D) (ci := 2) (v := .ref q_10) (ty := .array .byte) (C := R_Listing) (T := F_Listing) (N := 17) hx hb hts i_Listing t_Listing t_Listing_ok n_Listing hown hK.1 hP hD hS 0 rfl rfl 2 (by decide) (hts _ wd_274) (fun _ h9 => h9) rfl hin rfl (by decide +kernel) rfl rfl (Nat.le_of_ble_eq_true rfl) d_Listing_init_28 (fun H_12 locs hP1 hD1 hS1 => ?_)
  clear hP hD hS
  have hS := hS1
  have hW7 : (fun w9 : va_W => va_P D classes w9 H_12 ∧ va_D A w9) [(h0, .inr (2, [.ref q_1, .ref q_7, .ref q_10, .null, .null, .null, .null, .null, .null, .null, .null, .null, .int 0, .int 0, .int 0, .int 0, .int 0])), (q_1, .inr (4, [.ref (u_3 0), .ref (u_3 1), .ref (u_3 2), .int 0])), ((u_3 0), .inl (ax 1, 8, .inl (fun _ => 0))), ((u_3 1), .inl (ax 0, 8, .inl (fun _ => 0))), ((u_3 2), .inl (ax 0, 8, .inl (fun _ => 0))), (q_7, .inl (ax 1, 20, .inl (fun _ => 0))), (q_10, .inl (ax 1, 20, .inl (fun _ => 0)))] := ⟨hP1, hD1⟩
  obtain ⟨hP, hD⟩ := hW7
  clear hP1 hD1 hS1
  refine lv_aload_n hx hb d_Listing_init_31 rfl (lv_at hl1 0 rfl) ?_
  refine lv_bipush (v := 20) hx hb d_Listing_init_32 (by decide) ?_
  refine xnewa (atype := .byte) (ty := .byte) (aX := ax 1) hx hb (hts _ wd_67) rfl hK.2.1.2.1 hP hD hS hA (xa_b 20) (by decide) (by decide) (by decide) (Nat.le_of_ble_eq_true rfl) (Nat.le_of_ble_eq_true rfl) d_Listing_init_34 (fun q_13 H_14 hP1 hD1 hS1 => ?_)
  clear hP hD hS
  have hS := hS1
  have hW7 : (fun w9 : va_W => va_P D classes w9 H_14 ∧ va_D A w9) [(h0, .inr (2, [.ref q_1, .ref q_7, .ref q_10, .null, .null, .null, .null, .null, .null, .null, .null, .null, .int 0, .int 0, .int 0, .int 0, .int 0])), (q_1, .inr (4, [.ref (u_3 0), .ref (u_3 1), .ref (u_3 2), .int 0])), ((u_3 0), .inl (ax 1, 8, .inl (fun _ => 0))), ((u_3 1), .inl (ax 0, 8, .inl (fun _ => 0))), ((u_3 2), .inl (ax 0, 8, .inl (fun _ => 0))), (q_7, .inl (ax 1, 20, .inl (fun _ => 0))), (q_10, .inl (ax 1, 20, .inl (fun _ => 0))), (q_13, .inl (ax 1, 20, .inl (fun _ => 0)))] := ⟨hP1, hD1⟩
  obtain ⟨hP, hD⟩ := hW7
  clear hP1 hD1 hS1
  refine W.widen (k := 7) (n := 88) (Nat.le_of_ble_eq_true rfl) (Nat.le_of_ble_eq_true rfl) ?_
  refine va_putF (D := D) (ci := 2) (v := .ref q_13) (ty := .array .byte) (C := R_Listing) (T := F_Listing) (N := 17) hx hb hts i_Listing t_Listing t_Listing_ok n_Listing hown hK.1 hP hD hS 0 rfl rfl 3 (by decide) (hts _ wd_275) (fun _ h9 => h9) rfl hin rfl (by decide +kernel) rfl rfl (Nat.le_of_ble_eq_true rfl) d_Listing_init_36 (fun H_15 locs hP1 hD1 hS1 => ?_)
  clear hP hD hS
  have hS := hS1
  have hW7 : (fun w9 : va_W => va_P D classes w9 H_15 ∧ va_D A w9) [(h0, .inr (2, [.ref q_1, .ref q_7, .ref q_10, .ref q_13, .null, .null, .null, .null, .null, .null, .null, .null, .int 0, .int 0, .int 0, .int 0, .int 0])), (q_1, .inr (4, [.ref (u_3 0), .ref (u_3 1), .ref (u_3 2), .int 0])), ((u_3 0), .inl (ax 1, 8, .inl (fun _ => 0))), ((u_3 1), .inl (ax 0, 8, .inl (fun _ => 0))), ((u_3 2), .inl (ax 0, 8, .inl (fun _ => 0))), (q_7, .inl (ax 1, 20, .inl (fun _ => 0))), (q_10, .inl (ax 1, 20, .inl (fun _ => 0))), (q_13, .inl (ax 1, 20, .inl (fun _ => 0)))] := ⟨hP1, hD1⟩
  obtain ⟨hP, hD⟩ := hW7
  clear hP1 hD1 hS1
  refine lv_aload_n hx hb d_Listing_init_39 rfl (lv_at hl1 0 rfl) ?_
  refine lv_bipush (v := 20) hx hb d_Listing_init_40 (by decide) ?_
  refine xnewa (atype := .byte) (ty := .byte) (aX := ax 1) hx hb (hts _ wd_67) rfl hK.2.1.2.1 hP hD hS hA (xa_b 20) (by decide) (by decide) (by decide) (Nat.le_of_ble_eq_true rfl) (Nat.le_of_ble_eq_true rfl) d_Listing_init_42 (fun q_16 H_17 hP1 hD1 hS1 => ?_)
  clear hP hD hS
  have hS := hS1
  have hW7 : (fun w9 : va_W => va_P D classes w9 H_17 ∧ va_D A w9) [(h0, .inr (2, [.ref q_1, .ref q_7, .ref q_10, .ref q_13, .null, .null, .null, .null, .null, .null, .null, .null, .int 0, .int 0, .int 0, .int 0, .int 0])), (q_1, .inr (4, [.ref (u_3 0), .ref (u_3 1), .ref (u_3 2), .int 0])), ((u_3 0), .inl (ax 1, 8, .inl (fun _ => 0))), ((u_3 1), .inl (ax 0, 8, .inl (fun _ => 0))), ((u_3 2), .inl (ax 0, 8, .inl (fun _ => 0))), (q_7, .inl (ax 1, 20, .inl (fun _ => 0))), (q_10, .inl (ax 1, 20, .inl (fun _ => 0))), (q_13, .inl (ax 1, 20, .inl (fun _ => 0))), (q_16, .inl (ax 1, 20, .inl (fun _ => 0)))] := ⟨hP1, hD1⟩
  obtain ⟨hP, hD⟩ := hW7
  clear hP1 hD1 hS1
  refine W.widen (k := 8) (n := 108) (Nat.le_of_ble_eq_true rfl) (Nat.le_of_ble_eq_true rfl) ?_
  refine va_putF (D := D) (ci := 2) (v := .ref q_16) (ty := .array .byte) (C := R_Listing) (T := F_Listing) (N := 17) hx hb hts i_Listing t_Listing t_Listing_ok n_Listing hown hK.1 hP hD hS 0 rfl rfl 4 (by decide) (hts _ wd_277) (fun _ h9 => h9) rfl hin rfl (by decide +kernel) rfl rfl (Nat.le_of_ble_eq_true rfl) d_Listing_init_44 (fun H_18 locs hP1 hD1 hS1 => ?_)
  clear hP hD hS
  have hS := hS1
  have hW7 : (fun w9 : va_W => va_P D classes w9 H_18 ∧ va_D A w9) [(h0, .inr (2, [.ref q_1, .ref q_7, .ref q_10, .ref q_13, .ref q_16, .null, .null, .null, .null, .null, .null, .null, .int 0, .int 0, .int 0, .int 0, .int 0])), (q_1, .inr (4, [.ref (u_3 0), .ref (u_3 1), .ref (u_3 2), .int 0])), ((u_3 0), .inl (ax 1, 8, .inl (fun _ => 0))), ((u_3 1), .inl (ax 0, 8, .inl (fun _ => 0))), ((u_3 2), .inl (ax 0, 8, .inl (fun _ => 0))), (q_7, .inl (ax 1, 20, .inl (fun _ => 0))), (q_10, .inl (ax 1, 20, .inl (fun _ => 0))), (q_13, .inl (ax 1, 20, .inl (fun _ => 0))), (q_16, .inl (ax 1, 20, .inl (fun _ => 0)))] := ⟨hP1, hD1⟩
  obtain ⟨hP, hD⟩ := hW7
  clear hP1 hD1 hS1
  refine lv_aload_n hx hb d_Listing_init_47 rfl (lv_at hl1 0 rfl) ?_
  refine lv_bipush (v := 20) hx hb d_Listing_init_48 (by decide) ?_
  refine xnewa (atype := .byte) (ty := .byte) (aX := ax 1) hx hb (hts _ wd_67) rfl hK.2.1.2.1 hP hD hS hA (xa_b 20) (by decide) (by decide) (by decide) (Nat.le_of_ble_eq_true rfl) (Nat.le_of_ble_eq_true rfl) d_Listing_init_50 (fun q_19 H_20 hP1 hD1 hS1 => ?_)
  clear hP hD hS
  have hS := hS1
  have hW7 : (fun w9 : va_W => va_P D classes w9 H_20 ∧ va_D A w9) [(h0, .inr (2, [.ref q_1, .ref q_7, .ref q_10, .ref q_13, .ref q_16, .null, .null, .null, .null, .null, .null, .null, .int 0, .int 0, .int 0, .int 0, .int 0])), (q_1, .inr (4, [.ref (u_3 0), .ref (u_3 1), .ref (u_3 2), .int 0])), ((u_3 0), .inl (ax 1, 8, .inl (fun _ => 0))), ((u_3 1), .inl (ax 0, 8, .inl (fun _ => 0))), ((u_3 2), .inl (ax 0, 8, .inl (fun _ => 0))), (q_7, .inl (ax 1, 20, .inl (fun _ => 0))), (q_10, .inl (ax 1, 20, .inl (fun _ => 0))), (q_13, .inl (ax 1, 20, .inl (fun _ => 0))), (q_16, .inl (ax 1, 20, .inl (fun _ => 0))), (q_19, .inl (ax 1, 20, .inl (fun _ => 0)))] := ⟨hP1, hD1⟩
  obtain ⟨hP, hD⟩ := hW7
  clear hP1 hD1 hS1
  refine W.widen (k := 9) (n := 128) (Nat.le_of_ble_eq_true rfl) (Nat.le_of_ble_eq_true rfl) ?_
  refine va_putF (D := D) (ci := 2) (v := .ref q_19) (ty := .array .byte) (C := R_Listing) (T := F_Listing) (N := 17) hx hb hts i_Listing t_Listing t_Listing_ok n_Listing hown hK.1 hP hD hS 0 rfl rfl 5 (by decide) (hts _ wd_281) (fun _ h9 => h9) rfl hin rfl (by decide +kernel) rfl rfl (Nat.le_of_ble_eq_true rfl) d_Listing_init_52 (fun H_21 locs hP1 hD1 hS1 => ?_)
  clear hP hD hS
  have hS := hS1
  have hW7 : (fun w9 : va_W => va_P D classes w9 H_21 ∧ va_D A w9) [(h0, .inr (2, [.ref q_1, .ref q_7, .ref q_10, .ref q_13, .ref q_16, .ref q_19, .null, .null, .null, .null, .null, .null, .int 0, .int 0, .int 0, .int 0, .int 0])), (q_1, .inr (4, [.ref (u_3 0), .ref (u_3 1), .ref (u_3 2), .int 0])), ((u_3 0), .inl (ax 1, 8, .inl (fun _ => 0))), ((u_3 1), .inl (ax 0, 8, .inl (fun _ => 0))), ((u_3 2), .inl (ax 0, 8, .inl (fun _ => 0))), (q_7, .inl (ax 1, 20, .inl (fun _ => 0))), (q_10, .inl (ax 1, 20, .inl (fun _ => 0))), (q_13, .inl (ax 1, 20, .inl (fun _ => 0))), (q_16, .inl (ax 1, 20, .inl (fun _ => 0))), (q_19, .inl (ax 1, 20, .inl (fun _ => 0)))] := ⟨hP1, hD1⟩
  obtain ⟨hP, hD⟩ := hW7
  clear hP1 hD1 hS1
  refine lv_aload_n hx hb d_Listing_init_55 rfl (lv_at hl1 0 rfl) ?_
  refine lv_bipush (v := 20) hx hb d_Listing_init_56 (by decide) ?_
  refine xnewa (atype := .short) (ty := .short) (aX := ax 2) hx hb (hts _ wd_207) rfl hK.2.1.2.2.1 hP hD hS hA (xa_s 20) (by decide) (by decide) (by decide) (Nat.le_of_ble_eq_true rfl) (Nat.le_of_ble_eq_true rfl) d_Listing_init_58 (fun q_22 H_23 hP1 hD1 hS1 => ?_)
  clear hP hD hS
  have hS := hS1
  have hW7 : (fun w9 : va_W => va_P D classes w9 H_23 ∧ va_D A w9) [(h0, .inr (2, [.ref q_1, .ref q_7, .ref q_10, .ref q_13, .ref q_16, .ref q_19, .null, .null, .null, .null, .null, .null, .int 0, .int 0, .int 0, .int 0, .int 0])), (q_1, .inr (4, [.ref (u_3 0), .ref (u_3 1), .ref (u_3 2), .int 0])), ((u_3 0), .inl (ax 1, 8, .inl (fun _ => 0))), ((u_3 1), .inl (ax 0, 8, .inl (fun _ => 0))), ((u_3 2), .inl (ax 0, 8, .inl (fun _ => 0))), (q_7, .inl (ax 1, 20, .inl (fun _ => 0))), (q_10, .inl (ax 1, 20, .inl (fun _ => 0))), (q_13, .inl (ax 1, 20, .inl (fun _ => 0))), (q_16, .inl (ax 1, 20, .inl (fun _ => 0))), (q_19, .inl (ax 1, 20, .inl (fun _ => 0))), (q_22, .inl (ax 2, 20, .inl (fun _ => 0)))] := ⟨hP1, hD1⟩
  obtain ⟨hP, hD⟩ := hW7
  clear hP1 hD1 hS1
  refine W.widen (k := 10) (n := 148) (Nat.le_of_ble_eq_true rfl) (Nat.le_of_ble_eq_true rfl) ?_
  refine va_putF (D := D) (ci := 2) (v := .ref q_22) (ty := .array .short) (C := R_Listing) (T := F_Listing) (N := 17) hx hb hts i_Listing t_Listing t_Listing_ok n_Listing hown hK.1 hP hD hS 0 rfl rfl 6 (by decide) (hts _ wd_285) (fun _ h9 => h9) rfl hin rfl (by decide +kernel) rfl rfl (Nat.le_of_ble_eq_true rfl) d_Listing_init_60 (fun H_24 locs hP1 hD1 hS1 => ?_)
  clear hP hD hS
  have hS := hS1
  have hW7 : (fun w9 : va_W => va_P D classes w9 H_24 ∧ va_D A w9) [(h0, .inr (2, [.ref q_1, .ref q_7, .ref q_10, .ref q_13, .ref q_16, .ref q_19, .ref q_22, .null, .null, .null, .null, .null, .int 0, .int 0, .int 0, .int 0, .int 0])), (q_1, .inr (4, [.ref (u_3 0), .ref (u_3 1), .ref (u_3 2), .int 0])), ((u_3 0), .inl (ax 1, 8, .inl (fun _ => 0))), ((u_3 1), .inl (ax 0, 8, .inl (fun _ => 0))), ((u_3 2), .inl (ax 0, 8, .inl (fun _ => 0))), (q_7, .inl (ax 1, 20, .inl (fun _ => 0))), (q_10, .inl (ax 1, 20, .inl (fun _ => 0))), (q_13, .inl (ax 1, 20, .inl (fun _ => 0))), (q_16, .inl (ax 1, 20, .inl (fun _ => 0))), (q_19, .inl (ax 1, 20, .inl (fun _ => 0))), (q_22, .inl (ax 2, 20, .inl (fun _ => 0)))] := ⟨hP1, hD1⟩
  obtain ⟨hP, hD⟩ := hW7
  clear hP1 hD1 hS1
  refine lv_aload_n hx hb d_Listing_init_63 rfl (lv_at hl1 0 rfl) ?_
  refine lv_bipush (v := 20) hx hb d_Listing_init_64 (by decide) ?_
  refine xnewa (atype := .short) (ty := .short) (aX := ax 2) hx hb (hts _ wd_207) rfl hK.2.1.2.2.1 hP hD hS hA (xa_s 20) (by decide) (by decide) (by decide) (Nat.le_of_ble_eq_true rfl) (Nat.le_of_ble_eq_true rfl) d_Listing_init_66 (fun q_25 H_26 hP1 hD1 hS1 => ?_)
  clear hP hD hS
  have hS := hS1
  have hW7 : (fun w9 : va_W => va_P D classes w9 H_26 ∧ va_D A w9) [(h0, .inr (2, [.ref q_1, .ref q_7, .ref q_10, .ref q_13, .ref q_16, .ref q_19, .ref q_22, .null, .null, .null, .null, .null, .int 0, .int 0, .int 0, .int 0, .int 0])), (q_1, .inr (4, [.ref (u_3 0), .ref (u_3 1), .ref (u_3 2), .int 0])), ((u_3 0), .inl (ax 1, 8, .inl (fun _ => 0))), ((u_3 1), .inl (ax 0, 8, .inl (fun _ => 0))), ((u_3 2), .inl (ax 0, 8, .inl (fun _ => 0))), (q_7, .inl (ax 1, 20, .inl (fun _ => 0))), (q_10, .inl (ax 1, 20, .inl (fun _ => 0))), (q_13, .inl (ax 1, 20, .inl (fun _ => 0))), (q_16, .inl (ax 1, 20, .inl (fun _ => 0))), (q_19, .inl (ax 1, 20, .inl (fun _ => 0))), (q_22, .inl (ax 2, 20, .inl (fun _ => 0))), (q_25, .inl (ax 2, 20, .inl (fun _ => 0)))] := ⟨hP1, hD1⟩
  obtain ⟨hP, hD⟩ := hW7
  clear hP1 hD1 hS1
  refine W.widen (k := 11) (n := 168) (Nat.le_of_ble_eq_true rfl) (Nat.le_of_ble_eq_true rfl) ?_
  refine va_putF (D := D) (ci := 2) (v := .ref q_25) (ty := .array .short) (C := R_Listing) (T := F_Listing) (N := 17) hx hb hts i_Listing t_Listing t_Listing_ok n_Listing hown hK.1 hP hD hS 0 rfl rfl 7 (by decide) (hts _ wd_289) (fun _ h9 => h9) rfl hin rfl (by decide +kernel) rfl rfl (Nat.le_of_ble_eq_true rfl) d_Listing_init_68 (fun H_27 locs hP1 hD1 hS1 => ?_)
  clear hP hD hS
  have hS := hS1
  have hW7 : (fun w9 : va_W => va_P D classes w9 H_27 ∧ va_D A w9) [(h0, .inr (2, [.ref q_1, .ref q_7, .ref q_10, .ref q_13, .ref q_16, .ref q_19, .ref q_22, .ref q_25, .null, .null, .null, .null, .int 0, .int 0, .int 0, .int 0, .int 0])), (q_1, .inr (4, [.ref (u_3 0), .ref (u_3 1), .ref (u_3 2), .int 0])), ((u_3 0), .inl (ax 1, 8, .inl (fun _ => 0))), ((u_3 1), .inl (ax 0, 8, .inl (fun _ => 0))), ((u_3 2), .inl (ax 0, 8, .inl (fun _ => 0))), (q_7, .inl (ax 1, 20, .inl (fun _ => 0))), (q_10, .inl (ax 1, 20, .inl (fun _ => 0))), (q_13, .inl (ax 1, 20, .inl (fun _ => 0))), (q_16, .inl (ax 1, 20, .inl (fun _ => 0))), (q_19, .inl (ax 1, 20, .inl (fun _ => 0))), (q_22, .inl (ax 2, 20, .inl (fun _ => 0))), (q_25, .inl (ax 2, 20, .inl (fun _ => 0)))] := ⟨hP1, hD1⟩
  obtain ⟨hP, hD⟩ := hW7
  clear hP1 hD1 hS1
  refine lv_aload_n hx hb d_Listing_init_71 rfl (lv_at hl1 0 rfl) ?_
  refine lv_bipush (v := 20) hx hb d_Listing_init_72 (by decide) ?_
  refine xnewa (atype := .int) (ty := .int) (aX := ax 0) hx hb (hts _ wd_68) rfl hK.2.1.1 hP hD hS hA (xa_i 20) (by decide) (by decide) (by decide) (Nat.le_of_ble_eq_true rfl) (Nat.le_of_ble_eq_true rfl) d_Listing_init_74 (fun q_28 H_29 hP1 hD1 hS1 => ?_)
  clear hP hD hS
  have hS := hS1
  have hW7 : (fun w9 : va_W => va_P D classes w9 H_29 ∧ va_D A w9) [(h0, .inr (2, [.ref q_1, .ref q_7, .ref q_10, .ref q_13, .ref q_16, .ref q_19, .ref q_22, .ref q_25, .null, .null, .null, .null, .int 0, .int 0, .int 0, .int 0, .int 0])), (q_1, .inr (4, [.ref (u_3 0), .ref (u_3 1), .ref (u_3 2), .int 0])), ((u_3 0), .inl (ax 1, 8, .inl (fun _ => 0))), ((u_3 1), .inl (ax 0, 8, .inl (fun _ => 0))), ((u_3 2), .inl (ax 0, 8, .inl (fun _ => 0))), (q_7, .inl (ax 1, 20, .inl (fun _ => 0))), (q_10, .inl (ax 1, 20, .inl (fun _ => 0))), (q_13, .inl (ax 1, 20, .inl (fun _ => 0))), (q_16, .inl (ax 1, 20, .inl (fun _ => 0))), (q_19, .inl (ax 1, 20, .inl (fun _ => 0))), (q_22, .inl (ax 2, 20, .inl (fun _ => 0))), (q_25, .inl (ax 2, 20, .inl (fun _ => 0))), (q_28, .inl (ax 0, 20, .inl (fun _ => 0)))] := ⟨hP1, hD1⟩
  obtain ⟨hP, hD⟩ := hW7
  clear hP1 hD1 hS1
  refine W.widen (k := 12) (n := 188) (Nat.le_of_ble_eq_true rfl) (Nat.le_of_ble_eq_true rfl) ?_
  refine va_putF (D := D) (ci := 2) (v := .ref q_28) (ty := .array .int) (C := R_Listing) (T := F_Listing) (N := 17) hx hb hts i_Listing t_Listing t_Listing_ok n_Listing hown hK.1 hP hD hS 0 rfl rfl 8 (by decide) (hts _ wd_292) (fun _ h9 => h9) rfl hin rfl (by decide +kernel) rfl rfl (Nat.le_of_ble_eq_true rfl) d_Listing_init_76 (fun H_30 locs hP1 hD1 hS1 => ?_)
  clear hP hD hS
  have hS := hS1
  have hW7 : (fun w9 : va_W => va_P D classes w9 H_30 ∧ va_D A w9) [(h0, .inr (2, [.ref q_1, .ref q_7, .ref q_10, .ref q_13, .ref q_16, .ref q_19, .ref q_22, .ref q_25, .ref q_28, .null, .null, .null, .int 0, .int 0, .int 0, .int 0, .int 0])), (q_1, .inr (4, [.ref (u_3 0), .ref (u_3 1), .ref (u_3 2), .int 0])), ((u_3 0), .inl (ax 1, 8, .inl (fun _ => 0))), ((u_3 1), .inl (ax 0, 8, .inl (fun _ => 0))), ((u_3 2), .inl (ax 0, 8, .inl (fun _ => 0))), (q_7, .inl (ax 1, 20, .inl (fun _ => 0))), (q_10, .inl (ax 1, 20, .inl (fun _ => 0))), (q_13, .inl (ax 1, 20, .inl (fun _ => 0))), (q_16, .inl (ax 1, 20, .inl (fun _ => 0))), (q_19, .inl (ax 1, 20, .inl (fun _ => 0))), (q_22, .inl (ax 2, 20, .inl (fun _ => 0))), (q_25, .inl (ax 2, 20, .inl (fun _ => 0))), (q_28, .inl (ax 0, 20, .inl (fun _ => 0)))] := ⟨hP1, hD1⟩
  obtain ⟨hP, hD⟩ := hW7
  clear hP1 hD1 hS1
  refine lv_aload_n hx hb d_Listing_init_79 rfl (lv_at hl1 0 rfl) ?_
  refine lv_bipush (v := 20) hx hb d_Listing_init_80 (by decide) ?_
  refine xnewa (atype := .byte) (ty := .byte) (aX := ax 1) hx hb (hts _ wd_67) rfl hK.2.1.2.1 hP hD hS hA (xa_b 20) (by decide) (by decide) (by decide) (Nat.le_of_ble_eq_true rfl) (Nat.le_of_ble_eq_true rfl) d_Listing_init_82 (fun q_31 H_32 hP1 hD1 hS1 => ?_)
  clear hP hD hS
  have hS := hS1
  have hW7 : (fun w9 : va_W => va_P D classes w9 H_32 ∧ va_D A w9) [(h0, .inr (2, [.ref q_1, .ref q_7, .ref q_10, .ref q_13, .ref q_16, .ref q_19, .ref q_22, .ref q_25, .ref q_28, .null, .null, .null, .int 0, .int 0, .int 0, .int 0, .int 0])), (q_1, .inr (4, [.ref (u_3 0), .ref (u_3 1), .ref (u_3 2), .int 0])), ((u_3 0), .inl (ax 1, 8, .inl (fun _ => 0))), ((u_3 1), .inl (ax 0, 8, .inl (fun _ => 0))), ((u_3 2), .inl (ax 0, 8, .inl (fun _ => 0))), (q_7, .inl (ax 1, 20, .inl (fun _ => 0))), (q_10, .inl (ax 1, 20, .inl (fun _ => 0))), (q_13, .inl (ax 1, 20, .inl (fun _ => 0))), (q_16, .inl (ax 1, 20, .inl (fun _ => 0))), (q_19, .inl (ax 1, 20, .inl (fun _ => 0))), (q_22, .inl (ax 2, 20, .inl (fun _ => 0))), (q_25, .inl (ax 2, 20, .inl (fun _ => 0))), (q_28, .inl (ax 0, 20, .inl (fun _ => 0))), (q_31, .inl (ax 1, 20, .inl (fun _ => 0)))] := ⟨hP1, hD1⟩
  obtain ⟨hP, hD⟩ := hW7
  clear hP1 hD1 hS1
  refine W.widen (k := 13) (n := 208) (Nat.le_of_ble_eq_true rfl) (Nat.le_of_ble_eq_true rfl) ?_
  refine va_putF (D := D) (ci := 2) (v := .ref q_31) (ty := .array .byte) (C := R_Listing) (T := F_Listing) (N := 17) hx hb hts i_Listing t_Listing t_Listing_ok n_Listing hown hK.1 hP hD hS 0 rfl rfl 9 (by decide) (hts _ wd_296) (fun _ h9 => h9) rfl hin rfl (by decide +kernel) rfl rfl (Nat.le_of_ble_eq_true rfl) d_Listing_init_84 (fun H_33 locs hP1 hD1 hS1 => ?_)
  clear hP hD hS
  have hS := hS1
  have hW7 : (fun w9 : va_W => va_P D classes w9 H_33 ∧ va_D A w9) [(h0, .inr (2, [.ref q_1, .ref q_7, .ref q_10, .ref q_13, .ref q_16, .ref q_19, .ref q_22, .ref q_25, .ref q_28, .ref q_31, .null, .null, .int 0, .int 0, .int 0, .int 0, .int 0])), (q_1, .inr (4, [.ref (u_3 0), .ref (u_3 1), .ref (u_3 2), .int 0])), ((u_3 0), .inl (ax 1, 8, .inl (fun _ => 0))), ((u_3 1), .inl (ax 0, 8, .inl (fun _ => 0))), ((u_3 2), .inl (ax 0, 8, .inl (fun _ => 0))), (q_7, .inl (ax 1, 20, .inl (fun _ => 0))), (q_10, .inl (ax 1, 20, .inl (fun _ => 0))), (q_13, .inl (ax 1, 20, .inl (fun _ => 0))), (q_16, .inl (ax 1, 20, .inl (fun _ => 0))), (q_19, .inl (ax 1, 20, .inl (fun _ => 0))), (q_22, .inl (ax 2, 20, .inl (fun _ => 0))), (q_25, .inl (ax 2, 20, .inl (fun _ => 0))), (q_28, .inl (ax 0, 20, .inl (fun _ => 0))), (q_31, .inl (ax 1, 20, .inl (fun _ => 0)))] := ⟨hP1, hD1⟩
  obtain ⟨hP, hD⟩ := hW7
  clear hP1 hD1 hS1
  refine lv_aload_n hx hb d_Listing_init_87 rfl (lv_at hl1 0 rfl) ?_
  refine lv_bipush (v := 29) hx hb d_Listing_init_88 (by decide) ?_
  refine xnewa (atype := .byte) (ty := .byte) (aX := ax 1) hx hb (hts _ wd_67) rfl hK.2.1.2.1 hP hD hS hA (xa_b 29) (by decide) (by decide) (by decide) (Nat.le_of_ble_eq_true rfl) (Nat.le_of_ble_eq_true rfl) d_Listing_init_90 (fun q_34 H_35 hP1 hD1 hS1 => ?_)
  clear hP hD hS
  have hS := hS1
  have hW7 : (fun w9 : va_W => va_P D classes w9 H_35 ∧ va_D A w9) [(h0, .inr (2, [.ref q_1, .ref q_7, .ref q_10, .ref q_13, .ref q_16, .ref q_19, .ref q_22, .ref q_25, .ref q_28, .ref q_31, .null, .null, .int 0, .int 0, .int 0, .int 0, .int 0])), (q_1, .inr (4, [.ref (u_3 0), .ref (u_3 1), .ref (u_3 2), .int 0])), ((u_3 0), .inl (ax 1, 8, .inl (fun _ => 0))), ((u_3 1), .inl (ax 0, 8, .inl (fun _ => 0))), ((u_3 2), .inl (ax 0, 8, .inl (fun _ => 0))), (q_7, .inl (ax 1, 20, .inl (fun _ => 0))), (q_10, .inl (ax 1, 20, .inl (fun _ => 0))), (q_13, .inl (ax 1, 20, .inl (fun _ => 0))), (q_16, .inl (ax 1, 20, .inl (fun _ => 0))), (q_19, .inl (ax 1, 20, .inl (fun _ => 0))), (q_22, .inl (ax 2, 20, .inl (fun _ => 0))), (q_25, .inl (ax 2, 20, .inl (fun _ => 0))), (q_28, .inl (ax 0, 20, .inl (fun _ => 0))), (q_31, .inl (ax 1, 20, .inl (fun _ => 0))), (q_34, .inl (ax 1, 29, .inl (fun _ => 0)))] := ⟨hP1, hD1⟩
  obtain ⟨hP, hD⟩ := hW7
  clear hP1 hD1 hS1
  refine W.widen (k := 14) (n := 237) (Nat.le_of_ble_eq_true rfl) (Nat.le_of_ble_eq_true rfl) ?_
  refine va_putF (D := D) (ci := 2) (v := .ref q_34) (ty := .array .byte) (C := R_Listing) (T := F_Listing) (N := 17) hx hb hts i_Listing t_Listing t_Listing_ok n_Listing hown hK.1 hP hD hS 0 rfl rfl 10 (by decide) (hts _ wd_300) (fun _ h9 => h9) rfl hin rfl (by decide +kernel) rfl rfl (Nat.le_of_ble_eq_true rfl) d_Listing_init_92 (fun H_36 locs hP1 hD1 hS1 => ?_)
  clear hP hD hS
  have hS := hS1
  have hW7 : (fun w9 : va_W => va_P D classes w9 H_36 ∧ va_D A w9) [(h0, .inr (2, [.ref q_1, .ref q_7, .ref q_10, .ref q_13, .ref q_16, .ref q_19, .ref q_22, .ref q_25, .ref q_28, .ref q_31, .ref q_34, .null, .int 0, .int 0, .int 0, .int 0, .int 0])), (q_1, .inr (4, [.ref (u_3 0), .ref (u_3 1), .ref (u_3 2), .int 0])), ((u_3 0), .inl (ax 1, 8, .inl (fun _ => 0))), ((u_3 1), .inl (ax 0, 8, .inl (fun _ => 0))), ((u_3 2), .inl (ax 0, 8, .inl (fun _ => 0))), (q_7, .inl (ax 1, 20, .inl (fun _ => 0))), (q_10, .inl (ax 1, 20, .inl (fun _ => 0))), (q_13, .inl (ax 1, 20, .inl (fun _ => 0))), (q_16, .inl (ax 1, 20, .inl (fun _ => 0))), (q_19, .inl (ax 1, 20, .inl (fun _ => 0))), (q_22, .inl (ax 2, 20, .inl (fun _ => 0))), (q_25, .inl (ax 2, 20, .inl (fun _ => 0))), (q_28, .inl (ax 0, 20, .inl (fun _ => 0))), (q_31, .inl (ax 1, 20, .inl (fun _ => 0))), (q_34, .inl (ax 1, 29, .inl (fun _ => 0)))] := ⟨hP1, hD1⟩
  obtain ⟨hP, hD⟩ := hW7
  clear hP1 hD1 hS1
  refine lv_aload_n hx hb d_Listing_init_95 rfl (lv_at hl1 0 rfl) ?_
  refine lv_bipush (v := 29) hx hb d_Listing_init_96 (by decide) ?_
  refine xnewa (atype := .byte) (ty := .byte) (aX := ax 1) hx hb (hts _ wd_67) rfl hK.2.1.2.1 hP hD hS hA (xa_b 29) (by decide) (by decide) (by decide) (Nat.le_of_ble_eq_true rfl) (Nat.le_of_ble_eq_true rfl) d_Listing_init_98 (fun q_37 H_38 hP1 hD1 hS1 => ?_)
  clear hP hD hS
  have hS := hS1
  have hW7 : (fun w9 : va_W => va_P D classes w9 H_38 ∧ va_D A w9) [(h0, .inr (2, [.ref q_1, .ref q_7, .ref q_10, .ref q_13, .ref q_16, .ref q_19, .ref q_22, .ref q_25, .ref q_28, .ref q_31, .ref q_34, .null, .int 0, .int 0, .int 0, .int 0, .int 0])), (q_1, .inr (4, [.ref (u_3 0), .ref (u_3 1), .ref (u_3 2), .int 0])), ((u_3 0), .inl (ax 1, 8, .inl (fun _ => 0))), ((u_3 1), .inl (ax 0, 8, .inl (fun _ => 0))), ((u_3 2), .inl (ax 0, 8, .inl (fun _ => 0))), (q_7, .inl (ax 1, 20, .inl (fun _ => 0))), (q_10, .inl (ax 1, 20, .inl (fun _ => 0))), (q_13, .inl (ax 1, 20, .inl (fun _ => 0))), (q_16, .inl (ax 1, 20, .inl (fun _ => 0))), (q_19, .inl (ax 1, 20, .inl (fun _ => 0))), (q_22, .inl (ax 2, 20, .inl (fun _ => 0))), (q_25, .inl (ax 2, 20, .inl (fun _ => 0))), (q_28, .inl (ax 0, 20, .inl (fun _ => 0))), (q_31, .inl (ax 1, 20, .inl (fun _ => 0))), (q_34, .inl (ax 1, 29, .inl (fun _ => 0))), (q_37, .inl (ax 1, 29, .inl (fun _ => 0)))] := ⟨hP1, hD1⟩
  obtain ⟨hP, hD⟩ := hW7
  clear hP1 hD1 hS1
  refine W.widen (k := 15) (n := 266) (Nat.le_of_ble_eq_true rfl) (Nat.le_of_ble_eq_true rfl) ?_
  refine va_putF (D := D) (ci := 2) (v := .ref q_37) (ty := .array .byte) (C := R_Listing) (T := F_Listing) (N := 17) hx hb hts i_Listing t_Listing t_Listing_ok n_Listing hown hK.1 hP hD hS 0 rfl rfl 11 (by decide) (hts _ wd_303) (fun _ h9 => h9) rfl hin rfl (by decide +kernel) rfl rfl (Nat.le_of_ble_eq_true rfl) d_Listing_init_100 (fun H_39 locs hP1 hD1 hS1 => ?_)
  clear hP hD hS
  have hS := hS1
  have hW7 : (fun w9 : va_W => va_P D classes w9 H_39 ∧ va_D A w9) [(h0, .inr (2, [.ref q_1, .ref q_7, .ref q_10, .ref q_13, .ref q_16, .ref q_19, .ref q_22, .ref q_25, .ref q_28, .ref q_31, .ref q_34, .ref q_37, .int 0, .int 0, .int 0, .int 0, .int 0])), (q_1, .inr (4, [.ref (u_3 0), .ref (u_3 1), .ref (u_3 2), .int 0])), ((u_3 0), .inl (ax 1, 8, .inl (fun _ => 0))), ((u_3 1), .inl (ax 0, 8, .inl (fun _ => 0))), ((u_3 2), .inl (ax 0, 8, .inl (fun _ => 0))), (q_7, .inl (ax 1, 20, .inl (fun _ => 0))), (q_10, .inl (ax 1, 20, .inl (fun _ => 0))), (q_13, .inl (ax 1, 20, .inl (fun _ => 0))), (q_16, .inl (ax 1, 20, .inl (fun _ => 0))), (q_19, .inl (ax 1, 20, .inl (fun _ => 0))), (q_22, .inl (ax 2, 20, .inl (fun _ => 0))), (q_25, .inl (ax 2, 20, .inl (fun _ => 0))), (q_28, .inl (ax 0, 20, .inl (fun _ => 0))), (q_31, .inl (ax 1, 20, .inl (fun _ => 0))), (q_34, .inl (ax 1, 29, .inl (fun _ => 0))), (q_37, .inl (ax 1, 29, .inl (fun _ => 0)))] := ⟨hP1, hD1⟩
  obtain ⟨hP, hD⟩ := hW7
  clear hP1 hD1 hS1
  rw [← hQe]
  obtain ⟨hP9, hD9⟩ := xw_sub2 (wc := (fun u : Nat → Nat => [(h0, .inr (2, [.ref (u 0), .ref (u 4), .ref (u 5), .ref (u 6), .ref (u 7), .ref (u 8), .ref (u 9), .ref (u 10), .ref (u 11), .ref (u 12), .ref (u 13), .ref (u 14), .int 0, .int 0, .int 0, .int 0, .int 0])), (u 0, .inr (4, [.ref (u 1), .ref (u 2), .ref (u 3), .int 0])), (u 1, .inl (ax 1, 8, .inl (fun _ => 0))), (u 2, .inl (ax 0, 8, .inl (fun _ => 0))), (u 3, .inl (ax 0, 8, .inl (fun _ => 0))), (u 4, .inl (ax 1, 20, .inl (fun _ => 0))), (u 5, .inl (ax 1, 20, .inl (fun _ => 0))), (u 6, .inl (ax 1, 20, .inl (fun _ => 0))), (u 7, .inl (ax 1, 20, .inl (fun _ => 0))), (u 8, .inl (ax 1, 20, .inl (fun _ => 0))), (u 9, .inl (ax 2, 20, .inl (fun _ => 0))), (u 10, .inl (ax 2, 20, .inl (fun _ => 0))), (u 11, .inl (ax 0, 20, .inl (fun _ => 0))), (u 12, .inl (ax 1, 20, .inl (fun _ => 0))), (u 13, .inl (ax 1, 29, .inl (fun _ => 0))), (u 14, .inl (ax 1, 29, .inl (fun _ => 0)))]) (ixn [q_1, (u_3 0), (u_3 1), (u_3 2), q_7, q_10, q_13, q_16, q_19, q_22, q_25, q_28, q_31, q_34, q_37])) hP hD [0, 1, 2, 3, 4, 5, 6, 7, 8, 9, 10, 11, 12, 13, 14, 15] (by decide) rfl
  exact W.vret hx hb hr (fun t ht hW => ⟨⟨ixn [q_1, (u_3 0), (u_3 1), (u_3 2), q_7, q_10, q_13, q_16, q_19, q_22, q_25, q_28, q_31, q_34, q_37], rfl, trivial, ⟨by rw [ht]; exact hP9, hD9⟩⟩, hS.F ht⟩) hS.2.2 d_Listing_init_103
set_option maxHeartbeats 40000000 in
set_option maxRecDepth 100000 in
theorem c_Nodes_add_s (l : Launch) (D : va_G) (ax : Nat → ClassId) (h0 h1 h2 h3 : Nat) (sz : Nat) : Met l y_Nodes_add (xws (.code y_Nodes_add b_Nodes_add 4 (some .int))) ({ frames := 10, cells := 0, slots := 0, locals := 400 }) (va_Pc [.ref h0, .int 4, .int 10, .int 10] (xo D ax [(h0, .inr (4, [.ref h1, .ref h2, .ref h3, .int 0])), (h1, .inl (ax 1, 8, .inl (fun _ => 0))), (h2, .inl (ax 0, 8, .inl (fun _ => 0))), (h3, .inl (ax 0, 8, .inl (fun _ => 0)))] sz)) ((va_Qi (fun (r : Int32) (u : Nat → Nat) => r = 0) (xb D (va_A [(h0, .inr (4, [.ref h1, .ref h2, .ref h3, .int 0])), (h1, .inl (ax 1, 8, .inl (fun _ => 0))), (h2, .inl (ax 0, 8, .inl (fun _ => 0))), (h3, .inl (ax 0, 8, .inl (fun _ => 0)))] sz) (fun u => [(h0, .inr (4, [.ref h1, .ref h2, .ref h3, .int 1])), (h1, .inl (ax 1, 8, .inl (upd (fun _ => 0) 0 4))), (h2, .inl (ax 0, 8, .inl (upd (fun _ => 0) 0 10))), (h3, .inl (ax 0, 8, .inl (upd (fun _ => 0) 0 10)))])) (va_A [(h0, .inr (4, [.ref h1, .ref h2, .ref h3, .int 0])), (h1, .inl (ax 1, 8, .inl (fun _ => 0))), (h2, .inl (ax 0, 8, .inl (fun _ => 0))), (h3, .inl (ax 0, 8, .inl (fun _ => 0)))] sz))) 0 0 (va_A [(h0, .inr (4, [.ref h1, .ref h2, .ref h3, .int 0])), (h1, .inl (ax 1, 8, .inl (fun _ => 0))), (h2, .inl (ax 0, 8, .inl (fun _ => 0))), (h3, .inl (ax 0, 8, .inl (fun _ => 0)))] sz) := by
  refine Met.ofW (cc := b_Nodes_add) (maxL := 4) (ret := (some .int)) (by decide) rfl ?_
  intro p e s m args below meth c s₁ B hml hv
  obtain ⟨rfl, hsz, hP, hK, hD0⟩ := hv
  have hx := B.exec
  have hb := B.bytes
  have hr := B.returns
  have hts := xw_hts B.pre
  have hown : s.vm.findClass R_Nodes = some m.cls := findClass_of_methodNamed B.named
  have hlocks := B.notSynchronized
  subst hsz
  have hD := hD0.self (sz := s.heap.size)
  have hN := xz_entry hP
  generalize hAe : va_A [(h0, .inr (4, [.ref h1, .ref h2, .ref h3, .int 0])), (h1, .inl (ax 1, 8, .inl (fun _ => 0))), (h2, .inl (ax 0, 8, .inl (fun _ => 0))), (h3, .inl (ax 0, 8, .inl (fun _ => 0)))] s.heap.size = A at hD hN ⊢
  have hA : ∀ q : Nat, s.heap.size ≤ q → A q := fun q h => by rw [← hAe]; exact Or.inr h
  have hS : va_S A s.heap s.heap [] := va_S.rf
  have hl0 := lv_entry ([.ref h0, .int 4, .int 10, .int 10]) (n := 4) (Nat.le_of_ble_eq_true rfl)
  rw [lg_entry_eq]
  generalize (lg_sl ([.ref h0, .int 4, .int 10, .int 10]) ++ List.replicate (4 - (lg_sl ([.ref h0, .int 4, .int 10, .int 10])).length) Slot.unset).toArray = ls at hl0 ⊢
  have hl1 : lv_has ls 4 [(0, .ref h0), (1, .int 4), (2, .int 10), (3, .int 10)] := hl0
  refine xw_gen (fun Z9 hQe => ?_)
  refine lv_aload_n hx hb d_Nodes_add_0 rfl (lv_at hl1 0 rfl) ?_
  refine va_get (D := D) (ci := 4) (v := .int 0) (C := R_Nodes) (T := F_Nodes) (N := 4) hx hb hts i_Nodes hown hK.1 hP 0 rfl rfl 3 (by decide) (hts _ wd_118) (fun _ h9 => h9) rfl d_Nodes_add_1 ?_
  refine lv_aload_n hx hb d_Nodes_add_4 rfl (lv_at hl1 0 rfl) ?_
  refine va_get (D := D) (ci := 4) (v := .ref h1) (C := R_Nodes) (T := F_Nodes) (N := 4) hx hb hts i_Nodes hown hK.1 hP 0 rfl rfl 0 (by decide) (hts _ wd_103) (fun _ h9 => h9) rfl d_Nodes_add_5 ?_
  refine va_alen hx hb hK.1 hP 1 1 rfl rfl (v := 8) (by first | decide | rfl) d_Nodes_add_8 ?_
  refine lv_icmp_ne (tgt := 63) hx hb d_Nodes_add_9 (by decide) (fun c_1 => ?_) (fun c_1 => ?_)
  rotate_left
  · first | exact absurd c_1 (by decide) | exact absurd (by decide) c_1
  refine lv_aload_n hx hb d_Nodes_add_63 rfl (lv_at hl1 0 rfl) ?_
  refine va_get (D := D) (ci := 4) (v := .ref h1) (C := R_Nodes) (T := F_Nodes) (N := 4) hx hb hts i_Nodes hown hK.1 hP 0 rfl rfl 0 (by decide) (hts _ wd_103) (fun _ h9 => h9) rfl d_Nodes_add_64 ?_
  refine lv_aload_n hx hb d_Nodes_add_67 rfl (lv_at hl1 0 rfl) ?_
  refine va_get (D := D) (ci := 4) (v := .int 0) (C := R_Nodes) (T := F_Nodes) (N := 4) hx hb hts i_Nodes hown hK.1 hP 0 rfl rfl 3 (by decide) (hts _ wd_118) (fun _ h9 => h9) rfl d_Nodes_add_68 ?_
  refine lv_iload_n hx hb d_Nodes_add_71 rfl (lv_at hl1 1 rfl) ?_
  refine lv_i2b hx hb d_Nodes_add_72 rfl ?_
  refine lv_topi (fun z_2 ez_2 => ?_)
  have ez_2 : z_2 = 4 := ez_2.trans (by first | rfl | decide)
  subst ez_2
  refine va_bast hx hb hK.1 hP hD hS 1 1 rfl rfl (by unfold vp_in; decide) d_Nodes_add_73 (fun H_3 locs hP1 hD1 hS1 => ?_)
  clear hP hD hS
  have hS := hS1
  have hW7 : (fun w9 : va_W => va_P D classes w9 H_3 ∧ va_D A w9) [(h0, .inr (4, [.ref h1, .ref h2, .ref h3, .int 0])), (h1, .inl (ax 1, 8, .inl (upd (fun _ => 0) 0 4))), (h2, .inl (ax 0, 8, .inl (fun _ => 0))), (h3, .inl (ax 0, 8, .inl (fun _ => 0)))] := ⟨hP1, hD1⟩
  obtain ⟨hP, hD⟩ := hW7
  clear hP1 hD1 hS1
  refine lv_aload_n hx hb d_Nodes_add_74 rfl (lv_at hl1 0 rfl) ?_
  refine va_get (D := D) (ci := 4) (v := .ref h2) (C := R_Nodes) (T := F_Nodes) (N := 4) hx hb hts i_Nodes hown hK.1 hP 0 rfl rfl 1 (by decide) (hts _ wd_108) (fun _ h9 => h9) rfl d_Nodes_add_75 ?_
  refine lv_aload_n hx hb d_Nodes_add_78 rfl (lv_at hl1 0 rfl) ?_
  refine va_get (D := D) (ci := 4) (v := .int 0) (C := R_Nodes) (T := F_Nodes) (N := 4) hx hb hts i_Nodes hown hK.1 hP 0 rfl rfl 3 (by decide) (hts _ wd_118) (fun _ h9 => h9) rfl d_Nodes_add_79 ?_
  refine lv_iload_n hx hb d_Nodes_add_82 rfl (lv_at hl1 2 rfl) ?_
  refine va_iast hx hb hK.1 hP hD hS 2 0 rfl rfl (by unfold vp_in; decide) d_Nodes_add_83 (fun H_4 locs hP1 hD1 hS1 => ?_)
  clear hP hD hS
  have hS := hS1
  have hW7 : (fun w9 : va_W => va_P D classes w9 H_4 ∧ va_D A w9) [(h0, .inr (4, [.ref h1, .ref h2, .ref h3, .int 0])), (h1, .inl (ax 1, 8, .inl (upd (fun _ => 0) 0 4))), (h2, .inl (ax 0, 8, .inl (upd (fun _ => 0) 0 10))), (h3, .inl (ax 0, 8, .inl (fun _ => 0)))] := ⟨hP1, hD1⟩
  obtain ⟨hP, hD⟩ := hW7
  clear hP1 hD1 hS1
  refine lv_aload_n hx hb d_Nodes_add_84 rfl (lv_at hl1 0 rfl) ?_
  refine va_get (D := D) (ci := 4) (v := .ref h3) (C := R_Nodes) (T := F_Nodes) (N := 4) hx hb hts i_Nodes hown hK.1 hP 0 rfl rfl 2 (by decide) (hts _ wd_113) (fun _ h9 => h9) rfl d_Nodes_add_85 ?_
  refine lv_aload_n hx hb d_Nodes_add_88 rfl (lv_at hl1 0 rfl) ?_
  refine va_get (D := D) (ci := 4) (v := .int 0) (C := R_Nodes) (T := F_Nodes) (N := 4) hx hb hts i_Nodes hown hK.1 hP 0 rfl rfl 3 (by decide) (hts _ wd_118) (fun _ h9 => h9) rfl d_Nodes_add_89 ?_
  refine lv_iload_n hx hb d_Nodes_add_92 rfl (lv_at hl1 3 rfl) ?_
  refine va_iast hx hb hK.1 hP hD hS 3 0 rfl rfl (by unfold vp_in; decide) d_Nodes_add_93 (fun H_5 locs hP1 hD1 hS1 => ?_)
  clear hP hD hS
  have hS := hS1
  have hW7 : (fun w9 : va_W => va_P D classes w9 H_5 ∧ va_D A w9) [(h0, .inr (4, [.ref h1, .ref h2, .ref h3, .int 0])), (h1, .inl (ax 1, 8, .inl (upd (fun _ => 0) 0 4))), (h2, .inl (ax 0, 8, .inl (upd (fun _ => 0) 0 10))), (h3, .inl (ax 0, 8, .inl (upd (fun _ => 0) 0 10)))] := ⟨hP1, hD1⟩
  obtain ⟨hP, hD⟩ := hW7
  clear hP1 hD1 hS1
  refine lv_aload_n hx hb d_Nodes_add_94 rfl (lv_at hl1 0 rfl) ?_
  refine lv_dup hx hb d_Nodes_add_95 rfl ?_
  refine va_get (D := D) (ci := 4) (v := .int 0) (C := R_Nodes) (T := F_Nodes) (N := 4) hx hb hts i_Nodes hown hK.1 hP 0 rfl rfl 3 (by decide) (hts _ wd_118) (fun _ h9 => h9) rfl d_Nodes_add_96 ?_
  refine lv_dup_x1 hx hb d_Nodes_add_99 rfl rfl ?_
  refine lv_iconst (v := 1) hx hb d_Nodes_add_100 (by decide) ?_
  refine lv_iadd hx hb d_Nodes_add_101 ?_
  refine lv_topi (fun z_6 ez_6 => ?_)
  have ez_6 : z_6 = 1 := ez_6.trans (by first | rfl | decide)
  subst ez_6
  refine va_put (D := D) (ci := 4) (v := .int 1) (ty := .int) (C := R_Nodes) (T := F_Nodes) (N := 4) hx hb hts i_Nodes t_Nodes t_Nodes_ok n_Nodes hown hK.1 hP hD hS 0 rfl rfl 3 (by decide) (hts _ wd_118) (fun _ h9 => h9) rfl (by decide +kernel) rfl rfl (Nat.le_of_ble_eq_true rfl) d_Nodes_add_102 (fun H_7 locs hP1 hD1 hS1 => ?_)
  clear hP hD hS
  have hS := hS1
  have hW7 : (fun w9 : va_W => va_P D classes w9 H_7 ∧ va_D A w9) [(h0, .inr (4, [.ref h1, .ref h2, .ref h3, .int 1])), (h1, .inl (ax 1, 8, .inl (upd (fun _ => 0) 0 4))), (h2, .inl (ax 0, 8, .inl (upd (fun _ => 0) 0 10))), (h3, .inl (ax 0, 8, .inl (upd (fun _ => 0) 0 10)))] := ⟨hP1, hD1⟩
  obtain ⟨hP, hD⟩ := hW7
  clear hP1 hD1 hS1
  rw [← hQe]
  obtain ⟨hP9, hD9⟩ := xw_sub2 (wc := (fun u : Nat → Nat => [(h0, .inr (4, [.ref h1, .ref h2, .ref h3, .int 1])), (h1, .inl (ax 1, 8, .inl (upd (fun _ => 0) 0 4))), (h2, .inl (ax 0, 8, .inl (upd (fun _ => 0) 0 10))), (h3, .inl (ax 0, 8, .inl (upd (fun _ => 0) 0 10)))]) (ixn [])) hP hD [0, 1, 2, 3] (by decide) rfl
  exact W.iret (v := 0) hx hb hr (fun t ht hW => ⟨⟨0, ixn [], rfl, rfl, ⟨by rw [ht]; exact hP9, hD9⟩⟩, hS.F ht⟩) hS.2.2 d_Nodes_add_105
