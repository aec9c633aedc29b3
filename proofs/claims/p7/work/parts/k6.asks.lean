theorem ps_21 : Cond.selects "TripleDesk" ⟨"TripleDesk", "needClaim", "(I)V"⟩ ⟨"TripleDesk", "needClaim", "(I)V"⟩ ∈ lw_gd := ps_in (q := (⟨"TripleDesk", "needClaim", "(I)V"⟩, 13)) (i := 21) (by decide +kernel)
theorem ps_46 : Cond.selects "TripleDesk" ⟨"TripleDesk", "needVariable", "(I)V"⟩ ⟨"TripleDesk", "needVariable", "(I)V"⟩ ∈ lw_gd := ps_in (q := (⟨"TripleDesk", "needVariable", "(I)V"⟩, 13)) (i := 46) (by decide +kernel)
theorem wd_25 : ((Jvm.Cond.initialized "java/lang/IllegalArgumentException")) ∈ lw_gd := lw_gd_in (i := 25) (by decide +kernel) rfl
theorem wd_237 : ((Jvm.Cond.fieldLink "TripleDesk" (167 : Nat) "TripleDesk$Paper" "bytes" "[B")) ∈ lw_gd := lw_gd_in (i := 237) (by decide +kernel) rfl
theorem wd_239 : ((Jvm.Cond.fieldLink "TripleDesk" (164 : Nat) "TripleDesk$Paper" "size" "I")) ∈ lw_gd := lw_gd_in (i := 239) (by decide +kernel) rfl
theorem wd_252 : ((Jvm.Cond.fieldLink "TripleDesk" (173 : Nat) "TripleDesk$Runner" "values" "[J")) ∈ lw_gd := lw_gd_in (i := 252) (by decide +kernel) rfl
theorem wd_380 : ((Jvm.Cond.fieldLink "TripleDesk" (49 : Nat) "TripleDesk" "paper" "LTripleDesk$Paper;")) ∈ lw_gd := lw_gd_in (i := 380) (by decide +kernel) rfl
theorem wd_737 : ((Jvm.Cond.methodLink "TripleDesk" (116 : Nat) ({ cls := "TripleDesk", name := "needClaim", desc := "(I)V" } : Jvm.MethodName))) ∈ lw_gd := lw_gd_in (i := 737) (by decide +kernel) rfl
theorem wd_739 : ((Jvm.Cond.instanceMethod ({ cls := "TripleDesk", name := "needClaim", desc := "(I)V" } : Jvm.MethodName))) ∈ lw_gd := lw_gd_in (i := 739) (by decide +kernel) rfl
theorem wd_740 : ((Jvm.Cond.code ({ cls := "TripleDesk", name := "needClaim", desc := "(I)V" } : Jvm.MethodName) prog_1_method_18_code (2 : Nat) (Option.none : Option Jvm.ClassFile.FieldType))) ∈ lw_gd := lw_gd_in (i := 740) (by decide +kernel) rfl
theorem wd_962 : ((Jvm.Cond.methodLink "TripleDesk" (170 : Nat) ({ cls := "TripleDesk", name := "needVariable", desc := "(I)V" } : Jvm.MethodName))) ∈ lw_gd := lw_gd_in (i := 962) (by decide +kernel) rfl
theorem wd_964 : ((Jvm.Cond.instanceMethod ({ cls := "TripleDesk", name := "needVariable", desc := "(I)V" } : Jvm.MethodName))) ∈ lw_gd := lw_gd_in (i := 964) (by decide +kernel) rfl
theorem wd_965 : ((Jvm.Cond.code ({ cls := "TripleDesk", name := "needVariable", desc := "(I)V" } : Jvm.MethodName) prog_1_method_19_code (2 : Nat) (Option.none : Option Jvm.ClassFile.FieldType))) ∈ lw_gd := lw_gd_in (i := 965) (by decide +kernel) rfl
theorem wd_974 : ((Jvm.Cond.classLink "TripleDesk" (177 : Nat) "java/lang/IllegalArgumentException")) ∈ lw_gd := lw_gd_in (i := 974) (by decide +kernel) rfl
theorem wd_989 : ((Jvm.Cond.methodLink "TripleDesk" (180 : Nat) ({ cls := "TripleDesk$Runner", name := "go", desc := "(LTripleDesk$Listing;I)I" } : Jvm.MethodName))) ∈ lw_gd := lw_gd_in (i := 989) (by decide +kernel) rfl
theorem wd_990 : ((Jvm.Cond.instanceMethod ({ cls := "TripleDesk$Runner", name := "go", desc := "(LTripleDesk$Listing;I)I" } : Jvm.MethodName))) ∈ lw_gd := lw_gd_in (i := 990) (by decide +kernel) rfl
theorem wd_991 : ((Jvm.Cond.selects "TripleDesk$Runner" ({ cls := "TripleDesk$Runner", name := "go", desc := "(LTripleDesk$Listing;I)I" } : Jvm.MethodName) ({ cls := "TripleDesk$Runner", name := "go", desc := "(LTripleDesk$Listing;I)I" } : Jvm.MethodName))) ∈ lw_gd := lw_gd_in (i := 991) (by decide +kernel) rfl
theorem wd_992 : ((Jvm.Cond.code ({ cls := "TripleDesk$Runner", name := "go", desc := "(LTripleDesk$Listing;I)I" } : Jvm.MethodName) prog_10_method_3_code (7 : Nat) (Option.some Jvm.ClassFile.FieldType.int))) ∈ lw_gd := lw_gd_in (i := 992) (by decide +kernel) rfl
theorem wd_1023 : ((Jvm.Cond.methodLink "TripleDesk" (184 : Nat) ({ cls := "TripleDesk$Nodes", name := "root", desc := "()I" } : Jvm.MethodName))) ∈ lw_gd := lw_gd_in (i := 1023) (by decide +kernel) rfl
theorem wd_1024 : ((Jvm.Cond.methodLink "TripleDesk" (188 : Nat) ({ cls := "TripleDesk$Runner", name := "truth", desc := "(LTripleDesk$Nodes;I)Z" } : Jvm.MethodName))) ∈ lw_gd := lw_gd_in (i := 1024) (by decide +kernel) rfl
theorem lsw.lsf {n z : Nat} {kd ow sb f1 f2 ts kp nm en kc : Nat → Nat} {tm fo fl fr : Nat → Int32} (h : lsw n z kd ow sb f1 f2 ts kp nm en kc tm fo fl fr) (h1 : 1 ≤ n) : lsf n z kd ow sb f1 f2 ts kp nm tm fo fl fr := ⟨h1, en, kc, h.1, h.2.1⟩
abbrev b_Desk_conditions : ByteArray := prog_1_method_6_code
def y_Desk_conditions : MethodName := ⟨R_Desk, "conditions", "()I"⟩
theorem d_Desk_conditions_0 : decode b_Desk_conditions 0 = .ok (.aload_n 0, 1) := by decide +kernel
theorem d_Desk_conditions_1 : decode b_Desk_conditions 1 = .ok (.invokevirtual 109, 3) := by decide +kernel
theorem d_Desk_conditions_4 : decode b_Desk_conditions 4 = .ok (.aload_n 0, 1) := by decide +kernel
theorem d_Desk_conditions_5 : decode b_Desk_conditions 5 = .ok (.getfield 76, 3) := by decide +kernel
theorem d_Desk_conditions_8 : decode b_Desk_conditions 8 = .ok (.getfield 112, 3) := by decide +kernel
theorem d_Desk_conditions_11 : decode b_Desk_conditions 11 = .ok (.ireturn, 1) := by decide +kernel
set_option maxHeartbeats 40000000 in
set_option maxRecDepth 100000 in
theorem c_D_conditions_np (l : Launch) (hl : l.stackTraces = false) (D : va_G) (ax : Nat → ClassId) (d0 k0 r0 c0 p0 fd0 w0 e0 b0 a0 y0 g0 i0 : Nat) (sz tz : Nat) : xt_Met l y_Desk_conditions (xws (.code y_Desk_conditions b_Desk_conditions 1 (some .int))) ({ frames := 20, cells := 1, slots := 6, locals := 800 }) (va_Pc [.ref d0] (xo3 D ax [(d0, .inr (10, [.ref k0, .ref r0, .ref c0, .ref p0, .ref fd0, .ref w0, .ref e0, .ref b0, .ref a0, .ref y0, .ref g0, .ref i0, .int 0]))] sz tz)) ((xt_U ["java/lang/IllegalStateException"] False (fun (h9 : Heap) => ∃ u : Nat → Nat, (h9.size ≤ sz + (1)) ∧ (tsl h9 ≤ tz + (6)) ∧ va_P D classes [(d0, .inr (10, [.ref k0, .ref r0, .ref c0, .ref p0, .ref fd0, .ref w0, .ref e0, .ref b0, .ref a0, .ref y0, .ref g0, .ref i0, .int 0]))] h9 ∧ va_D (va_A [(d0, .inr (10, [.ref k0, .ref r0, .ref c0, .ref p0, .ref fd0, .ref w0, .ref e0, .ref b0, .ref a0, .ref y0, .ref g0, .ref i0, .int 0]))] sz) [(d0, .inr (10, [.ref k0, .ref r0, .ref c0, .ref p0, .ref fd0, .ref w0, .ref e0, .ref b0, .ref a0, .ref y0, .ref g0, .ref i0, .int 0]))]) (va_A [(d0, .inr (10, [.ref k0, .ref r0, .ref c0, .ref p0, .ref fd0, .ref w0, .ref e0, .ref b0, .ref a0, .ref y0, .ref g0, .ref i0, .int 0]))] sz))) 1 6 (va_A [(d0, .inr (10, [.ref k0, .ref r0, .ref c0, .ref p0, .ref fd0, .ref w0, .ref e0, .ref b0, .ref a0, .ref y0, .ref g0, .ref i0, .int 0]))] sz) := by
  refine xt_Met.ofW (cc := b_Desk_conditions) (maxL := 1) (ret := (some .int)) (by decide) rfl ?_
  intro p e s m args below meth c s₁ B hml hout hv
  obtain ⟨rfl, ⟨hsz, hP, hK, hD0⟩, htz⟩ := hv
  have hx := B.exec
  have hb := B.bytes
  have hr := B.returns
  have hts := xw_hts B.pre
  have hown : s.vm.findClass R_Desk = some m.cls := findClass_of_methodNamed B.named
  have hlocks := B.notSynchronized
  have htr : e.platform.stackTraces = false := by rw [B.admits.platform]; exact hl
  subst hsz
  subst htz
  have hD := hD0.self (sz := s.heap.size)
  have hN := xz_entry hP
  generalize hAe : va_A [(d0, .inr (10, [.ref k0, .ref r0, .ref c0, .ref p0, .ref fd0, .ref w0, .ref e0, .ref b0, .ref a0, .ref y0, .ref g0, .ref i0, .int 0]))] s.heap.size = A at hD hN ⊢
  have hA : ∀ q : Nat, s.heap.size ≤ q → A q := fun q h => by rw [← hAe]; exact Or.inr h
  have hS : va_S A s.heap s.heap [] := va_S.rf
  have hl0 := lv_entry ([.ref d0]) (n := 1) (Nat.le_of_ble_eq_true rfl)
  rw [lg_entry_eq]
  generalize (lg_sl ([.ref d0]) ++ List.replicate (1 - (lg_sl ([.ref d0])).length) Slot.unset).toArray = ls at hl0 ⊢
  have hl1 : lv_has ls 1 [(0, .ref d0)] := hl0
  refine lv_aload_n hx hb d_Desk_conditions_0 rfl (lv_at hl1 0 rfl) ?_
  obtain ⟨hPc, hDc, hFc, hCs⟩ := xw_sub3 (wc := [(d0, .inr (10, [.ref k0, .ref r0, .ref c0, .ref p0, .ref fd0, .ref w0, .ref e0, .ref b0, .ref a0, .ref y0, .ref g0, .ref i0, .int 0]))]) hP hD hS hA [0] (by decide) rfl
  have hz := xz_of hN hS
  refine wk_know (fun hk8 hk9 => ?_)
  subst hAe
  exact xt_outU (xt_runV (As := []) (rest := []) ⟨hx, hb, hml, hown, hts⟩ (c_D_needProgram_no l hl D ax d0 k0 r0 c0 p0 fd0 w0 e0 b0 a0 y0 g0 i0 s.heap.size (tsl s.heap)) (xcV (n := 0) hts wd_665 wd_1 wd_662 wd_664 ps_19 rfl rfl (by decide +kernel) ⟨Nat.le_of_ble_eq_true rfl, Nat.le_of_ble_eq_true rfl⟩) (xpV3 (ci := 10) (q0 := 0) (As := []) hPc hK hz hDc rfl rfl) rfl rfl hl1.1 rfl (lv_room (Nat.le_of_ble_eq_true rfl)) d_Desk_conditions_1 ⟨Nat.le_of_ble_eq_true rfl, Nat.le_of_ble_eq_true rfl⟩) hout hlocks (fun q h => h)
abbrev b_Desk_proved : ByteArray := prog_1_method_9_code
def y_Desk_proved : MethodName := ⟨R_Desk, "proved", "()Z"⟩
theorem d_Desk_proved_0 : decode b_Desk_proved 0 = .ok (.aload_n 0, 1) := by decide +kernel
theorem d_Desk_proved_1 : decode b_Desk_proved 1 = .ok (.invokevirtual 109, 3) := by decide +kernel
theorem d_Desk_proved_4 : decode b_Desk_proved 4 = .ok (.iconst 1, 1) := by decide +kernel
theorem d_Desk_proved_5 : decode b_Desk_proved 5 = .ok (.istore_n 1, 1) := by decide +kernel
theorem d_Desk_proved_6 : decode b_Desk_proved 6 = .ok (.iconst 0, 1) := by decide +kernel
theorem d_Desk_proved_7 : decode b_Desk_proved 7 = .ok (.istore_n 2, 1) := by decide +kernel
theorem d_Desk_proved_8 : decode b_Desk_proved 8 = .ok (.iload_n 1, 1) := by decide +kernel
theorem d_Desk_proved_9 : decode b_Desk_proved 9 = .ok (.ifCond .eq 43, 3) := by decide +kernel
theorem d_Desk_proved_12 : decode b_Desk_proved 12 = .ok (.iload_n 2, 1) := by decide +kernel
theorem d_Desk_proved_13 : decode b_Desk_proved 13 = .ok (.aload_n 0, 1) := by decide +kernel
theorem d_Desk_proved_14 : decode b_Desk_proved 14 = .ok (.getfield 76, 3) := by decide +kernel
theorem d_Desk_proved_17 : decode b_Desk_proved 17 = .ok (.getfield 112, 3) := by decide +kernel
theorem d_Desk_proved_20 : decode b_Desk_proved 20 = .ok (.if_icmp .ge 32, 3) := by decide +kernel
theorem d_Desk_proved_23 : decode b_Desk_proved 23 = .ok (.aload_n 0, 1) := by decide +kernel
theorem d_Desk_proved_24 : decode b_Desk_proved 24 = .ok (.iload_n 2, 1) := by decide +kernel
theorem d_Desk_proved_25 : decode b_Desk_proved 25 = .ok (.invokevirtual 127, 3) := by decide +kernel
theorem d_Desk_proved_28 : decode b_Desk_proved 28 = .ok (.aload_n 0, 1) := by decide +kernel
theorem d_Desk_proved_29 : decode b_Desk_proved 29 = .ok (.getfield 42, 3) := by decide +kernel
theorem d_Desk_proved_32 : decode b_Desk_proved 32 = .ok (.iload_n 2, 1) := by decide +kernel
theorem d_Desk_proved_33 : decode b_Desk_proved 33 = .ok (.invokevirtual 143, 3) := by decide +kernel
theorem d_Desk_proved_36 : decode b_Desk_proved 36 = .ok (.iconst 1, 1) := by decide +kernel
theorem d_Desk_proved_37 : decode b_Desk_proved 37 = .ok (.if_icmp .ne 7, 3) := by decide +kernel
theorem d_Desk_proved_40 : decode b_Desk_proved 40 = .ok (.iconst 1, 1) := by decide +kernel
theorem d_Desk_proved_41 : decode b_Desk_proved 41 = .ok (.goto 4, 3) := by decide +kernel
theorem d_Desk_proved_44 : decode b_Desk_proved 44 = .ok (.iconst 0, 1) := by decide +kernel
theorem d_Desk_proved_45 : decode b_Desk_proved 45 = .ok (.istore_n 1, 1) := by decide +kernel
theorem d_Desk_proved_46 : decode b_Desk_proved 46 = .ok (.iinc 2 1, 3) := by decide +kernel
theorem d_Desk_proved_49 : decode b_Desk_proved 49 = .ok (.goto (-41), 3) := by decide +kernel
theorem d_Desk_proved_52 : decode b_Desk_proved 52 = .ok (.iload_n 1, 1) := by decide +kernel
theorem d_Desk_proved_53 : decode b_Desk_proved 53 = .ok (.ireturn, 1) := by decide +kernel
set_option maxHeartbeats 40000000 in
set_option maxRecDepth 100000 in
theorem c_D_proved_np (l : Launch) (hl : l.stackTraces = false) (D : va_G) (ax : Nat → ClassId) (d0 k0 r0 c0 p0 fd0 w0 e0 b0 a0 y0 g0 i0 : Nat) (sz tz : Nat) : xt_Met l y_Desk_proved (xws (.code y_Desk_proved b_Desk_proved 3 (some .boolean))) ({ frames := 20, cells := 1, slots := 6, locals := 800 }) (va_Pc [.ref d0] (xo3 D ax [(d0, .inr (10, [.ref k0, .ref r0, .ref c0, .ref p0, .ref fd0, .ref w0, .ref e0, .ref b0, .ref a0, .ref y0, .ref g0, .ref i0, .int 0]))] sz tz)) ((xt_U ["java/lang/IllegalStateException"] False (fun (h9 : Heap) => ∃ u : Nat → Nat, (h9.size ≤ sz + (1)) ∧ (tsl h9 ≤ tz + (6)) ∧ va_P D classes [(d0, .inr (10, [.ref k0, .ref r0, .ref c0, .ref p0, .ref fd0, .ref w0, .ref e0, .ref b0, .ref a0, .ref y0, .ref g0, .ref i0, .int 0]))] h9 ∧ va_D (va_A [(d0, .inr (10, [.ref k0, .ref r0, .ref c0, .ref p0, .ref fd0, .ref w0, .ref e0, .ref b0, .ref a0, .ref y0, .ref g0, .ref i0, .int 0]))] sz) [(d0, .inr (10, [.ref k0, .ref r0, .ref c0, .ref p0, .ref fd0, .ref w0, .ref e0, .ref b0, .ref a0, .ref y0, .ref g0, .ref i0, .int 0]))]) (va_A [(d0, .inr (10, [.ref k0, .ref r0, .ref c0, .ref p0, .ref fd0, .ref w0, .ref e0, .ref b0, .ref a0, .ref y0, .ref g0, .ref i0, .int 0]))] sz))) 1 6 (va_A [(d0, .inr (10, [.ref k0, .ref r0, .ref c0, .ref p0, .ref fd0, .ref w0, .ref e0, .ref b0, .ref a0, .ref y0, .ref g0, .ref i0, .int 0]))] sz) := by
  refine xt_Met.ofW (cc := b_Desk_proved) (maxL := 3) (ret := (some .boolean)) (by decide) rfl ?_
  intro p e s m args below meth c s₁ B hml hout hv
  obtain ⟨rfl, ⟨hsz, hP, hK, hD0⟩, htz⟩ := hv
  have hx := B.exec
  have hb := B.bytes
  have hr := B.returns
  have hts := xw_hts B.pre
  have hown : s.vm.findClass R_Desk = some m.cls := findClass_of_methodNamed B.named
  have hlocks := B.notSynchronized
  have htr : e.platform.stackTraces = false := by rw [B.admits.platform]; exact hl
  subst hsz
  subst htz
  have hD := hD0.self (sz := s.heap.size)
  have hN := xz_entry hP
  generalize hAe : va_A [(d0, .inr (10, [.ref k0, .ref r0, .ref c0, .ref p0, .ref fd0, .ref w0, .ref e0, .ref b0, .ref a0, .ref y0, .ref g0, .ref i0, .int 0]))] s.heap.size = A at hD hN ⊢
  have hA : ∀ q : Nat, s.heap.size ≤ q → A q := fun q h => by rw [← hAe]; exact Or.inr h
  have hS : va_S A s.heap s.heap [] := va_S.rf
  have hl0 := lv_entry ([.ref d0]) (n := 3) (Nat.le_of_ble_eq_true rfl)
  rw [lg_entry_eq]
  generalize (lg_sl ([.ref d0]) ++ List.replicate (3 - (lg_sl ([.ref d0])).length) Slot.unset).toArray = ls at hl0 ⊢
  have hl1 : lv_has ls 3 [(0, .ref d0)] := hl0
  refine lv_aload_n hx hb d_Desk_proved_0 rfl (lv_at hl1 0 rfl) ?_
  obtain ⟨hPc, hDc, hFc, hCs⟩ := xw_sub3 (wc := [(d0, .inr (10, [.ref k0, .ref r0, .ref c0, .ref p0, .ref fd0, .ref w0, .ref e0, .ref b0, .ref a0, .ref y0, .ref g0, .ref i0, .int 0]))]) hP hD hS hA [0] (by decide) rfl
  have hz := xz_of hN hS
  refine wk_know (fun hk8 hk9 => ?_)
  subst hAe
  exact xt_outU (xt_runV (As := []) (rest := []) ⟨hx, hb, hml, hown, hts⟩ (c_D_needProgram_no l hl D ax d0 k0 r0 c0 p0 fd0 w0 e0 b0 a0 y0 g0 i0 s.heap.size (tsl s.heap)) (xcV (n := 0) hts wd_665 wd_1 wd_662 wd_664 ps_19 rfl rfl (by decide +kernel) ⟨Nat.le_of_ble_eq_true rfl, Nat.le_of_ble_eq_true rfl⟩) (xpV3 (ci := 10) (q0 := 0) (As := []) hPc hK hz hDc rfl rfl) rfl rfl hl1.1 rfl (lv_room (Nat.le_of_ble_eq_true rfl)) d_Desk_proved_1 ⟨Nat.le_of_ble_eq_true rfl, Nat.le_of_ble_eq_true rfl⟩) hout hlocks (fun q h => h)
abbrev b_Desk_run : ByteArray := prog_1_method_14_code
def y_Desk_run : MethodName := ⟨R_Desk, "run", "(I)I"⟩
theorem d_Desk_run_0 : decode b_Desk_run 0 = .ok (.aload_n 0, 1) := by decide +kernel
theorem d_Desk_run_1 : decode b_Desk_run 1 = .ok (.invokevirtual 109, 3) := by decide +kernel
theorem d_Desk_run_4 : decode b_Desk_run 4 = .ok (.iload_n 1, 1) := by decide +kernel
theorem d_Desk_run_5 : decode b_Desk_run 5 = .ok (.ifCond .lt 10, 3) := by decide +kernel
theorem d_Desk_run_8 : decode b_Desk_run 8 = .ok (.iload_n 1, 1) := by decide +kernel
theorem d_Desk_run_9 : decode b_Desk_run 9 = .ok (.sipush 2000, 3) := by decide +kernel
theorem d_Desk_run_12 : decode b_Desk_run 12 = .ok (.if_icmp .le 11, 3) := by decide +kernel
theorem d_Desk_run_15 : decode b_Desk_run 15 = .ok (.new 177, 3) := by decide +kernel
theorem d_Desk_run_18 : decode b_Desk_run 18 = .ok (.dup, 1) := by decide +kernel
theorem d_Desk_run_19 : decode b_Desk_run 19 = .ok (.invokespecial 179, 3) := by decide +kernel
theorem d_Desk_run_22 : decode b_Desk_run 22 = .ok (.athrow, 1) := by decide +kernel
theorem d_Desk_run_23 : decode b_Desk_run 23 = .ok (.aload_n 0, 1) := by decide +kernel
theorem d_Desk_run_24 : decode b_Desk_run 24 = .ok (.getfield 56, 3) := by decide +kernel
theorem d_Desk_run_27 : decode b_Desk_run 27 = .ok (.aload_n 0, 1) := by decide +kernel
theorem d_Desk_run_28 : decode b_Desk_run 28 = .ok (.getfield 76, 3) := by decide +kernel
theorem d_Desk_run_31 : decode b_Desk_run 31 = .ok (.iload_n 1, 1) := by decide +kernel
theorem d_Desk_run_32 : decode b_Desk_run 32 = .ok (.invokevirtual 180, 3) := by decide +kernel
theorem d_Desk_run_35 : decode b_Desk_run 35 = .ok (.ireturn, 1) := by decide +kernel
set_option maxHeartbeats 40000000 in
set_option maxRecDepth 100000 in
theorem c_D_run_np (l : Launch) (hl : l.stackTraces = false) (D : va_G) (ax : Nat → ClassId) (d0 k0 r0 c0 p0 fd0 w0 e0 b0 a0 y0 g0 i0 : Nat) (x1 : Int32) (sz tz : Nat) : xt_Met l y_Desk_run (xws (.code y_Desk_run b_Desk_run 2 (some .int))) ({ frames := 20, cells := 1, slots := 6, locals := 800 }) (va_Pc [.ref d0, .int x1] (xo3 D ax [(d0, .inr (10, [.ref k0, .ref r0, .ref c0, .ref p0, .ref fd0, .ref w0, .ref e0, .ref b0, .ref a0, .ref y0, .ref g0, .ref i0, .int 0]))] sz tz)) ((xt_U ["java/lang/IllegalStateException"] False (fun (h9 : Heap) => ∃ u : Nat → Nat, (h9.size ≤ sz + (1)) ∧ (tsl h9 ≤ tz + (6)) ∧ va_P D classes [(d0, .inr (10, [.ref k0, .ref r0, .ref c0, .ref p0, .ref fd0, .ref w0, .ref e0, .ref b0, .ref a0, .ref y0, .ref g0, .ref i0, .int 0]))] h9 ∧ va_D (va_A [(d0, .inr (10, [.ref k0, .ref r0, .ref c0, .ref p0, .ref fd0, .ref w0, .ref e0, .ref b0, .ref a0, .ref y0, .ref g0, .ref i0, .int 0]))] sz) [(d0, .inr (10, [.ref k0, .ref r0, .ref c0, .ref p0, .ref fd0, .ref w0, .ref e0, .ref b0, .ref a0, .ref y0, .ref g0, .ref i0, .int 0]))]) (va_A [(d0, .inr (10, [.ref k0, .ref r0, .ref c0, .ref p0, .ref fd0, .ref w0, .ref e0, .ref b0, .ref a0, .ref y0, .ref g0, .ref i0, .int 0]))] sz))) 1 6 (va_A [(d0, .inr (10, [.ref k0, .ref r0, .ref c0, .ref p0, .ref fd0, .ref w0, .ref e0, .ref b0, .ref a0, .ref y0, .ref g0, .ref i0, .int 0]))] sz) := by
  refine xt_Met.ofW (cc := b_Desk_run) (maxL := 2) (ret := (some .int)) (by decide) rfl ?_
  intro p e s m args below meth c s₁ B hml hout hv
  obtain ⟨rfl, ⟨hsz, hP, hK, hD0⟩, htz⟩ := hv
  have hx := B.exec
  have hb := B.bytes
  have hr := B.returns
  have hts := xw_hts B.pre
  have hown : s.vm.findClass R_Desk = some m.cls := findClass_of_methodNamed B.named
  have hlocks := B.notSynchronized
  have htr : e.platform.stackTraces = false := by rw [B.admits.platform]; exact hl
  subst hsz
  subst htz
  have hD := hD0.self (sz := s.heap.size)
  have hN := xz_entry hP
  generalize hAe : va_A [(d0, .inr (10, [.ref k0, .ref r0, .ref c0, .ref p0, .ref fd0, .ref w0, .ref e0, .ref b0, .ref a0, .ref y0, .ref g0, .ref i0, .int 0]))] s.heap.size = A at hD hN ⊢
  have hA : ∀ q : Nat, s.heap.size ≤ q → A q := fun q h => by rw [← hAe]; exact Or.inr h
  have hS : va_S A s.heap s.heap [] := va_S.rf
  have hl0 := lv_entry ([.ref d0, .int x1]) (n := 2) (Nat.le_of_ble_eq_true rfl)
  rw [lg_entry_eq]
  generalize (lg_sl ([.ref d0, .int x1]) ++ List.replicate (2 - (lg_sl ([.ref d0, .int x1])).length) Slot.unset).toArray = ls at hl0 ⊢
  have hl1 : lv_has ls 2 [(0, .ref d0), (1, .int x1)] := hl0
  refine lv_aload_n hx hb d_Desk_run_0 rfl (lv_at hl1 0 rfl) ?_
  obtain ⟨hPc, hDc, hFc, hCs⟩ := xw_sub3 (wc := [(d0, .inr (10, [.ref k0, .ref r0, .ref c0, .ref p0, .ref fd0, .ref w0, .ref e0, .ref b0, .ref a0, .ref y0, .ref g0, .ref i0, .int 0]))]) hP hD hS hA [0] (by decide) rfl
  have hz := xz_of hN hS
  refine wk_know (fun hk8 hk9 => ?_)
  subst hAe
  exact xt_outU (xt_runV (As := []) (rest := []) ⟨hx, hb, hml, hown, hts⟩ (c_D_needProgram_no l hl D ax d0 k0 r0 c0 p0 fd0 w0 e0 b0 a0 y0 g0 i0 s.heap.size (tsl s.heap)) (xcV (n := 0) hts wd_665 wd_1 wd_662 wd_664 ps_19 rfl rfl (by decide +kernel) ⟨Nat.le_of_ble_eq_true rfl, Nat.le_of_ble_eq_true rfl⟩) (xpV3 (ci := 10) (q0 := 0) (As := []) hPc hK hz hDc rfl rfl) rfl rfl hl1.1 rfl (lv_room (Nat.le_of_ble_eq_true rfl)) d_Desk_run_1 ⟨Nat.le_of_ble_eq_true rfl, Nat.le_of_ble_eq_true rfl⟩) hout hlocks (fun q h => h)
abbrev b_Desk_about : ByteArray := prog_1_method_7_code
def y_Desk_about : MethodName := ⟨R_Desk, "about", "(II)I"⟩
theorem d_Desk_about_0 : decode b_Desk_about 0 = .ok (.aload_n 0, 1) := by decide +kernel
theorem d_Desk_about_1 : decode b_Desk_about 1 = .ok (.iload_n 1, 1) := by decide +kernel
theorem d_Desk_about_2 : decode b_Desk_about 2 = .ok (.invokevirtual 116, 3) := by decide +kernel
theorem d_Desk_about_5 : decode b_Desk_about 5 = .ok (.iload_n 2, 1) := by decide +kernel
theorem d_Desk_about_6 : decode b_Desk_about 6 = .ok (.tableswitch 101 0 4 #[34, 44, 56, 71, 86], 34) := by decide +kernel
theorem d_Desk_about_40 : decode b_Desk_about 40 = .ok (.aload_n 0, 1) := by decide +kernel
theorem d_Desk_about_41 : decode b_Desk_about 41 = .ok (.getfield 76, 3) := by decide +kernel
theorem d_Desk_about_44 : decode b_Desk_about 44 = .ok (.getfield 120, 3) := by decide +kernel
theorem d_Desk_about_47 : decode b_Desk_about 47 = .ok (.iload_n 1, 1) := by decide +kernel
theorem d_Desk_about_48 : decode b_Desk_about 48 = .ok (.baload, 1) := by decide +kernel
theorem d_Desk_about_49 : decode b_Desk_about 49 = .ok (.ireturn, 1) := by decide +kernel
theorem d_Desk_about_50 : decode b_Desk_about 50 = .ok (.aload_n 0, 1) := by decide +kernel
theorem d_Desk_about_51 : decode b_Desk_about 51 = .ok (.getfield 76, 3) := by decide +kernel
theorem d_Desk_about_54 : decode b_Desk_about 54 = .ok (.getfield 124, 3) := by decide +kernel
theorem d_Desk_about_57 : decode b_Desk_about 57 = .ok (.iload_n 1, 1) := by decide +kernel
theorem d_Desk_about_58 : decode b_Desk_about 58 = .ok (.baload, 1) := by decide +kernel
theorem d_Desk_about_59 : decode b_Desk_about 59 = .ok (.iconst 1, 1) := by decide +kernel
theorem d_Desk_about_60 : decode b_Desk_about 60 = .ok (.iadd, 1) := by decide +kernel
theorem d_Desk_about_61 : decode b_Desk_about 61 = .ok (.ireturn, 1) := by decide +kernel
theorem d_Desk_about_62 : decode b_Desk_about 62 = .ok (.aload_n 0, 1) := by decide +kernel
theorem d_Desk_about_63 : decode b_Desk_about 63 = .ok (.iload_n 1, 1) := by decide +kernel
theorem d_Desk_about_64 : decode b_Desk_about 64 = .ok (.invokevirtual 127, 3) := by decide +kernel
theorem d_Desk_about_67 : decode b_Desk_about 67 = .ok (.aload_n 0, 1) := by decide +kernel
theorem d_Desk_about_68 : decode b_Desk_about 68 = .ok (.getfield 42, 3) := by decide +kernel
theorem d_Desk_about_71 : decode b_Desk_about 71 = .ok (.getfield 130, 3) := by decide +kernel
theorem d_Desk_about_74 : decode b_Desk_about 74 = .ok (.iload_n 1, 1) := by decide +kernel
theorem d_Desk_about_75 : decode b_Desk_about 75 = .ok (.saload, 1) := by decide +kernel
theorem d_Desk_about_76 : decode b_Desk_about 76 = .ok (.ireturn, 1) := by decide +kernel
theorem d_Desk_about_77 : decode b_Desk_about 77 = .ok (.aload_n 0, 1) := by decide +kernel
theorem d_Desk_about_78 : decode b_Desk_about 78 = .ok (.iload_n 1, 1) := by decide +kernel
theorem d_Desk_about_79 : decode b_Desk_about 79 = .ok (.invokevirtual 127, 3) := by decide +kernel
theorem d_Desk_about_82 : decode b_Desk_about 82 = .ok (.aload_n 0, 1) := by decide +kernel
theorem d_Desk_about_83 : decode b_Desk_about 83 = .ok (.getfield 42, 3) := by decide +kernel
theorem d_Desk_about_86 : decode b_Desk_about 86 = .ok (.getfield 134, 3) := by decide +kernel
theorem d_Desk_about_89 : decode b_Desk_about 89 = .ok (.iload_n 1, 1) := by decide +kernel
theorem d_Desk_about_90 : decode b_Desk_about 90 = .ok (.saload, 1) := by decide +kernel
theorem d_Desk_about_91 : decode b_Desk_about 91 = .ok (.ireturn, 1) := by decide +kernel
theorem d_Desk_about_92 : decode b_Desk_about 92 = .ok (.aload_n 0, 1) := by decide +kernel
theorem d_Desk_about_93 : decode b_Desk_about 93 = .ok (.iload_n 1, 1) := by decide +kernel
theorem d_Desk_about_94 : decode b_Desk_about 94 = .ok (.invokevirtual 127, 3) := by decide +kernel
theorem d_Desk_about_97 : decode b_Desk_about 97 = .ok (.aload_n 0, 1) := by decide +kernel
theorem d_Desk_about_98 : decode b_Desk_about 98 = .ok (.getfield 42, 3) := by decide +kernel
theorem d_Desk_about_101 : decode b_Desk_about 101 = .ok (.getfield 137, 3) := by decide +kernel
theorem d_Desk_about_104 : decode b_Desk_about 104 = .ok (.iload_n 1, 1) := by decide +kernel
theorem d_Desk_about_105 : decode b_Desk_about 105 = .ok (.saload, 1) := by decide +kernel
theorem d_Desk_about_106 : decode b_Desk_about 106 = .ok (.ireturn, 1) := by decide +kernel
theorem d_Desk_about_107 : decode b_Desk_about 107 = .ok (.new 140, 3) := by decide +kernel
theorem d_Desk_about_110 : decode b_Desk_about 110 = .ok (.dup, 1) := by decide +kernel
theorem d_Desk_about_111 : decode b_Desk_about 111 = .ok (.invokespecial 142, 3) := by decide +kernel
theorem d_Desk_about_114 : decode b_Desk_about 114 = .ok (.athrow, 1) := by decide +kernel
set_option maxHeartbeats 40000000 in
set_option maxRecDepth 100000 in
theorem c_D_about_np (l : Launch) (hl : l.stackTraces = false) (D : va_G) (ax : Nat → ClassId) (d0 k0 r0 c0 p0 fd0 w0 e0 b0 a0 y0 g0 i0 : Nat) (x1 x2 : Int32) (sz tz : Nat) : xt_Met l y_Desk_about (xws (.code y_Desk_about b_Desk_about 3 (some .int))) ({ frames := 30, cells := 1, slots := 6, locals := 1200 }) (va_Pc [.ref d0, .int x1, .int x2] (xo3 D ax [(d0, .inr (10, [.ref k0, .ref r0, .ref c0, .ref p0, .ref fd0, .ref w0, .ref e0, .ref b0, .ref a0, .ref y0, .ref g0, .ref i0, .int 0]))] sz tz)) ((xt_U ["java/lang/IllegalStateException"] False (fun (h9 : Heap) => ∃ u : Nat → Nat, (h9.size ≤ sz + (1)) ∧ (tsl h9 ≤ tz + (6)) ∧ va_P D classes [(d0, .inr (10, [.ref k0, .ref r0, .ref c0, .ref p0, .ref fd0, .ref w0, .ref e0, .ref b0, .ref a0, .ref y0, .ref g0, .ref i0, .int 0]))] h9 ∧ va_D (va_A [(d0, .inr (10, [.ref k0, .ref r0, .ref c0, .ref p0, .ref fd0, .ref w0, .ref e0, .ref b0, .ref a0, .ref y0, .ref g0, .ref i0, .int 0]))] sz) [(d0, .inr (10, [.ref k0, .ref r0, .ref c0, .ref p0, .ref fd0, .ref w0, .ref e0, .ref b0, .ref a0, .ref y0, .ref g0, .ref i0, .int 0]))]) (va_A [(d0, .inr (10, [.ref k0, .ref r0, .ref c0, .ref p0, .ref fd0, .ref w0, .ref e0, .ref b0, .ref a0, .ref y0, .ref g0, .ref i0, .int 0]))] sz))) 1 6 (va_A [(d0, .inr (10, [.ref k0, .ref r0, .ref c0, .ref p0, .ref fd0, .ref w0, .ref e0, .ref b0, .ref a0, .ref y0, .ref g0, .ref i0, .int 0]))] sz) := by
  refine xt_Met.ofW (cc := b_Desk_about) (maxL := 3) (ret := (some .int)) (by decide) rfl ?_
  intro p e s m args below meth c s₁ B hml hout hv
  obtain ⟨rfl, ⟨hsz, hP, hK, hD0⟩, htz⟩ := hv
  have hx := B.exec
  have hb := B.bytes
  have hr := B.returns
  have hts := xw_hts B.pre
  have hown : s.vm.findClass R_Desk = some m.cls := findClass_of_methodNamed B.named
  have hlocks := B.notSynchronized
  have htr : e.platform.stackTraces = false := by rw [B.admits.platform]; exact hl
  subst hsz
  subst htz
  have hD := hD0.self (sz := s.heap.size)
  have hN := xz_entry hP
  generalize hAe : va_A [(d0, .inr (10, [.ref k0, .ref r0, .ref c0, .ref p0, .ref fd0, .ref w0, .ref e0, .ref b0, .ref a0, .ref y0, .ref g0, .ref i0, .int 0]))] s.heap.size = A at hD hN ⊢
  have hA : ∀ q : Nat, s.heap.size ≤ q → A q := fun q h => by rw [← hAe]; exact Or.inr h
  have hS : va_S A s.heap s.heap [] := va_S.rf
  have hl0 := lv_entry ([.ref d0, .int x1, .int x2]) (n := 3) (Nat.le_of_ble_eq_true rfl)
  rw [lg_entry_eq]
  generalize (lg_sl ([.ref d0, .int x1, .int x2]) ++ List.replicate (3 - (lg_sl ([.ref d0, .int x1, .int x2])).length) Slot.unset).toArray = ls at hl0 ⊢
  have hl1 : lv_has ls 3 [(0, .ref d0), (1, .int x1), (2, .int x2)] := hl0
  refine lv_aload_n hx hb d_Desk_about_0 rfl (lv_at hl1 0 rfl) ?_
  refine lv_iload_n hx hb d_Desk_about_1 rfl (lv_at hl1 1 rfl) ?_
  obtain ⟨hPc, hDc, hFc, hCs⟩ := xw_sub3 (wc := [(d0, .inr (10, [.ref k0, .ref r0, .ref c0, .ref p0, .ref fd0, .ref w0, .ref e0, .ref b0, .ref a0, .ref y0, .ref g0, .ref i0, .int 0]))]) hP hD hS hA [0] (by decide) rfl
  have hz := xz_of hN hS
  refine wk_know (fun hk8 hk9 => ?_)
  subst hAe
  exact xt_outU (xt_runV (As := [.int x1]) (rest := []) ⟨hx, hb, hml, hown, hts⟩ (c_D_needClaim_np l hl D ax d0 k0 r0 c0 p0 fd0 w0 e0 b0 a0 y0 g0 i0 x1 s.heap.size (tsl s.heap)) (xcV (n := 1) hts wd_740 wd_1 wd_737 wd_739 ps_21 rfl rfl (by decide +kernel) ⟨Nat.le_of_ble_eq_true rfl, Nat.le_of_ble_eq_true rfl⟩) (xpV3 (ci := 10) (q0 := 0) (As := [.int x1]) hPc hK hz hDc rfl rfl) rfl rfl hl1.1 rfl (lv_room (Nat.le_of_ble_eq_true rfl)) d_Desk_about_2 ⟨Nat.le_of_ble_eq_true rfl, Nat.le_of_ble_eq_true rfl⟩) hout hlocks (fun q h => h)
set_option maxHeartbeats 40000000 in
set_option maxRecDepth 100000 in
theorem c_D_about_nc (l : Launch) (hl : l.stackTraces = false) (D : va_G) (ax : Nat → ClassId) (d0 k0 r0 c0 p0 fd0 w0 e0 b0 a0 y0 g0 i0 h0 g1 g2 g3 g4 g5 g6 g7 g8 g9 ga gb cl ln br lp va : Nat) (x1 x2 : Int32) (sz tz : Nat) (hcl : cl ≤ 29) (hno : ∀ j : Nat, j < cl → x1 ≠ nI j) : xt_Met l y_Desk_about (xws (.code y_Desk_about b_Desk_about 3 (some .int))) ({ frames := 30, cells := 1, slots := 6, locals := 1200 }) (va_Pc [.ref d0, .int x1, .int x2] (xo3 D ax [(d0, .inr (10, [.ref k0, .ref r0, .ref c0, .ref p0, .ref fd0, .ref w0, .ref e0, .ref b0, .ref a0, .ref y0, .ref g0, .ref i0, .int 1])), (g0, .inr (2, [.ref h0, .ref g1, .ref g2, .ref g3, .ref g4, .ref g5, .ref g6, .ref g7, .ref g8, .ref g9, .ref ga, .ref gb, .int (nI cl), .int (nI ln), .int (nI br), .int (nI lp), .int (nI va)]))] sz tz)) ((xt_U ["java/lang/IndexOutOfBoundsException"] False (fun (h9 : Heap) => ∃ u : Nat → Nat, (h9.size ≤ sz + (1)) ∧ (tsl h9 ≤ tz + (6)) ∧ va_P D classes [(d0, .inr (10, [.ref k0, .ref r0, .ref c0, .ref p0, .ref fd0, .ref w0, .ref e0, .ref b0, .ref a0, .ref y0, .ref g0, .ref i0, .int 1])), (g0, .inr (2, [.ref h0, .ref g1, .ref g2, .ref g3, .ref g4, .ref g5, .ref g6, .ref g7, .ref g8, .ref g9, .ref ga, .ref gb, .int (nI cl), .int (nI ln), .int (nI br), .int (nI lp), .int (nI va)]))] h9 ∧ va_D (va_A [(d0, .inr (10, [.ref k0, .ref r0, .ref c0, .ref p0, .ref fd0, .ref w0, .ref e0, .ref b0, .ref a0, .ref y0, .ref g0, .ref i0, .int 1])), (g0, .inr (2, [.ref h0, .ref g1, .ref g2, .ref g3, .ref g4, .ref g5, .ref g6, .ref g7, .ref g8, .ref g9, .ref ga, .ref gb, .int (nI cl), .int (nI ln), .int (nI br), .int (nI lp), .int (nI va)]))] sz) [(d0, .inr (10, [.ref k0, .ref r0, .ref c0, .ref p0, .ref fd0, .ref w0, .ref e0, .ref b0, .ref a0, .ref y0, .ref g0, .ref i0, .int 1])), (g0, .inr (2, [.ref h0, .ref g1, .ref g2, .ref g3, .ref g4, .ref g5, .ref g6, .ref g7, .ref g8, .ref g9, .ref ga, .ref gb, .int (nI cl), .int (nI ln), .int (nI br), .int (nI lp), .int (nI va)]))]) (va_A [(d0, .inr (10, [.ref k0, .ref r0, .ref c0, .ref p0, .ref fd0, .ref w0, .ref e0, .ref b0, .ref a0, .ref y0, .ref g0, .ref i0, .int 1])), (g0, .inr (2, [.ref h0, .ref g1, .ref g2, .ref g3, .ref g4, .ref g5, .ref g6, .ref g7, .ref g8, .ref g9, .ref ga, .ref gb, .int (nI cl), .int (nI ln), .int (nI br), .int (nI lp), .int (nI va)]))] sz))) 1 6 (va_A [(d0, .inr (10, [.ref k0, .ref r0, .ref c0, .ref p0, .ref fd0, .ref w0, .ref e0, .ref b0, .ref a0, .ref y0, .ref g0, .ref i0, .int 1])), (g0, .inr (2, [.ref h0, .ref g1, .ref g2, .ref g3, .ref g4, .ref g5, .ref g6, .ref g7, .ref g8, .ref g9, .ref ga, .ref gb, .int (nI cl), .int (nI ln), .int (nI br), .int (nI lp), .int (nI va)]))] sz) := by
  refine xt_Met.ofW (cc := b_Desk_about) (maxL := 3) (ret := (some .int)) (by decide) rfl ?_
  intro p e s m args below meth c s₁ B hml hout hv
  obtain ⟨rfl, ⟨hsz, hP, hK, hD0⟩, htz⟩ := hv
  have hx := B.exec
  have hb := B.bytes
  have hr := B.returns
  have hts := xw_hts B.pre
  have hown : s.vm.findClass R_Desk = some m.cls := findClass_of_methodNamed B.named
  have hlocks := B.notSynchronized
  have htr : e.platform.stackTraces = false := by rw [B.admits.platform]; exact hl
  subst hsz
  subst htz
  have hD := hD0.self (sz := s.heap.size)
  have hN := xz_entry hP
  generalize hAe : va_A [(d0, .inr (10, [.ref k0, .ref r0, .ref c0, .ref p0, .ref fd0, .ref w0, .ref e0, .ref b0, .ref a0, .ref y0, .ref g0, .ref i0, .int 1])), (g0, .inr (2, [.ref h0, .ref g1, .ref g2, .ref g3, .ref g4, .ref g5, .ref g6, .ref g7, .ref g8, .ref g9, .ref ga, .ref gb, .int (nI cl), .int (nI ln), .int (nI br), .int (nI lp), .int (nI va)]))] s.heap.size = A at hD hN ⊢
  have hA : ∀ q : Nat, s.heap.size ≤ q → A q := fun q h => by rw [← hAe]; exact Or.inr h
  have hS : va_S A s.heap s.heap [] := va_S.rf
  have hl0 := lv_entry ([.ref d0, .int x1, .int x2]) (n := 3) (Nat.le_of_ble_eq_true rfl)
  rw [lg_entry_eq]
  generalize (lg_sl ([.ref d0, .int x1, .int x2]) ++ List.replicate (3 - (lg_sl ([.ref d0, .int x1, .int x2])).length) Slot.unset).toArray = ls at hl0 ⊢
  have hl1 : lv_has ls 3 [(0, .ref d0), (1, .int x1), (2, .int x2)] := hl0
  refine lv_aload_n hx hb d_Desk_about_0 rfl (lv_at hl1 0 rfl) ?_
  refine lv_iload_n hx hb d_Desk_about_1 rfl (lv_at hl1 1 rfl) ?_
  obtain ⟨hPc, hDc, hFc, hCs⟩ := xw_sub3 (wc := [(d0, .inr (10, [.ref k0, .ref r0, .ref c0, .ref p0, .ref fd0, .ref w0, .ref e0, .ref b0, .ref a0, .ref y0, .ref g0, .ref i0, .int 1])), (g0, .inr (2, [.ref h0, .ref g1, .ref g2, .ref g3, .ref g4, .ref g5, .ref g6, .ref g7, .ref g8, .ref g9, .ref ga, .ref gb, .int (nI cl), .int (nI ln), .int (nI br), .int (nI lp), .int (nI va)]))]) hP hD hS hA [0, 1] (by decide) rfl
  have hz := xz_of hN hS
  refine wk_know (fun hk8 hk9 => ?_)
  subst hAe
  exact xt_outU (xt_runV (As := [.int x1]) (rest := []) ⟨hx, hb, hml, hown, hts⟩ (c_D_needClaim_no l hl D ax d0 k0 r0 c0 p0 fd0 w0 e0 b0 a0 y0 g0 i0 h0 g1 g2 g3 g4 g5 g6 g7 g8 g9 ga gb cl ln br lp va x1 s.heap.size (tsl s.heap) hcl hno) (xcV (n := 1) hts wd_740 wd_1 wd_737 wd_739 ps_21 rfl rfl (by decide +kernel) ⟨Nat.le_of_ble_eq_true rfl, Nat.le_of_ble_eq_true rfl⟩) (xpV3 (ci := 10) (q0 := 0) (As := [.int x1]) hPc hK hz hDc rfl rfl) rfl rfl hl1.1 rfl (lv_room (Nat.le_of_ble_eq_true rfl)) d_Desk_about_2 ⟨Nat.le_of_ble_eq_true rfl, Nat.le_of_ble_eq_true rfl⟩) hout hlocks (fun q h => h)
abbrev b_Desk_valid : ByteArray := prog_1_method_8_code
def y_Desk_valid : MethodName := ⟨R_Desk, "valid", "(I)I"⟩
theorem d_Desk_valid_0 : decode b_Desk_valid 0 = .ok (.aload_n 0, 1) := by decide +kernel
theorem d_Desk_valid_1 : decode b_Desk_valid 1 = .ok (.iload_n 1, 1) := by decide +kernel
theorem d_Desk_valid_2 : decode b_Desk_valid 2 = .ok (.invokevirtual 116, 3) := by decide +kernel
theorem d_Desk_valid_5 : decode b_Desk_valid 5 = .ok (.aload_n 0, 1) := by decide +kernel
theorem d_Desk_valid_6 : decode b_Desk_valid 6 = .ok (.iload_n 1, 1) := by decide +kernel
theorem d_Desk_valid_7 : decode b_Desk_valid 7 = .ok (.invokevirtual 127, 3) := by decide +kernel
theorem d_Desk_valid_10 : decode b_Desk_valid 10 = .ok (.aload_n 0, 1) := by decide +kernel
theorem d_Desk_valid_11 : decode b_Desk_valid 11 = .ok (.getfield 42, 3) := by decide +kernel
theorem d_Desk_valid_14 : decode b_Desk_valid 14 = .ok (.iload_n 1, 1) := by decide +kernel
theorem d_Desk_valid_15 : decode b_Desk_valid 15 = .ok (.invokevirtual 143, 3) := by decide +kernel
theorem d_Desk_valid_18 : decode b_Desk_valid 18 = .ok (.ireturn, 1) := by decide +kernel
set_option maxHeartbeats 40000000 in
set_option maxRecDepth 100000 in
theorem c_D_valid_np (l : Launch) (hl : l.stackTraces = false) (D : va_G) (ax : Nat → ClassId) (d0 k0 r0 c0 p0 fd0 w0 e0 b0 a0 y0 g0 i0 : Nat) (x1 : Int32) (sz tz : Nat) : xt_Met l y_Desk_valid (xws (.code y_Desk_valid b_Desk_valid 2 (some .int))) ({ frames := 30, cells := 1, slots := 6, locals := 1200 }) (va_Pc [.ref d0, .int x1] (xo3 D ax [(d0, .inr (10, [.ref k0, .ref r0, .ref c0, .ref p0, .ref fd0, .ref w0, .ref e0, .ref b0, .ref a0, .ref y0, .ref g0, .ref i0, .int 0]))] sz tz)) ((xt_U ["java/lang/IllegalStateException"] False (fun (h9 : Heap) => ∃ u : Nat → Nat, (h9.size ≤ sz + (1)) ∧ (tsl h9 ≤ tz + (6)) ∧ va_P D classes [(d0, .inr (10, [.ref k0, .ref r0, .ref c0, .ref p0, .ref fd0, .ref w0, .ref e0, .ref b0, .ref a0, .ref y0, .ref g0, .ref i0, .int 0]))] h9 ∧ va_D (va_A [(d0, .inr (10, [.ref k0, .ref r0, .ref c0, .ref p0, .ref fd0, .ref w0, .ref e0, .ref b0, .ref a0, .ref y0, .ref g0, .ref i0, .int 0]))] sz) [(d0, .inr (10, [.ref k0, .ref r0, .ref c0, .ref p0, .ref fd0, .ref w0, .ref e0, .ref b0, .ref a0, .ref y0, .ref g0, .ref i0, .int 0]))]) (va_A [(d0, .inr (10, [.ref k0, .ref r0, .ref c0, .ref p0, .ref fd0, .ref w0, .ref e0, .ref b0, .ref a0, .ref y0, .ref g0, .ref i0, .int 0]))] sz))) 1 6 (va_A [(d0, .inr (10, [.ref k0, .ref r0, .ref c0, .ref p0, .ref fd0, .ref w0, .ref e0, .ref b0, .ref a0, .ref y0, .ref g0, .ref i0, .int 0]))] sz) := by
  refine xt_Met.ofW (cc := b_Desk_valid) (maxL := 2) (ret := (some .int)) (by decide) rfl ?_
  intro p e s m args below meth c s₁ B hml hout hv
  obtain ⟨rfl, ⟨hsz, hP, hK, hD0⟩, htz⟩ := hv
  have hx := B.exec
  have hb := B.bytes
  have hr := B.returns
  have hts := xw_hts B.pre
  have hown : s.vm.findClass R_Desk = some m.cls := findClass_of_methodNamed B.named
  have hlocks := B.notSynchronized
  have htr : e.platform.stackTraces = false := by rw [B.admits.platform]; exact hl
  subst hsz
  subst htz
  have hD := hD0.self (sz := s.heap.size)
  have hN := xz_entry hP
  generalize hAe : va_A [(d0, .inr (10, [.ref k0, .ref r0, .ref c0, .ref p0, .ref fd0, .ref w0, .ref e0, .ref b0, .ref a0, .ref y0, .ref g0, .ref i0, .int 0]))] s.heap.size = A at hD hN ⊢
  have hA : ∀ q : Nat, s.heap.size ≤ q → A q := fun q h => by rw [← hAe]; exact Or.inr h
  have hS : va_S A s.heap s.heap [] := va_S.rf
  have hl0 := lv_entry ([.ref d0, .int x1]) (n := 2) (Nat.le_of_ble_eq_true rfl)
  rw [lg_entry_eq]
  generalize (lg_sl ([.ref d0, .int x1]) ++ List.replicate (2 - (lg_sl ([.ref d0, .int x1])).length) Slot.unset).toArray = ls at hl0 ⊢
  have hl1 : lv_has ls 2 [(0, .ref d0), (1, .int x1)] := hl0
  refine lv_aload_n hx hb d_Desk_valid_0 rfl (lv_at hl1 0 rfl) ?_
  refine lv_iload_n hx hb d_Desk_valid_1 rfl (lv_at hl1 1 rfl) ?_
  obtain ⟨hPc, hDc, hFc, hCs⟩ := xw_sub3 (wc := [(d0, .inr (10, [.ref k0, .ref r0, .ref c0, .ref p0, .ref fd0, .ref w0, .ref e0, .ref b0, .ref a0, .ref y0, .ref g0, .ref i0, .int 0]))]) hP hD hS hA [0] (by decide) rfl
  have hz := xz_of hN hS
  refine wk_know (fun hk8 hk9 => ?_)
  subst hAe
  exact xt_outU (xt_runV (As := [.int x1]) (rest := []) ⟨hx, hb, hml, hown, hts⟩ (c_D_needClaim_np l hl D ax d0 k0 r0 c0 p0 fd0 w0 e0 b0 a0 y0 g0 i0 x1 s.heap.size (tsl s.heap)) (xcV (n := 1) hts wd_740 wd_1 wd_737 wd_739 ps_21 rfl rfl (by decide +kernel) ⟨Nat.le_of_ble_eq_true rfl, Nat.le_of_ble_eq_true rfl⟩) (xpV3 (ci := 10) (q0 := 0) (As := [.int x1]) hPc hK hz hDc rfl rfl) rfl rfl hl1.1 rfl (lv_room (Nat.le_of_ble_eq_true rfl)) d_Desk_valid_2 ⟨Nat.le_of_ble_eq_true rfl, Nat.le_of_ble_eq_true rfl⟩) hout hlocks (fun q h => h)
set_option maxHeartbeats 40000000 in
set_option maxRecDepth 100000 in
theorem c_D_valid_nc (l : Launch) (hl : l.stackTraces = false) (D : va_G) (ax : Nat → ClassId) (d0 k0 r0 c0 p0 fd0 w0 e0 b0 a0 y0 g0 i0 h0 g1 g2 g3 g4 g5 g6 g7 g8 g9 ga gb cl ln br lp va : Nat) (x1 : Int32) (sz tz : Nat) (hcl : cl ≤ 29) (hno : ∀ j : Nat, j < cl → x1 ≠ nI j) : xt_Met l y_Desk_valid (xws (.code y_Desk_valid b_Desk_valid 2 (some .int))) ({ frames := 30, cells := 1, slots := 6, locals := 1200 }) (va_Pc [.ref d0, .int x1] (xo3 D ax [(d0, .inr (10, [.ref k0, .ref r0, .ref c0, .ref p0, .ref fd0, .ref w0, .ref e0, .ref b0, .ref a0, .ref y0, .ref g0, .ref i0, .int 1])), (g0, .inr (2, [.ref h0, .ref g1, .ref g2, .ref g3, .ref g4, .ref g5, .ref g6, .ref g7, .ref g8, .ref g9, .ref ga, .ref gb, .int (nI cl), .int (nI ln), .int (nI br), .int (nI lp), .int (nI va)]))] sz tz)) ((xt_U ["java/lang/IndexOutOfBoundsException"] False (fun (h9 : Heap) => ∃ u : Nat → Nat, (h9.size ≤ sz + (1)) ∧ (tsl h9 ≤ tz + (6)) ∧ va_P D classes [(d0, .inr (10, [.ref k0, .ref r0, .ref c0, .ref p0, .ref fd0, .ref w0, .ref e0, .ref b0, .ref a0, .ref y0, .ref g0, .ref i0, .int 1])), (g0, .inr (2, [.ref h0, .ref g1, .ref g2, .ref g3, .ref g4, .ref g5, .ref g6, .ref g7, .ref g8, .ref g9, .ref ga, .ref gb, .int (nI cl), .int (nI ln), .int (nI br), .int (nI lp), .int (nI va)]))] h9 ∧ va_D (va_A [(d0, .inr (10, [.ref k0, .ref r0, .ref c0, .ref p0, .ref fd0, .ref w0, .ref e0, .ref b0, .ref a0, .ref y0, .ref g0, .ref i0, .int 1])), (g0, .inr (2, [.ref h0, .ref g1, .ref g2, .ref g3, .ref g4, .ref g5, .ref g6, .ref g7, .ref g8, .ref g9, .ref ga, .ref gb, .int (nI cl), .int (nI ln), .int (nI br), .int (nI lp), .int (nI va)]))] sz) [(d0, .inr (10, [.ref k0, .ref r0, .ref c0, .ref p0, .ref fd0, .ref w0, .ref e0, .ref b0, .ref a0, .ref y0, .ref g0, .ref i0, .int 1])), (g0, .inr (2, [.ref h0, .ref g1, .ref g2, .ref g3, .ref g4, .ref g5, .ref g6, .ref g7, .ref g8, .ref g9, .ref ga, .ref gb, .int (nI cl), .int (nI ln), .int (nI br), .int (nI lp), .int (nI va)]))]) (va_A [(d0, .inr (10, [.ref k0, .ref r0, .ref c0, .ref p0, .ref fd0, .ref w0, .ref e0, .ref b0, .ref a0, .ref y0, .ref g0, .ref i0, .int 1])), (g0, .inr (2, [.ref h0, .ref g1, .ref g2, .ref g3, .ref g4, .ref g5, .ref g6, .ref g7, .ref g8, .ref g9, .ref ga, .ref gb, .int (nI cl), .int (nI ln), .int (nI br), .int (nI lp), .int (nI va)]))] sz))) 1 6 (va_A [(d0, .inr (10, [.ref k0, .ref r0, .ref c0, .ref p0, .ref fd0, .ref w0, .ref e0, .ref b0, .ref a0, .ref y0, .ref g0, .ref i0, .int 1])), (g0, .inr (2, [.ref h0, .ref g1, .ref g2, .ref g3, .ref g4, .ref g5, .ref g6, .ref g7, .ref g8, .ref g9, .ref ga, .ref gb, .int (nI cl), .int (nI ln), .int (nI br), .int (nI lp), .int (nI va)]))] sz) := by
  refine xt_Met.ofW (cc := b_Desk_valid) (maxL := 2) (ret := (some .int)) (by decide) rfl ?_
  intro p e s m args below meth c s₁ B hml hout hv
  obtain ⟨rfl, ⟨hsz, hP, hK, hD0⟩, htz⟩ := hv
  have hx := B.exec
  have hb := B.bytes
  have hr := B.returns
  have hts := xw_hts B.pre
  have hown : s.vm.findClass R_Desk = some m.cls := findClass_of_methodNamed B.named
  have hlocks := B.notSynchronized
  have htr : e.platform.stackTraces = false := by rw [B.admits.platform]; exact hl
  subst hsz
  subst htz
  have hD := hD0.self (sz := s.heap.size)
  have hN := xz_entry hP
  generalize hAe : va_A [(d0, .inr (10, [.ref k0, .ref r0, .ref c0, .ref p0, .ref fd0, .ref w0, .ref e0, .ref b0, .ref a0, .ref y0, .ref g0, .ref i0, .int 1])), (g0, .inr (2, [.ref h0, .ref g1, .ref g2, .ref g3, .ref g4, .ref g5, .ref g6, .ref g7, .ref g8, .ref g9, .ref ga, .ref gb, .int (nI cl), .int (nI ln), .int (nI br), .int (nI lp), .int (nI va)]))] s.heap.size = A at hD hN ⊢
  have hA : ∀ q : Nat, s.heap.size ≤ q → A q := fun q h => by rw [← hAe]; exact Or.inr h
  have hS : va_S A s.heap s.heap [] := va_S.rf
  have hl0 := lv_entry ([.ref d0, .int x1]) (n := 2) (Nat.le_of_ble_eq_true rfl)
  rw [lg_entry_eq]
  generalize (lg_sl ([.ref d0, .int x1]) ++ List.replicate (2 - (lg_sl ([.ref d0, .int x1])).length) Slot.unset).toArray = ls at hl0 ⊢
  have hl1 : lv_has ls 2 [(0, .ref d0), (1, .int x1)] := hl0
  refine lv_aload_n hx hb d_Desk_valid_0 rfl (lv_at hl1 0 rfl) ?_
  refine lv_iload_n hx hb d_Desk_valid_1 rfl (lv_at hl1 1 rfl) ?_
  obtain ⟨hPc, hDc, hFc, hCs⟩ := xw_sub3 (wc := [(d0, .inr (10, [.ref k0, .ref r0, .ref c0, .ref p0, .ref fd0, .ref w0, .ref e0, .ref b0, .ref a0, .ref y0, .ref g0, .ref i0, .int 1])), (g0, .inr (2, [.ref h0, .ref g1, .ref g2, .ref g3, .ref g4, .ref g5, .ref g6, .ref g7, .ref g8, .ref g9, .ref ga, .ref gb, .int (nI cl), .int (nI ln), .int (nI br), .int (nI lp), .int (nI va)]))]) hP hD hS hA [0, 1] (by decide) rfl
  have hz := xz_of hN hS
  refine wk_know (fun hk8 hk9 => ?_)
  subst hAe
  exact xt_outU (xt_runV (As := [.int x1]) (rest := []) ⟨hx, hb, hml, hown, hts⟩ (c_D_needClaim_no l hl D ax d0 k0 r0 c0 p0 fd0 w0 e0 b0 a0 y0 g0 i0 h0 g1 g2 g3 g4 g5 g6 g7 g8 g9 ga gb cl ln br lp va x1 s.heap.size (tsl s.heap) hcl hno) (xcV (n := 1) hts wd_740 wd_1 wd_737 wd_739 ps_21 rfl rfl (by decide +kernel) ⟨Nat.le_of_ble_eq_true rfl, Nat.le_of_ble_eq_true rfl⟩) (xpV3 (ci := 10) (q0 := 0) (As := [.int x1]) hPc hK hz hDc rfl rfl) rfl rfl hl1.1 rfl (lv_room (Nat.le_of_ble_eq_true rfl)) d_Desk_valid_2 ⟨Nat.le_of_ble_eq_true rfl, Nat.le_of_ble_eq_true rfl⟩) hout hlocks (fun q h => h)
abbrev b_Desk_counter : ByteArray := prog_1_method_10_code
def y_Desk_counter : MethodName := ⟨R_Desk, "counter", "(II)I"⟩
theorem d_Desk_counter_0 : decode b_Desk_counter 0 = .ok (.aload_n 0, 1) := by decide +kernel
theorem d_Desk_counter_1 : decode b_Desk_counter 1 = .ok (.iload_n 1, 1) := by decide +kernel
theorem d_Desk_counter_2 : decode b_Desk_counter 2 = .ok (.invokevirtual 116, 3) := by decide +kernel
theorem d_Desk_counter_5 : decode b_Desk_counter 5 = .ok (.aload_n 0, 1) := by decide +kernel
theorem d_Desk_counter_6 : decode b_Desk_counter 6 = .ok (.iload_n 1, 1) := by decide +kernel
theorem d_Desk_counter_7 : decode b_Desk_counter 7 = .ok (.invokevirtual 127, 3) := by decide +kernel
theorem d_Desk_counter_10 : decode b_Desk_counter 10 = .ok (.aload_n 0, 1) := by decide +kernel
theorem d_Desk_counter_11 : decode b_Desk_counter 11 = .ok (.getfield 42, 3) := by decide +kernel
theorem d_Desk_counter_14 : decode b_Desk_counter 14 = .ok (.iload_n 1, 1) := by decide +kernel
theorem d_Desk_counter_15 : decode b_Desk_counter 15 = .ok (.invokevirtual 143, 3) := by decide +kernel
theorem d_Desk_counter_18 : decode b_Desk_counter 18 = .ok (.ifCond .eq 11, 3) := by decide +kernel
theorem d_Desk_counter_21 : decode b_Desk_counter 21 = .ok (.new 147, 3) := by decide +kernel
theorem d_Desk_counter_24 : decode b_Desk_counter 24 = .ok (.dup, 1) := by decide +kernel
theorem d_Desk_counter_25 : decode b_Desk_counter 25 = .ok (.invokespecial 149, 3) := by decide +kernel
theorem d_Desk_counter_28 : decode b_Desk_counter 28 = .ok (.athrow, 1) := by decide +kernel
theorem d_Desk_counter_29 : decode b_Desk_counter 29 = .ok (.iload_n 2, 1) := by decide +kernel
theorem d_Desk_counter_30 : decode b_Desk_counter 30 = .ok (.ifCond .lt 9, 3) := by decide +kernel
theorem d_Desk_counter_33 : decode b_Desk_counter 33 = .ok (.iload_n 2, 1) := by decide +kernel
theorem d_Desk_counter_34 : decode b_Desk_counter 34 = .ok (.bipush 10, 2) := by decide +kernel
theorem d_Desk_counter_36 : decode b_Desk_counter 36 = .ok (.if_icmp .lt 11, 3) := by decide +kernel
theorem d_Desk_counter_39 : decode b_Desk_counter 39 = .ok (.new 140, 3) := by decide +kernel
theorem d_Desk_counter_42 : decode b_Desk_counter 42 = .ok (.dup, 1) := by decide +kernel
theorem d_Desk_counter_43 : decode b_Desk_counter 43 = .ok (.invokespecial 142, 3) := by decide +kernel
theorem d_Desk_counter_46 : decode b_Desk_counter 46 = .ok (.athrow, 1) := by decide +kernel
theorem d_Desk_counter_47 : decode b_Desk_counter 47 = .ok (.aload_n 0, 1) := by decide +kernel
theorem d_Desk_counter_48 : decode b_Desk_counter 48 = .ok (.getfield 42, 3) := by decide +kernel
theorem d_Desk_counter_51 : decode b_Desk_counter 51 = .ok (.iload_n 1, 1) := by decide +kernel
theorem d_Desk_counter_52 : decode b_Desk_counter 52 = .ok (.iload_n 2, 1) := by decide +kernel
theorem d_Desk_counter_53 : decode b_Desk_counter 53 = .ok (.invokevirtual 150, 3) := by decide +kernel
theorem d_Desk_counter_56 : decode b_Desk_counter 56 = .ok (.ireturn, 1) := by decide +kernel
set_option maxHeartbeats 40000000 in
set_option maxRecDepth 100000 in
theorem c_D_counter_np (l : Launch) (hl : l.stackTraces = false) (D : va_G) (ax : Nat → ClassId) (d0 k0 r0 c0 p0 fd0 w0 e0 b0 a0 y0 g0 i0 : Nat) (x1 x2 : Int32) (sz tz : Nat) : xt_Met l y_Desk_counter (xws (.code y_Desk_counter b_Desk_counter 3 (some .int))) ({ frames := 30, cells := 1, slots := 6, locals := 1200 }) (va_Pc [.ref d0, .int x1, .int x2] (xo3 D ax [(d0, .inr (10, [.ref k0, .ref r0, .ref c0, .ref p0, .ref fd0, .ref w0, .ref e0, .ref b0, .ref a0, .ref y0, .ref g0, .ref i0, .int 0]))] sz tz)) ((xt_U ["java/lang/IllegalStateException"] False (fun (h9 : Heap) => ∃ u : Nat → Nat, (h9.size ≤ sz + (1)) ∧ (tsl h9 ≤ tz + (6)) ∧ va_P D classes [(d0, .inr (10, [.ref k0, .ref r0, .ref c0, .ref p0, .ref fd0, .ref w0, .ref e0, .ref b0, .ref a0, .ref y0, .ref g0, .ref i0, .int 0]))] h9 ∧ va_D (va_A [(d0, .inr (10, [.ref k0, .ref r0, .ref c0, .ref p0, .ref fd0, .ref w0, .ref e0, .ref b0, .ref a0, .ref y0, .ref g0, .ref i0, .int 0]))] sz) [(d0, .inr (10, [.ref k0, .ref r0, .ref c0, .ref p0, .ref fd0, .ref w0, .ref e0, .ref b0, .ref a0, .ref y0, .ref g0, .ref i0, .int 0]))]) (va_A [(d0, .inr (10, [.ref k0, .ref r0, .ref c0, .ref p0, .ref fd0, .ref w0, .ref e0, .ref b0, .ref a0, .ref y0, .ref g0, .ref i0, .int 0]))] sz))) 1 6 (va_A [(d0, .inr (10, [.ref k0, .ref r0, .ref c0, .ref p0, .ref fd0, .ref w0, .ref e0, .ref b0, .ref a0, .ref y0, .ref g0, .ref i0, .int 0]))] sz) := by
  refine xt_Met.ofW (cc := b_Desk_counter) (maxL := 3) (ret := (some .int)) (by decide) rfl ?_
  intro p e s m args below meth c s₁ B hml hout hv
  obtain ⟨rfl, ⟨hsz, hP, hK, hD0⟩, htz⟩ := hv
  have hx := B.exec
  have hb := B.bytes
  have hr := B.returns
  have hts := xw_hts B.pre
  have hown : s.vm.findClass R_Desk = some m.cls := findClass_of_methodNamed B.named
  have hlocks := B.notSynchronized
  have htr : e.platform.stackTraces = false := by rw [B.admits.platform]; exact hl
  subst hsz
  subst htz
  have hD := hD0.self (sz := s.heap.size)
  have hN := xz_entry hP
  generalize hAe : va_A [(d0, .inr (10, [.ref k0, .ref r0, .ref c0, .ref p0, .ref fd0, .ref w0, .ref e0, .ref b0, .ref a0, .ref y0, .ref g0, .ref i0, .int 0]))] s.heap.size = A at hD hN ⊢
  have hA : ∀ q : Nat, s.heap.size ≤ q → A q := fun q h => by rw [← hAe]; exact Or.inr h
  have hS : va_S A s.heap s.heap [] := va_S.rf
  have hl0 := lv_entry ([.ref d0, .int x1, .int x2]) (n := 3) (Nat.le_of_ble_eq_true rfl)
  rw [lg_entry_eq]
  generalize (lg_sl ([.ref d0, .int x1, .int x2]) ++ List.replicate (3 - (lg_sl ([.ref d0, .int x1, .int x2])).length) Slot.unset).toArray = ls at hl0 ⊢
  have hl1 : lv_has ls 3 [(0, .ref d0), (1, .int x1), (2, .int x2)] := hl0
  refine lv_aload_n hx hb d_Desk_counter_0 rfl (lv_at hl1 0 rfl) ?_
  refine lv_iload_n hx hb d_Desk_counter_1 rfl (lv_at hl1 1 rfl) ?_
  obtain ⟨hPc, hDc, hFc, hCs⟩ := xw_sub3 (wc := [(d0, .inr (10, [.ref k0, .ref r0, .ref c0, .ref p0, .ref fd0, .ref w0, .ref e0, .ref b0, .ref a0, .ref y0, .ref g0, .ref i0, .int 0]))]) hP hD hS hA [0] (by decide) rfl
  have hz := xz_of hN hS
  refine wk_know (fun hk8 hk9 => ?_)
  subst hAe
  exact xt_outU (xt_runV (As := [.int x1]) (rest := []) ⟨hx, hb, hml, hown, hts⟩ (c_D_needClaim_np l hl D ax d0 k0 r0 c0 p0 fd0 w0 e0 b0 a0 y0 g0 i0 x1 s.heap.size (tsl s.heap)) (xcV (n := 1) hts wd_740 wd_1 wd_737 wd_739 ps_21 rfl rfl (by decide +kernel) ⟨Nat.le_of_ble_eq_true rfl, Nat.le_of_ble_eq_true rfl⟩) (xpV3 (ci := 10) (q0 := 0) (As := [.int x1]) hPc hK hz hDc rfl rfl) rfl rfl hl1.1 rfl (lv_room (Nat.le_of_ble_eq_true rfl)) d_Desk_counter_2 ⟨Nat.le_of_ble_eq_true rfl, Nat.le_of_ble_eq_true rfl⟩) hout hlocks (fun q h => h)
set_option maxHeartbeats 40000000 in
set_option maxRecDepth 100000 in
theorem c_D_counter_nc (l : Launch) (hl : l.stackTraces = false) (D : va_G) (ax : Nat → ClassId) (d0 k0 r0 c0 p0 fd0 w0 e0 b0 a0 y0 g0 i0 h0 g1 g2 g3 g4 g5 g6 g7 g8 g9 ga gb cl ln br lp va : Nat) (x1 x2 : Int32) (sz tz : Nat) (hcl : cl ≤ 29) (hno : ∀ j : Nat, j < cl → x1 ≠ nI j) : xt_Met l y_Desk_counter (xws (.code y_Desk_counter b_Desk_counter 3 (some .int))) ({ frames := 30, cells := 1, slots := 6, locals := 1200 }) (va_Pc [.ref d0, .int x1, .int x2] (xo3 D ax [(d0, .inr (10, [.ref k0, .ref r0, .ref c0, .ref p0, .ref fd0, .ref w0, .ref e0, .ref b0, .ref a0, .ref y0, .ref g0, .ref i0, .int 1])), (g0, .inr (2, [.ref h0, .ref g1, .ref g2, .ref g3, .ref g4, .ref g5, .ref g6, .ref g7, .ref g8, .ref g9, .ref ga, .ref gb, .int (nI cl), .int (nI ln), .int (nI br), .int (nI lp), .int (nI va)]))] sz tz)) ((xt_U ["java/lang/IndexOutOfBoundsException"] False (fun (h9 : Heap) => ∃ u : Nat → Nat, (h9.size ≤ sz + (1)) ∧ (tsl h9 ≤ tz + (6)) ∧ va_P D classes [(d0, .inr (10, [.ref k0, .ref r0, .ref c0, .ref p0, .ref fd0, .ref w0, .ref e0, .ref b0, .ref a0, .ref y0, .ref g0, .ref i0, .int 1])), (g0, .inr (2, [.ref h0, .ref g1, .ref g2, .ref g3, .ref g4, .ref g5, .ref g6, .ref g7, .ref g8, .ref g9, .ref ga, .ref gb, .int (nI cl), .int (nI ln), .int (nI br), .int (nI lp), .int (nI va)]))] h9 ∧ va_D (va_A [(d0, .inr (10, [.ref k0, .ref r0, .ref c0, .ref p0, .ref fd0, .ref w0, .ref e0, .ref b0, .ref a0, .ref y0, .ref g0, .ref i0, .int 1])), (g0, .inr (2, [.ref h0, .ref g1, .ref g2, .ref g3, .ref g4, .ref g5, .ref g6, .ref g7, .ref g8, .ref g9, .ref ga, .ref gb, .int (nI cl), .int (nI ln), .int (nI br), .int (nI lp), .int (nI va)]))] sz) [(d0, .inr (10, [.ref k0, .ref r0, .ref c0, .ref p0, .ref fd0, .ref w0, .ref e0, .ref b0, .ref a0, .ref y0, .ref g0, .ref i0, .int 1])), (g0, .inr (2, [.ref h0, .ref g1, .ref g2, .ref g3, .ref g4, .ref g5, .ref g6, .ref g7, .ref g8, .ref g9, .ref ga, .ref gb, .int (nI cl), .int (nI ln), .int (nI br), .int (nI lp), .int (nI va)]))]) (va_A [(d0, .inr (10, [.ref k0, .ref r0, .ref c0, .ref p0, .ref fd0, .ref w0, .ref e0, .ref b0, .ref a0, .ref y0, .ref g0, .ref i0, .int 1])), (g0, .inr (2, [.ref h0, .ref g1, .ref g2, .ref g3, .ref g4, .ref g5, .ref g6, .ref g7, .ref g8, .ref g9, .ref ga, .ref gb, .int (nI cl), .int (nI ln), .int (nI br), .int (nI lp), .int (nI va)]))] sz))) 1 6 (va_A [(d0, .inr (10, [.ref k0, .ref r0, .ref c0, .ref p0, .ref fd0, .ref w0, .ref e0, .ref b0, .ref a0, .ref y0, .ref g0, .ref i0, .int 1])), (g0, .inr (2, [.ref h0, .ref g1, .ref g2, .ref g3, .ref g4, .ref g5, .ref g6, .ref g7, .ref g8, .ref g9, .ref ga, .ref gb, .int (nI cl), .int (nI ln), .int (nI br), .int (nI lp), .int (nI va)]))] sz) := by
  refine xt_Met.ofW (cc := b_Desk_counter) (maxL := 3) (ret := (some .int)) (by decide) rfl ?_
  intro p e s m args below meth c s₁ B hml hout hv
  obtain ⟨rfl, ⟨hsz, hP, hK, hD0⟩, htz⟩ := hv
  have hx := B.exec
  have hb := B.bytes
  have hr := B.returns
  have hts := xw_hts B.pre
  have hown : s.vm.findClass R_Desk = some m.cls := findClass_of_methodNamed B.named
  have hlocks := B.notSynchronized
  have htr : e.platform.stackTraces = false := by rw [B.admits.platform]; exact hl
  subst hsz
  subst htz
  have hD := hD0.self (sz := s.heap.size)
  have hN := xz_entry hP
  generalize hAe : va_A [(d0, .inr (10, [.ref k0, .ref r0, .ref c0, .ref p0, .ref fd0, .ref w0, .ref e0, .ref b0, .ref a0, .ref y0, .ref g0, .ref i0, .int 1])), (g0, .inr (2, [.ref h0, .ref g1, .ref g2, .ref g3, .ref g4, .ref g5, .ref g6, .ref g7, .ref g8, .ref g9, .ref ga, .ref gb, .int (nI cl), .int (nI ln), .int (nI br), .int (nI lp), .int (nI va)]))] s.heap.size = A at hD hN ⊢
  have hA : ∀ q : Nat, s.heap.size ≤ q → A q := fun q h => by rw [← hAe]; exact Or.inr h
  have hS : va_S A s.heap s.heap [] := va_S.rf
  have hl0 := lv_entry ([.ref d0, .int x1, .int x2]) (n := 3) (Nat.le_of_ble_eq_true rfl)
  rw [lg_entry_eq]
  generalize (lg_sl ([.ref d0, .int x1, .int x2]) ++ List.replicate (3 - (lg_sl ([.ref d0, .int x1, .int x2])).length) Slot.unset).toArray = ls at hl0 ⊢
  have hl1 : lv_has ls 3 [(0, .ref d0), (1, .int x1), (2, .int x2)] := hl0
  refine lv_aload_n hx hb d_Desk_counter_0 rfl (lv_at hl1 0 rfl) ?_
  refine lv_iload_n hx hb d_Desk_counter_1 rfl (lv_at hl1 1 rfl) ?_
  obtain ⟨hPc, hDc, hFc, hCs⟩ := xw_sub3 (wc := [(d0, .inr (10, [.ref k0, .ref r0, .ref c0, .ref p0, .ref fd0, .ref w0, .ref e0, .ref b0, .ref a0, .ref y0, .ref g0, .ref i0, .int 1])), (g0, .inr (2, [.ref h0, .ref g1, .ref g2, .ref g3, .ref g4, .ref g5, .ref g6, .ref g7, .ref g8, .ref g9, .ref ga, .ref gb, .int (nI cl), .int (nI ln), .int (nI br), .int (nI lp), .int (nI va)]))]) hP hD hS hA [0, 1] (by decide) rfl
  have hz := xz_of hN hS
  refine wk_know (fun hk8 hk9 => ?_)
  subst hAe
  exact xt_outU (xt_runV (As := [.int x1]) (rest := []) ⟨hx, hb, hml, hown, hts⟩ (c_D_needClaim_no l hl D ax d0 k0 r0 c0 p0 fd0 w0 e0 b0 a0 y0 g0 i0 h0 g1 g2 g3 g4 g5 g6 g7 g8 g9 ga gb cl ln br lp va x1 s.heap.size (tsl s.heap) hcl hno) (xcV (n := 1) hts wd_740 wd_1 wd_737 wd_739 ps_21 rfl rfl (by decide +kernel) ⟨Nat.le_of_ble_eq_true rfl, Nat.le_of_ble_eq_true rfl⟩) (xpV3 (ci := 10) (q0 := 0) (As := [.int x1]) hPc hK hz hDc rfl rfl) rfl rfl hl1.1 rfl (lv_room (Nat.le_of_ble_eq_true rfl)) d_Desk_counter_2 ⟨Nat.le_of_ble_eq_true rfl, Nat.le_of_ble_eq_true rfl⟩) hout hlocks (fun q h => h)
abbrev b_Desk_say : ByteArray := prog_1_method_11_code
def y_Desk_say : MethodName := ⟨R_Desk, "say", "(I)I"⟩
theorem d_Desk_say_0 : decode b_Desk_say 0 = .ok (.aload_n 0, 1) := by decide +kernel
theorem d_Desk_say_1 : decode b_Desk_say 1 = .ok (.iload_n 1, 1) := by decide +kernel
theorem d_Desk_say_2 : decode b_Desk_say 2 = .ok (.invokevirtual 116, 3) := by decide +kernel
theorem d_Desk_say_5 : decode b_Desk_say 5 = .ok (.aload_n 0, 1) := by decide +kernel
theorem d_Desk_say_6 : decode b_Desk_say 6 = .ok (.getfield 28, 3) := by decide +kernel
theorem d_Desk_say_9 : decode b_Desk_say 9 = .ok (.aload_n 0, 1) := by decide +kernel
theorem d_Desk_say_10 : decode b_Desk_say 10 = .ok (.getfield 76, 3) := by decide +kernel
theorem d_Desk_say_13 : decode b_Desk_say 13 = .ok (.aload_n 0, 1) := by decide +kernel
theorem d_Desk_say_14 : decode b_Desk_say 14 = .ok (.getfield 63, 3) := by decide +kernel
theorem d_Desk_say_17 : decode b_Desk_say 17 = .ok (.aload_n 0, 1) := by decide +kernel
theorem d_Desk_say_18 : decode b_Desk_say 18 = .ok (.getfield 67, 3) := by decide +kernel
theorem d_Desk_say_21 : decode b_Desk_say 21 = .ok (.iload_n 1, 1) := by decide +kernel
theorem d_Desk_say_22 : decode b_Desk_say 22 = .ok (.invokevirtual 154, 3) := by decide +kernel
theorem d_Desk_say_25 : decode b_Desk_say 25 = .ok (.aload_n 0, 1) := by decide +kernel
theorem d_Desk_say_26 : decode b_Desk_say 26 = .ok (.getfield 49, 3) := by decide +kernel
theorem d_Desk_say_29 : decode b_Desk_say 29 = .ok (.aload_n 0, 1) := by decide +kernel
theorem d_Desk_say_30 : decode b_Desk_say 30 = .ok (.getfield 28, 3) := by decide +kernel
theorem d_Desk_say_33 : decode b_Desk_say 33 = .ok (.getfield 158, 3) := by decide +kernel
theorem d_Desk_say_36 : decode b_Desk_say 36 = .ok (.invokevirtual 161, 3) := by decide +kernel
theorem d_Desk_say_39 : decode b_Desk_say 39 = .ok (.ireturn, 1) := by decide +kernel
set_option maxHeartbeats 40000000 in
set_option maxRecDepth 100000 in
theorem c_D_say_np (l : Launch) (hl : l.stackTraces = false) (D : va_G) (ax : Nat → ClassId) (d0 k0 r0 c0 p0 fd0 w0 e0 b0 a0 y0 g0 i0 : Nat) (x1 : Int32) (sz tz : Nat) : xt_Met l y_Desk_say (xws (.code y_Desk_say b_Desk_say 2 (some .int))) ({ frames := 30, cells := 1, slots := 6, locals := 1200 }) (va_Pc [.ref d0, .int x1] (xo3 D ax [(d0, .inr (10, [.ref k0, .ref r0, .ref c0, .ref p0, .ref fd0, .ref w0, .ref e0, .ref b0, .ref a0, .ref y0, .ref g0, .ref i0, .int 0]))] sz tz)) ((xt_U ["java/lang/IllegalStateException"] False (fun (h9 : Heap) => ∃ u : Nat → Nat, (h9.size ≤ sz + (1)) ∧ (tsl h9 ≤ tz + (6)) ∧ va_P D classes [(d0, .inr (10, [.ref k0, .ref r0, .ref c0, .ref p0, .ref fd0, .ref w0, .ref e0, .ref b0, .ref a0, .ref y0, .ref g0, .ref i0, .int 0]))] h9 ∧ va_D (va_A [(d0, .inr (10, [.ref k0, .ref r0, .ref c0, .ref p0, .ref fd0, .ref w0, .ref e0, .ref b0, .ref a0, .ref y0, .ref g0, .ref i0, .int 0]))] sz) [(d0, .inr (10, [.ref k0, .ref r0, .ref c0, .ref p0, .ref fd0, .ref w0, .ref e0, .ref b0, .ref a0, .ref y0, .ref g0, .ref i0, .int 0]))]) (va_A [(d0, .inr (10, [.ref k0, .ref r0, .ref c0, .ref p0, .ref fd0, .ref w0, .ref e0, .ref b0, .ref a0, .ref y0, .ref g0, .ref i0, .int 0]))] sz))) 1 6 (va_A [(d0, .inr (10, [.ref k0, .ref r0, .ref c0, .ref p0, .ref fd0, .ref w0, .ref e0, .ref b0, .ref a0, .ref y0, .ref g0, .ref i0, .int 0]))] sz) := by
  refine xt_Met.ofW (cc := b_Desk_say) (maxL := 2) (ret := (some .int)) (by decide) rfl ?_
  intro p e s m args below meth c s₁ B hml hout hv
  obtain ⟨rfl, ⟨hsz, hP, hK, hD0⟩, htz⟩ := hv
  have hx := B.exec
  have hb := B.bytes
  have hr := B.returns
  have hts := xw_hts B.pre
  have hown : s.vm.findClass R_Desk = some m.cls := findClass_of_methodNamed B.named
  have hlocks := B.notSynchronized
  have htr : e.platform.stackTraces = false := by rw [B.admits.platform]; exact hl
  subst hsz
  subst htz
  have hD := hD0.self (sz := s.heap.size)
  have hN := xz_entry hP
  generalize hAe : va_A [(d0, .inr (10, [.ref k0, .ref r0, .ref c0, .ref p0, .ref fd0, .ref w0, .ref e0, .ref b0, .ref a0, .ref y0, .ref g0, .ref i0, .int 0]))] s.heap.size = A at hD hN ⊢
  have hA : ∀ q : Nat, s.heap.size ≤ q → A q := fun q h => by rw [← hAe]; exact Or.inr h
  have hS : va_S A s.heap s.heap [] := va_S.rf
  have hl0 := lv_entry ([.ref d0, .int x1]) (n := 2) (Nat.le_of_ble_eq_true rfl)
  rw [lg_entry_eq]
  generalize (lg_sl ([.ref d0, .int x1]) ++ List.replicate (2 - (lg_sl ([.ref d0, .int x1])).length) Slot.unset).toArray = ls at hl0 ⊢
  have hl1 : lv_has ls 2 [(0, .ref d0), (1, .int x1)] := hl0
  refine lv_aload_n hx hb d_Desk_say_0 rfl (lv_at hl1 0 rfl) ?_
  refine lv_iload_n hx hb d_Desk_say_1 rfl (lv_at hl1 1 rfl) ?_
  obtain ⟨hPc, hDc, hFc, hCs⟩ := xw_sub3 (wc := [(d0, .inr (10, [.ref k0, .ref r0, .ref c0, .ref p0, .ref fd0, .ref w0, .ref e0, .ref b0, .ref a0, .ref y0, .ref g0, .ref i0, .int 0]))]) hP hD hS hA [0] (by decide) rfl
  have hz := xz_of hN hS
  refine wk_know (fun hk8 hk9 => ?_)
  subst hAe
  exact xt_outU (xt_runV (As := [.int x1]) (rest := []) ⟨hx, hb, hml, hown, hts⟩ (c_D_needClaim_np l hl D ax d0 k0 r0 c0 p0 fd0 w0 e0 b0 a0 y0 g0 i0 x1 s.heap.size (tsl s.heap)) (xcV (n := 1) hts wd_740 wd_1 wd_737 wd_739 ps_21 rfl rfl (by decide +kernel) ⟨Nat.le_of_ble_eq_true rfl, Nat.le_of_ble_eq_true rfl⟩) (xpV3 (ci := 10) (q0 := 0) (As := [.int x1]) hPc hK hz hDc rfl rfl) rfl rfl hl1.1 rfl (lv_room (Nat.le_of_ble_eq_true rfl)) d_Desk_say_2 ⟨Nat.le_of_ble_eq_true rfl, Nat.le_of_ble_eq_true rfl⟩) hout hlocks (fun q h => h)
set_option maxHeartbeats 40000000 in
set_option maxRecDepth 100000 in
theorem c_D_say_nc (l : Launch) (hl : l.stackTraces = false) (D : va_G) (ax : Nat → ClassId) (d0 k0 r0 c0 p0 fd0 w0 e0 b0 a0 y0 g0 i0 h0 g1 g2 g3 g4 g5 g6 g7 g8 g9 ga gb cl ln br lp va : Nat) (x1 : Int32) (sz tz : Nat) (hcl : cl ≤ 29) (hno : ∀ j : Nat, j < cl → x1 ≠ nI j) : xt_Met l y_Desk_say (xws (.code y_Desk_say b_Desk_say 2 (some .int))) ({ frames := 30, cells := 1, slots := 6, locals := 1200 }) (va_Pc [.ref d0, .int x1] (xo3 D ax [(d0, .inr (10, [.ref k0, .ref r0, .ref c0, .ref p0, .ref fd0, .ref w0, .ref e0, .ref b0, .ref a0, .ref y0, .ref g0, .ref i0, .int 1])), (g0, .inr (2, [.ref h0, .ref g1, .ref g2, .ref g3, .ref g4, .ref g5, .ref g6, .ref g7, .ref g8, .ref g9, .ref ga, .ref gb, .int (nI cl), .int (nI ln), .int (nI br), .int (nI lp), .int (nI va)]))] sz tz)) ((xt_U ["java/lang/IndexOutOfBoundsException"] False (fun (h9 : Heap) => ∃ u : Nat → Nat, (h9.size ≤ sz + (1)) ∧ (tsl h9 ≤ tz + (6)) ∧ va_P D classes [(d0, .inr (10, [.ref k0, .ref r0, .ref c0, .ref p0, .ref fd0, .ref w0, .ref e0, .ref b0, .ref a0, .ref y0, .ref g0, .ref i0, .int 1])), (g0, .inr (2, [.ref h0, .ref g1, .ref g2, .ref g3, .ref g4, .ref g5, .ref g6, .ref g7, .ref g8, .ref g9, .ref ga, .ref gb, .int (nI cl), .int (nI ln), .int (nI br), .int (nI lp), .int (nI va)]))] h9 ∧ va_D (va_A [(d0, .inr (10, [.ref k0, .ref r0, .ref c0, .ref p0, .ref fd0, .ref w0, .ref e0, .ref b0, .ref a0, .ref y0, .ref g0, .ref i0, .int 1])), (g0, .inr (2, [.ref h0, .ref g1, .ref g2, .ref g3, .ref g4, .ref g5, .ref g6, .ref g7, .ref g8, .ref g9, .ref ga, .ref gb, .int (nI cl), .int (nI ln), .int (nI br), .int (nI lp), .int (nI va)]))] sz) [(d0, .inr (10, [.ref k0, .ref r0, .ref c0, .ref p0, .ref fd0, .ref w0, .ref e0, .ref b0, .ref a0, .ref y0, .ref g0, .ref i0, .int 1])), (g0, .inr (2, [.ref h0, .ref g1, .ref g2, .ref g3, .ref g4, .ref g5, .ref g6, .ref g7, .ref g8, .ref g9, .ref ga, .ref gb, .int (nI cl), .int (nI ln), .int (nI br), .int (nI lp), .int (nI va)]))]) (va_A [(d0, .inr (10, [.ref k0, .ref r0, .ref c0, .ref p0, .ref fd0, .ref w0, .ref e0, .ref b0, .ref a0, .ref y0, .ref g0, .ref i0, .int 1])), (g0, .inr (2, [.ref h0, .ref g1, .ref g2, .ref g3, .ref g4, .ref g5, .ref g6, .ref g7, .ref g8, .ref g9, .ref ga, .ref gb, .int (nI cl), .int (nI ln), .int (nI br), .int (nI lp), .int (nI va)]))] sz))) 1 6 (va_A [(d0, .inr (10, [.ref k0, .ref r0, .ref c0, .ref p0, .ref fd0, .ref w0, .ref e0, .ref b0, .ref a0, .ref y0, .ref g0, .ref i0, .int 1])), (g0, .inr (2, [.ref h0, .ref g1, .ref g2, .ref g3, .ref g4, .ref g5, .ref g6, .ref g7, .ref g8, .ref g9, .ref ga, .ref gb, .int (nI cl), .int (nI ln), .int (nI br), .int (nI lp), .int (nI va)]))] sz) := by
  refine xt_Met.ofW (cc := b_Desk_say) (maxL := 2) (ret := (some .int)) (by decide) rfl ?_
  intro p e s m args below meth c s₁ B hml hout hv
  obtain ⟨rfl, ⟨hsz, hP, hK, hD0⟩, htz⟩ := hv
  have hx := B.exec
  have hb := B.bytes
  have hr := B.returns
  have hts := xw_hts B.pre
  have hown : s.vm.findClass R_Desk = some m.cls := findClass_of_methodNamed B.named
  have hlocks := B.notSynchronized
  have htr : e.platform.stackTraces = false := by rw [B.admits.platform]; exact hl
  subst hsz
  subst htz
  have hD := hD0.self (sz := s.heap.size)
  have hN := xz_entry hP
  generalize hAe : va_A [(d0, .inr (10, [.ref k0, .ref r0, .ref c0, .ref p0, .ref fd0, .ref w0, .ref e0, .ref b0, .ref a0, .ref y0, .ref g0, .ref i0, .int 1])), (g0, .inr (2, [.ref h0, .ref g1, .ref g2, .ref g3, .ref g4, .ref g5, .ref g6, .ref g7, .ref g8, .ref g9, .ref ga, .ref gb, .int (nI cl), .int (nI ln), .int (nI br), .int (nI lp), .int (nI va)]))] s.heap.size = A at hD hN ⊢
  have hA : ∀ q : Nat, s.heap.size ≤ q → A q := fun q h => by rw [← hAe]; exact Or.inr h
  have hS : va_S A s.heap s.heap [] := va_S.rf
  have hl0 := lv_entry ([.ref d0, .int x1]) (n := 2) (Nat.le_of_ble_eq_true rfl)
  rw [lg_entry_eq]
  generalize (lg_sl ([.ref d0, .int x1]) ++ List.replicate (2 - (lg_sl ([.ref d0, .int x1])).length) Slot.unset).toArray = ls at hl0 ⊢
  have hl1 : lv_has ls 2 [(0, .ref d0), (1, .int x1)] := hl0
  refine lv_aload_n hx hb d_Desk_say_0 rfl (lv_at hl1 0 rfl) ?_
  refine lv_iload_n hx hb d_Desk_say_1 rfl (lv_at hl1 1 rfl) ?_
  obtain ⟨hPc, hDc, hFc, hCs⟩ := xw_sub3 (wc := [(d0, .inr (10, [.ref k0, .ref r0, .ref c0, .ref p0, .ref fd0, .ref w0, .ref e0, .ref b0, .ref a0, .ref y0, .ref g0, .ref i0, .int 1])), (g0, .inr (2, [.ref h0, .ref g1, .ref g2, .ref g3, .ref g4, .ref g5, .ref g6, .ref g7, .ref g8, .ref g9, .ref ga, .ref gb, .int (nI cl), .int (nI ln), .int (nI br), .int (nI lp), .int (nI va)]))]) hP hD hS hA [0, 1] (by decide) rfl
  have hz := xz_of hN hS
  refine wk_know (fun hk8 hk9 => ?_)
  subst hAe
  exact xt_outU (xt_runV (As := [.int x1]) (rest := []) ⟨hx, hb, hml, hown, hts⟩ (c_D_needClaim_no l hl D ax d0 k0 r0 c0 p0 fd0 w0 e0 b0 a0 y0 g0 i0 h0 g1 g2 g3 g4 g5 g6 g7 g8 g9 ga gb cl ln br lp va x1 s.heap.size (tsl s.heap) hcl hno) (xcV (n := 1) hts wd_740 wd_1 wd_737 wd_739 ps_21 rfl rfl (by decide +kernel) ⟨Nat.le_of_ble_eq_true rfl, Nat.le_of_ble_eq_true rfl⟩) (xpV3 (ci := 10) (q0 := 0) (As := [.int x1]) hPc hK hz hDc rfl rfl) rfl rfl hl1.1 rfl (lv_room (Nat.le_of_ble_eq_true rfl)) d_Desk_say_2 ⟨Nat.le_of_ble_eq_true rfl, Nat.le_of_ble_eq_true rfl⟩) hout hlocks (fun q h => h)
set_option maxHeartbeats 40000000 in
set_option maxRecDepth 100000 in
theorem c_D_conditions_ok (l : Launch) (D : va_G) (ax : Nat → ClassId) (d0 k0 r0 c0 p0 fd0 w0 e0 b0 a0 y0 g0 i0 h0 g1 g2 g3 g4 g5 g6 g7 g8 g9 ga gb cl ln br lp va : Nat) (sz : Nat) : Met l y_Desk_conditions (xws (.code y_Desk_conditions b_Desk_conditions 1 (some .int))) ({ frames := 20, cells := 0, slots := 0, locals := 800 }) (va_Pc [.ref d0] (xo D ax [(d0, .inr (10, [.ref k0, .ref r0, .ref c0, .ref p0, .ref fd0, .ref w0, .ref e0, .ref b0, .ref a0, .ref y0, .ref g0, .ref i0, .int 1])), (g0, .inr (2, [.ref h0, .ref g1, .ref g2, .ref g3, .ref g4, .ref g5, .ref g6, .ref g7, .ref g8, .ref g9, .ref ga, .ref gb, .int (nI cl), .int (nI ln), .int (nI br), .int (nI lp), .int (nI va)]))] sz)) ((va_Qi (fun (r : Int32) (u : Nat → Nat) => r = nI cl) (xb D (va_A [(d0, .inr (10, [.ref k0, .ref r0, .ref c0, .ref p0, .ref fd0, .ref w0, .ref e0, .ref b0, .ref a0, .ref y0, .ref g0, .ref i0, .int 1])), (g0, .inr (2, [.ref h0, .ref g1, .ref g2, .ref g3, .ref g4, .ref g5, .ref g6, .ref g7, .ref g8, .ref g9, .ref ga, .ref gb, .int (nI cl), .int (nI ln), .int (nI br), .int (nI lp), .int (nI va)]))] sz) (fun u => [(d0, .inr (10, [.ref k0, .ref r0, .ref c0, .ref p0, .ref fd0, .ref w0, .ref e0, .ref b0, .ref a0, .ref y0, .ref g0, .ref i0, .int 1])), (g0, .inr (2, [.ref h0, .ref g1, .ref g2, .ref g3, .ref g4, .ref g5, .ref g6, .ref g7, .ref g8, .ref g9, .ref ga, .ref gb, .int (nI cl), .int (nI ln), .int (nI br), .int (nI lp), .int (nI va)]))])) (va_A [(d0, .inr (10, [.ref k0, .ref r0, .ref c0, .ref p0, .ref fd0, .ref w0, .ref e0, .ref b0, .ref a0, .ref y0, .ref g0, .ref i0, .int 1])), (g0, .inr (2, [.ref h0, .ref g1, .ref g2, .ref g3, .ref g4, .ref g5, .ref g6, .ref g7, .ref g8, .ref g9, .ref ga, .ref gb, .int (nI cl), .int (nI ln), .int (nI br), .int (nI lp), .int (nI va)]))] sz))) 0 0 (va_A [(d0, .inr (10, [.ref k0, .ref r0, .ref c0, .ref p0, .ref fd0, .ref w0, .ref e0, .ref b0, .ref a0, .ref y0, .ref g0, .ref i0, .int 1])), (g0, .inr (2, [.ref h0, .ref g1, .ref g2, .ref g3, .ref g4, .ref g5, .ref g6, .ref g7, .ref g8, .ref g9, .ref ga, .ref gb, .int (nI cl), .int (nI ln), .int (nI br), .int (nI lp), .int (nI va)]))] sz) := by
  refine Met.ofW (cc := b_Desk_conditions) (maxL := 1) (ret := (some .int)) (by decide) rfl ?_
  intro p e s m args below meth c s₁ B hml hv
  obtain ⟨rfl, hsz, hP, hK, hD0⟩ := hv
  have hx := B.exec
  have hb := B.bytes
  have hr := B.returns
  have hts := xw_hts B.pre
  have hown : s.vm.findClass R_Desk = some m.cls := findClass_of_methodNamed B.named
  have hlocks := B.notSynchronized
  subst hsz
  have hD := hD0.self (sz := s.heap.size)
  have hN := xz_entry hP
  generalize hAe : va_A [(d0, .inr (10, [.ref k0, .ref r0, .ref c0, .ref p0, .ref fd0, .ref w0, .ref e0, .ref b0, .ref a0, .ref y0, .ref g0, .ref i0, .int 1])), (g0, .inr (2, [.ref h0, .ref g1, .ref g2, .ref g3, .ref g4, .ref g5, .ref g6, .ref g7, .ref g8, .ref g9, .ref ga, .ref gb, .int (nI cl), .int (nI ln), .int (nI br), .int (nI lp), .int (nI va)]))] s.heap.size = A at hD hN ⊢
  have hA : ∀ q : Nat, s.heap.size ≤ q → A q := fun q h => by rw [← hAe]; exact Or.inr h
  have hS : va_S A s.heap s.heap [] := va_S.rf
  have hl0 := lv_entry ([.ref d0]) (n := 1) (Nat.le_of_ble_eq_true rfl)
  rw [lg_entry_eq]
  generalize (lg_sl ([.ref d0]) ++ List.replicate (1 - (lg_sl ([.ref d0])).length) Slot.unset).toArray = ls at hl0 ⊢
  have hl1 : lv_has ls 1 [(0, .ref d0)] := hl0
  refine xw_gen (fun Z9 hQe => ?_)
  refine lv_aload_n hx hb d_Desk_conditions_0 rfl (lv_at hl1 0 rfl) ?_
  obtain ⟨hPc, hDc, hFc, hCs⟩ := xw_sub3 (wc := [(d0, .inr (10, [.ref k0, .ref r0, .ref c0, .ref p0, .ref fd0, .ref w0, .ref e0, .ref b0, .ref a0, .ref y0, .ref g0, .ref i0, .int 1]))]) hP hD hS hA [0] (by decide) rfl
  have hz := xz_of hN hS
  refine va_callv (va_runV (As := []) (rest := []) ⟨hx, hb, hml, hown, hts⟩ (c_D_needProgram_ok l D ax d0 k0 r0 c0 p0 fd0 w0 e0 b0 a0 y0 g0 i0 s.heap.size) (xcV (n := 0) hts wd_665 wd_1 wd_662 wd_664 ps_19 rfl rfl (by decide +kernel) ⟨Nat.le_of_ble_eq_true rfl, Nat.le_of_ble_eq_true rfl⟩) (xpV (ci := 10) (q0 := 0) (As := []) hPc hK hz hDc rfl rfl) rfl rfl hl1.1 rfl (lv_room (Nat.le_of_ble_eq_true rfl)) d_Desk_conditions_1 ⟨Nat.le_of_ble_eq_true rfl, Nat.le_of_ble_eq_true rfl⟩) hS (fun q _ h => hFc q h) hFc (fun u_1 t H_2 locs ht hvm hw hB hz1 hk1 hS1 => ?_)
  try dsimp only at hw
  obtain ⟨hP1, hD1⟩ := hB
  rw [ht] at hP1
  have hjn := xw_join3 (wl := [(g0, .inr (2, [.ref h0, .ref g1, .ref g2, .ref g3, .ref g4, .ref g5, .ref g6, .ref g7, .ref g8, .ref g9, .ref ga, .ref gb, .int (nI cl), .int (nI ln), .int (nI br), .int (nI lp), .int (nI va)])), (d0, .inr (10, [.ref k0, .ref r0, .ref c0, .ref p0, .ref fd0, .ref w0, .ref e0, .ref b0, .ref a0, .ref y0, .ref g0, .ref i0, .int 1]))]) hP hD [0] [1] hCs (by decide) (by decide) hk1 hFc hP1 hD1 rfl
  clear hP1 hD1
  clear hPc hDc hFc hCs hz hz1 hk1 ht hvm
  clear hP hD hS
  have hS := hS1
  obtain ⟨hP, hD⟩ := hjn
  clear hS1
  refine lv_aload_n hx hb d_Desk_conditions_4 rfl (lv_at hl1 0 rfl) ?_
  refine va_get (D := D) (ci := 10) (v := .ref g0) (C := R_Desk) (T := F_Desk) (N := 13) hx hb hts i_Desk hown hK.1 hP 1 rfl rfl 10 (by decide) (hts _ wd_385) (fun _ h9 => h9) rfl d_Desk_conditions_5 ?_
  refine va_get (D := D) (ci := 2) (v := .int (nI cl)) (C := R_Listing) (T := F_Listing) (N := 17) hx hb hts i_Listing hown hK.1 hP 0 rfl rfl 12 (by decide) (hts _ wd_307) (fun _ h9 => h9) rfl d_Desk_conditions_8 ?_
  rw [← hQe]
  obtain ⟨hP9, hD9⟩ := xw_sub2 (wc := (fun u : Nat → Nat => [(d0, .inr (10, [.ref k0, .ref r0, .ref c0, .ref p0, .ref fd0, .ref w0, .ref e0, .ref b0, .ref a0, .ref y0, .ref g0, .ref i0, .int 1])), (g0, .inr (2, [.ref h0, .ref g1, .ref g2, .ref g3, .ref g4, .ref g5, .ref g6, .ref g7, .ref g8, .ref g9, .ref ga, .ref gb, .int (nI cl), .int (nI ln), .int (nI br), .int (nI lp), .int (nI va)]))]) (ixn [])) hP hD [1, 0] (by decide) rfl
  exact W.iret (v := nI cl) hx hb hr (fun t ht hW => ⟨⟨nI cl, ixn [], rfl, rfl, ⟨by rw [ht]; exact hP9, hD9⟩⟩, hS.F ht⟩) hS.2.2 d_Desk_conditions_11
abbrev b_Desk_start : ByteArray := prog_1_method_13_code
def y_Desk_start : MethodName := ⟨R_Desk, "start", "(II)V"⟩
theorem d_Desk_start_0 : decode b_Desk_start 0 = .ok (.aload_n 0, 1) := by decide +kernel
theorem d_Desk_start_1 : decode b_Desk_start 1 = .ok (.iload_n 1, 1) := by decide +kernel
theorem d_Desk_start_2 : decode b_Desk_start 2 = .ok (.invokevirtual 170, 3) := by decide +kernel
theorem d_Desk_start_5 : decode b_Desk_start 5 = .ok (.aload_n 0, 1) := by decide +kernel
theorem d_Desk_start_6 : decode b_Desk_start 6 = .ok (.getfield 56, 3) := by decide +kernel
theorem d_Desk_start_9 : decode b_Desk_start 9 = .ok (.getfield 173, 3) := by decide +kernel
theorem d_Desk_start_12 : decode b_Desk_start 12 = .ok (.iload_n 1, 1) := by decide +kernel
theorem d_Desk_start_13 : decode b_Desk_start 13 = .ok (.iload_n 2, 1) := by decide +kernel
theorem d_Desk_start_14 : decode b_Desk_start 14 = .ok (.i2l, 1) := by decide +kernel
theorem d_Desk_start_15 : decode b_Desk_start 15 = .ok (.lastore, 1) := by decide +kernel
theorem d_Desk_start_16 : decode b_Desk_start 16 = .ok (.return_, 1) := by decide +kernel
set_option maxHeartbeats 40000000 in
set_option maxRecDepth 100000 in
theorem c_D_start_no (l : Launch) (hl : l.stackTraces = false) (D : va_G) (ax : Nat → ClassId) (d0 k0 r0 c0 p0 fd0 w0 e0 b0 a0 y0 g0 i0 ld : Nat) (x1 x2 : Int32) (sz tz : Nat) (hno : ∀ j : Nat, j < 6 → x1 ≠ nI j) : xt_Met l y_Desk_start (xws (.code y_Desk_start b_Desk_start 3 none)) ({ frames := 20, cells := 1, slots := 6, locals := 800 }) (va_Pc [.ref d0, .int x1, .int x2] (xo3 D ax [(d0, .inr (10, [.ref k0, .ref r0, .ref c0, .ref p0, .ref fd0, .ref w0, .ref e0, .ref b0, .ref a0, .ref y0, .ref g0, .ref i0, .int (nI ld)]))] sz tz)) ((xt_U ["java/lang/IndexOutOfBoundsException"] False (fun (h9 : Heap) => ∃ u : Nat → Nat, (h9.size ≤ sz + (1)) ∧ (tsl h9 ≤ tz + (6)) ∧ va_P D classes [(d0, .inr (10, [.ref k0, .ref r0, .ref c0, .ref p0, .ref fd0, .ref w0, .ref e0, .ref b0, .ref a0, .ref y0, .ref g0, .ref i0, .int (nI ld)]))] h9 ∧ va_D (va_A [(d0, .inr (10, [.ref k0, .ref r0, .ref c0, .ref p0, .ref fd0, .ref w0, .ref e0, .ref b0, .ref a0, .ref y0, .ref g0, .ref i0, .int (nI ld)]))] sz) [(d0, .inr (10, [.ref k0, .ref r0, .ref c0, .ref p0, .ref fd0, .ref w0, .ref e0, .ref b0, .ref a0, .ref y0, .ref g0, .ref i0, .int (nI ld)]))]) (va_A [(d0, .inr (10, [.ref k0, .ref r0, .ref c0, .ref p0, .ref fd0, .ref w0, .ref e0, .ref b0, .ref a0, .ref y0, .ref g0, .ref i0, .int (nI ld)]))] sz))) 1 6 (va_A [(d0, .inr (10, [.ref k0, .ref r0, .ref c0, .ref p0, .ref fd0, .ref w0, .ref e0, .ref b0, .ref a0, .ref y0, .ref g0, .ref i0, .int (nI ld)]))] sz) := by
  refine xt_Met.ofW (cc := b_Desk_start) (maxL := 3) (ret := none) (by decide) rfl ?_
  intro p e s m args below meth c s₁ B hml hout hv
  obtain ⟨rfl, ⟨hsz, hP, hK, hD0⟩, htz⟩ := hv
  have hx := B.exec
  have hb := B.bytes
  have hr := B.returns
  have hts := xw_hts B.pre
  have hown : s.vm.findClass R_Desk = some m.cls := findClass_of_methodNamed B.named
  have hlocks := B.notSynchronized
  have htr : e.platform.stackTraces = false := by rw [B.admits.platform]; exact hl
  subst hsz
  subst htz
  have hD := hD0.self (sz := s.heap.size)
  have hN := xz_entry hP
  generalize hAe : va_A [(d0, .inr (10, [.ref k0, .ref r0, .ref c0, .ref p0, .ref fd0, .ref w0, .ref e0, .ref b0, .ref a0, .ref y0, .ref g0, .ref i0, .int (nI ld)]))] s.heap.size = A at hD hN ⊢
  have hA : ∀ q : Nat, s.heap.size ≤ q → A q := fun q h => by rw [← hAe]; exact Or.inr h
  have hS : va_S A s.heap s.heap [] := va_S.rf
  have hl0 := lv_entry ([.ref d0, .int x1, .int x2]) (n := 3) (Nat.le_of_ble_eq_true rfl)
  rw [lg_entry_eq]
  generalize (lg_sl ([.ref d0, .int x1, .int x2]) ++ List.replicate (3 - (lg_sl ([.ref d0, .int x1, .int x2])).length) Slot.unset).toArray = ls at hl0 ⊢
  have hl1 : lv_has ls 3 [(0, .ref d0), (1, .int x1), (2, .int x2)] := hl0
  refine lv_aload_n hx hb d_Desk_start_0 rfl (lv_at hl1 0 rfl) ?_
  refine lv_iload_n hx hb d_Desk_start_1 rfl (lv_at hl1 1 rfl) ?_
  obtain ⟨hPc, hDc, hFc, hCs⟩ := xw_sub3 (wc := [(d0, .inr (10, [.ref k0, .ref r0, .ref c0, .ref p0, .ref fd0, .ref w0, .ref e0, .ref b0, .ref a0, .ref y0, .ref g0, .ref i0, .int (nI ld)]))]) hP hD hS hA [0] (by decide) rfl
  have hz := xz_of hN hS
  refine wk_know (fun hk8 hk9 => ?_)
  subst hAe
  exact xt_outU (xt_runV (As := [.int x1]) (rest := []) ⟨hx, hb, hml, hown, hts⟩ (c_D_needVariable_no l hl D ax d0 k0 r0 c0 p0 fd0 w0 e0 b0 a0 y0 g0 i0 ld x1 s.heap.size (tsl s.heap) hno) (xcV (n := 1) hts wd_965 wd_1 wd_962 wd_964 ps_46 rfl rfl (by decide +kernel) ⟨Nat.le_of_ble_eq_true rfl, Nat.le_of_ble_eq_true rfl⟩) (xpV3 (ci := 10) (q0 := 0) (As := [.int x1]) hPc hK hz hDc rfl rfl) rfl rfl hl1.1 rfl (lv_room (Nat.le_of_ble_eq_true rfl)) d_Desk_start_2 ⟨Nat.le_of_ble_eq_true rfl, Nat.le_of_ble_eq_true rfl⟩) hout hlocks (fun q h => h)
abbrev b_Desk_value : ByteArray := prog_1_method_15_code
def y_Desk_value : MethodName := ⟨R_Desk, "value", "(I)J"⟩
theorem d_Desk_value_0 : decode b_Desk_value 0 = .ok (.aload_n 0, 1) := by decide +kernel
theorem d_Desk_value_1 : decode b_Desk_value 1 = .ok (.iload_n 1, 1) := by decide +kernel
theorem d_Desk_value_2 : decode b_Desk_value 2 = .ok (.invokevirtual 170, 3) := by decide +kernel
theorem d_Desk_value_5 : decode b_Desk_value 5 = .ok (.aload_n 0, 1) := by decide +kernel
theorem d_Desk_value_6 : decode b_Desk_value 6 = .ok (.getfield 56, 3) := by decide +kernel
theorem d_Desk_value_9 : decode b_Desk_value 9 = .ok (.getfield 173, 3) := by decide +kernel
theorem d_Desk_value_12 : decode b_Desk_value 12 = .ok (.iload_n 1, 1) := by decide +kernel
theorem d_Desk_value_13 : decode b_Desk_value 13 = .ok (.laload, 1) := by decide +kernel
theorem d_Desk_value_14 : decode b_Desk_value 14 = .ok (.lreturn, 1) := by decide +kernel
set_option maxHeartbeats 40000000 in
set_option maxRecDepth 100000 in
theorem c_D_value_no (l : Launch) (hl : l.stackTraces = false) (D : va_G) (ax : Nat → ClassId) (d0 k0 r0 c0 p0 fd0 w0 e0 b0 a0 y0 g0 i0 ld : Nat) (x1 : Int32) (sz tz : Nat) (hno : ∀ j : Nat, j < 6 → x1 ≠ nI j) : xt_Met l y_Desk_value (xws (.code y_Desk_value b_Desk_value 2 (some .long))) ({ frames := 20, cells := 1, slots := 6, locals := 800 }) (va_Pc [.ref d0, .int x1] (xo3 D ax [(d0, .inr (10, [.ref k0, .ref r0, .ref c0, .ref p0, .ref fd0, .ref w0, .ref e0, .ref b0, .ref a0, .ref y0, .ref g0, .ref i0, .int (nI ld)]))] sz tz)) ((xt_U ["java/lang/IndexOutOfBoundsException"] False (fun (h9 : Heap) => ∃ u : Nat → Nat, (h9.size ≤ sz + (1)) ∧ (tsl h9 ≤ tz + (6)) ∧ va_P D classes [(d0, .inr (10, [.ref k0, .ref r0, .ref c0, .ref p0, .ref fd0, .ref w0, .ref e0, .ref b0, .ref a0, .ref y0, .ref g0, .ref i0, .int (nI ld)]))] h9 ∧ va_D (va_A [(d0, .inr (10, [.ref k0, .ref r0, .ref c0, .ref p0, .ref fd0, .ref w0, .ref e0, .ref b0, .ref a0, .ref y0, .ref g0, .ref i0, .int (nI ld)]))] sz) [(d0, .inr (10, [.ref k0, .ref r0, .ref c0, .ref p0, .ref fd0, .ref w0, .ref e0, .ref b0, .ref a0, .ref y0, .ref g0, .ref i0, .int (nI ld)]))]) (va_A [(d0, .inr (10, [.ref k0, .ref r0, .ref c0, .ref p0, .ref fd0, .ref w0, .ref e0, .ref b0, .ref a0, .ref y0, .ref g0, .ref i0, .int (nI ld)]))] sz))) 1 6 (va_A [(d0, .inr (10, [.ref k0, .ref r0, .ref c0, .ref p0, .ref fd0, .ref w0, .ref e0, .ref b0, .ref a0, .ref y0, .ref g0, .ref i0, .int (nI ld)]))] sz) := by
  refine xt_Met.ofW (cc := b_Desk_value) (maxL := 2) (ret := (some .long)) (by decide) rfl ?_
  intro p e s m args below meth c s₁ B hml hout hv
  obtain ⟨rfl, ⟨hsz, hP, hK, hD0⟩, htz⟩ := hv
  have hx := B.exec
  have hb := B.bytes
  have hr := B.returns
  have hts := xw_hts B.pre
  have hown : s.vm.findClass R_Desk = some m.cls := findClass_of_methodNamed B.named
  have hlocks := B.notSynchronized
  have htr : e.platform.stackTraces = false := by rw [B.admits.platform]; exact hl
  subst hsz
  subst htz
  have hD := hD0.self (sz := s.heap.size)
  have hN := xz_entry hP
  generalize hAe : va_A [(d0, .inr (10, [.ref k0, .ref r0, .ref c0, .ref p0, .ref fd0, .ref w0, .ref e0, .ref b0, .ref a0, .ref y0, .ref g0, .ref i0, .int (nI ld)]))] s.heap.size = A at hD hN ⊢
  have hA : ∀ q : Nat, s.heap.size ≤ q → A q := fun q h => by rw [← hAe]; exact Or.inr h
  have hS : va_S A s.heap s.heap [] := va_S.rf
  have hl0 := lv_entry ([.ref d0, .int x1]) (n := 2) (Nat.le_of_ble_eq_true rfl)
  rw [lg_entry_eq]
  generalize (lg_sl ([.ref d0, .int x1]) ++ List.replicate (2 - (lg_sl ([.ref d0, .int x1])).length) Slot.unset).toArray = ls at hl0 ⊢
  have hl1 : lv_has ls 2 [(0, .ref d0), (1, .int x1)] := hl0
  refine lv_aload_n hx hb d_Desk_value_0 rfl (lv_at hl1 0 rfl) ?_
  refine lv_iload_n hx hb d_Desk_value_1 rfl (lv_at hl1 1 rfl) ?_
  obtain ⟨hPc, hDc, hFc, hCs⟩ := xw_sub3 (wc := [(d0, .inr (10, [.ref k0, .ref r0, .ref c0, .ref p0, .ref fd0, .ref w0, .ref e0, .ref b0, .ref a0, .ref y0, .ref g0, .ref i0, .int (nI ld)]))]) hP hD hS hA [0] (by decide) rfl
  have hz := xz_of hN hS
  refine wk_know (fun hk8 hk9 => ?_)
  subst hAe
  exact xt_outU (xt_runV (As := [.int x1]) (rest := []) ⟨hx, hb, hml, hown, hts⟩ (c_D_needVariable_no l hl D ax d0 k0 r0 c0 p0 fd0 w0 e0 b0 a0 y0 g0 i0 ld x1 s.heap.size (tsl s.heap) hno) (xcV (n := 1) hts wd_965 wd_1 wd_962 wd_964 ps_46 rfl rfl (by decide +kernel) ⟨Nat.le_of_ble_eq_true rfl, Nat.le_of_ble_eq_true rfl⟩) (xpV3 (ci := 10) (q0 := 0) (As := [.int x1]) hPc hK hz hDc rfl rfl) rfl rfl hl1.1 rfl (lv_room (Nat.le_of_ble_eq_true rfl)) d_Desk_value_2 ⟨Nat.le_of_ble_eq_true rfl, Nat.le_of_ble_eq_true rfl⟩) hout hlocks (fun q h => h)
set_option maxHeartbeats 40000000 in
set_option maxRecDepth 100000 in
theorem c_D_start_ok (l : Launch) (D : va_G) (ax : Nat → ClassId) (d0 k0 r0 c0 p0 fd0 w0 e0 b0 a0 y0 g0 i0 ld e1 : Nat) (vs : Nat → Int64) (k1 : Nat) (x2 : Int32) (sz : Nat) (hk1 : k1 < 6) : Met l y_Desk_start (xws (.code y_Desk_start b_Desk_start 3 none)) ({ frames := 20, cells := 0, slots := 0, locals := 800 }) (va_Pc [.ref d0, .int (nI k1), .int x2] (xo D ax [(d0, .inr (10, [.ref k0, .ref r0, .ref c0, .ref p0, .ref fd0, .ref w0, .ref e0, .ref b0, .ref a0, .ref y0, .ref g0, .ref i0, .int (nI ld)])), (e0, .inr (8, [.ref e1])), (e1, .inl (ax 4, 6, .inr (.inl vs)))] sz)) ((va_Qv (fun (u : Nat → Nat) => True) (fun (u : Nat → Nat) (t9 : State) => ∃ xvs : Nat → Int64, (True) ∧ va_P D classes [(d0, .inr (10, [.ref k0, .ref r0, .ref c0, .ref p0, .ref fd0, .ref w0, .ref e0, .ref b0, .ref a0, .ref y0, .ref g0, .ref i0, .int (nI ld)])), (e0, .inr (8, [.ref e1])), (e1, .inl (ax 4, 6, .inr (.inl xvs)))] t9.heap ∧ va_D (va_A [(d0, .inr (10, [.ref k0, .ref r0, .ref c0, .ref p0, .ref fd0, .ref w0, .ref e0, .ref b0, .ref a0, .ref y0, .ref g0, .ref i0, .int (nI ld)])), (e0, .inr (8, [.ref e1])), (e1, .inl (ax 4, 6, .inr (.inl vs)))] sz) [(d0, .inr (10, [.ref k0, .ref r0, .ref c0, .ref p0, .ref fd0, .ref w0, .ref e0, .ref b0, .ref a0, .ref y0, .ref g0, .ref i0, .int (nI ld)])), (e0, .inr (8, [.ref e1])), (e1, .inl (ax 4, 6, .inr (.inl xvs)))]) (va_A [(d0, .inr (10, [.ref k0, .ref r0, .ref c0, .ref p0, .ref fd0, .ref w0, .ref e0, .ref b0, .ref a0, .ref y0, .ref g0, .ref i0, .int (nI ld)])), (e0, .inr (8, [.ref e1])), (e1, .inl (ax 4, 6, .inr (.inl vs)))] sz))) 0 0 (va_A [(d0, .inr (10, [.ref k0, .ref r0, .ref c0, .ref p0, .ref fd0, .ref w0, .ref e0, .ref b0, .ref a0, .ref y0, .ref g0, .ref i0, .int (nI ld)])), (e0, .inr (8, [.ref e1])), (e1, .inl (ax 4, 6, .inr (.inl vs)))] sz) := by
  refine Met.ofW (cc := b_Desk_start) (maxL := 3) (ret := none) (by decide) rfl ?_
  intro p e s m args below meth c s₁ B hml hv
  obtain ⟨rfl, hsz, hP, hK, hD0⟩ := hv
  have hx := B.exec
  have hb := B.bytes
  have hr := B.returns
  have hts := xw_hts B.pre
  have hown : s.vm.findClass R_Desk = some m.cls := findClass_of_methodNamed B.named
  have hlocks := B.notSynchronized
  subst hsz
  have hD := hD0.self (sz := s.heap.size)
  have hN := xz_entry hP
  generalize hAe : va_A [(d0, .inr (10, [.ref k0, .ref r0, .ref c0, .ref p0, .ref fd0, .ref w0, .ref e0, .ref b0, .ref a0, .ref y0, .ref g0, .ref i0, .int (nI ld)])), (e0, .inr (8, [.ref e1])), (e1, .inl (ax 4, 6, .inr (.inl vs)))] s.heap.size = A at hD hN ⊢
  have hA : ∀ q : Nat, s.heap.size ≤ q → A q := fun q h => by rw [← hAe]; exact Or.inr h
  have hS : va_S A s.heap s.heap [] := va_S.rf
  have hl0 := lv_entry ([.ref d0, .int (nI k1), .int x2]) (n := 3) (Nat.le_of_ble_eq_true rfl)
  rw [lg_entry_eq]
  generalize (lg_sl ([.ref d0, .int (nI k1), .int x2]) ++ List.replicate (3 - (lg_sl ([.ref d0, .int (nI k1), .int x2])).length) Slot.unset).toArray = ls at hl0 ⊢
  have hl1 : lv_has ls 3 [(0, .ref d0), (1, .int (nI k1)), (2, .int x2)] := hl0
  refine xw_gen (fun Z9 hQe => ?_)
  refine lv_aload_n hx hb d_Desk_start_0 rfl (lv_at hl1 0 rfl) ?_
  refine lv_iload_n hx hb d_Desk_start_1 rfl (lv_at hl1 1 rfl) ?_
  obtain ⟨hPc, hDc, hFc, hCs⟩ := xw_sub3 (wc := [(d0, .inr (10, [.ref k0, .ref r0, .ref c0, .ref p0, .ref fd0, .ref w0, .ref e0, .ref b0, .ref a0, .ref y0, .ref g0, .ref i0, .int (nI ld)]))]) hP hD hS hA [0] (by decide) rfl
  have hz := xz_of hN hS
  refine va_callv (va_runV (As := [.int (nI k1)]) (rest := []) ⟨hx, hb, hml, hown, hts⟩ (c_D_needVariable_ok l D ax d0 k0 r0 c0 p0 fd0 w0 e0 b0 a0 y0 g0 i0 ld k1 s.heap.size (by first | assumption | omega)) (xcV (n := 1) hts wd_965 wd_1 wd_962 wd_964 ps_46 rfl rfl (by decide +kernel) ⟨Nat.le_of_ble_eq_true rfl, Nat.le_of_ble_eq_true rfl⟩) (xpV (ci := 10) (q0 := 0) (As := [.int (nI k1)]) hPc hK hz hDc rfl rfl) rfl rfl hl1.1 rfl (lv_room (Nat.le_of_ble_eq_true rfl)) d_Desk_start_2 ⟨Nat.le_of_ble_eq_true rfl, Nat.le_of_ble_eq_true rfl⟩) hS (fun q _ h => hFc q h) hFc (fun u_1 t H_2 locs ht hvm hw hB hz1 hk1 hS1 => ?_)
  try dsimp only at hw
  obtain ⟨hP1, hD1⟩ := hB
  rw [ht] at hP1
  have hjn := xw_join3 (wl := [(e0, .inr (8, [.ref e1])), (e1, .inl (ax 4, 6, .inr (.inl vs))), (d0, .inr (10, [.ref k0, .ref r0, .ref c0, .ref p0, .ref fd0, .ref w0, .ref e0, .ref b0, .ref a0, .ref y0, .ref g0, .ref i0, .int (nI ld)]))]) hP hD [0] [1, 2] hCs (by decide) (by decide) hk1 hFc hP1 hD1 rfl
  clear hP1 hD1
  clear hPc hDc hFc hCs hz hz1 hk1 ht hvm
  clear hP hD hS
  have hS := hS1
  obtain ⟨hP, hD⟩ := hjn
  clear hS1
  refine lv_aload_n hx hb d_Desk_start_5 rfl (lv_at hl1 0 rfl) ?_
  refine va_get (D := D) (ci := 10) (v := .ref e0) (C := R_Desk) (T := F_Desk) (N := 13) hx hb hts i_Desk hown hK.1 hP 2 rfl rfl 6 (by decide) (hts _ wd_381) (fun _ h9 => h9) rfl d_Desk_start_6 ?_
  refine va_get (D := D) (ci := 8) (v := .ref e1) (C := R_Runner) (T := F_Runner) (N := 1) hx hb hts i_Runner hown hK.1 hP 0 rfl rfl 0 (by decide) (hts _ wd_252) (fun _ h9 => h9) rfl d_Desk_start_9 ?_
  refine lv_iload_n hx hb d_Desk_start_12 rfl (lv_at hl1 1 rfl) ?_
  refine lv_iload_n hx hb d_Desk_start_13 rfl (lv_at hl1 2 rfl) ?_
  refine lv_i2l hx hb d_Desk_start_14 rfl ?_
  refine lv_topl (fun z_4 ez_4 => ?_)
  refine va_last hx hb hK.1 hP hD hS 1 4 rfl rfl (vp_in_nI (by first | assumption | omega) (by decide)) d_Desk_start_15 (fun H_5 locs hP1 hD1 hS1 => ?_)
  rw [nI_clamp (by first | exact Nat.lt_of_lt_of_le (by assumption) (by decide) | exact Nat.lt_of_le_of_lt (by assumption) (by decide) | omega)] at hP1 hD1
  clear hP hD hS
  have hS := hS1
  have hW7 : (fun w9 : va_W => va_P D classes w9 H_5 ∧ va_D A w9) [(e0, .inr (8, [.ref e1])), (e1, .inl (ax 4, 6, .inr (.inl (vp_updL vs k1 z_4)))), (d0, .inr (10, [.ref k0, .ref r0, .ref c0, .ref p0, .ref fd0, .ref w0, .ref e0, .ref b0, .ref a0, .ref y0, .ref g0, .ref i0, .int (nI ld)]))] := ⟨hP1, hD1⟩
  obtain ⟨hP, hD⟩ := hW7
  clear hP1 hD1 hS1
  rw [← hQe]
  obtain ⟨hP9, hD9⟩ := xw_sub2 (wc := (fun (u : Nat → Nat) (xvs : Nat → Int64) => [(d0, .inr (10, [.ref k0, .ref r0, .ref c0, .ref p0, .ref fd0, .ref w0, .ref e0, .ref b0, .ref a0, .ref y0, .ref g0, .ref i0, .int (nI ld)])), (e0, .inr (8, [.ref e1])), (e1, .inl (ax 4, 6, .inr (.inl xvs)))]) (ixn []) (vp_updL vs k1 z_4)) hP hD [2, 0, 1] (by decide) rfl
  have hex0 : True := trivial
  exact W.vret hx hb hr (fun t ht hW => ⟨⟨ixn [], rfl, trivial, ⟨(vp_updL vs k1 z_4), hex0, by rw [ht]; exact hP9, hD9⟩⟩, hS.F ht⟩) hS.2.2 d_Desk_start_16
set_option maxHeartbeats 40000000 in
set_option maxRecDepth 100000 in
theorem c_D_value_ok (l : Launch) (D : va_G) (ax : Nat → ClassId) (d0 k0 r0 c0 p0 fd0 w0 e0 b0 a0 y0 g0 i0 ld e1 : Nat) (vs : Nat → Int64) (k1 : Nat) (sz : Nat) (hk1 : k1 < 6) : Met l y_Desk_value (xws (.code y_Desk_value b_Desk_value 2 (some .long))) ({ frames := 20, cells := 0, slots := 0, locals := 800 }) (va_Pc [.ref d0, .int (nI k1)] (xo D ax [(d0, .inr (10, [.ref k0, .ref r0, .ref c0, .ref p0, .ref fd0, .ref w0, .ref e0, .ref b0, .ref a0, .ref y0, .ref g0, .ref i0, .int (nI ld)])), (e0, .inr (8, [.ref e1])), (e1, .inl (ax 4, 6, .inr (.inl vs)))] sz)) ((va_Ql (fun (r : Int64) (u : Nat → Nat) => r = vs k1) (xb D (va_A [(d0, .inr (10, [.ref k0, .ref r0, .ref c0, .ref p0, .ref fd0, .ref w0, .ref e0, .ref b0, .ref a0, .ref y0, .ref g0, .ref i0, .int (nI ld)])), (e0, .inr (8, [.ref e1])), (e1, .inl (ax 4, 6, .inr (.inl vs)))] sz) (fun u => [(d0, .inr (10, [.ref k0, .ref r0, .ref c0, .ref p0, .ref fd0, .ref w0, .ref e0, .ref b0, .ref a0, .ref y0, .ref g0, .ref i0, .int (nI ld)])), (e0, .inr (8, [.ref e1])), (e1, .inl (ax 4, 6, .inr (.inl vs)))])) (va_A [(d0, .inr (10, [.ref k0, .ref r0, .ref c0, .ref p0, .ref fd0, .ref w0, .ref e0, .ref b0, .ref a0, .ref y0, .ref g0, .ref i0, .int (nI ld)])), (e0, .inr (8, [.ref e1])), (e1, .inl (ax 4, 6, .inr (.inl vs)))] sz))) 0 0 (va_A [(d0, .inr (10, [.ref k0, .ref r0, .ref c0, .ref p0, .ref fd0, .ref w0, .ref e0, .ref b0, .ref a0, .ref y0, .ref g0, .ref i0, .int (nI ld)])), (e0, .inr (8, [.ref e1])), (e1, .inl (ax 4, 6, .inr (.inl vs)))] sz) := by
  refine Met.ofW (cc := b_Desk_value) (maxL := 2) (ret := (some .long)) (by decide) rfl ?_
  intro p e s m args below meth c s₁ B hml hv
  obtain ⟨rfl, hsz, hP, hK, hD0⟩ := hv
  have hx := B.exec
  have hb := B.bytes
  have hr := B.returns
  have hts := xw_hts B.pre
  have hown : s.vm.findClass R_Desk = some m.cls := findClass_of_methodNamed B.named
  have hlocks := B.notSynchronized
  subst hsz
  have hD := hD0.self (sz := s.heap.size)
  have hN := xz_entry hP
  generalize hAe : va_A [(d0, .inr (10, [.ref k0, .ref r0, .ref c0, .ref p0, .ref fd0, .ref w0, .ref e0, .ref b0, .ref a0, .ref y0, .ref g0, .ref i0, .int (nI ld)])), (e0, .inr (8, [.ref e1])), (e1, .inl (ax 4, 6, .inr (.inl vs)))] s.heap.size = A at hD hN ⊢
  have hA : ∀ q : Nat, s.heap.size ≤ q → A q := fun q h => by rw [← hAe]; exact Or.inr h
  have hS : va_S A s.heap s.heap [] := va_S.rf
  have hl0 := lv_entry ([.ref d0, .int (nI k1)]) (n := 2) (Nat.le_of_ble_eq_true rfl)
  rw [lg_entry_eq]
  generalize (lg_sl ([.ref d0, .int (nI k1)]) ++ List.replicate (2 - (lg_sl ([.ref d0, .int (nI k1)])).length) Slot.unset).toArray = ls at hl0 ⊢
  have hl1 : lv_has ls 2 [(0, .ref d0), (1, .int (nI k1))] := hl0
  refine xw_gen (fun Z9 hQe => ?_)
  refine lv_aload_n hx hb d_Desk_value_0 rfl (lv_at hl1 0 rfl) ?_
  refine lv_iload_n hx hb d_Desk_value_1 rfl (lv_at hl1 1 rfl) ?_
  obtain ⟨hPc, hDc, hFc, hCs⟩ := xw_sub3 (wc := [(d0, .inr (10, [.ref k0, .ref r0, .ref c0, .ref p0, .ref fd0, .ref w0, .ref e0, .ref b0, .ref a0, .ref y0, .ref g0, .ref i0, .int (nI ld)]))]) hP hD hS hA [0] (by decide) rfl
  have hz := xz_of hN hS
  refine va_callv (va_runV (As := [.int (nI k1)]) (rest := []) ⟨hx, hb, hml, hown, hts⟩ (c_D_needVariable_ok l D ax d0 k0 r0 c0 p0 fd0 w0 e0 b0 a0 y0 g0 i0 ld k1 s.heap.size (by first | assumption | omega)) (xcV (n := 1) hts wd_965 wd_1 wd_962 wd_964 ps_46 rfl rfl (by decide +kernel) ⟨Nat.le_of_ble_eq_true rfl, Nat.le_of_ble_eq_true rfl⟩) (xpV (ci := 10) (q0 := 0) (As := [.int (nI k1)]) hPc hK hz hDc rfl rfl) rfl rfl hl1.1 rfl (lv_room (Nat.le_of_ble_eq_true rfl)) d_Desk_value_2 ⟨Nat.le_of_ble_eq_true rfl, Nat.le_of_ble_eq_true rfl⟩) hS (fun q _ h => hFc q h) hFc (fun u_1 t H_2 locs ht hvm hw hB hz1 hk1 hS1 => ?_)
  try dsimp only at hw
  obtain ⟨hP1, hD1⟩ := hB
  rw [ht] at hP1
  have hjn := xw_join3 (wl := [(e0, .inr (8, [.ref e1])), (e1, .inl (ax 4, 6, .inr (.inl vs))), (d0, .inr (10, [.ref k0, .ref r0, .ref c0, .ref p0, .ref fd0, .ref w0, .ref e0, .ref b0, .ref a0, .ref y0, .ref g0, .ref i0, .int (nI ld)]))]) hP hD [0] [1, 2] hCs (by decide) (by decide) hk1 hFc hP1 hD1 rfl
  clear hP1 hD1
  clear hPc hDc hFc hCs hz hz1 hk1 ht hvm
  clear hP hD hS
  have hS := hS1
  obtain ⟨hP, hD⟩ := hjn
  clear hS1
  refine lv_aload_n hx hb d_Desk_value_5 rfl (lv_at hl1 0 rfl) ?_
  refine va_get (D := D) (ci := 10) (v := .ref e0) (C := R_Desk) (T := F_Desk) (N := 13) hx hb hts i_Desk hown hK.1 hP 2 rfl rfl 6 (by decide) (hts _ wd_381) (fun _ h9 => h9) rfl d_Desk_value_6 ?_
  refine va_get (D := D) (ci := 8) (v := .ref e1) (C := R_Runner) (T := F_Runner) (N := 1) hx hb hts i_Runner hown hK.1 hP 0 rfl rfl 0 (by decide) (hts _ wd_252) (fun _ h9 => h9) rfl d_Desk_value_9 ?_
  refine lv_iload_n hx hb d_Desk_value_12 rfl (lv_at hl1 1 rfl) ?_
  refine va_lald hx hb hK.1 hP 1 4 rfl rfl (vp_in_nI (by first | assumption | omega) (by decide)) d_Desk_value_13 ?_
  refine W.eq (g2 := F0 m 14 ls [.long (vs k1)]) (by rw [nI_clamp (by first | exact Nat.lt_of_lt_of_le (by assumption) (by decide) | exact Nat.lt_of_le_of_lt (by assumption) (by decide) | omega)]) ?_
  rw [← hQe]
  obtain ⟨hP9, hD9⟩ := xw_sub2 (wc := (fun u : Nat → Nat => [(d0, .inr (10, [.ref k0, .ref r0, .ref c0, .ref p0, .ref fd0, .ref w0, .ref e0, .ref b0, .ref a0, .ref y0, .ref g0, .ref i0, .int (nI ld)])), (e0, .inr (8, [.ref e1])), (e1, .inl (ax 4, 6, .inr (.inl vs)))]) (ixn [])) hP hD [2, 0, 1] (by decide) rfl
  exact W.lret (v := vs k1) hx hb hr (fun t ht hW => ⟨⟨vs k1, ixn [], rfl, rfl, ⟨by rw [ht]; exact hP9, hD9⟩⟩, hS.F ht⟩) hS.2.2 d_Desk_value_14
abbrev b_Desk_out : ByteArray := prog_1_method_12_code
def y_Desk_out : MethodName := ⟨R_Desk, "out", "(I)I"⟩
theorem d_Desk_out_0 : decode b_Desk_out 0 = .ok (.iload_n 1, 1) := by decide +kernel
theorem d_Desk_out_1 : decode b_Desk_out 1 = .ok (.ifCond .lt 14, 3) := by decide +kernel
theorem d_Desk_out_4 : decode b_Desk_out 4 = .ok (.iload_n 1, 1) := by decide +kernel
theorem d_Desk_out_5 : decode b_Desk_out 5 = .ok (.aload_n 0, 1) := by decide +kernel
theorem d_Desk_out_6 : decode b_Desk_out 6 = .ok (.getfield 49, 3) := by decide +kernel
theorem d_Desk_out_9 : decode b_Desk_out 9 = .ok (.getfield 164, 3) := by decide +kernel
theorem d_Desk_out_12 : decode b_Desk_out 12 = .ok (.if_icmp .lt 11, 3) := by decide +kernel
theorem d_Desk_out_15 : decode b_Desk_out 15 = .ok (.new 140, 3) := by decide +kernel
theorem d_Desk_out_18 : decode b_Desk_out 18 = .ok (.dup, 1) := by decide +kernel
theorem d_Desk_out_19 : decode b_Desk_out 19 = .ok (.invokespecial 142, 3) := by decide +kernel
theorem d_Desk_out_22 : decode b_Desk_out 22 = .ok (.athrow, 1) := by decide +kernel
theorem d_Desk_out_23 : decode b_Desk_out 23 = .ok (.aload_n 0, 1) := by decide +kernel
theorem d_Desk_out_24 : decode b_Desk_out 24 = .ok (.getfield 49, 3) := by decide +kernel
theorem d_Desk_out_27 : decode b_Desk_out 27 = .ok (.getfield 167, 3) := by decide +kernel
theorem d_Desk_out_30 : decode b_Desk_out 30 = .ok (.iload_n 1, 1) := by decide +kernel
theorem d_Desk_out_31 : decode b_Desk_out 31 = .ok (.baload, 1) := by decide +kernel
theorem d_Desk_out_32 : decode b_Desk_out 32 = .ok (.ireturn, 1) := by decide +kernel
set_option maxHeartbeats 40000000 in
set_option maxRecDepth 100000 in
theorem c_D_out_no (l : Launch) (hl : l.stackTraces = false) (D : va_G) (ax : Nat → ClassId) (d0 k0 r0 c0 p0 fd0 w0 e0 b0 a0 y0 g0 i0 ld w1 zw cw : Nat) (by9 : Nat → Int32) (x1 : Int32) (sz tz : Nat) (hzw : zw ≤ 819300) (hno : ∀ j : Nat, j < zw → x1 ≠ nI j) : xt_Met l y_Desk_out (xws (.code y_Desk_out b_Desk_out 2 (some .int))) ({ frames := 10, cells := 1, slots := 6, locals := 400 }) (va_Pc [.ref d0, .int x1] (xo3 D ax [(d0, .inr (10, [.ref k0, .ref r0, .ref c0, .ref p0, .ref fd0, .ref w0, .ref e0, .ref b0, .ref a0, .ref y0, .ref g0, .ref i0, .int (nI ld)])), (w0, .inr (5, [.ref w1, .int (nI zw)])), (w1, .inl (ax 1, cw, .inl by9))] sz tz)) ((xt_U ["java/lang/IndexOutOfBoundsException"] False (fun (h9 : Heap) => ∃ u : Nat → Nat, (h9.size ≤ sz + (1)) ∧ (tsl h9 ≤ tz + (6)) ∧ va_P D classes [(d0, .inr (10, [.ref k0, .ref r0, .ref c0, .ref p0, .ref fd0, .ref w0, .ref e0, .ref b0, .ref a0, .ref y0, .ref g0, .ref i0, .int (nI ld)])), (w0, .inr (5, [.ref w1, .int (nI zw)])), (w1, .inl (ax 1, cw, .inl by9))] h9 ∧ va_D (va_A [(d0, .inr (10, [.ref k0, .ref r0, .ref c0, .ref p0, .ref fd0, .ref w0, .ref e0, .ref b0, .ref a0, .ref y0, .ref g0, .ref i0, .int (nI ld)])), (w0, .inr (5, [.ref w1, .int (nI zw)])), (w1, .inl (ax 1, cw, .inl by9))] sz) [(d0, .inr (10, [.ref k0, .ref r0, .ref c0, .ref p0, .ref fd0, .ref w0, .ref e0, .ref b0, .ref a0, .ref y0, .ref g0, .ref i0, .int (nI ld)])), (w0, .inr (5, [.ref w1, .int (nI zw)])), (w1, .inl (ax 1, cw, .inl by9))]) (va_A [(d0, .inr (10, [.ref k0, .ref r0, .ref c0, .ref p0, .ref fd0, .ref w0, .ref e0, .ref b0, .ref a0, .ref y0, .ref g0, .ref i0, .int (nI ld)])), (w0, .inr (5, [.ref w1, .int (nI zw)])), (w1, .inl (ax 1, cw, .inl by9))] sz))) 1 6 (va_A [(d0, .inr (10, [.ref k0, .ref r0, .ref c0, .ref p0, .ref fd0, .ref w0, .ref e0, .ref b0, .ref a0, .ref y0, .ref g0, .ref i0, .int (nI ld)])), (w0, .inr (5, [.ref w1, .int (nI zw)])), (w1, .inl (ax 1, cw, .inl by9))] sz) := by
  refine xt_Met.ofW (cc := b_Desk_out) (maxL := 2) (ret := (some .int)) (by decide) rfl ?_
  intro p e s m args below meth c s₁ B hml hout hv
  obtain ⟨rfl, ⟨hsz, hP, hK, hD0⟩, htz⟩ := hv
  have hx := B.exec
  have hb := B.bytes
  have hr := B.returns
  have hts := xw_hts B.pre
  have hown : s.vm.findClass R_Desk = some m.cls := findClass_of_methodNamed B.named
  have hlocks := B.notSynchronized
  have htr : e.platform.stackTraces = false := by rw [B.admits.platform]; exact hl
  subst hsz
  subst htz
  have hD := hD0.self (sz := s.heap.size)
  have hN := xz_entry hP
  generalize hAe : va_A [(d0, .inr (10, [.ref k0, .ref r0, .ref c0, .ref p0, .ref fd0, .ref w0, .ref e0, .ref b0, .ref a0, .ref y0, .ref g0, .ref i0, .int (nI ld)])), (w0, .inr (5, [.ref w1, .int (nI zw)])), (w1, .inl (ax 1, cw, .inl by9))] s.heap.size = A at hD hN ⊢
  have hA : ∀ q : Nat, s.heap.size ≤ q → A q := fun q h => by rw [← hAe]; exact Or.inr h
  have hS : va_S A s.heap s.heap [] := va_S.rf
  have hl0 := lv_entry ([.ref d0, .int x1]) (n := 2) (Nat.le_of_ble_eq_true rfl)
  rw [lg_entry_eq]
  generalize (lg_sl ([.ref d0, .int x1]) ++ List.replicate (2 - (lg_sl ([.ref d0, .int x1])).length) Slot.unset).toArray = ls at hl0 ⊢
  have hl1 : lv_has ls 2 [(0, .ref d0), (1, .int x1)] := hl0
  refine lv_iload_n hx hb d_Desk_out_0 rfl (lv_at hl1 1 rfl) ?_
  refine lv_if_lt (tgt := 15) hx hb d_Desk_out_1 (by decide) (fun c_1 => ?_) (fun c_1 => ?_)
  · refine wk_know (fun hk8 hk9 => ?_)
    obtain ⟨hP9, hD9⟩ := xw_sub2 (wc := (fun (u : Nat → Nat)  => [(d0, .inr (10, [.ref k0, .ref r0, .ref c0, .ref p0, .ref fd0, .ref w0, .ref e0, .ref b0, .ref a0, .ref y0, .ref g0, .ref i0, .int (nI ld)])), (w0, .inr (5, [.ref w1, .int (nI zw)])), (w1, .inl (ax 1, cw, .inl by9))]) ((fun _ => 0)) ) hP hD [0, 1, 2] (by decide) rfl
    have hg8 : s.heap.size + 1 ≤ s.heap.size + (1) := by omega
    have hg9 : tsl s.heap + 6 ≤ tsl s.heap + (6) := by omega
    exact xt_newG (cls := "java/lang/IndexOutOfBoundsException") (names := xe_nm) hx hb htr hown (by decide +kernel) (by decide +kernel) (fun U hW => lw_gd_good _ wd_741 _ _ _ _ (hts _ wd_741) hW) (fun U hW => lw_gd_good _ wd_24 _ _ _ _ (hts _ wd_24) hW) (fun U hW hU => xe_IOE_Desk (fun w hw => lw_gd_good w hw _ _ _ _ (hts w hw) hW) (hK.moved hW (by rw [hU]; exact xz_of hN hS))) (hl1.1.trans hml.symm) d_Desk_out_15 d_Desk_out_18 d_Desk_out_19 d_Desk_out_22 hout (Nat.le_of_ble_eq_true rfl) (Nat.le_of_ble_eq_true rfl) (Nat.le_of_ble_eq_true rfl) (Nat.le_of_ble_eq_true rfl) hlocks (fun q hq => hS.2.2 q hq) (fun x9 t9 hob h1 h2 h3 hk => ⟨Or.inl ⟨x9, _, by decide, rfl, hob⟩, ⟨(fun _ => 0), Nat.le_trans h2 hg8, Nat.le_trans h3 hg9, xp_kept hP9 hk, hD9⟩, xs_new hS h1 hk⟩)
  · refine lv_iload_n hx hb d_Desk_out_4 rfl (lv_at hl1 1 rfl) ?_
    refine lv_aload_n hx hb d_Desk_out_5 rfl (lv_at hl1 0 rfl) ?_
    refine va_get (D := D) (ci := 10) (v := .ref w0) (C := R_Desk) (T := F_Desk) (N := 13) hx hb hts i_Desk hown hK.1 hP 0 rfl rfl 5 (by decide) (hts _ wd_380) (fun _ h9 => h9) rfl d_Desk_out_6 ?_
    refine va_get (D := D) (ci := 5) (v := .int (nI zw)) (C := R_Paper) (T := F_Paper) (N := 2) hx hb hts i_Paper hown hK.1 hP 1 rfl rfl 1 (by decide) (hts _ wd_239) (fun _ h9 => h9) rfl d_Desk_out_9 ?_
    refine lv_icmp_lt (tgt := 23) hx hb d_Desk_out_12 (by decide) (fun c_2 => ?_) (fun c_2 => ?_)
    · obtain ⟨j, a2, e9⟩ := rng1 (b := zw) (by assumption) (by first | assumption | exact nlt (by assumption)) (by first | assumption | omega)
      exact absurd e9 (hno j a2)
    · refine wk_know (fun hk8 hk9 => ?_)
      obtain ⟨hP9, hD9⟩ := xw_sub2 (wc := (fun (u : Nat → Nat)  => [(d0, .inr (10, [.ref k0, .ref r0, .ref c0, .ref p0, .ref fd0, .ref w0, .ref e0, .ref b0, .ref a0, .ref y0, .ref g0, .ref i0, .int (nI ld)])), (w0, .inr (5, [.ref w1, .int (nI zw)])), (w1, .inl (ax 1, cw, .inl by9))]) ((fun _ => 0)) ) hP hD [0, 1, 2] (by decide) rfl
      have hg8 : s.heap.size + 1 ≤ s.heap.size + (1) := by omega
      have hg9 : tsl s.heap + 6 ≤ tsl s.heap + (6) := by omega
      exact xt_newG (cls := "java/lang/IndexOutOfBoundsException") (names := xe_nm) hx hb htr hown (by decide +kernel) (by decide +kernel) (fun U hW => lw_gd_good _ wd_741 _ _ _ _ (hts _ wd_741) hW) (fun U hW => lw_gd_good _ wd_24 _ _ _ _ (hts _ wd_24) hW) (fun U hW hU => xe_IOE_Desk (fun w hw => lw_gd_good w hw _ _ _ _ (hts w hw) hW) (hK.moved hW (by rw [hU]; exact xz_of hN hS))) (hl1.1.trans hml.symm) d_Desk_out_15 d_Desk_out_18 d_Desk_out_19 d_Desk_out_22 hout (Nat.le_of_ble_eq_true rfl) (Nat.le_of_ble_eq_true rfl) (Nat.le_of_ble_eq_true rfl) (Nat.le_of_ble_eq_true rfl) hlocks (fun q hq => hS.2.2 q hq) (fun x9 t9 hob h1 h2 h3 hk => ⟨Or.inl ⟨x9, _, by decide, rfl, hob⟩, ⟨(fun _ => 0), Nat.le_trans h2 hg8, Nat.le_trans h3 hg9, xp_kept hP9 hk, hD9⟩, xs_new hS h1 hk⟩)
set_option maxHeartbeats 40000000 in
set_option maxRecDepth 100000 in
theorem c_D_out_ok (l : Launch) (D : va_G) (ax : Nat → ClassId) (d0 k0 r0 c0 p0 fd0 w0 e0 b0 a0 y0 g0 i0 ld w1 zw cw : Nat) (by9 : Nat → Int32) (k1 : Nat) (sz : Nat) (hzw : zw ≤ cw) (hcw : cw ≤ 819300) (hk1 : k1 < zw) : Met l y_Desk_out (xws (.code y_Desk_out b_Desk_out 2 (some .int))) ({ frames := 10, cells := 0, slots := 0, locals := 400 }) (va_Pc [.ref d0, .int (nI k1)] (xo D ax [(d0, .inr (10, [.ref k0, .ref r0, .ref c0, .ref p0, .ref fd0, .ref w0, .ref e0, .ref b0, .ref a0, .ref y0, .ref g0, .ref i0, .int (nI ld)])), (w0, .inr (5, [.ref w1, .int (nI zw)])), (w1, .inl (ax 1, cw, .inl by9))] sz)) ((va_Qi (fun (r : Int32) (u : Nat → Nat) => r = nI (u 0)) (xb D (va_A [(d0, .inr (10, [.ref k0, .ref r0, .ref c0, .ref p0, .ref fd0, .ref w0, .ref e0, .ref b0, .ref a0, .ref y0, .ref g0, .ref i0, .int (nI ld)])), (w0, .inr (5, [.ref w1, .int (nI zw)])), (w1, .inl (ax 1, cw, .inl by9))] sz) (fun u => [(d0, .inr (10, [.ref k0, .ref r0, .ref c0, .ref p0, .ref fd0, .ref w0, .ref e0, .ref b0, .ref a0, .ref y0, .ref g0, .ref i0, .int (nI ld)])), (w0, .inr (5, [.ref w1, .int (nI zw)])), (w1, .inl (ax 1, cw, .inl by9))])) (va_A [(d0, .inr (10, [.ref k0, .ref r0, .ref c0, .ref p0, .ref fd0, .ref w0, .ref e0, .ref b0, .ref a0, .ref y0, .ref g0, .ref i0, .int (nI ld)])), (w0, .inr (5, [.ref w1, .int (nI zw)])), (w1, .inl (ax 1, cw, .inl by9))] sz))) 0 0 (va_A [(d0, .inr (10, [.ref k0, .ref r0, .ref c0, .ref p0, .ref fd0, .ref w0, .ref e0, .ref b0, .ref a0, .ref y0, .ref g0, .ref i0, .int (nI ld)])), (w0, .inr (5, [.ref w1, .int (nI zw)])), (w1, .inl (ax 1, cw, .inl by9))] sz) := by
  refine Met.ofW (cc := b_Desk_out) (maxL := 2) (ret := (some .int)) (by decide) rfl ?_
  intro p e s m args below meth c s₁ B hml hv
  obtain ⟨rfl, hsz, hP, hK, hD0⟩ := hv
  have hx := B.exec
  have hb := B.bytes
  have hr := B.returns
  have hts := xw_hts B.pre
  have hown : s.vm.findClass R_Desk = some m.cls := findClass_of_methodNamed B.named
  have hlocks := B.notSynchronized
  subst hsz
  have hD := hD0.self (sz := s.heap.size)
  have hN := xz_entry hP
  generalize hAe : va_A [(d0, .inr (10, [.ref k0, .ref r0, .ref c0, .ref p0, .ref fd0, .ref w0, .ref e0, .ref b0, .ref a0, .ref y0, .ref g0, .ref i0, .int (nI ld)])), (w0, .inr (5, [.ref w1, .int (nI zw)])), (w1, .inl (ax 1, cw, .inl by9))] s.heap.size = A at hD hN ⊢
  have hA : ∀ q : Nat, s.heap.size ≤ q → A q := fun q h => by rw [← hAe]; exact Or.inr h
  have hS : va_S A s.heap s.heap [] := va_S.rf
  have hl0 := lv_entry ([.ref d0, .int (nI k1)]) (n := 2) (Nat.le_of_ble_eq_true rfl)
  rw [lg_entry_eq]
  generalize (lg_sl ([.ref d0, .int (nI k1)]) ++ List.replicate (2 - (lg_sl ([.ref d0, .int (nI k1)])).length) Slot.unset).toArray = ls at hl0 ⊢
  have hl1 : lv_has ls 2 [(0, .ref d0), (1, .int (nI k1))] := hl0
  refine xw_gen (fun Z9 hQe => ?_)
  refine lv_iload_n hx hb d_Desk_out_0 rfl (lv_at hl1 1 rfl) ?_
  refine lv_if_lt (tgt := 15) hx hb d_Desk_out_1 (by decide) (fun c_1 => ?_) (fun c_1 => ?_)
  · exfalso
    replace c_1 : k1 < 0 := (nI_ltI (a := k1) (b := 0) (by first | exact Nat.lt_of_lt_of_le (by assumption) (by decide) | exact Nat.lt_of_le_of_lt (by assumption) (by decide) | omega) (by decide)).mp c_1
    omega
  replace c_1 : ¬ k1 < 0 := fun hq9 => c_1 ((nI_ltI (a := k1) (b := 0) (by first | exact Nat.lt_of_lt_of_le (by assumption) (by decide) | exact Nat.lt_of_le_of_lt (by assumption) (by decide) | omega) (by decide)).mpr hq9)
  refine lv_iload_n hx hb d_Desk_out_4 rfl (lv_at hl1 1 rfl) ?_
  refine lv_aload_n hx hb d_Desk_out_5 rfl (lv_at hl1 0 rfl) ?_
  refine va_get (D := D) (ci := 10) (v := .ref w0) (C := R_Desk) (T := F_Desk) (N := 13) hx hb hts i_Desk hown hK.1 hP 0 rfl rfl 5 (by decide) (hts _ wd_380) (fun _ h9 => h9) rfl d_Desk_out_6 ?_
  refine va_get (D := D) (ci := 5) (v := .int (nI zw)) (C := R_Paper) (T := F_Paper) (N := 2) hx hb hts i_Paper hown hK.1 hP 1 rfl rfl 1 (by decide) (hts _ wd_239) (fun _ h9 => h9) rfl d_Desk_out_9 ?_
  refine lv_icmp_lt (tgt := 23) hx hb d_Desk_out_12 (by decide) (fun c_2 => ?_) (fun c_2 => ?_)
  rotate_left
  · exfalso
    replace c_2 : ¬ k1 < zw := fun hq9 => c_2 ((nI_ltI (a := k1) (b := zw) (by first | exact Nat.lt_of_lt_of_le (by assumption) (by decide) | exact Nat.lt_of_le_of_lt (by assumption) (by decide) | omega) (by first | exact Nat.lt_of_lt_of_le (by assumption) (by decide) | exact Nat.lt_of_le_of_lt (by assumption) (by decide) | omega)).mpr hq9)
    omega
  replace c_2 : k1 < zw := (nI_ltI (a := k1) (b := zw) (by first | exact Nat.lt_of_lt_of_le (by assumption) (by decide) | exact Nat.lt_of_le_of_lt (by assumption) (by decide) | omega) (by first | exact Nat.lt_of_lt_of_le (by assumption) (by decide) | exact Nat.lt_of_le_of_lt (by assumption) (by decide) | omega)).mp c_2
  refine lv_aload_n hx hb d_Desk_out_23 rfl (lv_at hl1 0 rfl) ?_
  refine va_get (D := D) (ci := 10) (v := .ref w0) (C := R_Desk) (T := F_Desk) (N := 13) hx hb hts i_Desk hown hK.1 hP 0 rfl rfl 5 (by decide) (hts _ wd_380) (fun _ h9 => h9) rfl d_Desk_out_24 ?_
  refine va_get (D := D) (ci := 5) (v := .ref w1) (C := R_Paper) (T := F_Paper) (N := 2) hx hb hts i_Paper hown hK.1 hP 1 rfl rfl 0 (by decide) (hts _ wd_237) (fun _ h9 => h9) rfl d_Desk_out_27 ?_
  refine lv_iload_n hx hb d_Desk_out_30 rfl (lv_at hl1 1 rfl) ?_
  refine va_bald hx hb hK.1 hP 2 1 rfl rfl (vp_in_nI (by first | assumption | omega) (by first | exact Nat.lt_of_lt_of_le (by assumption) (by decide) | exact Nat.lt_of_le_of_lt (by assumption) (by decide) | omega)) d_Desk_out_31 ?_
  refine W.eq (g2 := F0 m 32 ls [.int (by9 k1)]) (by rw [nI_clamp (by first | exact Nat.lt_of_lt_of_le (by assumption) (by decide) | exact Nat.lt_of_le_of_lt (by assumption) (by decide) | omega)]) ?_
  rw [← hQe]
  obtain ⟨hP9, hD9⟩ := xw_sub2 (wc := (fun u : Nat → Nat => [(d0, .inr (10, [.ref k0, .ref r0, .ref c0, .ref p0, .ref fd0, .ref w0, .ref e0, .ref b0, .ref a0, .ref y0, .ref g0, .ref i0, .int (nI ld)])), (w0, .inr (5, [.ref w1, .int (nI zw)])), (w1, .inl (ax 1, cw, .inl by9))]) (ixn [(i2n (by9 k1))])) hP hD [0, 1, 2] (by decide) rfl
  exact W.iret (v := by9 k1) hx hb hr (fun t ht hW => ⟨⟨by9 k1, ixn [(i2n (by9 k1))], rfl, (nI_i2n _).symm, ⟨by rw [ht]; exact hP9, hD9⟩⟩, hS.F ht⟩) hS.2.2 d_Desk_out_32
set_option maxHeartbeats 40000000 in
set_option maxRecDepth 100000 in
theorem c_D_run_ns (l : Launch) (hl : l.stackTraces = false) (D : va_G) (ax : Nat → ClassId) (d0 k0 r0 c0 p0 fd0 w0 e0 b0 a0 y0 g0 i0 : Nat) (x1 : Int32) (sz tz : Nat) (hno : ∀ j : Nat, j ≤ 2000 → x1 ≠ nI j) : xt_Met l y_Desk_run (xws (.code y_Desk_run b_Desk_run 2 (some .int))) ({ frames := 20, cells := 1, slots := 6, locals := 800 }) (va_Pc [.ref d0, .int x1] (xo3 D ax [(d0, .inr (10, [.ref k0, .ref r0, .ref c0, .ref p0, .ref fd0, .ref w0, .ref e0, .ref b0, .ref a0, .ref y0, .ref g0, .ref i0, .int 1]))] sz tz)) ((xt_U ["java/lang/IllegalArgumentException"] False (fun (h9 : Heap) => ∃ u : Nat → Nat, (h9.size ≤ sz + (1)) ∧ (tsl h9 ≤ tz + (6)) ∧ va_P D classes [(d0, .inr (10, [.ref k0, .ref r0, .ref c0, .ref p0, .ref fd0, .ref w0, .ref e0, .ref b0, .ref a0, .ref y0, .ref g0, .ref i0, .int 1]))] h9 ∧ va_D (va_A [(d0, .inr (10, [.ref k0, .ref r0, .ref c0, .ref p0, .ref fd0, .ref w0, .ref e0, .ref b0, .ref a0, .ref y0, .ref g0, .ref i0, .int 1]))] sz) [(d0, .inr (10, [.ref k0, .ref r0, .ref c0, .ref p0, .ref fd0, .ref w0, .ref e0, .ref b0, .ref a0, .ref y0, .ref g0, .ref i0, .int 1]))]) (va_A [(d0, .inr (10, [.ref k0, .ref r0, .ref c0, .ref p0, .ref fd0, .ref w0, .ref e0, .ref b0, .ref a0, .ref y0, .ref g0, .ref i0, .int 1]))] sz))) 1 6 (va_A [(d0, .inr (10, [.ref k0, .ref r0, .ref c0, .ref p0, .ref fd0, .ref w0, .ref e0, .ref b0, .ref a0, .ref y0, .ref g0, .ref i0, .int 1]))] sz) := by
  refine xt_Met.ofW (cc := b_Desk_run) (maxL := 2) (ret := (some .int)) (by decide) rfl ?_
  intro p e s m args below meth c s₁ B hml hout hv
  obtain ⟨rfl, ⟨hsz, hP, hK, hD0⟩, htz⟩ := hv
  have hx := B.exec
  have hb := B.bytes
  have hr := B.returns
  have hts := xw_hts B.pre
  have hown : s.vm.findClass R_Desk = some m.cls := findClass_of_methodNamed B.named
  have hlocks := B.notSynchronized
  have htr : e.platform.stackTraces = false := by rw [B.admits.platform]; exact hl
  subst hsz
  subst htz
  have hD := hD0.self (sz := s.heap.size)
  have hN := xz_entry hP
  generalize hAe : va_A [(d0, .inr (10, [.ref k0, .ref r0, .ref c0, .ref p0, .ref fd0, .ref w0, .ref e0, .ref b0, .ref a0, .ref y0, .ref g0, .ref i0, .int 1]))] s.heap.size = A at hD hN ⊢
  have hA : ∀ q : Nat, s.heap.size ≤ q → A q := fun q h => by rw [← hAe]; exact Or.inr h
  have hS : va_S A s.heap s.heap [] := va_S.rf
  have hl0 := lv_entry ([.ref d0, .int x1]) (n := 2) (Nat.le_of_ble_eq_true rfl)
  rw [lg_entry_eq]
  generalize (lg_sl ([.ref d0, .int x1]) ++ List.replicate (2 - (lg_sl ([.ref d0, .int x1])).length) Slot.unset).toArray = ls at hl0 ⊢
  have hl1 : lv_has ls 2 [(0, .ref d0), (1, .int x1)] := hl0
  refine lv_aload_n hx hb d_Desk_run_0 rfl (lv_at hl1 0 rfl) ?_
  obtain ⟨hPc, hDc, hFc, hCs⟩ := xw_sub3 (wc := [(d0, .inr (10, [.ref k0, .ref r0, .ref c0, .ref p0, .ref fd0, .ref w0, .ref e0, .ref b0, .ref a0, .ref y0, .ref g0, .ref i0, .int 1]))]) hP hD hS hA [0] (by decide) rfl
  have hz := xz_of hN hS
  refine va_callv (va_runV (As := []) (rest := []) ⟨hx, hb, hml, hown, hts⟩ (c_D_needProgram_ok l D ax d0 k0 r0 c0 p0 fd0 w0 e0 b0 a0 y0 g0 i0 s.heap.size) (xcV (n := 0) hts wd_665 wd_1 wd_662 wd_664 ps_19 rfl rfl (by decide +kernel) ⟨Nat.le_of_ble_eq_true rfl, Nat.le_of_ble_eq_true rfl⟩) (xpV (ci := 10) (q0 := 0) (As := []) hPc hK hz hDc rfl rfl) rfl rfl hl1.1 rfl (lv_room (Nat.le_of_ble_eq_true rfl)) d_Desk_run_1 ⟨Nat.le_of_ble_eq_true rfl, Nat.le_of_ble_eq_true rfl⟩) hS (fun q _ h => hFc q h) hFc (fun u_1 t H_2 locs ht hvm hw hB hz1 hk1 hS1 => ?_)
  try dsimp only at hw
  obtain ⟨hP1, hD1⟩ := hB
  rw [ht] at hP1
  have hjn := xw_join3 (wl := [(d0, .inr (10, [.ref k0, .ref r0, .ref c0, .ref p0, .ref fd0, .ref w0, .ref e0, .ref b0, .ref a0, .ref y0, .ref g0, .ref i0, .int 1]))]) hP hD [0] [] hCs (by decide) (by decide) hk1 hFc hP1 hD1 rfl
  clear hP1 hD1
  clear hPc hDc hFc hCs hz hz1 hk1 ht hvm
  clear hP hD hS
  have hS := hS1
  obtain ⟨hP, hD⟩ := hjn
  clear hS1
  refine lv_iload_n hx hb d_Desk_run_4 rfl (lv_at hl1 1 rfl) ?_
  refine lv_if_lt (tgt := 15) hx hb d_Desk_run_5 (by decide) (fun c_4 => ?_) (fun c_4 => ?_)
  · refine wk_know (fun hk8 hk9 => ?_)
    obtain ⟨hP9, hD9⟩ := xw_sub2 (wc := (fun (u : Nat → Nat)  => [(d0, .inr (10, [.ref k0, .ref r0, .ref c0, .ref p0, .ref fd0, .ref w0, .ref e0, .ref b0, .ref a0, .ref y0, .ref g0, .ref i0, .int 1]))]) ((fun _ => 0)) ) hP hD [0] (by decide) rfl
    have hg8 : H_2.size + 1 ≤ s.heap.size + (1) := by omega
    have hg9 : tsl H_2 + 6 ≤ tsl s.heap + (6) := by omega
    exact xt_newG (cls := "java/lang/IllegalArgumentException") (names := xe_nm) hx hb htr hown (by decide +kernel) (by decide +kernel) (fun U hW => lw_gd_good _ wd_974 _ _ _ _ (hts _ wd_974) hW) (fun U hW => lw_gd_good _ wd_25 _ _ _ _ (hts _ wd_25) hW) (fun U hW hU => xe_IAE_Desk (fun w hw => lw_gd_good w hw _ _ _ _ (hts w hw) hW) (hK.moved hW (by rw [hU]; exact xz_of hN hS))) (hl1.1.trans hml.symm) d_Desk_run_15 d_Desk_run_18 d_Desk_run_19 d_Desk_run_22 hout (Nat.le_of_ble_eq_true rfl) (Nat.le_of_ble_eq_true rfl) (Nat.le_of_ble_eq_true rfl) (Nat.le_of_ble_eq_true rfl) hlocks (fun q hq => hS.2.2 q hq) (fun x9 t9 hob h1 h2 h3 hk => ⟨Or.inl ⟨x9, _, by decide, rfl, hob⟩, ⟨(fun _ => 0), Nat.le_trans h2 hg8, Nat.le_trans h3 hg9, xp_kept hP9 hk, hD9⟩, xs_new hS h1 hk⟩)
  · refine lv_iload_n hx hb d_Desk_run_8 rfl (lv_at hl1 1 rfl) ?_
    refine lv_sipush (v := 2000) hx hb d_Desk_run_9 (by decide) ?_
    refine lv_icmp_le (tgt := 23) hx hb d_Desk_run_12 (by decide) (fun c_5 => ?_) (fun c_5 => ?_)
    · obtain ⟨j, a1, a2, e9⟩ := rng (a := 0) (b := 2000) rfl rfl (by assumption) (by first | assumption | exact nle (by assumption))
      exact absurd e9 (hno j a2)
    · refine wk_know (fun hk8 hk9 => ?_)
      obtain ⟨hP9, hD9⟩ := xw_sub2 (wc := (fun (u : Nat → Nat)  => [(d0, .inr (10, [.ref k0, .ref r0, .ref c0, .ref p0, .ref fd0, .ref w0, .ref e0, .ref b0, .ref a0, .ref y0, .ref g0, .ref i0, .int 1]))]) ((fun _ => 0)) ) hP hD [0] (by decide) rfl
      have hg8 : H_2.size + 1 ≤ s.heap.size + (1) := by omega
      have hg9 : tsl H_2 + 6 ≤ tsl s.heap + (6) := by omega
      exact xt_newG (cls := "java/lang/IllegalArgumentException") (names := xe_nm) hx hb htr hown (by decide +kernel) (by decide +kernel) (fun U hW => lw_gd_good _ wd_974 _ _ _ _ (hts _ wd_974) hW) (fun U hW => lw_gd_good _ wd_25 _ _ _ _ (hts _ wd_25) hW) (fun U hW hU => xe_IAE_Desk (fun w hw => lw_gd_good w hw _ _ _ _ (hts w hw) hW) (hK.moved hW (by rw [hU]; exact xz_of hN hS))) (hl1.1.trans hml.symm) d_Desk_run_15 d_Desk_run_18 d_Desk_run_19 d_Desk_run_22 hout (Nat.le_of_ble_eq_true rfl) (Nat.le_of_ble_eq_true rfl) (Nat.le_of_ble_eq_true rfl) (Nat.le_of_ble_eq_true rfl) hlocks (fun q hq => hS.2.2 q hq) (fun x9 t9 hob h1 h2 h3 hk => ⟨Or.inl ⟨x9, _, by decide, rfl, hob⟩, ⟨(fun _ => 0), Nat.le_trans h2 hg8, Nat.le_trans h3 hg9, xp_kept hP9 hk, hD9⟩, xs_new hS h1 hk⟩)
set_option maxHeartbeats 40000000 in
set_option maxRecDepth 100000 in
theorem c_D_run_ok (l : Launch) (D : va_G) (ax : Nat → ClassId) (d0 k0 r0 c0 p0 fd0 w0 e0 b0 a0 y0 g0 i0 e1 h0 g1 g2 g3 g4 g5 g6 g7 g8 g9 ga gb cl ln br lp va h1 h2 h3 zs cs : Nat) (tm so sl sr : Nat → Int32) (kd ow sb f1 f2 te kp nm ck co : Nat → Nat) (vs : Nat → Int64) (en kc : Nat → Nat) (k1 : Nat) (sz : Nat) (hzs : zs ≤ cs) (hcs : cs ≤ 100000) (hsv : ndv so sl sr zs) (hlw : lsw ln zs kd ow sb f1 f2 te kp nm en kc tm so sl sr) (hln1 : 1 ≤ ln) (hk1 : k1 ≤ 2000) : Met l y_Desk_run (xws (.code y_Desk_run b_Desk_run 2 (some .int))) ({ frames := 1320, cells := 0, slots := 0, locals := 27300 }) (va_Pc [.ref d0, .int (nI k1)] (xo D ax [(d0, .inr (10, [.ref k0, .ref r0, .ref c0, .ref p0, .ref fd0, .ref w0, .ref e0, .ref b0, .ref a0, .ref y0, .ref g0, .ref i0, .int 1])), (e0, .inr (8, [.ref e1])), (e1, .inl (ax 4, 6, .inr (.inl vs))), (g0, .inr (2, [.ref h0, .ref g1, .ref g2, .ref g3, .ref g4, .ref g5, .ref g6, .ref g7, .ref g8, .ref g9, .ref ga, .ref gb, .int (nI cl), .int (nI ln), .int (nI br), .int (nI lp), .int (nI va)])), (g1, .inl (ax 1, 20, .inl (fun j => nI (kd j)))), (g2, .inl (ax 1, 20, .inl (fun j => nI (ow j)))), (g3, .inl (ax 1, 20, .inl (fun j => nI (sb j)))), (g4, .inl (ax 1, 20, .inl (fun j => nI (f1 j)))), (g5, .inl (ax 1, 20, .inl (fun j => nI (f2 j)))), (g6, .inl (ax 2, 20, .inl (fun j => nI (te j)))), (g7, .inl (ax 2, 20, .inl (fun j => nI (kp j)))), (g8, .inl (ax 0, 20, .inl tm)), (g9, .inl (ax 1, 20, .inl (fun j => nI (nm j)))), (ga, .inl (ax 1, 29, .inl (fun j => nI (ck j)))), (gb, .inl (ax 1, 29, .inl (fun j => nI (co j)))), (h0, .inr (4, [.ref h1, .ref h2, .ref h3, .int (nI zs)])), (h1, .inl (ax 1, cs, .inl so)), (h2, .inl (ax 0, cs, .inl sl)), (h3, .inl (ax 0, cs, .inl sr))] sz)) ((va_Qi (fun (r : Int32) (u : Nat → Nat) => r = nI (u 0)) (fun (u : Nat → Nat) (t9 : State) => ∃ xvs : Nat → Int64, (True) ∧ va_P D classes [(d0, .inr (10, [.ref k0, .ref r0, .ref c0, .ref p0, .ref fd0, .ref w0, .ref e0, .ref b0, .ref a0, .ref y0, .ref g0, .ref i0, .int 1])), (e0, .inr (8, [.ref e1])), (e1, .inl (ax 4, 6, .inr (.inl xvs))), (g0, .inr (2, [.ref h0, .ref g1, .ref g2, .ref g3, .ref g4, .ref g5, .ref g6, .ref g7, .ref g8, .ref g9, .ref ga, .ref gb, .int (nI cl), .int (nI ln), .int (nI br), .int (nI lp), .int (nI va)])), (g1, .inl (ax 1, 20, .inl (fun j => nI (kd j)))), (g2, .inl (ax 1, 20, .inl (fun j => nI (ow j)))), (g3, .inl (ax 1, 20, .inl (fun j => nI (sb j)))), (g4, .inl (ax 1, 20, .inl (fun j => nI (f1 j)))), (g5, .inl (ax 1, 20, .inl (fun j => nI (f2 j)))), (g6, .inl (ax 2, 20, .inl (fun j => nI (te j)))), (g7, .inl (ax 2, 20, .inl (fun j => nI (kp j)))), (g8, .inl (ax 0, 20, .inl tm)), (g9, .inl (ax 1, 20, .inl (fun j => nI (nm j)))), (ga, .inl (ax 1, 29, .inl (fun j => nI (ck j)))), (gb, .inl (ax 1, 29, .inl (fun j => nI (co j)))), (h0, .inr (4, [.ref h1, .ref h2, .ref h3, .int (nI zs)])), (h1, .inl (ax 1, cs, .inl so)), (h2, .inl (ax 0, cs, .inl sl)), (h3, .inl (ax 0, cs, .inl sr))] t9.heap ∧ va_D (va_A [(d0, .inr (10, [.ref k0, .ref r0, .ref c0, .ref p0, .ref fd0, .ref w0, .ref e0, .ref b0, .ref a0, .ref y0, .ref g0, .ref i0, .int 1])), (e0, .inr (8, [.ref e1])), (e1, .inl (ax 4, 6, .inr (.inl vs))), (g0, .inr (2, [.ref h0, .ref g1, .ref g2, .ref g3, .ref g4, .ref g5, .ref g6, .ref g7, .ref g8, .ref g9, .ref ga, .ref gb, .int (nI cl), .int (nI ln), .int (nI br), .int (nI lp), .int (nI va)])), (g1, .inl (ax 1, 20, .inl (fun j => nI (kd j)))), (g2, .inl (ax 1, 20, .inl (fun j => nI (ow j)))), (g3, .inl (ax 1, 20, .inl (fun j => nI (sb j)))), (g4, .inl (ax 1, 20, .inl (fun j => nI (f1 j)))), (g5, .inl (ax 1, 20, .inl (fun j => nI (f2 j)))), (g6, .inl (ax 2, 20, .inl (fun j => nI (te j)))), (g7, .inl (ax 2, 20, .inl (fun j => nI (kp j)))), (g8, .inl (ax 0, 20, .inl tm)), (g9, .inl (ax 1, 20, .inl (fun j => nI (nm j)))), (ga, .inl (ax 1, 29, .inl (fun j => nI (ck j)))), (gb, .inl (ax 1, 29, .inl (fun j => nI (co j)))), (h0, .inr (4, [.ref h1, .ref h2, .ref h3, .int (nI zs)])), (h1, .inl (ax 1, cs, .inl so)), (h2, .inl (ax 0, cs, .inl sl)), (h3, .inl (ax 0, cs, .inl sr))] sz) [(d0, .inr (10, [.ref k0, .ref r0, .ref c0, .ref p0, .ref fd0, .ref w0, .ref e0, .ref b0, .ref a0, .ref y0, .ref g0, .ref i0, .int 1])), (e0, .inr (8, [.ref e1])), (e1, .inl (ax 4, 6, .inr (.inl xvs))), (g0, .inr (2, [.ref h0, .ref g1, .ref g2, .ref g3, .ref g4, .ref g5, .ref g6, .ref g7, .ref g8, .ref g9, .ref ga, .ref gb, .int (nI cl), .int (nI ln), .int (nI br), .int (nI lp), .int (nI va)])), (g1, .inl (ax 1, 20, .inl (fun j => nI (kd j)))), (g2, .inl (ax 1, 20, .inl (fun j => nI (ow j)))), (g3, .inl (ax 1, 20, .inl (fun j => nI (sb j)))), (g4, .inl (ax 1, 20, .inl (fun j => nI (f1 j)))), (g5, .inl (ax 1, 20, .inl (fun j => nI (f2 j)))), (g6, .inl (ax 2, 20, .inl (fun j => nI (te j)))), (g7, .inl (ax 2, 20, .inl (fun j => nI (kp j)))), (g8, .inl (ax 0, 20, .inl tm)), (g9, .inl (ax 1, 20, .inl (fun j => nI (nm j)))), (ga, .inl (ax 1, 29, .inl (fun j => nI (ck j)))), (gb, .inl (ax 1, 29, .inl (fun j => nI (co j)))), (h0, .inr (4, [.ref h1, .ref h2, .ref h3, .int (nI zs)])), (h1, .inl (ax 1, cs, .inl so)), (h2, .inl (ax 0, cs, .inl sl)), (h3, .inl (ax 0, cs, .inl sr))]) (va_A [(d0, .inr (10, [.ref k0, .ref r0, .ref c0, .ref p0, .ref fd0, .ref w0, .ref e0, .ref b0, .ref a0, .ref y0, .ref g0, .ref i0, .int 1])), (e0, .inr (8, [.ref e1])), (e1, .inl (ax 4, 6, .inr (.inl vs))), (g0, .inr (2, [.ref h0, .ref g1, .ref g2, .ref g3, .ref g4, .ref g5, .ref g6, .ref g7, .ref g8, .ref g9, .ref ga, .ref gb, .int (nI cl), .int (nI ln), .int (nI br), .int (nI lp), .int (nI va)])), (g1, .inl (ax 1, 20, .inl (fun j => nI (kd j)))), (g2, .inl (ax 1, 20, .inl (fun j => nI (ow j)))), (g3, .inl (ax 1, 20, .inl (fun j => nI (sb j)))), (g4, .inl (ax 1, 20, .inl (fun j => nI (f1 j)))), (g5, .inl (ax 1, 20, .inl (fun j => nI (f2 j)))), (g6, .inl (ax 2, 20, .inl (fun j => nI (te j)))), (g7, .inl (ax 2, 20, .inl (fun j => nI (kp j)))), (g8, .inl (ax 0, 20, .inl tm)), (g9, .inl (ax 1, 20, .inl (fun j => nI (nm j)))), (ga, .inl (ax 1, 29, .inl (fun j => nI (ck j)))), (gb, .inl (ax 1, 29, .inl (fun j => nI (co j)))), (h0, .inr (4, [.ref h1, .ref h2, .ref h3, .int (nI zs)])), (h1, .inl (ax 1, cs, .inl so)), (h2, .inl (ax 0, cs, .inl sl)), (h3, .inl (ax 0, cs, .inl sr))] sz))) 0 0 (va_A [(d0, .inr (10, [.ref k0, .ref r0, .ref c0, .ref p0, .ref fd0, .ref w0, .ref e0, .ref b0, .ref a0, .ref y0, .ref g0, .ref i0, .int 1])), (e0, .inr (8, [.ref e1])), (e1, .inl (ax 4, 6, .inr (.inl vs))), (g0, .inr (2, [.ref h0, .ref g1, .ref g2, .ref g3, .ref g4, .ref g5, .ref g6, .ref g7, .ref g8, .ref g9, .ref ga, .ref gb, .int (nI cl), .int (nI ln), .int (nI br), .int (nI lp), .int (nI va)])), (g1, .inl (ax 1, 20, .inl (fun j => nI (kd j)))), (g2, .inl (ax 1, 20, .inl (fun j => nI (ow j)))), (g3, .inl (ax 1, 20, .inl (fun j => nI (sb j)))), (g4, .inl (ax 1, 20, .inl (fun j => nI (f1 j)))), (g5, .inl (ax 1, 20, .inl (fun j => nI (f2 j)))), (g6, .inl (ax 2, 20, .inl (fun j => nI (te j)))), (g7, .inl (ax 2, 20, .inl (fun j => nI (kp j)))), (g8, .inl (ax 0, 20, .inl tm)), (g9, .inl (ax 1, 20, .inl (fun j => nI (nm j)))), (ga, .inl (ax 1, 29, .inl (fun j => nI (ck j)))), (gb, .inl (ax 1, 29, .inl (fun j => nI (co j)))), (h0, .inr (4, [.ref h1, .ref h2, .ref h3, .int (nI zs)])), (h1, .inl (ax 1, cs, .inl so)), (h2, .inl (ax 0, cs, .inl sl)), (h3, .inl (ax 0, cs, .inl sr))] sz) := by
  refine Met.ofW (cc := b_Desk_run) (maxL := 2) (ret := (some .int)) (by decide) rfl ?_
  intro p e s m args below meth c s₁ B hml hv
  obtain ⟨rfl, hsz, hP, hK, hD0⟩ := hv
  have hx := B.exec
  have hb := B.bytes
  have hr := B.returns
  have hts := xw_hts B.pre
  have hown : s.vm.findClass R_Desk = some m.cls := findClass_of_methodNamed B.named
  have hlocks := B.notSynchronized
  subst hsz
  have hD := hD0.self (sz := s.heap.size)
  have hN := xz_entry hP
  generalize hAe : va_A [(d0, .inr (10, [.ref k0, .ref r0, .ref c0, .ref p0, .ref fd0, .ref w0, .ref e0, .ref b0, .ref a0, .ref y0, .ref g0, .ref i0, .int 1])), (e0, .inr (8, [.ref e1])), (e1, .inl (ax 4, 6, .inr (.inl vs))), (g0, .inr (2, [.ref h0, .ref g1, .ref g2, .ref g3, .ref g4, .ref g5, .ref g6, .ref g7, .ref g8, .ref g9, .ref ga, .ref gb, .int (nI cl), .int (nI ln), .int (nI br), .int (nI lp), .int (nI va)])), (g1, .inl (ax 1, 20, .inl (fun j => nI (kd j)))), (g2, .inl (ax 1, 20, .inl (fun j => nI (ow j)))), (g3, .inl (ax 1, 20, .inl (fun j => nI (sb j)))), (g4, .inl (ax 1, 20, .inl (fun j => nI (f1 j)))), (g5, .inl (ax 1, 20, .inl (fun j => nI (f2 j)))), (g6, .inl (ax 2, 20, .inl (fun j => nI (te j)))), (g7, .inl (ax 2, 20, .inl (fun j => nI (kp j)))), (g8, .inl (ax 0, 20, .inl tm)), (g9, .inl (ax 1, 20, .inl (fun j => nI (nm j)))), (ga, .inl (ax 1, 29, .inl (fun j => nI (ck j)))), (gb, .inl (ax 1, 29, .inl (fun j => nI (co j)))), (h0, .inr (4, [.ref h1, .ref h2, .ref h3, .int (nI zs)])), (h1, .inl (ax 1, cs, .inl so)), (h2, .inl (ax 0, cs, .inl sl)), (h3, .inl (ax 0, cs, .inl sr))] s.heap.size = A at hD hN ⊢
  have hA : ∀ q : Nat, s.heap.size ≤ q → A q := fun q h => by rw [← hAe]; exact Or.inr h
  have hS : va_S A s.heap s.heap [] := va_S.rf
  have hl0 := lv_entry ([.ref d0, .int (nI k1)]) (n := 2) (Nat.le_of_ble_eq_true rfl)
  rw [lg_entry_eq]
  generalize (lg_sl ([.ref d0, .int (nI k1)]) ++ List.replicate (2 - (lg_sl ([.ref d0, .int (nI k1)])).length) Slot.unset).toArray = ls at hl0 ⊢
  have hl1 : lv_has ls 2 [(0, .ref d0), (1, .int (nI k1))] := hl0
  refine xw_gen (fun Z9 hQe => ?_)
  refine lv_aload_n hx hb d_Desk_run_0 rfl (lv_at hl1 0 rfl) ?_
  obtain ⟨hPc, hDc, hFc, hCs⟩ := xw_sub3 (wc := [(d0, .inr (10, [.ref k0, .ref r0, .ref c0, .ref p0, .ref fd0, .ref w0, .ref e0, .ref b0, .ref a0, .ref y0, .ref g0, .ref i0, .int 1]))]) hP hD hS hA [0] (by decide) rfl
  have hz := xz_of hN hS
  refine va_callv (va_runV (As := []) (rest := []) ⟨hx, hb, hml, hown, hts⟩ (c_D_needProgram_ok l D ax d0 k0 r0 c0 p0 fd0 w0 e0 b0 a0 y0 g0 i0 s.heap.size) (xcV (n := 0) hts wd_665 wd_1 wd_662 wd_664 ps_19 rfl rfl (by decide +kernel) ⟨(show (10) + 1 ≤ (1320) by omega), (show 8 + (1 + 11) + (400) ≤ (27300) by omega)⟩) (xpV (ci := 10) (q0 := 0) (As := []) hPc hK hz hDc rfl rfl) rfl rfl hl1.1 rfl (lv_room (Nat.le_of_ble_eq_true rfl)) d_Desk_run_1 ⟨Nat.le_of_ble_eq_true rfl, Nat.le_of_ble_eq_true rfl⟩) hS (fun q _ h => hFc q h) hFc (fun u_1 t H_2 locs ht hvm hw hB hz1 hk1 hS1 => ?_)
  try dsimp only at hw
  obtain ⟨hP1, hD1⟩ := hB
  rw [ht] at hP1
  have hjn := xw_join3 (wl := [(e0, .inr (8, [.ref e1])), (e1, .inl (ax 4, 6, .inr (.inl vs))), (g0, .inr (2, [.ref h0, .ref g1, .ref g2, .ref g3, .ref g4, .ref g5, .ref g6, .ref g7, .ref g8, .ref g9, .ref ga, .ref gb, .int (nI cl), .int (nI ln), .int (nI br), .int (nI lp), .int (nI va)])), (g1, .inl (ax 1, 20, .inl (fun j => nI (kd j)))), (g2, .inl (ax 1, 20, .inl (fun j => nI (ow j)))), (g3, .inl (ax 1, 20, .inl (fun j => nI (sb j)))), (g4, .inl (ax 1, 20, .inl (fun j => nI (f1 j)))), (g5, .inl (ax 1, 20, .inl (fun j => nI (f2 j)))), (g6, .inl (ax 2, 20, .inl (fun j => nI (te j)))), (g7, .inl (ax 2, 20, .inl (fun j => nI (kp j)))), (g8, .inl (ax 0, 20, .inl tm)), (g9, .inl (ax 1, 20, .inl (fun j => nI (nm j)))), (ga, .inl (ax 1, 29, .inl (fun j => nI (ck j)))), (gb, .inl (ax 1, 29, .inl (fun j => nI (co j)))), (h0, .inr (4, [.ref h1, .ref h2, .ref h3, .int (nI zs)])), (h1, .inl (ax 1, cs, .inl so)), (h2, .inl (ax 0, cs, .inl sl)), (h3, .inl (ax 0, cs, .inl sr)), (d0, .inr (10, [.ref k0, .ref r0, .ref c0, .ref p0, .ref fd0, .ref w0, .ref e0, .ref b0, .ref a0, .ref y0, .ref g0, .ref i0, .int 1]))]) hP hD [0] [1, 2, 3, 4, 5, 6, 7, 8, 9, 10, 11, 12, 13, 14, 15, 16, 17, 18] hCs (by decide) (by decide) hk1 hFc hP1 hD1 rfl
  clear hP1 hD1
  clear hPc hDc hFc hCs hz hz1 hk1 ht hvm
  clear hP hD hS
  have hS := hS1
  obtain ⟨hP, hD⟩ := hjn
  clear hS1
  have hzz9 := hlw.2.2
  refine lv_iload_n hx hb d_Desk_run_4 rfl (lv_at hl1 1 rfl) ?_
  refine lv_if_lt (tgt := 15) hx hb d_Desk_run_5 (by decide) (fun c_4 => ?_) (fun c_4 => ?_)
  · exfalso
    replace c_4 : k1 < 0 := (nI_ltI (a := k1) (b := 0) (by first | exact Nat.lt_of_lt_of_le (by assumption) (by decide) | exact Nat.lt_of_le_of_lt (by assumption) (by decide) | omega) (by decide)).mp c_4
    omega
  replace c_4 : ¬ k1 < 0 := fun hq9 => c_4 ((nI_ltI (a := k1) (b := 0) (by first | exact Nat.lt_of_lt_of_le (by assumption) (by decide) | exact Nat.lt_of_le_of_lt (by assumption) (by decide) | omega) (by decide)).mpr hq9)
  refine lv_iload_n hx hb d_Desk_run_8 rfl (lv_at hl1 1 rfl) ?_
  refine lv_sipush (v := 2000) hx hb d_Desk_run_9 (by decide) ?_
  refine lv_icmp_le (tgt := 23) hx hb d_Desk_run_12 (by decide) (fun c_5 => ?_) (fun c_5 => ?_)
  rotate_left
  · exfalso
    replace c_5 : ¬ k1 ≤ 2000 := fun hq9 => c_5 ((nI_leI (a := k1) (b := 2000) (by first | exact Nat.lt_of_lt_of_le (by assumption) (by decide) | exact Nat.lt_of_le_of_lt (by assumption) (by decide) | omega) (by decide)).mpr hq9)
    omega
  replace c_5 : k1 ≤ 2000 := (nI_leI (a := k1) (b := 2000) (by first | exact Nat.lt_of_lt_of_le (by assumption) (by decide) | exact Nat.lt_of_le_of_lt (by assumption) (by decide) | omega) (by decide)).mp c_5
  refine lv_aload_n hx hb d_Desk_run_23 rfl (lv_at hl1 0 rfl) ?_
  refine va_get (D := D) (ci := 10) (v := .ref e0) (C := R_Desk) (T := F_Desk) (N := 13) hx hb hts i_Desk hown hK.1 hP 18 rfl rfl 6 (by decide) (hts _ wd_381) (fun _ h9 => h9) rfl d_Desk_run_24 ?_
  refine lv_aload_n hx hb d_Desk_run_27 rfl (lv_at hl1 0 rfl) ?_
  refine va_get (D := D) (ci := 10) (v := .ref g0) (C := R_Desk) (T := F_Desk) (N := 13) hx hb hts i_Desk hown hK.1 hP 18 rfl rfl 10 (by decide) (hts _ wd_385) (fun _ h9 => h9) rfl d_Desk_run_28 ?_
  refine lv_iload_n hx hb d_Desk_run_31 rfl (lv_at hl1 1 rfl) ?_
  obtain ⟨hPc, hDc, hFc, hCs⟩ := xw_sub3 (wc := [(e0, .inr (8, [.ref e1])), (e1, .inl (ax 4, 6, .inr (.inl vs))), (h0, .inr (4, [.ref h1, .ref h2, .ref h3, .int (nI zs)])), (h1, .inl (ax 1, cs, .inl so)), (h2, .inl (ax 0, cs, .inl sl)), (h3, .inl (ax 0, cs, .inl sr)), (g0, .inr (2, [.ref h0, .ref g1, .ref g2, .ref g3, .ref g4, .ref g5, .ref g6, .ref g7, .ref g8, .ref g9, .ref ga, .ref gb, .int (nI cl), .int (nI ln), .int (nI br), .int (nI lp), .int (nI va)])), (g1, .inl (ax 1, 20, .inl (fun j => nI (kd j)))), (g2, .inl (ax 1, 20, .inl (fun j => nI (ow j)))), (g3, .inl (ax 1, 20, .inl (fun j => nI (sb j)))), (g4, .inl (ax 1, 20, .inl (fun j => nI (f1 j)))), (g5, .inl (ax 1, 20, .inl (fun j => nI (f2 j)))), (g6, .inl (ax 2, 20, .inl (fun j => nI (te j)))), (g7, .inl (ax 2, 20, .inl (fun j => nI (kp j)))), (g8, .inl (ax 0, 20, .inl tm)), (g9, .inl (ax 1, 20, .inl (fun j => nI (nm j)))), (ga, .inl (ax 1, 29, .inl (fun j => nI (ck j)))), (gb, .inl (ax 1, 29, .inl (fun j => nI (co j))))]) hP hD hS hA [0, 1, 14, 15, 16, 17, 2, 3, 4, 5, 6, 7, 8, 9, 10, 11, 12, 13] (by decide) rfl
  have hz := xz_of hN hS
  refine va_calli (va_runV (As := [.ref g0, .int (nI k1)]) (rest := []) ⟨hx, hb, hml, hown, hts⟩ (c_E_go l D ax e0 e1 vs h0 h1 h2 h3 cs zs so sl sr g0 g1 g2 g3 g4 g5 g6 g7 g8 g9 ga gb cl ln br lp va kd ow sb f1 f2 te kp nm ck co tm k1 H_2.size (by first | assumption | omega) (by first | assumption | omega) (by first | assumption | omega) hsv (hlw.lsf hln1) (by first | assumption | omega)) (xcV (n := 2) hts wd_992 wd_11 wd_989 wd_990 wd_991 rfl rfl (by decide +kernel) ⟨(show (1310) + 1 ≤ (1320) by omega), (show 8 + (7 + 11) + (27100) ≤ (27300) by omega)⟩) (xpV (ci := 8) (q0 := 0) (As := [.ref g0, .int (nI k1)]) hPc hK hz hDc rfl rfl) rfl rfl hl1.1 rfl (lv_room (Nat.le_of_ble_eq_true rfl)) d_Desk_run_32 ⟨Nat.le_of_ble_eq_true rfl, Nat.le_of_ble_eq_true rfl⟩) hS (fun q _ h => hFc q h) hFc (fun r_8 u_6 t H_7 locs ht hvm hw hB hz1 hk1 hS1 => ?_)
  try dsimp only at hw
  obtain ⟨hw, hs_9⟩ := hw
  subst hw
  obtain ⟨x_10, hx_11, hP1, hD1⟩ := hB
  rw [ht] at hP1
  have hjn := xw_join3 (wl := [(d0, .inr (10, [.ref k0, .ref r0, .ref c0, .ref p0, .ref fd0, .ref w0, .ref e0, .ref b0, .ref a0, .ref y0, .ref g0, .ref i0, .int 1])), (e0, .inr (8, [.ref e1])), (e1, .inl (ax 4, 6, .inr (.inl x_10))), (h0, .inr (4, [.ref h1, .ref h2, .ref h3, .int (nI zs)])), (h1, .inl (ax 1, cs, .inl so)), (h2, .inl (ax 0, cs, .inl sl)), (h3, .inl (ax 0, cs, .inl sr)), (g0, .inr (2, [.ref h0, .ref g1, .ref g2, .ref g3, .ref g4, .ref g5, .ref g6, .ref g7, .ref g8, .ref g9, .ref ga, .ref gb, .int (nI cl), .int (nI ln), .int (nI br), .int (nI lp), .int (nI va)])), (g1, .inl (ax 1, 20, .inl (fun j => nI (kd j)))), (g2, .inl (ax 1, 20, .inl (fun j => nI (ow j)))), (g3, .inl (ax 1, 20, .inl (fun j => nI (sb j)))), (g4, .inl (ax 1, 20, .inl (fun j => nI (f1 j)))), (g5, .inl (ax 1, 20, .inl (fun j => nI (f2 j)))), (g6, .inl (ax 2, 20, .inl (fun j => nI (te j)))), (g7, .inl (ax 2, 20, .inl (fun j => nI (kp j)))), (g8, .inl (ax 0, 20, .inl tm)), (g9, .inl (ax 1, 20, .inl (fun j => nI (nm j)))), (ga, .inl (ax 1, 29, .inl (fun j => nI (ck j)))), (gb, .inl (ax 1, 29, .inl (fun j => nI (co j))))]) hP hD [0, 1, 14, 15, 16, 17, 2, 3, 4, 5, 6, 7, 8, 9, 10, 11, 12, 13] [18] hCs (by decide) (by decide) hk1 hFc hP1 hD1 rfl
  clear hP1 hD1
  clear hPc hDc hFc hCs hz hz1 hk1 ht hvm
  clear hP hD hS
  have hS := hS1
  obtain ⟨hP, hD⟩ := hjn
  clear hS1
  rw [← hQe]
  obtain ⟨hP9, hD9⟩ := xw_sub2 (wc := (fun (u : Nat → Nat) (xvs : Nat → Int64) => [(d0, .inr (10, [.ref k0, .ref r0, .ref c0, .ref p0, .ref fd0, .ref w0, .ref e0, .ref b0, .ref a0, .ref y0, .ref g0, .ref i0, .int 1])), (e0, .inr (8, [.ref e1])), (e1, .inl (ax 4, 6, .inr (.inl xvs))), (g0, .inr (2, [.ref h0, .ref g1, .ref g2, .ref g3, .ref g4, .ref g5, .ref g6, .ref g7, .ref g8, .ref g9, .ref ga, .ref gb, .int (nI cl), .int (nI ln), .int (nI br), .int (nI lp), .int (nI va)])), (g1, .inl (ax 1, 20, .inl (fun j => nI (kd j)))), (g2, .inl (ax 1, 20, .inl (fun j => nI (ow j)))), (g3, .inl (ax 1, 20, .inl (fun j => nI (sb j)))), (g4, .inl (ax 1, 20, .inl (fun j => nI (f1 j)))), (g5, .inl (ax 1, 20, .inl (fun j => nI (f2 j)))), (g6, .inl (ax 2, 20, .inl (fun j => nI (te j)))), (g7, .inl (ax 2, 20, .inl (fun j => nI (kp j)))), (g8, .inl (ax 0, 20, .inl tm)), (g9, .inl (ax 1, 20, .inl (fun j => nI (nm j)))), (ga, .inl (ax 1, 29, .inl (fun j => nI (ck j)))), (gb, .inl (ax 1, 29, .inl (fun j => nI (co j)))), (h0, .inr (4, [.ref h1, .ref h2, .ref h3, .int (nI zs)])), (h1, .inl (ax 1, cs, .inl so)), (h2, .inl (ax 0, cs, .inl sl)), (h3, .inl (ax 0, cs, .inl sr))]) (ixn [(u_6 0)]) x_10) hP hD [0, 1, 2, 7, 8, 9, 10, 11, 12, 13, 14, 15, 16, 17, 18, 3, 4, 5, 6] (by decide) rfl
  have hex0 : True := trivial
  exact W.iret (v := nI (u_6 0)) hx hb hr (fun t ht hW => ⟨⟨nI (u_6 0), ixn [(u_6 0)], rfl, rfl, ⟨x_10, hex0, by rw [ht]; exact hP9, hD9⟩⟩, hS.F ht⟩) hS.2.2 d_Desk_run_35
abbrev b_Desk_holds : ByteArray := prog_1_method_16_code
def y_Desk_holds : MethodName := ⟨R_Desk, "holds", "(I)Z"⟩
theorem d_Desk_holds_0 : decode b_Desk_holds 0 = .ok (.iload_n 1, 1) := by decide +kernel
theorem d_Desk_holds_1 : decode b_Desk_holds 1 = .ok (.ifCond .eq 16, 3) := by decide +kernel
theorem d_Desk_holds_4 : decode b_Desk_holds 4 = .ok (.iload_n 1, 1) := by decide +kernel
theorem d_Desk_holds_5 : decode b_Desk_holds 5 = .ok (.iconst 1, 1) := by decide +kernel
theorem d_Desk_holds_6 : decode b_Desk_holds 6 = .ok (.if_icmp .eq 11, 3) := by decide +kernel
theorem d_Desk_holds_9 : decode b_Desk_holds 9 = .ok (.new 140, 3) := by decide +kernel
theorem d_Desk_holds_12 : decode b_Desk_holds 12 = .ok (.dup, 1) := by decide +kernel
theorem d_Desk_holds_13 : decode b_Desk_holds 13 = .ok (.invokespecial 142, 3) := by decide +kernel
theorem d_Desk_holds_16 : decode b_Desk_holds 16 = .ok (.athrow, 1) := by decide +kernel
theorem d_Desk_holds_17 : decode b_Desk_holds 17 = .ok (.iload_n 1, 1) := by decide +kernel
theorem d_Desk_holds_18 : decode b_Desk_holds 18 = .ok (.ifCond .ne 10, 3) := by decide +kernel
theorem d_Desk_holds_21 : decode b_Desk_holds 21 = .ok (.aload_n 0, 1) := by decide +kernel
theorem d_Desk_holds_22 : decode b_Desk_holds 22 = .ok (.getfield 63, 3) := by decide +kernel
theorem d_Desk_holds_25 : decode b_Desk_holds 25 = .ok (.goto 7, 3) := by decide +kernel
theorem d_Desk_holds_28 : decode b_Desk_holds 28 = .ok (.aload_n 0, 1) := by decide +kernel
theorem d_Desk_holds_29 : decode b_Desk_holds 29 = .ok (.getfield 67, 3) := by decide +kernel
theorem d_Desk_holds_32 : decode b_Desk_holds 32 = .ok (.astore_n 2, 1) := by decide +kernel
theorem d_Desk_holds_33 : decode b_Desk_holds 33 = .ok (.aload_n 0, 1) := by decide +kernel
theorem d_Desk_holds_34 : decode b_Desk_holds 34 = .ok (.getfield 56, 3) := by decide +kernel
theorem d_Desk_holds_37 : decode b_Desk_holds 37 = .ok (.aload_n 2, 1) := by decide +kernel
theorem d_Desk_holds_38 : decode b_Desk_holds 38 = .ok (.aload_n 2, 1) := by decide +kernel
theorem d_Desk_holds_39 : decode b_Desk_holds 39 = .ok (.invokevirtual 184, 3) := by decide +kernel
theorem d_Desk_holds_42 : decode b_Desk_holds 42 = .ok (.invokevirtual 188, 3) := by decide +kernel
theorem d_Desk_holds_45 : decode b_Desk_holds 45 = .ok (.ireturn, 1) := by decide +kernel
set_option maxHeartbeats 40000000 in
set_option maxRecDepth 100000 in
theorem c_D_holds_no (l : Launch) (hl : l.stackTraces = false) (D : va_G) (ax : Nat → ClassId) (d0 k0 r0 c0 p0 fd0 w0 e0 b0 a0 y0 g0 i0 ld : Nat) (x1 : Int32) (sz tz : Nat) (hq0 : ¬ x1 = 0) (hq1 : ¬ x1 = 1) : xt_Met l y_Desk_holds (xws (.code y_Desk_holds b_Desk_holds 3 (some .boolean))) ({ frames := 10, cells := 1, slots := 6, locals := 400 }) (va_Pc [.ref d0, .int x1] (xo3 D ax [(d0, .inr (10, [.ref k0, .ref r0, .ref c0, .ref p0, .ref fd0, .ref w0, .ref e0, .ref b0, .ref a0, .ref y0, .ref g0, .ref i0, .int (nI ld)]))] sz tz)) ((xt_U ["java/lang/IndexOutOfBoundsException"] False (fun (h9 : Heap) => ∃ u : Nat → Nat, (h9.size ≤ sz + (1)) ∧ (tsl h9 ≤ tz + (6)) ∧ va_P D classes [(d0, .inr (10, [.ref k0, .ref r0, .ref c0, .ref p0, .ref fd0, .ref w0, .ref e0, .ref b0, .ref a0, .ref y0, .ref g0, .ref i0, .int (nI ld)]))] h9 ∧ va_D (va_A [(d0, .inr (10, [.ref k0, .ref r0, .ref c0, .ref p0, .ref fd0, .ref w0, .ref e0, .ref b0, .ref a0, .ref y0, .ref g0, .ref i0, .int (nI ld)]))] sz) [(d0, .inr (10, [.ref k0, .ref r0, .ref c0, .ref p0, .ref fd0, .ref w0, .ref e0, .ref b0, .ref a0, .ref y0, .ref g0, .ref i0, .int (nI ld)]))]) (va_A [(d0, .inr (10, [.ref k0, .ref r0, .ref c0, .ref p0, .ref fd0, .ref w0, .ref e0, .ref b0, .ref a0, .ref y0, .ref g0, .ref i0, .int (nI ld)]))] sz))) 1 6 (va_A [(d0, .inr (10, [.ref k0, .ref r0, .ref c0, .ref p0, .ref fd0, .ref w0, .ref e0, .ref b0, .ref a0, .ref y0, .ref g0, .ref i0, .int (nI ld)]))] sz) := by
  refine xt_Met.ofW (cc := b_Desk_holds) (maxL := 3) (ret := (some .boolean)) (by decide) rfl ?_
  intro p e s m args below meth c s₁ B hml hout hv
  obtain ⟨rfl, ⟨hsz, hP, hK, hD0⟩, htz⟩ := hv
  have hx := B.exec
  have hb := B.bytes
  have hr := B.returns
  have hts := xw_hts B.pre
  have hown : s.vm.findClass R_Desk = some m.cls := findClass_of_methodNamed B.named
  have hlocks := B.notSynchronized
  have htr : e.platform.stackTraces = false := by rw [B.admits.platform]; exact hl
  subst hsz
  subst htz
  have hD := hD0.self (sz := s.heap.size)
  have hN := xz_entry hP
  generalize hAe : va_A [(d0, .inr (10, [.ref k0, .ref r0, .ref c0, .ref p0, .ref fd0, .ref w0, .ref e0, .ref b0, .ref a0, .ref y0, .ref g0, .ref i0, .int (nI ld)]))] s.heap.size = A at hD hN ⊢
  have hA : ∀ q : Nat, s.heap.size ≤ q → A q := fun q h => by rw [← hAe]; exact Or.inr h
  have hS : va_S A s.heap s.heap [] := va_S.rf
  have hl0 := lv_entry ([.ref d0, .int x1]) (n := 3) (Nat.le_of_ble_eq_true rfl)
  rw [lg_entry_eq]
  generalize (lg_sl ([.ref d0, .int x1]) ++ List.replicate (3 - (lg_sl ([.ref d0, .int x1])).length) Slot.unset).toArray = ls at hl0 ⊢
  have hl1 : lv_has ls 3 [(0, .ref d0), (1, .int x1)] := hl0
  refine lv_iload_n hx hb d_Desk_holds_0 rfl (lv_at hl1 1 rfl) ?_
  refine lv_if_eq (tgt := 17) hx hb d_Desk_holds_1 (by decide) (fun c_1 => ?_) (fun c_1 => ?_)
  · exact absurd c_1 hq0
  refine lv_iload_n hx hb d_Desk_holds_4 rfl (lv_at hl1 1 rfl) ?_
  refine lv_iconst (v := 1) hx hb d_Desk_holds_5 (by decide) ?_
  refine lv_icmp_eq (tgt := 17) hx hb d_Desk_holds_6 (by decide) (fun c_2 => ?_) (fun c_2 => ?_)
  · exact absurd c_2 hq1
  refine wk_know (fun hk8 hk9 => ?_)
  obtain ⟨hP9, hD9⟩ := xw_sub2 (wc := (fun (u : Nat → Nat)  => [(d0, .inr (10, [.ref k0, .ref r0, .ref c0, .ref p0, .ref fd0, .ref w0, .ref e0, .ref b0, .ref a0, .ref y0, .ref g0, .ref i0, .int (nI ld)]))]) ((fun _ => 0)) ) hP hD [0] (by decide) rfl
  have hg8 : s.heap.size + 1 ≤ s.heap.size + (1) := by omega
  have hg9 : tsl s.heap + 6 ≤ tsl s.heap + (6) := by omega
  exact xt_newG (cls := "java/lang/IndexOutOfBoundsException") (names := xe_nm) hx hb htr hown (by decide +kernel) (by decide +kernel) (fun U hW => lw_gd_good _ wd_741 _ _ _ _ (hts _ wd_741) hW) (fun U hW => lw_gd_good _ wd_24 _ _ _ _ (hts _ wd_24) hW) (fun U hW hU => xe_IOE_Desk (fun w hw => lw_gd_good w hw _ _ _ _ (hts w hw) hW) (hK.moved hW (by rw [hU]; exact xz_of hN hS))) (hl1.1.trans hml.symm) d_Desk_holds_9 d_Desk_holds_12 d_Desk_holds_13 d_Desk_holds_16 hout (Nat.le_of_ble_eq_true rfl) (Nat.le_of_ble_eq_true rfl) (Nat.le_of_ble_eq_true rfl) (Nat.le_of_ble_eq_true rfl) hlocks (fun q hq => hS.2.2 q hq) (fun x9 t9 hob h1 h2 h3 hk => ⟨Or.inl ⟨x9, _, by decide, rfl, hob⟩, ⟨(fun _ => 0), Nat.le_trans h2 hg8, Nat.le_trans h3 hg9, xp_kept hP9 hk, hD9⟩, xs_new hS h1 hk⟩)
set_option maxHeartbeats 40000000 in
set_option maxRecDepth 100000 in
theorem c_D_holds_0 (l : Launch) (D : va_G) (ax : Nat → ClassId) (d0 k0 r0 c0 p0 fd0 w0 e0 b0 a0 y0 g0 i0 ld e1 b1 b2 b3 zb cb : Nat) (bo bl bq : Nat → Int32) (vs : Nat → Int64) (sz : Nat) (h1 : 1 ≤ zb) (h2 : zb ≤ cb) (h3 : cb ≤ 100000) (h4 : ndv bo bl bq zb) (h5 : zb ≤ 450) : Met l y_Desk_holds (xws (.code y_Desk_holds b_Desk_holds 3 (some .boolean))) ({ frames := 1000, cells := 0, slots := 0, locals := 20500 }) (va_Pc [.ref d0, .int 0] (xo D ax [(d0, .inr (10, [.ref k0, .ref r0, .ref c0, .ref p0, .ref fd0, .ref w0, .ref e0, .ref b0, .ref a0, .ref y0, .ref g0, .ref i0, .int (nI ld)])), (e0, .inr (8, [.ref e1])), (e1, .inl (ax 4, 6, .inr (.inl vs))), (b0, .inr (4, [.ref b1, .ref b2, .ref b3, .int (nI zb)])), (b1, .inl (ax 1, cb, .inl bo)), (b2, .inl (ax 0, cb, .inl bl)), (b3, .inl (ax 0, cb, .inl bq))] sz)) ((va_Qi (fun (r : Int32) (u : Nat → Nat) => r = nI (u 0) ∧ (u 0 ≤ 1)) (xb D (va_A [(d0, .inr (10, [.ref k0, .ref r0, .ref c0, .ref p0, .ref fd0, .ref w0, .ref e0, .ref b0, .ref a0, .ref y0, .ref g0, .ref i0, .int (nI ld)])), (e0, .inr (8, [.ref e1])), (e1, .inl (ax 4, 6, .inr (.inl vs))), (b0, .inr (4, [.ref b1, .ref b2, .ref b3, .int (nI zb)])), (b1, .inl (ax 1, cb, .inl bo)), (b2, .inl (ax 0, cb, .inl bl)), (b3, .inl (ax 0, cb, .inl bq))] sz) (fun u => [(d0, .inr (10, [.ref k0, .ref r0, .ref c0, .ref p0, .ref fd0, .ref w0, .ref e0, .ref b0, .ref a0, .ref y0, .ref g0, .ref i0, .int (nI ld)])), (e0, .inr (8, [.ref e1])), (e1, .inl (ax 4, 6, .inr (.inl vs))), (b0, .inr (4, [.ref b1, .ref b2, .ref b3, .int (nI zb)])), (b1, .inl (ax 1, cb, .inl bo)), (b2, .inl (ax 0, cb, .inl bl)), (b3, .inl (ax 0, cb, .inl bq))])) (va_A [(d0, .inr (10, [.ref k0, .ref r0, .ref c0, .ref p0, .ref fd0, .ref w0, .ref e0, .ref b0, .ref a0, .ref y0, .ref g0, .ref i0, .int (nI ld)])), (e0, .inr (8, [.ref e1])), (e1, .inl (ax 4, 6, .inr (.inl vs))), (b0, .inr (4, [.ref b1, .ref b2, .ref b3, .int (nI zb)])), (b1, .inl (ax 1, cb, .inl bo)), (b2, .inl (ax 0, cb, .inl bl)), (b3, .inl (ax 0, cb, .inl bq))] sz))) 0 0 (va_A [(d0, .inr (10, [.ref k0, .ref r0, .ref c0, .ref p0, .ref fd0, .ref w0, .ref e0, .ref b0, .ref a0, .ref y0, .ref g0, .ref i0, .int (nI ld)])), (e0, .inr (8, [.ref e1])), (e1, .inl (ax 4, 6, .inr (.inl vs))), (b0, .inr (4, [.ref b1, .ref b2, .ref b3, .int (nI zb)])), (b1, .inl (ax 1, cb, .inl bo)), (b2, .inl (ax 0, cb, .inl bl)), (b3, .inl (ax 0, cb, .inl bq))] sz) := by
  refine Met.ofW (cc := b_Desk_holds) (maxL := 3) (ret := (some .boolean)) (by decide) rfl ?_
  intro p e s m args below meth c s₁ B hml hv
  obtain ⟨rfl, hsz, hP, hK, hD0⟩ := hv
  have hx := B.exec
  have hb := B.bytes
  have hr := B.returns
  have hts := xw_hts B.pre
  have hown : s.vm.findClass R_Desk = some m.cls := findClass_of_methodNamed B.named
  have hlocks := B.notSynchronized
  subst hsz
  have hD := hD0.self (sz := s.heap.size)
  have hN := xz_entry hP
  generalize hAe : va_A [(d0, .inr (10, [.ref k0, .ref r0, .ref c0, .ref p0, .ref fd0, .ref w0, .ref e0, .ref b0, .ref a0, .ref y0, .ref g0, .ref i0, .int (nI ld)])), (e0, .inr (8, [.ref e1])), (e1, .inl (ax 4, 6, .inr (.inl vs))), (b0, .inr (4, [.ref b1, .ref b2, .ref b3, .int (nI zb)])), (b1, .inl (ax 1, cb, .inl bo)), (b2, .inl (ax 0, cb, .inl bl)), (b3, .inl (ax 0, cb, .inl bq))] s.heap.size = A at hD hN ⊢
  have hA : ∀ q : Nat, s.heap.size ≤ q → A q := fun q h => by rw [← hAe]; exact Or.inr h
  have hS : va_S A s.heap s.heap [] := va_S.rf
  have hl0 := lv_entry ([.ref d0, .int 0]) (n := 3) (Nat.le_of_ble_eq_true rfl)
  rw [lg_entry_eq]
  generalize (lg_sl ([.ref d0, .int 0]) ++ List.replicate (3 - (lg_sl ([.ref d0, .int 0])).length) Slot.unset).toArray = ls at hl0 ⊢
  have hl1 : lv_has ls 3 [(0, .ref d0), (1, .int 0)] := hl0
  refine xw_gen (fun Z9 hQe => ?_)
  refine lv_iload_n hx hb d_Desk_holds_0 rfl (lv_at hl1 1 rfl) ?_
  refine lv_if_eq (tgt := 17) hx hb d_Desk_holds_1 (by decide) (fun c_1 => ?_) (fun c_1 => ?_)
  rotate_left
  · first | exact absurd c_1 (by decide) | exact absurd (by decide) c_1
  refine lv_iload_n hx hb d_Desk_holds_17 rfl (lv_at hl1 1 rfl) ?_
  refine lv_if_ne (tgt := 28) hx hb d_Desk_holds_18 (by decide) (fun c_2 => ?_) (fun c_2 => ?_)
  · first | exact absurd c_2 (by decide) | exact absurd (by decide) c_2
  refine lv_aload_n hx hb d_Desk_holds_21 rfl (lv_at hl1 0 rfl) ?_
  refine va_get (D := D) (ci := 10) (v := .ref b0) (C := R_Desk) (T := F_Desk) (N := 13) hx hb hts i_Desk hown hK.1 hP 0 rfl rfl 7 (by decide) (hts _ wd_382) (fun _ h9 => h9) rfl d_Desk_holds_22 ?_
  refine lv_goto (tgt := 32) hx hb d_Desk_holds_25 (by decide) ?_
  refine lv_astore_n (lv' := [(2, .ref b0), (0, .ref d0), (1, .int 0)]) hx hb d_Desk_holds_32 rfl hl1 (by decide) rfl (fun ls hl2 => ?_)
  clear hl1; have hl1 := hl2; clear hl2
  refine lv_aload_n hx hb d_Desk_holds_33 rfl (lv_at hl1 1 rfl) ?_
  refine va_get (D := D) (ci := 10) (v := .ref e0) (C := R_Desk) (T := F_Desk) (N := 13) hx hb hts i_Desk hown hK.1 hP 0 rfl rfl 6 (by decide) (hts _ wd_381) (fun _ h9 => h9) rfl d_Desk_holds_34 ?_
  refine lv_aload_n hx hb d_Desk_holds_37 rfl (lv_at hl1 0 rfl) ?_
  refine lv_aload_n hx hb d_Desk_holds_38 rfl (lv_at hl1 0 rfl) ?_
  obtain ⟨hPc, hDc, hFc, hCs⟩ := xw_sub3 (wc := [(b0, .inr (4, [.ref b1, .ref b2, .ref b3, .int (nI zb)])), (b1, .inl (ax 1, cb, .inl bo)), (b2, .inl (ax 0, cb, .inl bl)), (b3, .inl (ax 0, cb, .inl bq))]) hP hD hS hA [3, 4, 5, 6] (by decide) rfl
  have hz := xz_of hN hS
  refine va_calli (va_runV (As := []) (rest := [.ref b0, .ref e0]) ⟨hx, hb, hml, hown, hts⟩ (c_Nodes_root l D ax b0 b1 b2 b3 cb zb bo bl bq s.heap.size h1) (xcV (n := 0) hts wd_772 wd_5 wd_1023 wd_770 wd_771 rfl rfl (by decide +kernel) ⟨(show (10) + 1 ≤ (1000) by omega), (show 8 + (1 + 11) + (400) ≤ (20500) by omega)⟩) (xpV (ci := 4) (q0 := 0) (As := []) hPc hK hz hDc rfl rfl) rfl rfl hl1.1 rfl (lv_room (Nat.le_of_ble_eq_true rfl)) d_Desk_holds_39 ⟨Nat.le_of_ble_eq_true rfl, Nat.le_of_ble_eq_true rfl⟩) hS (fun q _ h => hFc q h) hFc (fun r_5 u_3 t H_4 locs ht hvm hw hB hz1 hk1 hS1 => ?_)
  try dsimp only at hw
  subst hw
  obtain ⟨hP1, hD1⟩ := hB
  rw [ht] at hP1
  have hjn := xw_join3 (wl := [(d0, .inr (10, [.ref k0, .ref r0, .ref c0, .ref p0, .ref fd0, .ref w0, .ref e0, .ref b0, .ref a0, .ref y0, .ref g0, .ref i0, .int (nI ld)])), (e0, .inr (8, [.ref e1])), (e1, .inl (ax 4, 6, .inr (.inl vs))), (b0, .inr (4, [.ref b1, .ref b2, .ref b3, .int (nI zb)])), (b1, .inl (ax 1, cb, .inl bo)), (b2, .inl (ax 0, cb, .inl bl)), (b3, .inl (ax 0, cb, .inl bq))]) hP hD [3, 4, 5, 6] [0, 1, 2] hCs (by decide) (by decide) hk1 hFc hP1 hD1 rfl
  clear hP1 hD1
  clear hPc hDc hFc hCs hz hz1 hk1 ht hvm
  clear hP hD hS
  have hS := hS1
  obtain ⟨hP, hD⟩ := hjn
  clear hS1
  obtain ⟨hPc, hDc, hFc, hCs⟩ := xw_sub3 (wc := [(e0, .inr (8, [.ref e1])), (e1, .inl (ax 4, 6, .inr (.inl vs))), (b0, .inr (4, [.ref b1, .ref b2, .ref b3, .int (nI zb)])), (b1, .inl (ax 1, cb, .inl bo)), (b2, .inl (ax 0, cb, .inl bl)), (b3, .inl (ax 0, cb, .inl bq))]) hP hD hS hA [1, 2, 3, 4, 5, 6] (by decide) rfl
  have hz := xz_of hN hS
  refine va_calli (va_runV (As := [.ref b0, .int (nI (zb - 1))]) (rest := []) ⟨hx, hb, hml, hown, hts⟩ ((E_truth_all l (zb - 1)) D ax e0 e1 vs b0 b1 b2 b3 cb zb bo bl bq H_4.size (by first | assumption | omega) (by first | assumption | omega) (by first | assumption | omega) h4) (xcV (n := 2) hts wd_1005 wd_11 wd_1024 wd_1003 wd_1004 rfl rfl (by decide +kernel) ⟨(show (30 + 2 * (zb - 1)) + 1 ≤ (1000) by omega), (show 8 + (5 + 11) + (1200 + 40 * (zb - 1)) ≤ (20500) by omega)⟩) (xpV (ci := 8) (q0 := 0) (As := [.ref b0, .int (nI (zb - 1))]) hPc hK hz hDc rfl rfl) rfl rfl hl1.1 rfl (lv_room (Nat.le_of_ble_eq_true rfl)) d_Desk_holds_42 ⟨Nat.le_of_ble_eq_true rfl, Nat.le_of_ble_eq_true rfl⟩) hS (fun q _ h => hFc q h) hFc (fun r_8 u_6 t H_7 locs ht hvm hw hB hz1 hk1 hS1 => ?_)
  try dsimp only at hw
  obtain ⟨hw, hs_9⟩ := hw
  subst hw
  obtain ⟨hP1, hD1⟩ := hB
  rw [ht] at hP1
  have hjn := xw_join3 (wl := [(d0, .inr (10, [.ref k0, .ref r0, .ref c0, .ref p0, .ref fd0, .ref w0, .ref e0, .ref b0, .ref a0, .ref y0, .ref g0, .ref i0, .int (nI ld)])), (e0, .inr (8, [.ref e1])), (e1, .inl (ax 4, 6, .inr (.inl vs))), (b0, .inr (4, [.ref b1, .ref b2, .ref b3, .int (nI zb)])), (b1, .inl (ax 1, cb, .inl bo)), (b2, .inl (ax 0, cb, .inl bl)), (b3, .inl (ax 0, cb, .inl bq))]) hP hD [1, 2, 3, 4, 5, 6] [0] hCs (by decide) (by decide) hk1 hFc hP1 hD1 rfl
  clear hP1 hD1
  clear hPc hDc hFc hCs hz hz1 hk1 ht hvm
  clear hP hD hS
  have hS := hS1
  obtain ⟨hP, hD⟩ := hjn
  clear hS1
  rw [← hQe]
  obtain ⟨hP9, hD9⟩ := xw_sub2 (wc := (fun u : Nat → Nat => [(d0, .inr (10, [.ref k0, .ref r0, .ref c0, .ref p0, .ref fd0, .ref w0, .ref e0, .ref b0, .ref a0, .ref y0, .ref g0, .ref i0, .int (nI ld)])), (e0, .inr (8, [.ref e1])), (e1, .inl (ax 4, 6, .inr (.inl vs))), (b0, .inr (4, [.ref b1, .ref b2, .ref b3, .int (nI zb)])), (b1, .inl (ax 1, cb, .inl bo)), (b2, .inl (ax 0, cb, .inl bl)), (b3, .inl (ax 0, cb, .inl bq))]) (ixn [(u_6 0)])) hP hD [0, 1, 2, 3, 4, 5, 6] (by decide) rfl
  have hsp0 : (u_6 0) ≤ 1 := (by first | assumption | omega)
  exact W.zret (v := nI (u_6 0)) hx hb hr (nI_bool (by first | assumption | omega)) (fun t ht hW => ⟨⟨nI (u_6 0), ixn [(u_6 0)], rfl, ⟨rfl, hsp0⟩, ⟨by rw [ht]; exact hP9, hD9⟩⟩, hS.F ht⟩) hS.2.2 d_Desk_holds_45
set_option maxHeartbeats 40000000 in
set_option maxRecDepth 100000 in
theorem c_D_holds_1 (l : Launch) (D : va_G) (ax : Nat → ClassId) (d0 k0 r0 c0 p0 fd0 w0 e0 b0 a0 y0 g0 i0 ld e1 a1 a2 a3 za ca : Nat) (ao al ar : Nat → Int32) (vs : Nat → Int64) (sz : Nat) (h1 : 1 ≤ za) (h2 : za ≤ ca) (h3 : ca ≤ 100000) (h4 : ndv ao al ar za) (h5 : za ≤ 450) : Met l y_Desk_holds (xws (.code y_Desk_holds b_Desk_holds 3 (some .boolean))) ({ frames := 1000, cells := 0, slots := 0, locals := 20500 }) (va_Pc [.ref d0, .int 1] (xo D ax [(d0, .inr (10, [.ref k0, .ref r0, .ref c0, .ref p0, .ref fd0, .ref w0, .ref e0, .ref b0, .ref a0, .ref y0, .ref g0, .ref i0, .int (nI ld)])), (e0, .inr (8, [.ref e1])), (e1, .inl (ax 4, 6, .inr (.inl vs))), (a0, .inr (4, [.ref a1, .ref a2, .ref a3, .int (nI za)])), (a1, .inl (ax 1, ca, .inl ao)), (a2, .inl (ax 0, ca, .inl al)), (a3, .inl (ax 0, ca, .inl ar))] sz)) ((va_Qi (fun (r : Int32) (u : Nat → Nat) => r = nI (u 0) ∧ (u 0 ≤ 1)) (xb D (va_A [(d0, .inr (10, [.ref k0, .ref r0, .ref c0, .ref p0, .ref fd0, .ref w0, .ref e0, .ref b0, .ref a0, .ref y0, .ref g0, .ref i0, .int (nI ld)])), (e0, .inr (8, [.ref e1])), (e1, .inl (ax 4, 6, .inr (.inl vs))), (a0, .inr (4, [.ref a1, .ref a2, .ref a3, .int (nI za)])), (a1, .inl (ax 1, ca, .inl ao)), (a2, .inl (ax 0, ca, .inl al)), (a3, .inl (ax 0, ca, .inl ar))] sz) (fun u => [(d0, .inr (10, [.ref k0, .ref r0, .ref c0, .ref p0, .ref fd0, .ref w0, .ref e0, .ref b0, .ref a0, .ref y0, .ref g0, .ref i0, .int (nI ld)])), (e0, .inr (8, [.ref e1])), (e1, .inl (ax 4, 6, .inr (.inl vs))), (a0, .inr (4, [.ref a1, .ref a2, .ref a3, .int (nI za)])), (a1, .inl (ax 1, ca, .inl ao)), (a2, .inl (ax 0, ca, .inl al)), (a3, .inl (ax 0, ca, .inl ar))])) (va_A [(d0, .inr (10, [.ref k0, .ref r0, .ref c0, .ref p0, .ref fd0, .ref w0, .ref e0, .ref b0, .ref a0, .ref y0, .ref g0, .ref i0, .int (nI ld)])), (e0, .inr (8, [.ref e1])), (e1, .inl (ax 4, 6, .inr (.inl vs))), (a0, .inr (4, [.ref a1, .ref a2, .ref a3, .int (nI za)])), (a1, .inl (ax 1, ca, .inl ao)), (a2, .inl (ax 0, ca, .inl al)), (a3, .inl (ax 0, ca, .inl ar))] sz))) 0 0 (va_A [(d0, .inr (10, [.ref k0, .ref r0, .ref c0, .ref p0, .ref fd0, .ref w0, .ref e0, .ref b0, .ref a0, .ref y0, .ref g0, .ref i0, .int (nI ld)])), (e0, .inr (8, [.ref e1])), (e1, .inl (ax 4, 6, .inr (.inl vs))), (a0, .inr (4, [.ref a1, .ref a2, .ref a3, .int (nI za)])), (a1, .inl (ax 1, ca, .inl ao)), (a2, .inl (ax 0, ca, .inl al)), (a3, .inl (ax 0, ca, .inl ar))] sz) := by
  refine Met.ofW (cc := b_Desk_holds) (maxL := 3) (ret := (some .boolean)) (by decide) rfl ?_
  intro p e s m args below meth c s₁ B hml hv
  obtain ⟨rfl, hsz, hP, hK, hD0⟩ := hv
  have hx := B.exec
  have hb := B.bytes
  have hr := B.returns
  have hts := xw_hts B.pre
  have hown : s.vm.findClass R_Desk = some m.cls := findClass_of_methodNamed B.named
  have hlocks := B.notSynchronized
  subst hsz
  have hD := hD0.self (sz := s.heap.size)
  have hN := xz_entry hP
  generalize hAe : va_A [(d0, .inr (10, [.ref k0, .ref r0, .ref c0, .ref p0, .ref fd0, .ref w0, .ref e0, .ref b0, .ref a0, .ref y0, .ref g0, .ref i0, .int (nI ld)])), (e0, .inr (8, [.ref e1])), (e1, .inl (ax 4, 6, .inr (.inl vs))), (a0, .inr (4, [.ref a1, .ref a2, .ref a3, .int (nI za)])), (a1, .inl (ax 1, ca, .inl ao)), (a2, .inl (ax 0, ca, .inl al)), (a3, .inl (ax 0, ca, .inl ar))] s.heap.size = A at hD hN ⊢
  have hA : ∀ q : Nat, s.heap.size ≤ q → A q := fun q h => by rw [← hAe]; exact Or.inr h
  have hS : va_S A s.heap s.heap [] := va_S.rf
  have hl0 := lv_entry ([.ref d0, .int 1]) (n := 3) (Nat.le_of_ble_eq_true rfl)
  rw [lg_entry_eq]
  generalize (lg_sl ([.ref d0, .int 1]) ++ List.replicate (3 - (lg_sl ([.ref d0, .int 1])).length) Slot.unset).toArray = ls at hl0 ⊢
  have hl1 : lv_has ls 3 [(0, .ref d0), (1, .int 1)] := hl0
  refine xw_gen (fun Z9 hQe => ?_)
  refine lv_iload_n hx hb d_Desk_holds_0 rfl (lv_at hl1 1 rfl) ?_
  refine lv_if_eq (tgt := 17) hx hb d_Desk_holds_1 (by decide) (fun c_1 => ?_) (fun c_1 => ?_)
  · first | exact absurd c_1 (by decide) | exact absurd (by decide) c_1
  refine lv_iload_n hx hb d_Desk_holds_4 rfl (lv_at hl1 1 rfl) ?_
  refine lv_iconst (v := 1) hx hb d_Desk_holds_5 (by decide) ?_
  refine lv_icmp_eq (tgt := 17) hx hb d_Desk_holds_6 (by decide) (fun c_2 => ?_) (fun c_2 => ?_)
  rotate_left
  · first | exact absurd c_2 (by decide) | exact absurd (by decide) c_2
  refine lv_iload_n hx hb d_Desk_holds_17 rfl (lv_at hl1 1 rfl) ?_
  refine lv_if_ne (tgt := 28) hx hb d_Desk_holds_18 (by decide) (fun c_3 => ?_) (fun c_3 => ?_)
  rotate_left
  · first | exact absurd c_3 (by decide) | exact absurd (by decide) c_3
  refine lv_aload_n hx hb d_Desk_holds_28 rfl (lv_at hl1 0 rfl) ?_
  refine va_get (D := D) (ci := 10) (v := .ref a0) (C := R_Desk) (T := F_Desk) (N := 13) hx hb hts i_Desk hown hK.1 hP 0 rfl rfl 8 (by decide) (hts _ wd_383) (fun _ h9 => h9) rfl d_Desk_holds_29 ?_
  refine lv_astore_n (lv' := [(2, .ref a0), (0, .ref d0), (1, .int 1)]) hx hb d_Desk_holds_32 rfl hl1 (by decide) rfl (fun ls hl2 => ?_)
  clear hl1; have hl1 := hl2; clear hl2
  refine lv_aload_n hx hb d_Desk_holds_33 rfl (lv_at hl1 1 rfl) ?_
  refine va_get (D := D) (ci := 10) (v := .ref e0) (C := R_Desk) (T := F_Desk) (N := 13) hx hb hts i_Desk hown hK.1 hP 0 rfl rfl 6 (by decide) (hts _ wd_381) (fun _ h9 => h9) rfl d_Desk_holds_34 ?_
  refine lv_aload_n hx hb d_Desk_holds_37 rfl (lv_at hl1 0 rfl) ?_
  refine lv_aload_n hx hb d_Desk_holds_38 rfl (lv_at hl1 0 rfl) ?_
  obtain ⟨hPc, hDc, hFc, hCs⟩ := xw_sub3 (wc := [(a0, .inr (4, [.ref a1, .ref a2, .ref a3, .int (nI za)])), (a1, .inl (ax 1, ca, .inl ao)), (a2, .inl (ax 0, ca, .inl al)), (a3, .inl (ax 0, ca, .inl ar))]) hP hD hS hA [3, 4, 5, 6] (by decide) rfl
  have hz := xz_of hN hS
  refine va_calli (va_runV (As := []) (rest := [.ref a0, .ref e0]) ⟨hx, hb, hml, hown, hts⟩ (c_Nodes_root l D ax a0 a1 a2 a3 ca za ao al ar s.heap.size h1) (xcV (n := 0) hts wd_772 wd_5 wd_1023 wd_770 wd_771 rfl rfl (by decide +kernel) ⟨(show (10) + 1 ≤ (1000) by omega), (show 8 + (1 + 11) + (400) ≤ (20500) by omega)⟩) (xpV (ci := 4) (q0 := 0) (As := []) hPc hK hz hDc rfl rfl) rfl rfl hl1.1 rfl (lv_room (Nat.le_of_ble_eq_true rfl)) d_Desk_holds_39 ⟨Nat.le_of_ble_eq_true rfl, Nat.le_of_ble_eq_true rfl⟩) hS (fun q _ h => hFc q h) hFc (fun r_6 u_4 t H_5 locs ht hvm hw hB hz1 hk1 hS1 => ?_)
  try dsimp only at hw
  subst hw
  obtain ⟨hP1, hD1⟩ := hB
  rw [ht] at hP1
  have hjn := xw_join3 (wl := [(d0, .inr (10, [.ref k0, .ref r0, .ref c0, .ref p0, .ref fd0, .ref w0, .ref e0, .ref b0, .ref a0, .ref y0, .ref g0, .ref i0, .int (nI ld)])), (e0, .inr (8, [.ref e1])), (e1, .inl (ax 4, 6, .inr (.inl vs))), (a0, .inr (4, [.ref a1, .ref a2, .ref a3, .int (nI za)])), (a1, .inl (ax 1, ca, .inl ao)), (a2, .inl (ax 0, ca, .inl al)), (a3, .inl (ax 0, ca, .inl ar))]) hP hD [3, 4, 5, 6] [0, 1, 2] hCs (by decide) (by decide) hk1 hFc hP1 hD1 rfl
  clear hP1 hD1
  clear hPc hDc hFc hCs hz hz1 hk1 ht hvm
  clear hP hD hS
  have hS := hS1
  obtain ⟨hP, hD⟩ := hjn
  clear hS1
  obtain ⟨hPc, hDc, hFc, hCs⟩ := xw_sub3 (wc := [(e0, .inr (8, [.ref e1])), (e1, .inl (ax 4, 6, .inr (.inl vs))), (a0, .inr (4, [.ref a1, .ref a2, .ref a3, .int (nI za)])), (a1, .inl (ax 1, ca, .inl ao)), (a2, .inl (ax 0, ca, .inl al)), (a3, .inl (ax 0, ca, .inl ar))]) hP hD hS hA [1, 2, 3, 4, 5, 6] (by decide) rfl
  have hz := xz_of hN hS
  refine va_calli (va_runV (As := [.ref a0, .int (nI (za - 1))]) (rest := []) ⟨hx, hb, hml, hown, hts⟩ ((E_truth_all l (za - 1)) D ax e0 e1 vs a0 a1 a2 a3 ca za ao al ar H_5.size (by first | assumption | omega) (by first | assumption | omega) (by first | assumption | omega) h4) (xcV (n := 2) hts wd_1005 wd_11 wd_1024 wd_1003 wd_1004 rfl rfl (by decide +kernel) ⟨(show (30 + 2 * (za - 1)) + 1 ≤ (1000) by omega), (show 8 + (5 + 11) + (1200 + 40 * (za - 1)) ≤ (20500) by omega)⟩) (xpV (ci := 8) (q0 := 0) (As := [.ref a0, .int (nI (za - 1))]) hPc hK hz hDc rfl rfl) rfl rfl hl1.1 rfl (lv_room (Nat.le_of_ble_eq_true rfl)) d_Desk_holds_42 ⟨Nat.le_of_ble_eq_true rfl, Nat.le_of_ble_eq_true rfl⟩) hS (fun q _ h => hFc q h) hFc (fun r_9 u_7 t H_8 locs ht hvm hw hB hz1 hk1 hS1 => ?_)
  try dsimp only at hw
  obtain ⟨hw, hs_10⟩ := hw
  subst hw
  obtain ⟨hP1, hD1⟩ := hB
  rw [ht] at hP1
  have hjn := xw_join3 (wl := [(d0, .inr (10, [.ref k0, .ref r0, .ref c0, .ref p0, .ref fd0, .ref w0, .ref e0, .ref b0, .ref a0, .ref y0, .ref g0, .ref i0, .int (nI ld)])), (e0, .inr (8, [.ref e1])), (e1, .inl (ax 4, 6, .inr (.inl vs))), (a0, .inr (4, [.ref a1, .ref a2, .ref a3, .int (nI za)])), (a1, .inl (ax 1, ca, .inl ao)), (a2, .inl (ax 0, ca, .inl al)), (a3, .inl (ax 0, ca, .inl ar))]) hP hD [1, 2, 3, 4, 5, 6] [0] hCs (by decide) (by decide) hk1 hFc hP1 hD1 rfl
  clear hP1 hD1
  clear hPc hDc hFc hCs hz hz1 hk1 ht hvm
  clear hP hD hS
  have hS := hS1
  obtain ⟨hP, hD⟩ := hjn
  clear hS1
  rw [← hQe]
  obtain ⟨hP9, hD9⟩ := xw_sub2 (wc := (fun u : Nat → Nat => [(d0, .inr (10, [.ref k0, .ref r0, .ref c0, .ref p0, .ref fd0, .ref w0, .ref e0, .ref b0, .ref a0, .ref y0, .ref g0, .ref i0, .int (nI ld)])), (e0, .inr (8, [.ref e1])), (e1, .inl (ax 4, 6, .inr (.inl vs))), (a0, .inr (4, [.ref a1, .ref a2, .ref a3, .int (nI za)])), (a1, .inl (ax 1, ca, .inl ao)), (a2, .inl (ax 0, ca, .inl al)), (a3, .inl (ax 0, ca, .inl ar))]) (ixn [(u_7 0)])) hP hD [0, 1, 2, 3, 4, 5, 6] (by decide) rfl
  have hsp0 : (u_7 0) ≤ 1 := (by first | assumption | omega)
  exact W.zret (v := nI (u_7 0)) hx hb hr (nI_bool (by first | assumption | omega)) (fun t ht hW => ⟨⟨nI (u_7 0), ixn [(u_7 0)], rfl, ⟨rfl, hsp0⟩, ⟨by rw [ht]; exact hP9, hD9⟩⟩, hS.F ht⟩) hS.2.2 d_Desk_holds_45
