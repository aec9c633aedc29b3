theorem wd_8 : ((Jvm.Cond.initialized "java/util/Arrays")) ∈ lw_gd := lw_gd_in (i := 8) (by decide +kernel) rfl
theorem wd_103 : ((Jvm.Cond.fieldLink "TripleDesk$Nodes" (7 : Nat) "TripleDesk$Nodes" "op" "[B")) ∈ lw_gd := lw_gd_in (i := 103) (by decide +kernel) rfl
theorem wd_108 : ((Jvm.Cond.fieldLink "TripleDesk$Nodes" (13 : Nat) "TripleDesk$Nodes" "left" "[I")) ∈ lw_gd := lw_gd_in (i := 108) (by decide +kernel) rfl
theorem wd_113 : ((Jvm.Cond.fieldLink "TripleDesk$Nodes" (17 : Nat) "TripleDesk$Nodes" "right" "[I")) ∈ lw_gd := lw_gd_in (i := 113) (by decide +kernel) rfl
theorem wd_118 : ((Jvm.Cond.fieldLink "TripleDesk$Nodes" (20 : Nat) "TripleDesk$Nodes" "size" "I")) ∈ lw_gd := lw_gd_in (i := 118) (by decide +kernel) rfl
theorem wd_351 : ((Jvm.Cond.methodLink "TripleDesk$Nodes" (24 : Nat) ({ cls := "java/util/Arrays", name := "copyOf", desc := "([BI)[B" } : Jvm.MethodName))) ∈ lw_gd := lw_gd_in (i := 351) (by decide +kernel) rfl
theorem wd_352 : ((Jvm.Cond.static ({ cls := "java/util/Arrays", name := "copyOf", desc := "([BI)[B" } : Jvm.MethodName))) ∈ lw_gd := lw_gd_in (i := 352) (by decide +kernel) rfl
theorem wd_353 : ((Jvm.Cond.code ({ cls := "java/util/Arrays", name := "copyOf", desc := "([BI)[B" } : Jvm.MethodName) prog_26_method_121_code (3 : Nat) (Option.some (Jvm.ClassFile.FieldType.array Jvm.ClassFile.FieldType.byte)))) ∈ lw_gd := lw_gd_in (i := 353) (by decide +kernel) rfl
theorem wd_367 : ((Jvm.Cond.methodLink "TripleDesk$Nodes" (30 : Nat) ({ cls := "java/util/Arrays", name := "copyOf", desc := "([II)[I" } : Jvm.MethodName))) ∈ lw_gd := lw_gd_in (i := 367) (by decide +kernel) rfl
theorem wd_368 : ((Jvm.Cond.static ({ cls := "java/util/Arrays", name := "copyOf", desc := "([II)[I" } : Jvm.MethodName))) ∈ lw_gd := lw_gd_in (i := 368) (by decide +kernel) rfl
theorem wd_369 : ((Jvm.Cond.code ({ cls := "java/util/Arrays", name := "copyOf", desc := "([II)[I" } : Jvm.MethodName) prog_26_method_123_code (3 : Nat) (Option.some (Jvm.ClassFile.FieldType.array Jvm.ClassFile.FieldType.int)))) ∈ lw_gd := lw_gd_in (i := 369) (by decide +kernel) rfl
/-- a node more, all others as they were -/
def nad (fo fo' : Nat → Nat) (fl fr fl' fr' : Nat → Int32) (n o1 : Nat) (x2 x3 : Int32) : Prop := (∀ j, j < n → fo' j = fo j ∧ fl' j = fl j ∧ fr' j = fr j) ∧ fo' n = o1 ∧ fl' n = x2 ∧ fr' n = x3
def sml (fo : Nat → Nat) (n : Nat) : Prop := ∀ j, j < n → fo j < 128
theorem sml.sp {fo : Nat → Nat} {n i v : Nat} (h : sml fo n) (hv : v < 128) : sml (sup fo i v) n := fun j hj => by
  unfold sup
  split
  · exact hv
  · exact h j hj
theorem sml.cz {fo : Nat → Nat} {n k : Nat} (h : sml fo n) : sml (cpz fo n) k := fun j hj => by
  show (if j < n then fo j else 0) < 128
  split
  · exact h j (by assumption)
  · omega
theorem nad_fit {fo : Nat → Nat} {fl fr : Nat → Int32} {n o1 : Nat} {x2 x3 : Int32} : nad fo (sup fo n o1) fl fr (upd fl n x2) (upd fr n x3) n o1 x2 x3 :=
  ⟨fun j hj => ⟨sup_ne (by omega), upd_ne (by omega), upd_ne (by omega)⟩, sup_eq, upd_eq, upd_eq⟩
theorem nad_grow {fo : Nat → Nat} {fl fr : Nat → Int32} {n o1 : Nat} {x2 x3 : Int32} : nad fo (sup (cpz fo n) n o1) fl fr (upd (cpy9 fl n) n x2) (upd (cpy9 fr n) n x3) n o1 x2 x3 :=
  ⟨fun j hj => ⟨by rw [sup_ne (by omega)]; exact if_pos hj, by rw [upd_ne (by omega)]; exact if_pos hj, by rw [upd_ne (by omega)]; exact if_pos hj⟩, sup_eq, upd_eq, upd_eq⟩
abbrev b_Nodes_clear : ByteArray := prog_6_method_2_code
def y_Nodes_clear : MethodName := ⟨R_Nodes, "clear", "()V"⟩
theorem d_Nodes_clear_0 : decode b_Nodes_clear 0 = .ok (.aload_n 0, 1) := by decide +kernel
theorem d_Nodes_clear_1 : decode b_Nodes_clear 1 = .ok (.iconst 0, 1) := by decide +kernel
theorem d_Nodes_clear_2 : decode b_Nodes_clear 2 = .ok (.putfield 20, 3) := by decide +kernel
theorem d_Nodes_clear_5 : decode b_Nodes_clear 5 = .ok (.return_, 1) := by decide +kernel
set_option maxHeartbeats 40000000 in
set_option maxRecDepth 100000 in
theorem c_Nodes_clear (l : Launch) (D : va_G) (ax : Nat → ClassId) (n0 n1 n2 n3 cp z9 : Nat) (fo : Nat → Nat) (fl fr : Nat → Int32) (sz : Nat) : Met l y_Nodes_clear (xws (.code y_Nodes_clear b_Nodes_clear 1 none)) ({ frames := 10, cells := 0, slots := 0, locals := 400 }) (va_Pc [.ref n0] (xo D ax [(n0, .inr (4, [.ref n1, .ref n2, .ref n3, .int (nI z9)])), (n1, .inl (ax 1, cp, .inl (fun j => nI (fo j)))), (n2, .inl (ax 0, cp, .inl fl)), (n3, .inl (ax 0, cp, .inl fr))] sz)) ((va_Qv (fun (u : Nat → Nat) => True) (xb D (va_A [(n0, .inr (4, [.ref n1, .ref n2, .ref n3, .int (nI z9)])), (n1, .inl (ax 1, cp, .inl (fun j => nI (fo j)))), (n2, .inl (ax 0, cp, .inl fl)), (n3, .inl (ax 0, cp, .inl fr))] sz) (fun u => [(n0, .inr (4, [.ref n1, .ref n2, .ref n3, .int 0])), (n1, .inl (ax 1, cp, .inl (fun j => nI (fo j)))), (n2, .inl (ax 0, cp, .inl fl)), (n3, .inl (ax 0, cp, .inl fr))])) (va_A [(n0, .inr (4, [.ref n1, .ref n2, .ref n3, .int (nI z9)])), (n1, .inl (ax 1, cp, .inl (fun j => nI (fo j)))), (n2, .inl (ax 0, cp, .inl fl)), (n3, .inl (ax 0, cp, .inl fr))] sz))) 0 0 (va_A [(n0, .inr (4, [.ref n1, .ref n2, .ref n3, .int (nI z9)])), (n1, .inl (ax 1, cp, .inl (fun j => nI (fo j)))), (n2, .inl (ax 0, cp, .inl fl)), (n3, .inl (ax 0, cp, .inl fr))] sz) := by
  refine Met.ofW (cc := b_Nodes_clear) (maxL := 1) (ret := none) (by decide) rfl ?_
  intro p e s m args below meth c s₁ B hml hv
  obtain ⟨rfl, hsz, hP, hK, hD0⟩ := hv
  have hx := B.exec
  have hb := B.bytes
  have hr := B.returns
  have hts := xw_hts B.pre
  have hown : s.vm.findClass R_Nodes = some m.cls := findClass_of_methodNamed B.named
  have hlocks := B.notSynchronized
  subst hsz
  have hD := hD0.self (sz := s.heap.size)
  have hN := xz_entry hP
  generalize hAe : va_A [(n0, .inr (4, [.ref n1, .ref n2, .ref n3, .int (nI z9)])), (n1, .inl (ax 1, cp, .inl (fun j => nI (fo j)))), (n2, .inl (ax 0, cp, .inl fl)), (n3, .inl (ax 0, cp, .inl fr))] s.heap.size = A at hD hN ⊢
  have hA : ∀ q : Nat, s.heap.size ≤ q → A q := fun q h => by rw [← hAe]; exact Or.inr h
  have hS : va_S A s.heap s.heap [] := va_S.rf
  have hl0 := lv_entry ([.ref n0]) (n := 1) (Nat.le_of_ble_eq_true rfl)
  rw [lg_entry_eq]
  generalize (lg_sl ([.ref n0]) ++ List.replicate (1 - (lg_sl ([.ref n0])).length) Slot.unset).toArray = ls at hl0 ⊢
  have hl1 : lv_has ls 1 [(0, .ref n0)] := hl0
  refine lv_aload_n hx hb d_Nodes_clear_0 rfl (lv_at hl1 0 rfl) ?_
  refine lv_iconst (v := 0) hx hb d_Nodes_clear_1 (by decide) ?_
  refine va_put (D := D) (ci := 4) (v := .int 0) (ty := .int) (C := R_Nodes) (T := F_Nodes) (N := 4) hx hb hts i_Nodes t_Nodes t_Nodes_ok n_Nodes hown hK.1 hP hD hS 0 rfl rfl 3 (by decide) (hts _ wd_118) (fun _ h9 => h9) rfl (by decide +kernel) rfl rfl (Nat.le_of_ble_eq_true rfl) d_Nodes_clear_2 (fun H_1 locs hP1 hD1 hS1 => ?_)
  clear hP hD hS
  have hS := hS1
  have hP : va_P D classes [(n0, .inr (4, [.ref n1, .ref n2, .ref n3, .int 0])), (n1, .inl (ax 1, cp, .inl (fun j => nI (fo j)))), (n2, .inl (ax 0, cp, .inl fl)), (n3, .inl (ax 0, cp, .inl fr))] H_1 := hP1
  have hD : va_D A [(n0, .inr (4, [.ref n1, .ref n2, .ref n3, .int 0])), (n1, .inl (ax 1, cp, .inl (fun j => nI (fo j)))), (n2, .inl (ax 0, cp, .inl fl)), (n3, .inl (ax 0, cp, .inl fr))] := hD1
  clear hP1 hD1 hS1
  have hP9 := hP.sub (ws' := (fun u : Nat → Nat => [(n0, .inr (4, [.ref n1, .ref n2, .ref n3, .int 0])), (n1, .inl (ax 1, cp, .inl (fun j => nI (fo j)))), (n2, .inl (ax 0, cp, .inl fl)), (n3, .inl (ax 0, cp, .inl fr))]) (ixn [])) [0, 1, 2, 3] rfl
  have hD9 := hD.sub (ws' := (fun u : Nat → Nat => [(n0, .inr (4, [.ref n1, .ref n2, .ref n3, .int 0])), (n1, .inl (ax 1, cp, .inl (fun j => nI (fo j)))), (n2, .inl (ax 0, cp, .inl fl)), (n3, .inl (ax 0, cp, .inl fr))]) (ixn [])) [0, 1, 2, 3] (by decide) rfl
  exact W.vret hx hb hr (fun t ht hW => ⟨⟨ixn [], rfl, trivial, ⟨by rw [ht]; exact hP9, hD9⟩⟩, hS.F ht⟩) hS.2.2 d_Nodes_clear_5
abbrev b_Nodes_root : ByteArray := prog_6_method_3_code
def y_Nodes_root : MethodName := ⟨R_Nodes, "root", "()I"⟩
theorem d_Nodes_root_0 : decode b_Nodes_root 0 = .ok (.aload_n 0, 1) := by decide +kernel
theorem d_Nodes_root_1 : decode b_Nodes_root 1 = .ok (.getfield 20, 3) := by decide +kernel
theorem d_Nodes_root_4 : decode b_Nodes_root 4 = .ok (.iconst 1, 1) := by decide +kernel
theorem d_Nodes_root_5 : decode b_Nodes_root 5 = .ok (.isub, 1) := by decide +kernel
theorem d_Nodes_root_6 : decode b_Nodes_root 6 = .ok (.ireturn, 1) := by decide +kernel
set_option maxHeartbeats 40000000 in
set_option maxRecDepth 100000 in
theorem c_Nodes_root (l : Launch) (D : va_G) (ax : Nat → ClassId) (n0 n1 n2 n3 cp z9 : Nat) (fo : Nat → Nat) (fl fr : Nat → Int32) (sz : Nat) (hz9 : 1 ≤ z9) : Met l y_Nodes_root (xws (.code y_Nodes_root b_Nodes_root 1 (some .int))) ({ frames := 10, cells := 0, slots := 0, locals := 400 }) (va_Pc [.ref n0] (xo D ax [(n0, .inr (4, [.ref n1, .ref n2, .ref n3, .int (nI z9)])), (n1, .inl (ax 1, cp, .inl (fun j => nI (fo j)))), (n2, .inl (ax 0, cp, .inl fl)), (n3, .inl (ax 0, cp, .inl fr))] sz)) ((va_Qi (fun (r : Int32) (u : Nat → Nat) => r = nI (z9 - 1)) (xb D (va_A [(n0, .inr (4, [.ref n1, .ref n2, .ref n3, .int (nI z9)])), (n1, .inl (ax 1, cp, .inl (fun j => nI (fo j)))), (n2, .inl (ax 0, cp, .inl fl)), (n3, .inl (ax 0, cp, .inl fr))] sz) (fun u => [(n0, .inr (4, [.ref n1, .ref n2, .ref n3, .int (nI z9)])), (n1, .inl (ax 1, cp, .inl (fun j => nI (fo j)))), (n2, .inl (ax 0, cp, .inl fl)), (n3, .inl (ax 0, cp, .inl fr))])) (va_A [(n0, .inr (4, [.ref n1, .ref n2, .ref n3, .int (nI z9)])), (n1, .inl (ax 1, cp, .inl (fun j => nI (fo j)))), (n2, .inl (ax 0, cp, .inl fl)), (n3, .inl (ax 0, cp, .inl fr))] sz))) 0 0 (va_A [(n0, .inr (4, [.ref n1, .ref n2, .ref n3, .int (nI z9)])), (n1, .inl (ax 1, cp, .inl (fun j => nI (fo j)))), (n2, .inl (ax 0, cp, .inl fl)), (n3, .inl (ax 0, cp, .inl fr))] sz) := by
  refine Met.ofW (cc := b_Nodes_root) (maxL := 1) (ret := (some .int)) (by decide) rfl ?_
  intro p e s m args below meth c s₁ B hml hv
  obtain ⟨rfl, hsz, hP, hK, hD0⟩ := hv
  have hx := B.exec
  have hb := B.bytes
  have hr := B.returns
  have hts := xw_hts B.pre
  have hown : s.vm.findClass R_Nodes = some m.cls := findClass_of_methodNamed B.named
  have hlocks := B.notSynchronized
  subst hsz
  have hD := hD0.self (sz := s.heap.size)
  have hN := xz_entry hP
  generalize hAe : va_A [(n0, .inr (4, [.ref n1, .ref n2, .ref n3, .int (nI z9)])), (n1, .inl (ax 1, cp, .inl (fun j => nI (fo j)))), (n2, .inl (ax 0, cp, .inl fl)), (n3, .inl (ax 0, cp, .inl fr))] s.heap.size = A at hD hN ⊢
  have hA : ∀ q : Nat, s.heap.size ≤ q → A q := fun q h => by rw [← hAe]; exact Or.inr h
  have hS : va_S A s.heap s.heap [] := va_S.rf
  have hl0 := lv_entry ([.ref n0]) (n := 1) (Nat.le_of_ble_eq_true rfl)
  rw [lg_entry_eq]
  generalize (lg_sl ([.ref n0]) ++ List.replicate (1 - (lg_sl ([.ref n0])).length) Slot.unset).toArray = ls at hl0 ⊢
  have hl1 : lv_has ls 1 [(0, .ref n0)] := hl0
  refine lv_aload_n hx hb d_Nodes_root_0 rfl (lv_at hl1 0 rfl) ?_
  refine va_get (D := D) (ci := 4) (v := .int (nI z9)) (C := R_Nodes) (T := F_Nodes) (N := 4) hx hb hts i_Nodes hown hK.1 hP 0 rfl rfl 3 (by decide) (hts _ wd_118) (fun _ h9 => h9) rfl d_Nodes_root_1 ?_
  refine lv_iconst (v := 1) hx hb d_Nodes_root_4 (by decide) ?_
  refine lv_isub hx hb d_Nodes_root_5 ?_
  refine lv_topi (fun z_1 ez_1 => ?_)
  have ez_1 : z_1 = nI (z9 - 1) := ez_1.trans (pk_sub (a := z9) (b := 1) (by omega))
  subst ez_1
  have hP9 := hP.sub (ws' := (fun u : Nat → Nat => [(n0, .inr (4, [.ref n1, .ref n2, .ref n3, .int (nI z9)])), (n1, .inl (ax 1, cp, .inl (fun j => nI (fo j)))), (n2, .inl (ax 0, cp, .inl fl)), (n3, .inl (ax 0, cp, .inl fr))]) (ixn [])) [0, 1, 2, 3] rfl
  have hD9 := hD.sub (ws' := (fun u : Nat → Nat => [(n0, .inr (4, [.ref n1, .ref n2, .ref n3, .int (nI z9)])), (n1, .inl (ax 1, cp, .inl (fun j => nI (fo j)))), (n2, .inl (ax 0, cp, .inl fl)), (n3, .inl (ax 0, cp, .inl fr))]) (ixn [])) [0, 1, 2, 3] (by decide) rfl
  exact W.iret (v := nI (z9 - 1)) hx hb hr (fun t ht hW => ⟨⟨nI (z9 - 1), ixn [], rfl, rfl, ⟨by rw [ht]; exact hP9, hD9⟩⟩, hS.F ht⟩) hS.2.2 d_Nodes_root_6
abbrev b_Nodes_add : ByteArray := prog_6_method_4_code
def y_Nodes_add : MethodName := ⟨R_Nodes, "add", "(III)I"⟩
theorem d_Nodes_add_0 : decode b_Nodes_add 0 = .ok (.aload_n 0, 1) := by decide +kernel
theorem d_Nodes_add_1 : decode b_Nodes_add 1 = .ok (.getfield 20, 3) := by decide +kernel
theorem d_Nodes_add_4 : decode b_Nodes_add 4 = .ok (.aload_n 0, 1) := by decide +kernel
theorem d_Nodes_add_5 : decode b_Nodes_add 5 = .ok (.getfield 7, 3) := by decide +kernel
theorem d_Nodes_add_8 : decode b_Nodes_add 8 = .ok (.arraylength, 1) := by decide +kernel
theorem d_Nodes_add_9 : decode b_Nodes_add 9 = .ok (.if_icmp .ne 54, 3) := by decide +kernel
theorem d_Nodes_add_12 : decode b_Nodes_add 12 = .ok (.aload_n 0, 1) := by decide +kernel
theorem d_Nodes_add_13 : decode b_Nodes_add 13 = .ok (.aload_n 0, 1) := by decide +kernel
theorem d_Nodes_add_14 : decode b_Nodes_add 14 = .ok (.getfield 7, 3) := by decide +kernel
theorem d_Nodes_add_17 : decode b_Nodes_add 17 = .ok (.iconst 2, 1) := by decide +kernel
theorem d_Nodes_add_18 : decode b_Nodes_add 18 = .ok (.aload_n 0, 1) := by decide +kernel
theorem d_Nodes_add_19 : decode b_Nodes_add 19 = .ok (.getfield 20, 3) := by decide +kernel
theorem d_Nodes_add_22 : decode b_Nodes_add 22 = .ok (.imul, 1) := by decide +kernel
theorem d_Nodes_add_23 : decode b_Nodes_add 23 = .ok (.invokestatic 24, 3) := by decide +kernel
theorem d_Nodes_add_26 : decode b_Nodes_add 26 = .ok (.putfield 7, 3) := by decide +kernel
theorem d_Nodes_add_29 : decode b_Nodes_add 29 = .ok (.aload_n 0, 1) := by decide +kernel
theorem d_Nodes_add_30 : decode b_Nodes_add 30 = .ok (.aload_n 0, 1) := by decide +kernel
theorem d_Nodes_add_31 : decode b_Nodes_add 31 = .ok (.getfield 13, 3) := by decide +kernel
theorem d_Nodes_add_34 : decode b_Nodes_add 34 = .ok (.iconst 2, 1) := by decide +kernel
theorem d_Nodes_add_35 : decode b_Nodes_add 35 = .ok (.aload_n 0, 1) := by decide +kernel
theorem d_Nodes_add_36 : decode b_Nodes_add 36 = .ok (.getfield 20, 3) := by decide +kernel
theorem d_Nodes_add_39 : decode b_Nodes_add 39 = .ok (.imul, 1) := by decide +kernel
theorem d_Nodes_add_40 : decode b_Nodes_add 40 = .ok (.invokestatic 30, 3) := by decide +kernel
theorem d_Nodes_add_43 : decode b_Nodes_add 43 = .ok (.putfield 13, 3) := by decide +kernel
theorem d_Nodes_add_46 : decode b_Nodes_add 46 = .ok (.aload_n 0, 1) := by decide +kernel
theorem d_Nodes_add_47 : decode b_Nodes_add 47 = .ok (.aload_n 0, 1) := by decide +kernel
theorem d_Nodes_add_48 : decode b_Nodes_add 48 = .ok (.getfield 17, 3) := by decide +kernel
theorem d_Nodes_add_51 : decode b_Nodes_add 51 = .ok (.iconst 2, 1) := by decide +kernel
theorem d_Nodes_add_52 : decode b_Nodes_add 52 = .ok (.aload_n 0, 1) := by decide +kernel
theorem d_Nodes_add_53 : decode b_Nodes_add 53 = .ok (.getfield 20, 3) := by decide +kernel
theorem d_Nodes_add_56 : decode b_Nodes_add 56 = .ok (.imul, 1) := by decide +kernel
theorem d_Nodes_add_57 : decode b_Nodes_add 57 = .ok (.invokestatic 30, 3) := by decide +kernel
theorem d_Nodes_add_60 : decode b_Nodes_add 60 = .ok (.putfield 17, 3) := by decide +kernel
theorem d_Nodes_add_63 : decode b_Nodes_add 63 = .ok (.aload_n 0, 1) := by decide +kernel
theorem d_Nodes_add_64 : decode b_Nodes_add 64 = .ok (.getfield 7, 3) := by decide +kernel
theorem d_Nodes_add_67 : decode b_Nodes_add 67 = .ok (.aload_n 0, 1) := by decide +kernel
theorem d_Nodes_add_68 : decode b_Nodes_add 68 = .ok (.getfield 20, 3) := by decide +kernel
theorem d_Nodes_add_71 : decode b_Nodes_add 71 = .ok (.iload_n 1, 1) := by decide +kernel
theorem d_Nodes_add_72 : decode b_Nodes_add 72 = .ok (.i2b, 1) := by decide +kernel
theorem d_Nodes_add_73 : decode b_Nodes_add 73 = .ok (.bastore, 1) := by decide +kernel
theorem d_Nodes_add_74 : decode b_Nodes_add 74 = .ok (.aload_n 0, 1) := by decide +kernel
theorem d_Nodes_add_75 : decode b_Nodes_add 75 = .ok (.getfield 13, 3) := by decide +kernel
theorem d_Nodes_add_78 : decode b_Nodes_add 78 = .ok (.aload_n 0, 1) := by decide +kernel
theorem d_Nodes_add_79 : decode b_Nodes_add 79 = .ok (.getfield 20, 3) := by decide +kernel
theorem d_Nodes_add_82 : decode b_Nodes_add 82 = .ok (.iload_n 2, 1) := by decide +kernel
theorem d_Nodes_add_83 : decode b_Nodes_add 83 = .ok (.iastore, 1) := by decide +kernel
theorem d_Nodes_add_84 : decode b_Nodes_add 84 = .ok (.aload_n 0, 1) := by decide +kernel
theorem d_Nodes_add_85 : decode b_Nodes_add 85 = .ok (.getfield 17, 3) := by decide +kernel
theorem d_Nodes_add_88 : decode b_Nodes_add 88 = .ok (.aload_n 0, 1) := by decide +kernel
theorem d_Nodes_add_89 : decode b_Nodes_add 89 = .ok (.getfield 20, 3) := by decide +kernel
theorem d_Nodes_add_92 : decode b_Nodes_add 92 = .ok (.iload_n 3, 1) := by decide +kernel
theorem d_Nodes_add_93 : decode b_Nodes_add 93 = .ok (.iastore, 1) := by decide +kernel
theorem d_Nodes_add_94 : decode b_Nodes_add 94 = .ok (.aload_n 0, 1) := by decide +kernel
theorem d_Nodes_add_95 : decode b_Nodes_add 95 = .ok (.dup, 1) := by decide +kernel
theorem d_Nodes_add_96 : decode b_Nodes_add 96 = .ok (.getfield 20, 3) := by decide +kernel
theorem d_Nodes_add_99 : decode b_Nodes_add 99 = .ok (.dup_x1, 1) := by decide +kernel
theorem d_Nodes_add_100 : decode b_Nodes_add 100 = .ok (.iconst 1, 1) := by decide +kernel
theorem d_Nodes_add_101 : decode b_Nodes_add 101 = .ok (.iadd, 1) := by decide +kernel
theorem d_Nodes_add_102 : decode b_Nodes_add 102 = .ok (.putfield 20, 3) := by decide +kernel
theorem d_Nodes_add_105 : decode b_Nodes_add 105 = .ok (.ireturn, 1) := by decide +kernel
set_option maxHeartbeats 40000000 in
set_option maxRecDepth 100000 in
theorem c_Nodes_add (l : Launch) (D : va_G) (ax : Nat → ClassId) (n0 n1 n2 n3 cp z9 : Nat) (fo : Nat → Nat) (fl fr : Nat → Int32) (MX o1 : Nat) (x2 x3 : Int32) (sz tz : Nat) (hcp : 8 ≤ cp) (hz9 : z9 ≤ cp) (hmx : cp ≤ MX) (hmz : 2 * z9 ≤ MX) (hMX : MX ≤ 20000) (ho1 : o1 < 128) (hfo : sml fo cp) : Met l y_Nodes_add (xws (.code y_Nodes_add b_Nodes_add 4 (some .int))) ({ frames := 30, cells := MX - cp, slots := 6 * (MX - cp), locals := 1200 }) (va_Pc [.ref n0, .int (nI o1), .int x2, .int x3] (xo3 D ax [(n0, .inr (4, [.ref n1, .ref n2, .ref n3, .int (nI z9)])), (n1, .inl (ax 1, cp, .inl (fun j => nI (fo j)))), (n2, .inl (ax 0, cp, .inl fl)), (n3, .inl (ax 0, cp, .inl fr))] sz tz)) ((va_Qi (fun (r : Int32) (u : Nat → Nat) => r = nI z9 ∧ (z9 + 1 ≤ u 3 ∧ cp ≤ u 3 ∧ u 3 ≤ MX)) (fun (u : Nat → Nat) (t9 : State) => ∃ xfo : Nat → Nat, ∃ xfl : Nat → Int32, ∃ xfr : Nat → Int32, (t9.heap.size ≤ sz + (u 3 - cp)) ∧ (tsl t9.heap ≤ tz + (6 * (u 3 - cp))) ∧ (nad fo xfo fl fr xfl xfr z9 o1 x2 x3) ∧ (sml xfo (u 3)) ∧ va_P D classes [(n0, .inr (4, [.ref (u 0), .ref (u 1), .ref (u 2), .int (nI (z9 + 1))])), (u 0, .inl (ax 1, u 3, .inl (fun j => nI (xfo j)))), (u 1, .inl (ax 0, u 3, .inl xfl)), (u 2, .inl (ax 0, u 3, .inl xfr))] t9.heap ∧ va_D (va_A [(n0, .inr (4, [.ref n1, .ref n2, .ref n3, .int (nI z9)])), (n1, .inl (ax 1, cp, .inl (fun j => nI (fo j)))), (n2, .inl (ax 0, cp, .inl fl)), (n3, .inl (ax 0, cp, .inl fr))] sz) [(n0, .inr (4, [.ref (u 0), .ref (u 1), .ref (u 2), .int (nI (z9 + 1))])), (u 0, .inl (ax 1, u 3, .inl (fun j => nI (xfo j)))), (u 1, .inl (ax 0, u 3, .inl xfl)), (u 2, .inl (ax 0, u 3, .inl xfr))]) (va_A [(n0, .inr (4, [.ref n1, .ref n2, .ref n3, .int (nI z9)])), (n1, .inl (ax 1, cp, .inl (fun j => nI (fo j)))), (n2, .inl (ax 0, cp, .inl fl)), (n3, .inl (ax 0, cp, .inl fr))] sz))) (MX - cp) (6 * (MX - cp)) (va_A [(n0, .inr (4, [.ref n1, .ref n2, .ref n3, .int (nI z9)])), (n1, .inl (ax 1, cp, .inl (fun j => nI (fo j)))), (n2, .inl (ax 0, cp, .inl fl)), (n3, .inl (ax 0, cp, .inl fr))] sz) := by
  refine Met.ofW (cc := b_Nodes_add) (maxL := 4) (ret := (some .int)) (by decide) rfl ?_
  intro p e s m args below meth c s₁ B hml hv
  obtain ⟨rfl, ⟨hsz, hP, hK, hD0⟩, htz⟩ := hv
  have hx := B.exec
  have hb := B.bytes
  have hr := B.returns
  have hts := xw_hts B.pre
  have hown : s.vm.findClass R_Nodes = some m.cls := findClass_of_methodNamed B.named
  have hlocks := B.notSynchronized
  subst hsz
  subst htz
  have hD := hD0.self (sz := s.heap.size)
  have hN := xz_entry hP
  generalize hAe : va_A [(n0, .inr (4, [.ref n1, .ref n2, .ref n3, .int (nI z9)])), (n1, .inl (ax 1, cp, .inl (fun j => nI (fo j)))), (n2, .inl (ax 0, cp, .inl fl)), (n3, .inl (ax 0, cp, .inl fr))] s.heap.size = A at hD hN ⊢
  have hA : ∀ q : Nat, s.heap.size ≤ q → A q := fun q h => by rw [← hAe]; exact Or.inr h
  have hS : va_S A s.heap s.heap [] := va_S.rf
  have hl0 := lv_entry ([.ref n0, .int (nI o1), .int x2, .int x3]) (n := 4) (Nat.le_of_ble_eq_true rfl)
  rw [lg_entry_eq]
  generalize (lg_sl ([.ref n0, .int (nI o1), .int x2, .int x3]) ++ List.replicate (4 - (lg_sl ([.ref n0, .int (nI o1), .int x2, .int x3])).length) Slot.unset).toArray = ls at hl0 ⊢
  have hl1 : lv_has ls 4 [(0, .ref n0), (1, .int (nI o1)), (2, .int x2), (3, .int x3)] := hl0
  refine lv_aload_n hx hb d_Nodes_add_0 rfl (lv_at hl1 0 rfl) ?_
  refine va_get (D := D) (ci := 4) (v := .int (nI z9)) (C := R_Nodes) (T := F_Nodes) (N := 4) hx hb hts i_Nodes hown hK.1 hP 0 rfl rfl 3 (by decide) (hts _ wd_118) (fun _ h9 => h9) rfl d_Nodes_add_1 ?_
  refine lv_aload_n hx hb d_Nodes_add_4 rfl (lv_at hl1 0 rfl) ?_
  refine va_get (D := D) (ci := 4) (v := .ref n1) (C := R_Nodes) (T := F_Nodes) (N := 4) hx hb hts i_Nodes hown hK.1 hP 0 rfl rfl 0 (by decide) (hts _ wd_103) (fun _ h9 => h9) rfl d_Nodes_add_5 ?_
  refine va_alen hx hb hK.1 hP 1 1 rfl rfl (v := _) rfl d_Nodes_add_8 ?_
  refine lv_icmp_ne (tgt := 63) hx hb d_Nodes_add_9 (by decide) (fun c_1 => ?_) (fun c_1 => ?_)
  · replace c_1 : ¬ z9 = cp := fun hq9 => c_1 ((nI_eq (a := z9) (b := cp) (by omega) (by omega)).mpr hq9)
    refine lv_aload_n hx hb d_Nodes_add_63 rfl (lv_at hl1 0 rfl) ?_
    refine va_get (D := D) (ci := 4) (v := .ref n1) (C := R_Nodes) (T := F_Nodes) (N := 4) hx hb hts i_Nodes hown hK.1 hP 0 rfl rfl 0 (by decide) (hts _ wd_103) (fun _ h9 => h9) rfl d_Nodes_add_64 ?_
    refine lv_aload_n hx hb d_Nodes_add_67 rfl (lv_at hl1 0 rfl) ?_
    refine va_get (D := D) (ci := 4) (v := .int (nI z9)) (C := R_Nodes) (T := F_Nodes) (N := 4) hx hb hts i_Nodes hown hK.1 hP 0 rfl rfl 3 (by decide) (hts _ wd_118) (fun _ h9 => h9) rfl d_Nodes_add_68 ?_
    refine lv_iload_n hx hb d_Nodes_add_71 rfl (lv_at hl1 1 rfl) ?_
    refine lv_i2b (v := nI o1) hx hb d_Nodes_add_72 (nb_i2b (by omega)) ?_
    refine va_bast hx hb hK.1 hP hD hS 1 1 rfl rfl (vp_in_nI (by omega) (by omega)) d_Nodes_add_73 (fun H_2 locs hP1 hD1 hS1 => ?_)
    rw [nI_clamp (by omega)] at hP1 hD1
    rw [xf_supb fo z9 o1 (by omega)] at hP1 hD1
    clear hP hD hS
    have hS := hS1
    have hP : va_P D classes [(n0, .inr (4, [.ref n1, .ref n2, .ref n3, .int (nI z9)])), (n1, .inl (ax 1, cp, .inl (fun j => nI (sup fo z9 o1 j)))), (n2, .inl (ax 0, cp, .inl fl)), (n3, .inl (ax 0, cp, .inl fr))] H_2 := hP1
    have hD : va_D A [(n0, .inr (4, [.ref n1, .ref n2, .ref n3, .int (nI z9)])), (n1, .inl (ax 1, cp, .inl (fun j => nI (sup fo z9 o1 j)))), (n2, .inl (ax 0, cp, .inl fl)), (n3, .inl (ax 0, cp, .inl fr))] := hD1
    clear hP1 hD1 hS1
    refine lv_aload_n hx hb d_Nodes_add_74 rfl (lv_at hl1 0 rfl) ?_
    refine va_get (D := D) (ci := 4) (v := .ref n2) (C := R_Nodes) (T := F_Nodes) (N := 4) hx hb hts i_Nodes hown hK.1 hP 0 rfl rfl 1 (by decide) (hts _ wd_108) (fun _ h9 => h9) rfl d_Nodes_add_75 ?_
    refine lv_aload_n hx hb d_Nodes_add_78 rfl (lv_at hl1 0 rfl) ?_
    refine va_get (D := D) (ci := 4) (v := .int (nI z9)) (C := R_Nodes) (T := F_Nodes) (N := 4) hx hb hts i_Nodes hown hK.1 hP 0 rfl rfl 3 (by decide) (hts _ wd_118) (fun _ h9 => h9) rfl d_Nodes_add_79 ?_
    refine lv_iload_n hx hb d_Nodes_add_82 rfl (lv_at hl1 2 rfl) ?_
    refine va_iast hx hb hK.1 hP hD hS 2 0 rfl rfl (vp_in_nI (by omega) (by omega)) d_Nodes_add_83 (fun H_3 locs hP1 hD1 hS1 => ?_)
    rw [nI_clamp (by omega)] at hP1 hD1
    clear hP hD hS
    have hS := hS1
    have hP : va_P D classes [(n0, .inr (4, [.ref n1, .ref n2, .ref n3, .int (nI z9)])), (n1, .inl (ax 1, cp, .inl (fun j => nI (sup fo z9 o1 j)))), (n2, .inl (ax 0, cp, .inl (upd fl z9 x2))), (n3, .inl (ax 0, cp, .inl fr))] H_3 := hP1
    have hD : va_D A [(n0, .inr (4, [.ref n1, .ref n2, .ref n3, .int (nI z9)])), (n1, .inl (ax 1, cp, .inl (fun j => nI (sup fo z9 o1 j)))), (n2, .inl (ax 0, cp, .inl (upd fl z9 x2))), (n3, .inl (ax 0, cp, .inl fr))] := hD1
    clear hP1 hD1 hS1
    refine lv_aload_n hx hb d_Nodes_add_84 rfl (lv_at hl1 0 rfl) ?_
    refine va_get (D := D) (ci := 4) (v := .ref n3) (C := R_Nodes) (T := F_Nodes) (N := 4) hx hb hts i_Nodes hown hK.1 hP 0 rfl rfl 2 (by decide) (hts _ wd_113) (fun _ h9 => h9) rfl d_Nodes_add_85 ?_
    refine lv_aload_n hx hb d_Nodes_add_88 rfl (lv_at hl1 0 rfl) ?_
    refine va_get (D := D) (ci := 4) (v := .int (nI z9)) (C := R_Nodes) (T := F_Nodes) (N := 4) hx hb hts i_Nodes hown hK.1 hP 0 rfl rfl 3 (by decide) (hts _ wd_118) (fun _ h9 => h9) rfl d_Nodes_add_89 ?_
    refine lv_iload_n hx hb d_Nodes_add_92 rfl (lv_at hl1 3 rfl) ?_
    refine va_iast hx hb hK.1 hP hD hS 3 0 rfl rfl (vp_in_nI (by omega) (by omega)) d_Nodes_add_93 (fun H_4 locs hP1 hD1 hS1 => ?_)
    rw [nI_clamp (by omega)] at hP1 hD1
    clear hP hD hS
    have hS := hS1
    have hP : va_P D classes [(n0, .inr (4, [.ref n1, .ref n2, .ref n3, .int (nI z9)])), (n1, .inl (ax 1, cp, .inl (fun j => nI (sup fo z9 o1 j)))), (n2, .inl (ax 0, cp, .inl (upd fl z9 x2))), (n3, .inl (ax 0, cp, .inl (upd fr z9 x3)))] H_4 := hP1
    have hD : va_D A [(n0, .inr (4, [.ref n1, .ref n2, .ref n3, .int (nI z9)])), (n1, .inl (ax 1, cp, .inl (fun j => nI (sup fo z9 o1 j)))), (n2, .inl (ax 0, cp, .inl (upd fl z9 x2))), (n3, .inl (ax 0, cp, .inl (upd fr z9 x3)))] := hD1
    clear hP1 hD1 hS1
    refine lv_aload_n hx hb d_Nodes_add_94 rfl (lv_at hl1 0 rfl) ?_
    refine lv_dup hx hb d_Nodes_add_95 rfl ?_
    refine va_get (D := D) (ci := 4) (v := .int (nI z9)) (C := R_Nodes) (T := F_Nodes) (N := 4) hx hb hts i_Nodes hown hK.1 hP 0 rfl rfl 3 (by decide) (hts _ wd_118) (fun _ h9 => h9) rfl d_Nodes_add_96 ?_
    refine lv_dup_x1 hx hb d_Nodes_add_99 rfl rfl ?_
    refine lv_iconst (v := 1) hx hb d_Nodes_add_100 (by decide) ?_
    refine lv_iadd hx hb d_Nodes_add_101 ?_
    refine lv_topi (fun z_5 ez_5 => ?_)
    have ez_5 : z_5 = nI (z9 + 1) := ez_5.trans (nI_add z9 1)
    subst ez_5
    refine va_put (D := D) (ci := 4) (v := .int (nI (z9 + 1))) (ty := .int) (C := R_Nodes) (T := F_Nodes) (N := 4) hx hb hts i_Nodes t_Nodes t_Nodes_ok n_Nodes hown hK.1 hP hD hS 0 rfl rfl 3 (by decide) (hts _ wd_118) (fun _ h9 => h9) rfl (by decide +kernel) rfl rfl (Nat.le_of_ble_eq_true rfl) d_Nodes_add_102 (fun H_6 locs hP1 hD1 hS1 => ?_)
    clear hP hD hS
    have hS := hS1
    have hP : va_P D classes [(n0, .inr (4, [.ref n1, .ref n2, .ref n3, .int (nI (z9 + 1))])), (n1, .inl (ax 1, cp, .inl (fun j => nI (sup fo z9 o1 j)))), (n2, .inl (ax 0, cp, .inl (upd fl z9 x2))), (n3, .inl (ax 0, cp, .inl (upd fr z9 x3)))] H_6 := hP1
    have hD : va_D A [(n0, .inr (4, [.ref n1, .ref n2, .ref n3, .int (nI (z9 + 1))])), (n1, .inl (ax 1, cp, .inl (fun j => nI (sup fo z9 o1 j)))), (n2, .inl (ax 0, cp, .inl (upd fl z9 x2))), (n3, .inl (ax 0, cp, .inl (upd fr z9 x3)))] := hD1
    clear hP1 hD1 hS1
    refine wk_know (fun hk8 hk9 => ?_)
    refine W.widen (k := MX - cp) (n := 6 * (MX - cp)) (by omega) (by omega) ?_
    have hP9 := hP.sub (ws' := (fun (u : Nat → Nat) (xfo : Nat → Nat) (xfl : Nat → Int32) (xfr : Nat → Int32) => [(n0, .inr (4, [.ref (u 0), .ref (u 1), .ref (u 2), .int (nI (z9 + 1))])), (u 0, .inl (ax 1, u 3, .inl (fun j => nI (xfo j)))), (u 1, .inl (ax 0, u 3, .inl xfl)), (u 2, .inl (ax 0, u 3, .inl xfr))]) (ixn [n1, n2, n3, cp]) (sup fo z9 o1) (upd fl z9 x2) (upd fr z9 x3)) [0, 1, 2, 3] rfl
    have hD9 := hD.sub (ws' := (fun (u : Nat → Nat) (xfo : Nat → Nat) (xfl : Nat → Int32) (xfr : Nat → Int32) => [(n0, .inr (4, [.ref (u 0), .ref (u 1), .ref (u 2), .int (nI (z9 + 1))])), (u 0, .inl (ax 1, u 3, .inl (fun j => nI (xfo j)))), (u 1, .inl (ax 0, u 3, .inl xfl)), (u 2, .inl (ax 0, u 3, .inl xfr))]) (ixn [n1, n2, n3, cp]) (sup fo z9 o1) (upd fl z9 x2) (upd fr z9 x3)) [0, 1, 2, 3] (by decide) rfl
    have hex0 : nad fo (sup fo z9 o1) fl fr (upd fl z9 x2) (upd fr z9 x3) z9 o1 x2 x3 := nad_fit
    have hex1 : sml (sup fo z9 o1) (cp) := (hfo.sp ho1)
    have hg8 : H_6.size ≤ s.heap.size + (cp - cp) := by omega
    have hg9 : tsl H_6 ≤ tsl s.heap + (6 * (cp - cp)) := by omega
    have hsp0 : z9 + 1 ≤ cp := (by omega)
    have hsp1 : cp ≤ cp := (by omega)
    have hsp2 : cp ≤ MX := (by omega)
    exact W.iret (v := nI z9) hx hb hr (fun t ht hW => ⟨⟨nI z9, ixn [n1, n2, n3, cp], rfl, ⟨rfl, ⟨hsp0, hsp1, hsp2⟩⟩, ⟨sup fo z9 o1, (upd fl z9 x2), (upd fr z9 x3), by rw [ht]; exact hg8, by rw [ht]; exact hg9, hex0, hex1, by rw [ht]; exact hP9, hD9⟩⟩, hS.F ht⟩) hS.2.2 d_Nodes_add_105
  · replace c_1 : z9 = cp := (nI_eq (a := z9) (b := cp) (by omega) (by omega)).mp c_1
    have hzc : z9 = cp := by omega
    refine lv_aload_n hx hb d_Nodes_add_12 rfl (lv_at hl1 0 rfl) ?_
    refine lv_aload_n hx hb d_Nodes_add_13 rfl (lv_at hl1 0 rfl) ?_
    refine va_get (D := D) (ci := 4) (v := .ref n1) (C := R_Nodes) (T := F_Nodes) (N := 4) hx hb hts i_Nodes hown hK.1 hP 0 rfl rfl 0 (by decide) (hts _ wd_103) (fun _ h9 => h9) rfl d_Nodes_add_14 ?_
    refine lv_iconst (v := 2) hx hb d_Nodes_add_17 (by decide) ?_
    refine lv_aload_n hx hb d_Nodes_add_18 rfl (lv_at hl1 0 rfl) ?_
    refine va_get (D := D) (ci := 4) (v := .int (nI z9)) (C := R_Nodes) (T := F_Nodes) (N := 4) hx hb hts i_Nodes hown hK.1 hP 0 rfl rfl 3 (by decide) (hts _ wd_118) (fun _ h9 => h9) rfl d_Nodes_add_19 ?_
    refine lv_imul hx hb d_Nodes_add_22 ?_
    refine lv_topi (fun z_7 ez_7 => ?_)
    have ez_7 : z_7 = nI (2 * z9) := ez_7.trans (pk_mul 2 z9)
    subst ez_7
    have hPc := hP.sub (ws' := [(n1, .inl (ax 1, cp, .inl (fun j => nI (fo j))))]) [1] rfl
    have hDc := hD.sub (ws' := [(n1, .inl (ax 1, cp, .inl (fun j => nI (fo j))))]) [1] (by decide) rfl
    have hFc := va_free (wc := [(n1, .inl (ax 1, cp, .inl (fun j => nI (fo j))))]) hD hS hA [1] rfl
    have hz := xz_of hN hS
    refine va_callr (va_runS (As := [.ref n1, .int (nI (2 * z9))]) (rest := [.ref n0]) ⟨hx, hb, hml, hown, hts⟩ (c_Arrays_copyOf_B l D ax n1 cp (2 * z9) fo s.heap.size (by omega) (by omega) hfo) (xcS (n := 2) hts wd_353 wd_8 wd_351 wd_352 rfl rfl (by decide +kernel) ⟨Nat.le_of_ble_eq_true rfl, Nat.le_of_ble_eq_true rfl⟩) (xpS (As := [.ref n1, .int (nI (2 * z9))]) hPc hK hz hDc) rfl rfl hl1.1 rfl (lv_room (Nat.le_of_ble_eq_true rfl)) d_Nodes_add_23 ⟨(show (0) + (1) ≤ (MX - cp) by omega), (show (0) + (2 * z9) ≤ (6 * (MX - cp)) by omega)⟩) hS (fun q _ h => hFc q h) hFc (fun u_8 r_10 t H_9 locs ht hvm hw hB hz1 hk1 hS1 => ?_)
    try dsimp only at hw
    obtain ⟨hra, hP1, hD1⟩ := hB
    rw [ht] at hP1
    subst hra
    have hjn := va_join (wr := [(n0, .inr (4, [.ref n1, .ref n2, .ref n3, .int (nI z9)])), (n2, .inl (ax 0, cp, .inl fl)), (n3, .inl (ax 0, cp, .inl fr))]) (w1 := [(n1, .inl (ax 1, cp, .inl (fun j => nI (fo j)))), ((u_8 0), .inl (ax 1, 2 * z9, .inl (fun j => nI (cpz fo cp j))))]) hP hD [1] [0, 2, 3] rfl rfl (by decide) (by decide) hk1 hFc hP1 hD1
    clear hP1 hD1
    clear hPc hDc hFc hz hz1 hk1 ht hvm
    have hP1 := hjn.1
    have hD1 := hjn.2
    clear hjn
    clear hP hD hS
    have hS := hS1
    have hP : va_P D classes [(n0, .inr (4, [.ref n1, .ref n2, .ref n3, .int (nI z9)])), (n2, .inl (ax 0, cp, .inl fl)), (n3, .inl (ax 0, cp, .inl fr)), (n1, .inl (ax 1, cp, .inl (fun j => nI (fo j)))), ((u_8 0), .inl (ax 1, 2 * z9, .inl (fun j => nI (cpz fo cp j))))] H_9 := hP1
    have hD : va_D A [(n0, .inr (4, [.ref n1, .ref n2, .ref n3, .int (nI z9)])), (n2, .inl (ax 0, cp, .inl fl)), (n3, .inl (ax 0, cp, .inl fr)), (n1, .inl (ax 1, cp, .inl (fun j => nI (fo j)))), ((u_8 0), .inl (ax 1, 2 * z9, .inl (fun j => nI (cpz fo cp j))))] := hD1
    clear hP1 hD1 hS1
    refine W.widen (k := 1) (n := 2 * z9) (Nat.le_of_ble_eq_true rfl) (by omega) ?_
    refine va_put (D := D) (ci := 4) (v := .ref (u_8 0)) (ty := .array .byte) (C := R_Nodes) (T := F_Nodes) (N := 4) hx hb hts i_Nodes t_Nodes t_Nodes_ok n_Nodes hown hK.1 hP hD hS 0 rfl rfl 0 (by decide) (hts _ wd_103) (fun _ h9 => h9) rfl (by decide +kernel) rfl rfl (Nat.le_of_ble_eq_true rfl) d_Nodes_add_26 (fun H_11 locs hP1 hD1 hS1 => ?_)
    clear hP hD hS
    have hS := hS1
    have hP : va_P D classes [(n0, .inr (4, [.ref (u_8 0), .ref n2, .ref n3, .int (nI z9)])), (n2, .inl (ax 0, cp, .inl fl)), (n3, .inl (ax 0, cp, .inl fr)), (n1, .inl (ax 1, cp, .inl (fun j => nI (fo j)))), ((u_8 0), .inl (ax 1, 2 * z9, .inl (fun j => nI (cpz fo cp j))))] H_11 := hP1
    have hD : va_D A [(n0, .inr (4, [.ref (u_8 0), .ref n2, .ref n3, .int (nI z9)])), (n2, .inl (ax 0, cp, .inl fl)), (n3, .inl (ax 0, cp, .inl fr)), (n1, .inl (ax 1, cp, .inl (fun j => nI (fo j)))), ((u_8 0), .inl (ax 1, 2 * z9, .inl (fun j => nI (cpz fo cp j))))] := hD1
    clear hP1 hD1 hS1
    refine lv_aload_n hx hb d_Nodes_add_29 rfl (lv_at hl1 0 rfl) ?_
    refine lv_aload_n hx hb d_Nodes_add_30 rfl (lv_at hl1 0 rfl) ?_
    refine va_get (D := D) (ci := 4) (v := .ref n2) (C := R_Nodes) (T := F_Nodes) (N := 4) hx hb hts i_Nodes hown hK.1 hP 0 rfl rfl 1 (by decide) (hts _ wd_108) (fun _ h9 => h9) rfl d_Nodes_add_31 ?_
    refine lv_iconst (v := 2) hx hb d_Nodes_add_34 (by decide) ?_
    refine lv_aload_n hx hb d_Nodes_add_35 rfl (lv_at hl1 0 rfl) ?_
    refine va_get (D := D) (ci := 4) (v := .int (nI z9)) (C := R_Nodes) (T := F_Nodes) (N := 4) hx hb hts i_Nodes hown hK.1 hP 0 rfl rfl 3 (by decide) (hts _ wd_118) (fun _ h9 => h9) rfl d_Nodes_add_36 ?_
    refine lv_imul hx hb d_Nodes_add_39 ?_
    refine lv_topi (fun z_12 ez_12 => ?_)
    have ez_12 : z_12 = nI (2 * z9) := ez_12.trans (pk_mul 2 z9)
    subst ez_12
    have hPc := hP.sub (ws' := [(n2, .inl (ax 0, cp, .inl fl))]) [1] rfl
    have hDc := hD.sub (ws' := [(n2, .inl (ax 0, cp, .inl fl))]) [1] (by decide) rfl
    have hFc := va_free (wc := [(n2, .inl (ax 0, cp, .inl fl))]) hD hS hA [1] rfl
    have hz := xz_of hN hS
    refine va_callr (va_runS (As := [.ref n2, .int (nI (2 * z9))]) (rest := [.ref n0]) ⟨hx, hb, hml, hown, hts⟩ (c_Arrays_copyOf_I l D ax n2 cp (2 * z9) fl H_11.size (by omega) (by omega)) (xcS (n := 2) hts wd_369 wd_8 wd_367 wd_368 rfl rfl (by decide +kernel) ⟨Nat.le_of_ble_eq_true rfl, Nat.le_of_ble_eq_true rfl⟩) (xpS (As := [.ref n2, .int (nI (2 * z9))]) hPc hK hz hDc) rfl rfl hl1.1 rfl (lv_room (Nat.le_of_ble_eq_true rfl)) d_Nodes_add_40 ⟨(show (1) + (1) ≤ (MX - cp) by omega), (show (2 * z9) + (2 * z9) ≤ (6 * (MX - cp)) by omega)⟩) hS (fun q _ h => hFc q h) hFc (fun u_13 r_15 t H_14 locs ht hvm hw hB hz1 hk1 hS1 => ?_)
    try dsimp only at hw
    obtain ⟨hra, hP1, hD1⟩ := hB
    rw [ht] at hP1
    subst hra
    have hjn := va_join (wr := [(n0, .inr (4, [.ref (u_8 0), .ref n2, .ref n3, .int (nI z9)])), (n3, .inl (ax 0, cp, .inl fr)), (n1, .inl (ax 1, cp, .inl (fun j => nI (fo j)))), ((u_8 0), .inl (ax 1, 2 * z9, .inl (fun j => nI (cpz fo cp j))))]) (w1 := [(n2, .inl (ax 0, cp, .inl fl)), ((u_13 0), .inl (ax 0, 2 * z9, .inl (cpy9 fl cp)))]) hP hD [1] [0, 2, 3, 4] rfl rfl (by decide) (by decide) hk1 hFc hP1 hD1
    clear hP1 hD1
    clear hPc hDc hFc hz hz1 hk1 ht hvm
    have hP1 := hjn.1
    have hD1 := hjn.2
    clear hjn
    clear hP hD hS
    have hS := hS1
    have hP : va_P D classes [(n0, .inr (4, [.ref (u_8 0), .ref n2, .ref n3, .int (nI z9)])), (n3, .inl (ax 0, cp, .inl fr)), (n1, .inl (ax 1, cp, .inl (fun j => nI (fo j)))), ((u_8 0), .inl (ax 1, 2 * z9, .inl (fun j => nI (cpz fo cp j)))), (n2, .inl (ax 0, cp, .inl fl)), ((u_13 0), .inl (ax 0, 2 * z9, .inl (cpy9 fl cp)))] H_14 := hP1
    have hD : va_D A [(n0, .inr (4, [.ref (u_8 0), .ref n2, .ref n3, .int (nI z9)])), (n3, .inl (ax 0, cp, .inl fr)), (n1, .inl (ax 1, cp, .inl (fun j => nI (fo j)))), ((u_8 0), .inl (ax 1, 2 * z9, .inl (fun j => nI (cpz fo cp j)))), (n2, .inl (ax 0, cp, .inl fl)), ((u_13 0), .inl (ax 0, 2 * z9, .inl (cpy9 fl cp)))] := hD1
    clear hP1 hD1 hS1
    refine W.widen (k := 2) (n := 2 * z9 + (2 * z9)) (Nat.le_of_ble_eq_true rfl) (by omega) ?_
    refine va_put (D := D) (ci := 4) (v := .ref (u_13 0)) (ty := .array .int) (C := R_Nodes) (T := F_Nodes) (N := 4) hx hb hts i_Nodes t_Nodes t_Nodes_ok n_Nodes hown hK.1 hP hD hS 0 rfl rfl 1 (by decide) (hts _ wd_108) (fun _ h9 => h9) rfl (by decide +kernel) rfl rfl (Nat.le_of_ble_eq_true rfl) d_Nodes_add_43 (fun H_16 locs hP1 hD1 hS1 => ?_)
    clear hP hD hS
    have hS := hS1
    have hP : va_P D classes [(n0, .inr (4, [.ref (u_8 0), .ref (u_13 0), .ref n3, .int (nI z9)])), (n3, .inl (ax 0, cp, .inl fr)), (n1, .inl (ax 1, cp, .inl (fun j => nI (fo j)))), ((u_8 0), .inl (ax 1, 2 * z9, .inl (fun j => nI (cpz fo cp j)))), (n2, .inl (ax 0, cp, .inl fl)), ((u_13 0), .inl (ax 0, 2 * z9, .inl (cpy9 fl cp)))] H_16 := hP1
    have hD : va_D A [(n0, .inr (4, [.ref (u_8 0), .ref (u_13 0), .ref n3, .int (nI z9)])), (n3, .inl (ax 0, cp, .inl fr)), (n1, .inl (ax 1, cp, .inl (fun j => nI (fo j)))), ((u_8 0), .inl (ax 1, 2 * z9, .inl (fun j => nI (cpz fo cp j)))), (n2, .inl (ax 0, cp, .inl fl)), ((u_13 0), .inl (ax 0, 2 * z9, .inl (cpy9 fl cp)))] := hD1
    clear hP1 hD1 hS1
    refine lv_aload_n hx hb d_Nodes_add_46 rfl (lv_at hl1 0 rfl) ?_
    refine lv_aload_n hx hb d_Nodes_add_47 rfl (lv_at hl1 0 rfl) ?_
    refine va_get (D := D) (ci := 4) (v := .ref n3) (C := R_Nodes) (T := F_Nodes) (N := 4) hx hb hts i_Nodes hown hK.1 hP 0 rfl rfl 2 (by decide) (hts _ wd_113) (fun _ h9 => h9) rfl d_Nodes_add_48 ?_
    refine lv_iconst (v := 2) hx hb d_Nodes_add_51 (by decide) ?_
    refine lv_aload_n hx hb d_Nodes_add_52 rfl (lv_at hl1 0 rfl) ?_
    refine va_get (D := D) (ci := 4) (v := .int (nI z9)) (C := R_Nodes) (T := F_Nodes) (N := 4) hx hb hts i_Nodes hown hK.1 hP 0 rfl rfl 3 (by decide) (hts _ wd_118) (fun _ h9 => h9) rfl d_Nodes_add_53 ?_
    refine lv_imul hx hb d_Nodes_add_56 ?_
    refine lv_topi (fun z_17 ez_17 => ?_)
    have ez_17 : z_17 = nI (2 * z9) := ez_17.trans (pk_mul 2 z9)
    subst ez_17
    have hPc := hP.sub (ws' := [(n3, .inl (ax 0, cp, .inl fr))]) [1] rfl
    have hDc := hD.sub (ws' := [(n3, .inl (ax 0, cp, .inl fr))]) [1] (by decide) rfl
    have hFc := va_free (wc := [(n3, .inl (ax 0, cp, .inl fr))]) hD hS hA [1] rfl
    have hz := xz_of hN hS
    refine va_callr (va_runS (As := [.ref n3, .int (nI (2 * z9))]) (rest := [.ref n0]) ⟨hx, hb, hml, hown, hts⟩ (c_Arrays_copyOf_I l D ax n3 cp (2 * z9) fr H_16.size (by omega) (by omega)) (xcS (n := 2) hts wd_369 wd_8 wd_367 wd_368 rfl rfl (by decide +kernel) ⟨Nat.le_of_ble_eq_true rfl, Nat.le_of_ble_eq_true rfl⟩) (xpS (As := [.ref n3, .int (nI (2 * z9))]) hPc hK hz hDc) rfl rfl hl1.1 rfl (lv_room (Nat.le_of_ble_eq_true rfl)) d_Nodes_add_57 ⟨(show (2) + (1) ≤ (MX - cp) by omega), (show (2 * z9 + (2 * z9)) + (2 * z9) ≤ (6 * (MX - cp)) by omega)⟩) hS (fun q _ h => hFc q h) hFc (fun u_18 r_20 t H_19 locs ht hvm hw hB hz1 hk1 hS1 => ?_)
    try dsimp only at hw
    obtain ⟨hra, hP1, hD1⟩ := hB
    rw [ht] at hP1
    subst hra
    have hjn := va_join (wr := [(n0, .inr (4, [.ref (u_8 0), .ref (u_13 0), .ref n3, .int (nI z9)])), (n1, .inl (ax 1, cp, .inl (fun j => nI (fo j)))), ((u_8 0), .inl (ax 1, 2 * z9, .inl (fun j => nI (cpz fo cp j)))), (n2, .inl (ax 0, cp, .inl fl)), ((u_13 0), .inl (ax 0, 2 * z9, .inl (cpy9 fl cp)))]) (w1 := [(n3, .inl (ax 0, cp, .inl fr)), ((u_18 0), .inl (ax 0, 2 * z9, .inl (cpy9 fr cp)))]) hP hD [1] [0, 2, 3, 4, 5] rfl rfl (by decide) (by decide) hk1 hFc hP1 hD1
    clear hP1 hD1
    clear hPc hDc hFc hz hz1 hk1 ht hvm
    have hP1 := hjn.1
    have hD1 := hjn.2
    clear hjn
    clear hP hD hS
    have hS := hS1
    have hP : va_P D classes [(n0, .inr (4, [.ref (u_8 0), .ref (u_13 0), .ref n3, .int (nI z9)])), (n1, .inl (ax 1, cp, .inl (fun j => nI (fo j)))), ((u_8 0), .inl (ax 1, 2 * z9, .inl (fun j => nI (cpz fo cp j)))), (n2, .inl (ax 0, cp, .inl fl)), ((u_13 0), .inl (ax 0, 2 * z9, .inl (cpy9 fl cp))), (n3, .inl (ax 0, cp, .inl fr)), ((u_18 0), .inl (ax 0, 2 * z9, .inl (cpy9 fr cp)))] H_19 := hP1
    have hD : va_D A [(n0, .inr (4, [.ref (u_8 0), .ref (u_13 0), .ref n3, .int (nI z9)])), (n1, .inl (ax 1, cp, .inl (fun j => nI (fo j)))), ((u_8 0), .inl (ax 1, 2 * z9, .inl (fun j => nI (cpz fo cp j)))), (n2, .inl (ax 0, cp, .inl fl)), ((u_13 0), .inl (ax 0, 2 * z9, .inl (cpy9 fl cp))), (n3, .inl (ax 0, cp, .inl fr)), ((u_18 0), .inl (ax 0, 2 * z9, .inl (cpy9 fr cp)))] := hD1
    clear hP1 hD1 hS1
    refine W.widen (k := 3) (n := 2 * z9 + (2 * z9) + (2 * z9)) (Nat.le_of_ble_eq_true rfl) (by omega) ?_
    refine va_put (D := D) (ci := 4) (v := .ref (u_18 0)) (ty := .array .int) (C := R_Nodes) (T := F_Nodes) (N := 4) hx hb hts i_Nodes t_Nodes t_Nodes_ok n_Nodes hown hK.1 hP hD hS 0 rfl rfl 2 (by decide) (hts _ wd_113) (fun _ h9 => h9) rfl (by decide +kernel) rfl rfl (Nat.le_of_ble_eq_true rfl) d_Nodes_add_60 (fun H_21 locs hP1 hD1 hS1 => ?_)
    clear hP hD hS
    have hS := hS1
    have hP : va_P D classes [(n0, .inr (4, [.ref (u_8 0), .ref (u_13 0), .ref (u_18 0), .int (nI z9)])), (n1, .inl (ax 1, cp, .inl (fun j => nI (fo j)))), ((u_8 0), .inl (ax 1, 2 * z9, .inl (fun j => nI (cpz fo cp j)))), (n2, .inl (ax 0, cp, .inl fl)), ((u_13 0), .inl (ax 0, 2 * z9, .inl (cpy9 fl cp))), (n3, .inl (ax 0, cp, .inl fr)), ((u_18 0), .inl (ax 0, 2 * z9, .inl (cpy9 fr cp)))] H_21 := hP1
    have hD : va_D A [(n0, .inr (4, [.ref (u_8 0), .ref (u_13 0), .ref (u_18 0), .int (nI z9)])), (n1, .inl (ax 1, cp, .inl (fun j => nI (fo j)))), ((u_8 0), .inl (ax 1, 2 * z9, .inl (fun j => nI (cpz fo cp j)))), (n2, .inl (ax 0, cp, .inl fl)), ((u_13 0), .inl (ax 0, 2 * z9, .inl (cpy9 fl cp))), (n3, .inl (ax 0, cp, .inl fr)), ((u_18 0), .inl (ax 0, 2 * z9, .inl (cpy9 fr cp)))] := hD1
    clear hP1 hD1 hS1
    refine lv_aload_n hx hb d_Nodes_add_63 rfl (lv_at hl1 0 rfl) ?_
    refine va_get (D := D) (ci := 4) (v := .ref (u_8 0)) (C := R_Nodes) (T := F_Nodes) (N := 4) hx hb hts i_Nodes hown hK.1 hP 0 rfl rfl 0 (by decide) (hts _ wd_103) (fun _ h9 => h9) rfl d_Nodes_add_64 ?_
    refine lv_aload_n hx hb d_Nodes_add_67 rfl (lv_at hl1 0 rfl) ?_
    refine va_get (D := D) (ci := 4) (v := .int (nI z9)) (C := R_Nodes) (T := F_Nodes) (N := 4) hx hb hts i_Nodes hown hK.1 hP 0 rfl rfl 3 (by decide) (hts _ wd_118) (fun _ h9 => h9) rfl d_Nodes_add_68 ?_
    refine lv_iload_n hx hb d_Nodes_add_71 rfl (lv_at hl1 1 rfl) ?_
    refine lv_i2b (v := nI o1) hx hb d_Nodes_add_72 (nb_i2b (by omega)) ?_
    refine va_bast hx hb hK.1 hP hD hS 2 1 rfl rfl (vp_in_nI (by omega) (by omega)) d_Nodes_add_73 (fun H_22 locs hP1 hD1 hS1 => ?_)
    rw [nI_clamp (by omega)] at hP1 hD1
    rw [xf_supb (cpz fo cp) z9 o1 (by omega)] at hP1 hD1
    clear hP hD hS
    have hS := hS1
    have hP : va_P D classes [(n0, .inr (4, [.ref (u_8 0), .ref (u_13 0), .ref (u_18 0), .int (nI z9)])), (n1, .inl (ax 1, cp, .inl (fun j => nI (fo j)))), ((u_8 0), .inl (ax 1, 2 * z9, .inl (fun j => nI (sup (cpz fo cp) z9 o1 j)))), (n2, .inl (ax 0, cp, .inl fl)), ((u_13 0), .inl (ax 0, 2 * z9, .inl (cpy9 fl cp))), (n3, .inl (ax 0, cp, .inl fr)), ((u_18 0), .inl (ax 0, 2 * z9, .inl (cpy9 fr cp)))] H_22 := hP1
    have hD : va_D A [(n0, .inr (4, [.ref (u_8 0), .ref (u_13 0), .ref (u_18 0), .int (nI z9)])), (n1, .inl (ax 1, cp, .inl (fun j => nI (fo j)))), ((u_8 0), .inl (ax 1, 2 * z9, .inl (fun j => nI (sup (cpz fo cp) z9 o1 j)))), (n2, .inl (ax 0, cp, .inl fl)), ((u_13 0), .inl (ax 0, 2 * z9, .inl (cpy9 fl cp))), (n3, .inl (ax 0, cp, .inl fr)), ((u_18 0), .inl (ax 0, 2 * z9, .inl (cpy9 fr cp)))] := hD1
    clear hP1 hD1 hS1
    refine lv_aload_n hx hb d_Nodes_add_74 rfl (lv_at hl1 0 rfl) ?_
    refine va_get (D := D) (ci := 4) (v := .ref (u_13 0)) (C := R_Nodes) (T := F_Nodes) (N := 4) hx hb hts i_Nodes hown hK.1 hP 0 rfl rfl 1 (by decide) (hts _ wd_108) (fun _ h9 => h9) rfl d_Nodes_add_75 ?_
    refine lv_aload_n hx hb d_Nodes_add_78 rfl (lv_at hl1 0 rfl) ?_
    refine va_get (D := D) (ci := 4) (v := .int (nI z9)) (C := R_Nodes) (T := F_Nodes) (N := 4) hx hb hts i_Nodes hown hK.1 hP 0 rfl rfl 3 (by decide) (hts _ wd_118) (fun _ h9 => h9) rfl d_Nodes_add_79 ?_
    refine lv_iload_n hx hb d_Nodes_add_82 rfl (lv_at hl1 2 rfl) ?_
    refine va_iast hx hb hK.1 hP hD hS 4 0 rfl rfl (vp_in_nI (by omega) (by omega)) d_Nodes_add_83 (fun H_23 locs hP1 hD1 hS1 => ?_)
    rw [nI_clamp (by omega)] at hP1 hD1
    clear hP hD hS
    have hS := hS1
    have hP : va_P D classes [(n0, .inr (4, [.ref (u_8 0), .ref (u_13 0), .ref (u_18 0), .int (nI z9)])), (n1, .inl (ax 1, cp, .inl (fun j => nI (fo j)))), ((u_8 0), .inl (ax 1, 2 * z9, .inl (fun j => nI (sup (cpz fo cp) z9 o1 j)))), (n2, .inl (ax 0, cp, .inl fl)), ((u_13 0), .inl (ax 0, 2 * z9, .inl (upd (cpy9 fl cp) z9 x2))), (n3, .inl (ax 0, cp, .inl fr)), ((u_18 0), .inl (ax 0, 2 * z9, .inl (cpy9 fr cp)))] H_23 := hP1
    have hD : va_D A [(n0, .inr (4, [.ref (u_8 0), .ref (u_13 0), .ref (u_18 0), .int (nI z9)])), (n1, .inl (ax 1, cp, .inl (fun j => nI (fo j)))), ((u_8 0), .inl (ax 1, 2 * z9, .inl (fun j => nI (sup (cpz fo cp) z9 o1 j)))), (n2, .inl (ax 0, cp, .inl fl)), ((u_13 0), .inl (ax 0, 2 * z9, .inl (upd (cpy9 fl cp) z9 x2))), (n3, .inl (ax 0, cp, .inl fr)), ((u_18 0), .inl (ax 0, 2 * z9, .inl (cpy9 fr cp)))] := hD1
    clear hP1 hD1 hS1
    refine lv_aload_n hx hb d_Nodes_add_84 rfl (lv_at hl1 0 rfl) ?_
    refine va_get (D := D) (ci := 4) (v := .ref (u_18 0)) (C := R_Nodes) (T := F_Nodes) (N := 4) hx hb hts i_Nodes hown hK.1 hP 0 rfl rfl 2 (by decide) (hts _ wd_113) (fun _ h9 => h9) rfl d_Nodes_add_85 ?_
    refine lv_aload_n hx hb d_Nodes_add_88 rfl (lv_at hl1 0 rfl) ?_
    refine va_get (D := D) (ci := 4) (v := .int (nI z9)) (C := R_Nodes) (T := F_Nodes) (N := 4) hx hb hts i_Nodes hown hK.1 hP 0 rfl rfl 3 (by decide) (hts _ wd_118) (fun _ h9 => h9) rfl d_Nodes_add_89 ?_
    refine lv_iload_n hx hb d_Nodes_add_92 rfl (lv_at hl1 3 rfl) ?_
    refine va_iast hx hb hK.1 hP hD hS 6 0 rfl rfl (vp_in_nI (by omega) (by omega)) d_Nodes_add_93 (fun H_24 locs hP1 hD1 hS1 => ?_)
    rw [nI_clamp (by omega)] at hP1 hD1
    clear hP hD hS
    have hS := hS1
    have hP : va_P D classes [(n0, .inr (4, [.ref (u_8 0), .ref (u_13 0), .ref (u_18 0), .int (nI z9)])), (n1, .inl (ax 1, cp, .inl (fun j => nI (fo j)))), ((u_8 0), .inl (ax 1, 2 * z9, .inl (fun j => nI (sup (cpz fo cp) z9 o1 j)))), (n2, .inl (ax 0, cp, .inl fl)), ((u_13 0), .inl (ax 0, 2 * z9, .inl (upd (cpy9 fl cp) z9 x2))), (n3, .inl (ax 0, cp, .inl fr)), ((u_18 0), .inl (ax 0, 2 * z9, .inl (upd (cpy9 fr cp) z9 x3)))] H_24 := hP1
    have hD : va_D A [(n0, .inr (4, [.ref (u_8 0), .ref (u_13 0), .ref (u_18 0), .int (nI z9)])), (n1, .inl (ax 1, cp, .inl (fun j => nI (fo j)))), ((u_8 0), .inl (ax 1, 2 * z9, .inl (fun j => nI (sup (cpz fo cp) z9 o1 j)))), (n2, .inl (ax 0, cp, .inl fl)), ((u_13 0), .inl (ax 0, 2 * z9, .inl (upd (cpy9 fl cp) z9 x2))), (n3, .inl (ax 0, cp, .inl fr)), ((u_18 0), .inl (ax 0, 2 * z9, .inl (upd (cpy9 fr cp) z9 x3)))] := hD1
    clear hP1 hD1 hS1
    refine lv_aload_n hx hb d_Nodes_add_94 rfl (lv_at hl1 0 rfl) ?_
    refine lv_dup hx hb d_Nodes_add_95 rfl ?_
    refine va_get (D := D) (ci := 4) (v := .int (nI z9)) (C := R_Nodes) (T := F_Nodes) (N := 4) hx hb hts i_Nodes hown hK.1 hP 0 rfl rfl 3 (by decide) (hts _ wd_118) (fun _ h9 => h9) rfl d_Nodes_add_96 ?_
    refine lv_dup_x1 hx hb d_Nodes_add_99 rfl rfl ?_
    refine lv_iconst (v := 1) hx hb d_Nodes_add_100 (by decide) ?_
    refine lv_iadd hx hb d_Nodes_add_101 ?_
    refine lv_topi (fun z_25 ez_25 => ?_)
    have ez_25 : z_25 = nI (z9 + 1) := ez_25.trans (nI_add z9 1)
    subst ez_25
    refine va_put (D := D) (ci := 4) (v := .int (nI (z9 + 1))) (ty := .int) (C := R_Nodes) (T := F_Nodes) (N := 4) hx hb hts i_Nodes t_Nodes t_Nodes_ok n_Nodes hown hK.1 hP hD hS 0 rfl rfl 3 (by decide) (hts _ wd_118) (fun _ h9 => h9) rfl (by decide +kernel) rfl rfl (Nat.le_of_ble_eq_true rfl) d_Nodes_add_102 (fun H_26 locs hP1 hD1 hS1 => ?_)
    clear hP hD hS
    have hS := hS1
    have hP : va_P D classes [(n0, .inr (4, [.ref (u_8 0), .ref (u_13 0), .ref (u_18 0), .int (nI (z9 + 1))])), (n1, .inl (ax 1, cp, .inl (fun j => nI (fo j)))), ((u_8 0), .inl (ax 1, 2 * z9, .inl (fun j => nI (sup (cpz fo cp) z9 o1 j)))), (n2, .inl (ax 0, cp, .inl fl)), ((u_13 0), .inl (ax 0, 2 * z9, .inl (upd (cpy9 fl cp) z9 x2))), (n3, .inl (ax 0, cp, .inl fr)), ((u_18 0), .inl (ax 0, 2 * z9, .inl (upd (cpy9 fr cp) z9 x3)))] H_26 := hP1
    have hD : va_D A [(n0, .inr (4, [.ref (u_8 0), .ref (u_13 0), .ref (u_18 0), .int (nI (z9 + 1))])), (n1, .inl (ax 1, cp, .inl (fun j => nI (fo j)))), ((u_8 0), .inl (ax 1, 2 * z9, .inl (fun j => nI (sup (cpz fo cp) z9 o1 j)))), (n2, .inl (ax 0, cp, .inl fl)), ((u_13 0), .inl (ax 0, 2 * z9, .inl (upd (cpy9 fl cp) z9 x2))), (n3, .inl (ax 0, cp, .inl fr)), ((u_18 0), .inl (ax 0, 2 * z9, .inl (upd (cpy9 fr cp) z9 x3)))] := hD1
    clear hP1 hD1 hS1
    refine wk_know (fun hk8 hk9 => ?_)
    refine W.widen (k := MX - cp) (n := 6 * (MX - cp)) (by omega) (by omega) ?_
    have hP9 := hP.sub (ws' := (fun (u : Nat → Nat) (xfo : Nat → Nat) (xfl : Nat → Int32) (xfr : Nat → Int32) => [(n0, .inr (4, [.ref (u 0), .ref (u 1), .ref (u 2), .int (nI (z9 + 1))])), (u 0, .inl (ax 1, u 3, .inl (fun j => nI (xfo j)))), (u 1, .inl (ax 0, u 3, .inl xfl)), (u 2, .inl (ax 0, u 3, .inl xfr))]) (ixn [(u_8 0), (u_13 0), (u_18 0), (2 * z9)]) (sup (cpz fo cp) z9 o1) (upd (cpy9 fl cp) z9 x2) (upd (cpy9 fr cp) z9 x3)) [0, 2, 4, 6] rfl
    have hD9 := hD.sub (ws' := (fun (u : Nat → Nat) (xfo : Nat → Nat) (xfl : Nat → Int32) (xfr : Nat → Int32) => [(n0, .inr (4, [.ref (u 0), .ref (u 1), .ref (u 2), .int (nI (z9 + 1))])), (u 0, .inl (ax 1, u 3, .inl (fun j => nI (xfo j)))), (u 1, .inl (ax 0, u 3, .inl xfl)), (u 2, .inl (ax 0, u 3, .inl xfr))]) (ixn [(u_8 0), (u_13 0), (u_18 0), (2 * z9)]) (sup (cpz fo cp) z9 o1) (upd (cpy9 fl cp) z9 x2) (upd (cpy9 fr cp) z9 x3)) [0, 2, 4, 6] (by decide) rfl
    have hex0 : nad fo (sup (cpz fo cp) z9 o1) fl fr (upd (cpy9 fl cp) z9 x2) (upd (cpy9 fr cp) z9 x3) z9 o1 x2 x3 := (by rw [show cp = z9 by omega]; exact nad_grow)
    have hex1 : sml (sup (cpz fo cp) z9 o1) ((2 * z9)) := (hfo.cz.sp ho1)
    have hg8 : H_26.size ≤ s.heap.size + ((2 * z9) - cp) := by omega
    have hg9 : tsl H_26 ≤ tsl s.heap + (6 * ((2 * z9) - cp)) := by omega
    have hsp0 : z9 + 1 ≤ (2 * z9) := (by omega)
    have hsp1 : cp ≤ (2 * z9) := (by omega)
    have hsp2 : (2 * z9) ≤ MX := (by omega)
    exact W.iret (v := nI z9) hx hb hr (fun t ht hW => ⟨⟨nI z9, ixn [(u_8 0), (u_13 0), (u_18 0), (2 * z9)], rfl, ⟨rfl, ⟨hsp0, hsp1, hsp2⟩⟩, ⟨sup (cpz fo cp) z9 o1, (upd (cpy9 fl cp) z9 x2), (upd (cpy9 fr cp) z9 x3), by rw [ht]; exact hg8, by rw [ht]; exact hg9, hex0, hex1, by rw [ht]; exact hP9, hD9⟩⟩, hS.F ht⟩) hS.2.2 d_Nodes_add_105
