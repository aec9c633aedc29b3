theorem ps_19 : Cond.selects "TripleDesk" ⟨"TripleDesk", "needProgram", "()V"⟩ ⟨"TripleDesk", "needProgram", "()V"⟩ ∈ lw_gd := ps_in (q := (⟨"TripleDesk", "needProgram", "()V"⟩, 13)) (i := 19) (by decide +kernel)
theorem wd_23 : ((Jvm.Cond.initialized "java/lang/IllegalStateException")) ∈ lw_gd := lw_gd_in (i := 23) (by decide +kernel) rfl
theorem wd_24 : ((Jvm.Cond.initialized "java/lang/IndexOutOfBoundsException")) ∈ lw_gd := lw_gd_in (i := 24) (by decide +kernel) rfl
theorem wd_307 : ((Jvm.Cond.fieldLink "TripleDesk" (112 : Nat) "TripleDesk$Listing" "claims" "I")) ∈ lw_gd := lw_gd_in (i := 307) (by decide +kernel) rfl
theorem wd_662 : ((Jvm.Cond.methodLink "TripleDesk" (109 : Nat) ({ cls := "TripleDesk", name := "needProgram", desc := "()V" } : Jvm.MethodName))) ∈ lw_gd := lw_gd_in (i := 662) (by decide +kernel) rfl
theorem wd_664 : ((Jvm.Cond.instanceMethod ({ cls := "TripleDesk", name := "needProgram", desc := "()V" } : Jvm.MethodName))) ∈ lw_gd := lw_gd_in (i := 664) (by decide +kernel) rfl
theorem wd_665 : ((Jvm.Cond.code ({ cls := "TripleDesk", name := "needProgram", desc := "()V" } : Jvm.MethodName) prog_1_method_17_code (1 : Nat) (Option.none : Option Jvm.ClassFile.FieldType))) ∈ lw_gd := lw_gd_in (i := 665) (by decide +kernel) rfl
theorem wd_666 : ((Jvm.Cond.classLink "TripleDesk" (147 : Nat) "java/lang/IllegalStateException")) ∈ lw_gd := lw_gd_in (i := 666) (by decide +kernel) rfl
theorem wd_741 : ((Jvm.Cond.classLink "TripleDesk" (140 : Nat) "java/lang/IndexOutOfBoundsException")) ∈ lw_gd := lw_gd_in (i := 741) (by decide +kernel) rfl
abbrev b_Desk_needProgram : ByteArray := prog_1_method_17_code
def y_Desk_needProgram : MethodName := ⟨R_Desk, "needProgram", "()V"⟩
theorem d_Desk_needProgram_0 : decode b_Desk_needProgram 0 = .ok (.aload_n 0, 1) := by decide +kernel
theorem d_Desk_needProgram_1 : decode b_Desk_needProgram 1 = .ok (.getfield 102, 3) := by decide +kernel
theorem d_Desk_needProgram_4 : decode b_Desk_needProgram 4 = .ok (.ifCond .ne 11, 3) := by decide +kernel
theorem d_Desk_needProgram_7 : decode b_Desk_needProgram 7 = .ok (.new 147, 3) := by decide +kernel
theorem d_Desk_needProgram_10 : decode b_Desk_needProgram 10 = .ok (.dup, 1) := by decide +kernel
theorem d_Desk_needProgram_11 : decode b_Desk_needProgram 11 = .ok (.invokespecial 149, 3) := by decide +kernel
theorem d_Desk_needProgram_14 : decode b_Desk_needProgram 14 = .ok (.athrow, 1) := by decide +kernel
theorem d_Desk_needProgram_15 : decode b_Desk_needProgram 15 = .ok (.return_, 1) := by decide +kernel
set_option maxHeartbeats 40000000 in
set_option maxRecDepth 100000 in
theorem c_D_needProgram_no (l : Launch) (hl : l.stackTraces = false) (D : va_G) (ax : Nat → ClassId) (d0 k0 r0 c0 p0 fd0 w0 e0 b0 a0 y0 g0 i0 : Nat) (sz tz : Nat) : xt_Met l y_Desk_needProgram (xws (.code y_Desk_needProgram b_Desk_needProgram 1 none)) ({ frames := 10, cells := 1, slots := 6, locals := 400 }) (va_Pc [.ref d0] (xo3 D ax [(d0, .inr (10, [.ref k0, .ref r0, .ref c0, .ref p0, .ref fd0, .ref w0, .ref e0, .ref b0, .ref a0, .ref y0, .ref g0, .ref i0, .int 0]))] sz tz)) ((xt_U ["java/lang/IllegalStateException"] False (fun (h9 : Heap) => ∃ u : Nat → Nat, (h9.size ≤ sz + (1)) ∧ (tsl h9 ≤ tz + (6)) ∧ va_P D classes [(d0, .inr (10, [.ref k0, .ref r0, .ref c0, .ref p0, .ref fd0, .ref w0, .ref e0, .ref b0, .ref a0, .ref y0, .ref g0, .ref i0, .int 0]))] h9 ∧ va_D (va_A [(d0, .inr (10, [.ref k0, .ref r0, .ref c0, .ref p0, .ref fd0, .ref w0, .ref e0, .ref b0, .ref a0, .ref y0, .ref g0, .ref i0, .int 0]))] sz) [(d0, .inr (10, [.ref k0, .ref r0, .ref c0, .ref p0, .ref fd0, .ref w0, .ref e0, .ref b0, .ref a0, .ref y0, .ref g0, .ref i0, .int 0]))]) (va_A [(d0, .inr (10, [.ref k0, .ref r0, .ref c0, .ref p0, .ref fd0, .ref w0, .ref e0, .ref b0, .ref a0, .ref y0, .ref g0, .ref i0, .int 0]))] sz))) 1 6 (va_A [(d0, .inr (10, [.ref k0, .ref r0, .ref c0, .ref p0, .ref fd0, .ref w0, .ref e0, .ref b0, .ref a0, .ref y0, .ref g0, .ref i0, .int 0]))] sz) := by
  refine xt_Met.ofW (cc := b_Desk_needProgram) (maxL := 1) (ret := none) (by decide) rfl ?_
  intro p e s m args below meth c s₁ B hml hout hv
  obtain ⟨rfl, ⟨hsz, hP, hK, hD0⟩, htz⟩ := hv
  have hx := B.exec
  have hb := B.bytes
  have hr := B.returns
  have hts := xw_hts B.pre
  have hown : s.vm.findClass R_Desk = some m.cls := findClass_of_methodNamed B.named
  have hlocks := B.notSynchronized
  have htr : e.platform.stackTraces = false := by rw [B.admits.platform]; exact hl
  subst hsz
  subst htz
  have hD := hD0.self (sz := s.heap.size)
  have hN := xz_entry hP
  generalize hAe : va_A [(d0, .inr (10, [.ref k0, .ref r0, .ref c0, .ref p0, .ref fd0, .ref w0, .ref e0, .ref b0, .ref a0, .ref y0, .ref g0, .ref i0, .int 0]))] s.heap.size = A at hD hN ⊢
  have hA : ∀ q : Nat, s.heap.size ≤ q → A q := fun q h => by rw [← hAe]; exact Or.inr h
  have hS : va_S A s.heap s.heap [] := va_S.rf
  have hl0 := lv_entry ([.ref d0]) (n := 1) (Nat.le_of_ble_eq_true rfl)
  rw [lg_entry_eq]
  generalize (lg_sl ([.ref d0]) ++ List.replicate (1 - (lg_sl ([.ref d0])).length) Slot.unset).toArray = ls at hl0 ⊢
  have hl1 : lv_has ls 1 [(0, .ref d0)] := hl0
  refine lv_aload_n hx hb d_Desk_needProgram_0 rfl (lv_at hl1 0 rfl) ?_
  refine va_get (D := D) (ci := 10) (v := .int 0) (C := R_Desk) (T := F_Desk) (N := 13) hx hb hts i_Desk hown hK.1 hP 0 rfl rfl 12 (by decide) (hts _ wd_387) (fun _ h9 => h9) rfl d_Desk_needProgram_1 ?_
  refine lv_if_ne (tgt := 15) hx hb d_Desk_needProgram_4 (by decide) (fun c_1 => ?_) (fun c_1 => ?_)
  · first | exact absurd c_1 (by decide) | exact absurd (by decide) c_1
  refine wk_know (fun hk8 hk9 => ?_)
  obtain ⟨hP9, hD9⟩ := xw_sub2 (wc := (fun (u : Nat → Nat)  => [(d0, .inr (10, [.ref k0, .ref r0, .ref c0, .ref p0, .ref fd0, .ref w0, .ref e0, .ref b0, .ref a0, .ref y0, .ref g0, .ref i0, .int 0]))]) ((fun _ => 0)) ) hP hD [0] (by decide) rfl
  have hg8 : s.heap.size + 1 ≤ s.heap.size + (1) := by omega
  have hg9 : tsl s.heap + 6 ≤ tsl s.heap + (6) := by omega
  exact xt_newG (cls := "java/lang/IllegalStateException") (names := xe_nm) hx hb htr hown (by decide +kernel) (by decide +kernel) (fun U hW => lw_gd_good _ wd_666 _ _ _ _ (hts _ wd_666) hW) (fun U hW => lw_gd_good _ wd_23 _ _ _ _ (hts _ wd_23) hW) (fun U hW hU => xe_ISE_Desk (fun w hw => lw_gd_good w hw _ _ _ _ (hts w hw) hW) (hK.moved hW (by rw [hU]; exact xz_of hN hS))) (hl1.1.trans hml.symm) d_Desk_needProgram_7 d_Desk_needProgram_10 d_Desk_needProgram_11 d_Desk_needProgram_14 hout (Nat.le_of_ble_eq_true rfl) (Nat.le_of_ble_eq_true rfl) (Nat.le_of_ble_eq_true rfl) (Nat.le_of_ble_eq_true rfl) hlocks (fun q hq => hS.2.2 q hq) (fun x9 t9 hob h1 h2 h3 hk => ⟨Or.inl ⟨x9, _, by decide, rfl, hob⟩, ⟨(fun _ => 0), Nat.le_trans h2 hg8, Nat.le_trans h3 hg9, xp_kept hP9 hk, hD9⟩, xs_new hS h1 hk⟩)
set_option maxHeartbeats 40000000 in
set_option maxRecDepth 100000 in
theorem c_D_needProgram_ok (l : Launch) (D : va_G) (ax : Nat → ClassId) (d0 k0 r0 c0 p0 fd0 w0 e0 b0 a0 y0 g0 i0 : Nat) (sz : Nat) : Met l y_Desk_needProgram (xws (.code y_Desk_needProgram b_Desk_needProgram 1 none)) ({ frames := 10, cells := 0, slots := 0, locals := 400 }) (va_Pc [.ref d0] (xo D ax [(d0, .inr (10, [.ref k0, .ref r0, .ref c0, .ref p0, .ref fd0, .ref w0, .ref e0, .ref b0, .ref a0, .ref y0, .ref g0, .ref i0, .int 1]))] sz)) ((va_Qv (fun (u : Nat → Nat) => True) (xb D (va_A [(d0, .inr (10, [.ref k0, .ref r0, .ref c0, .ref p0, .ref fd0, .ref w0, .ref e0, .ref b0, .ref a0, .ref y0, .ref g0, .ref i0, .int 1]))] sz) (fun u => [(d0, .inr (10, [.ref k0, .ref r0, .ref c0, .ref p0, .ref fd0, .ref w0, .ref e0, .ref b0, .ref a0, .ref y0, .ref g0, .ref i0, .int 1]))])) (va_A [(d0, .inr (10, [.ref k0, .ref r0, .ref c0, .ref p0, .ref fd0, .ref w0, .ref e0, .ref b0, .ref a0, .ref y0, .ref g0, .ref i0, .int 1]))] sz))) 0 0 (va_A [(d0, .inr (10, [.ref k0, .ref r0, .ref c0, .ref p0, .ref fd0, .ref w0, .ref e0, .ref b0, .ref a0, .ref y0, .ref g0, .ref i0, .int 1]))] sz) := by
  refine Met.ofW (cc := b_Desk_needProgram) (maxL := 1) (ret := none) (by decide) rfl ?_
  intro p e s m args below meth c s₁ B hml hv
  obtain ⟨rfl, hsz, hP, hK, hD0⟩ := hv
  have hx := B.exec
  have hb := B.bytes
  have hr := B.returns
  have hts := xw_hts B.pre
  have hown : s.vm.findClass R_Desk = some m.cls := findClass_of_methodNamed B.named
  have hlocks := B.notSynchronized
  subst hsz
  have hD := hD0.self (sz := s.heap.size)
  have hN := xz_entry hP
  generalize hAe : va_A [(d0, .inr (10, [.ref k0, .ref r0, .ref c0, .ref p0, .ref fd0, .ref w0, .ref e0, .ref b0, .ref a0, .ref y0, .ref g0, .ref i0, .int 1]))] s.heap.size = A at hD hN ⊢
  have hA : ∀ q : Nat, s.heap.size ≤ q → A q := fun q h => by rw [← hAe]; exact Or.inr h
  have hS : va_S A s.heap s.heap [] := va_S.rf
  have hl0 := lv_entry ([.ref d0]) (n := 1) (Nat.le_of_ble_eq_true rfl)
  rw [lg_entry_eq]
  generalize (lg_sl ([.ref d0]) ++ List.replicate (1 - (lg_sl ([.ref d0])).length) Slot.unset).toArray = ls at hl0 ⊢
  have hl1 : lv_has ls 1 [(0, .ref d0)] := hl0
  refine xw_gen (fun Z9 hQe => ?_)
  refine lv_aload_n hx hb d_Desk_needProgram_0 rfl (lv_at hl1 0 rfl) ?_
  refine va_get (D := D) (ci := 10) (v := .int 1) (C := R_Desk) (T := F_Desk) (N := 13) hx hb hts i_Desk hown hK.1 hP 0 rfl rfl 12 (by decide) (hts _ wd_387) (fun _ h9 => h9) rfl d_Desk_needProgram_1 ?_
  refine lv_if_ne (tgt := 15) hx hb d_Desk_needProgram_4 (by decide) (fun c_1 => ?_) (fun c_1 => ?_)
  rotate_left
  · first | exact absurd c_1 (by decide) | exact absurd (by decide) c_1
  rw [← hQe]
  obtain ⟨hP9, hD9⟩ := xw_sub2 (wc := (fun u : Nat → Nat => [(d0, .inr (10, [.ref k0, .ref r0, .ref c0, .ref p0, .ref fd0, .ref w0, .ref e0, .ref b0, .ref a0, .ref y0, .ref g0, .ref i0, .int 1]))]) (ixn [])) hP hD [0] (by decide) rfl
  exact W.vret hx hb hr (fun t ht hW => ⟨⟨ixn [], rfl, trivial, ⟨by rw [ht]; exact hP9, hD9⟩⟩, hS.F ht⟩) hS.2.2 d_Desk_needProgram_15
abbrev b_Desk_needClaim : ByteArray := prog_1_method_18_code
def y_Desk_needClaim : MethodName := ⟨R_Desk, "needClaim", "(I)V"⟩
theorem d_Desk_needClaim_0 : decode b_Desk_needClaim 0 = .ok (.aload_n 0, 1) := by decide +kernel
theorem d_Desk_needClaim_1 : decode b_Desk_needClaim 1 = .ok (.invokevirtual 109, 3) := by decide +kernel
theorem d_Desk_needClaim_4 : decode b_Desk_needClaim 4 = .ok (.iload_n 1, 1) := by decide +kernel
theorem d_Desk_needClaim_5 : decode b_Desk_needClaim 5 = .ok (.ifCond .lt 14, 3) := by decide +kernel
theorem d_Desk_needClaim_8 : decode b_Desk_needClaim 8 = .ok (.iload_n 1, 1) := by decide +kernel
theorem d_Desk_needClaim_9 : decode b_Desk_needClaim 9 = .ok (.aload_n 0, 1) := by decide +kernel
theorem d_Desk_needClaim_10 : decode b_Desk_needClaim 10 = .ok (.getfield 76, 3) := by decide +kernel
theorem d_Desk_needClaim_13 : decode b_Desk_needClaim 13 = .ok (.getfield 112, 3) := by decide +kernel
theorem d_Desk_needClaim_16 : decode b_Desk_needClaim 16 = .ok (.if_icmp .lt 11, 3) := by decide +kernel
theorem d_Desk_needClaim_19 : decode b_Desk_needClaim 19 = .ok (.new 140, 3) := by decide +kernel
theorem d_Desk_needClaim_22 : decode b_Desk_needClaim 22 = .ok (.dup, 1) := by decide +kernel
theorem d_Desk_needClaim_23 : decode b_Desk_needClaim 23 = .ok (.invokespecial 142, 3) := by decide +kernel
theorem d_Desk_needClaim_26 : decode b_Desk_needClaim 26 = .ok (.athrow, 1) := by decide +kernel
theorem d_Desk_needClaim_27 : decode b_Desk_needClaim 27 = .ok (.return_, 1) := by decide +kernel
set_option maxHeartbeats 40000000 in
set_option maxRecDepth 100000 in
theorem c_D_needClaim_np (l : Launch) (hl : l.stackTraces = false) (D : va_G) (ax : Nat → ClassId) (d0 k0 r0 c0 p0 fd0 w0 e0 b0 a0 y0 g0 i0 : Nat) (x1 : Int32) (sz tz : Nat) : xt_Met l y_Desk_needClaim (xws (.code y_Desk_needClaim b_Desk_needClaim 2 none)) ({ frames := 20, cells := 1, slots := 6, locals := 800 }) (va_Pc [.ref d0, .int x1] (xo3 D ax [(d0, .inr (10, [.ref k0, .ref r0, .ref c0, .ref p0, .ref fd0, .ref w0, .ref e0, .ref b0, .ref a0, .ref y0, .ref g0, .ref i0, .int 0]))] sz tz)) ((xt_U ["java/lang/IllegalStateException"] False (fun (h9 : Heap) => ∃ u : Nat → Nat, (h9.size ≤ sz + (1)) ∧ (tsl h9 ≤ tz + (6)) ∧ va_P D classes [(d0, .inr (10, [.ref k0, .ref r0, .ref c0, .ref p0, .ref fd0, .ref w0, .ref e0, .ref b0, .ref a0, .ref y0, .ref g0, .ref i0, .int 0]))] h9 ∧ va_D (va_A [(d0, .inr (10, [.ref k0, .ref r0, .ref c0, .ref p0, .ref fd0, .ref w0, .ref e0, .ref b0, .ref a0, .ref y0, .ref g0, .ref i0, .int 0]))] sz) [(d0, .inr (10, [.ref k0, .ref r0, .ref c0, .ref p0, .ref fd0, .ref w0, .ref e0, .ref b0, .ref a0, .ref y0, .ref g0, .ref i0, .int 0]))]) (va_A [(d0, .inr (10, [.ref k0, .ref r0, .ref c0, .ref p0, .ref fd0, .ref w0, .ref e0, .ref b0, .ref a0, .ref y0, .ref g0, .ref i0, .int 0]))] sz))) 1 6 (va_A [(d0, .inr (10, [.ref k0, .ref r0, .ref c0, .ref p0, .ref fd0, .ref w0, .ref e0, .ref b0, .ref a0, .ref y0, .ref g0, .ref i0, .int 0]))] sz) := by
  refine xt_Met.ofW (cc := b_Desk_needClaim) (maxL := 2) (ret := none) (by decide) rfl ?_
  intro p e s m args below meth c s₁ B hml hout hv
  obtain ⟨rfl, ⟨hsz, hP, hK, hD0⟩, htz⟩ := hv
  have hx := B.exec
  have hb := B.bytes
  have hr := B.returns
  have hts := xw_hts B.pre
  have hown : s.vm.findClass R_Desk = some m.cls := findClass_of_methodNamed B.named
  have hlocks := B.notSynchronized
  have htr : e.platform.stackTraces = false := by rw [B.admits.platform]; exact hl
  subst hsz
  subst htz
  have hD := hD0.self (sz := s.heap.size)
  have hN := xz_entry hP
  generalize hAe : va_A [(d0, .inr (10, [.ref k0, .ref r0, .ref c0, .ref p0, .ref fd0, .ref w0, .ref e0, .ref b0, .ref a0, .ref y0, .ref g0, .ref i0, .int 0]))] s.heap.size = A at hD hN ⊢
  have hA : ∀ q : Nat, s.heap.size ≤ q → A q := fun q h => by rw [← hAe]; exact Or.inr h
  have hS : va_S A s.heap s.heap [] := va_S.rf
  have hl0 := lv_entry ([.ref d0, .int x1]) (n := 2) (Nat.le_of_ble_eq_true rfl)
  rw [lg_entry_eq]
  generalize (lg_sl ([.ref d0, .int x1]) ++ List.replicate (2 - (lg_sl ([.ref d0, .int x1])).length) Slot.unset).toArray = ls at hl0 ⊢
  have hl1 : lv_has ls 2 [(0, .ref d0), (1, .int x1)] := hl0
  refine lv_aload_n hx hb d_Desk_needClaim_0 rfl (lv_at hl1 0 rfl) ?_
  obtain ⟨hPc, hDc, hFc, hCs⟩ := xw_sub3 (wc := [(d0, .inr (10, [.ref k0, .ref r0, .ref c0, .ref p0, .ref fd0, .ref w0, .ref e0, .ref b0, .ref a0, .ref y0, .ref g0, .ref i0, .int 0]))]) hP hD hS hA [0] (by decide) rfl
  have hz := xz_of hN hS
  refine wk_know (fun hk8 hk9 => ?_)
  subst hAe
  exact xt_outU (xt_runV (As := []) (rest := []) ⟨hx, hb, hml, hown, hts⟩ (c_D_needProgram_no l hl D ax d0 k0 r0 c0 p0 fd0 w0 e0 b0 a0 y0 g0 i0 s.heap.size (tsl s.heap)) (xcV (n := 0) hts wd_665 wd_1 wd_662 wd_664 ps_19 rfl rfl (by decide +kernel) ⟨Nat.le_of_ble_eq_true rfl, Nat.le_of_ble_eq_true rfl⟩) (xpV3 (ci := 10) (q0 := 0) (As := []) hPc hK hz hDc rfl rfl) rfl rfl hl1.1 rfl (lv_room (Nat.le_of_ble_eq_true rfl)) d_Desk_needClaim_1 ⟨Nat.le_of_ble_eq_true rfl, Nat.le_of_ble_eq_true rfl⟩) hout hlocks (fun q h => h)
set_option maxHeartbeats 40000000 in
set_option maxRecDepth 100000 in
theorem c_D_needClaim_no (l : Launch) (hl : l.stackTraces = false) (D : va_G) (ax : Nat → ClassId) (d0 k0 r0 c0 p0 fd0 w0 e0 b0 a0 y0 g0 i0 h0 g1 g2 g3 g4 g5 g6 g7 g8 g9 ga gb cl ln br lp va : Nat) (x1 : Int32) (sz tz : Nat) (hcl : cl ≤ 29) (hno : ∀ j : Nat, j < cl → x1 ≠ nI j) : xt_Met l y_Desk_needClaim (xws (.code y_Desk_needClaim b_Desk_needClaim 2 none)) ({ frames := 20, cells := 1, slots := 6, locals := 800 }) (va_Pc [.ref d0, .int x1] (xo3 D ax [(d0, .inr (10, [.ref k0, .ref r0, .ref c0, .ref p0, .ref fd0, .ref w0, .ref e0, .ref b0, .ref a0, .ref y0, .ref g0, .ref i0, .int 1])), (g0, .inr (2, [.ref h0, .ref g1, .ref g2, .ref g3, .ref g4, .ref g5, .ref g6, .ref g7, .ref g8, .ref g9, .ref ga, .ref gb, .int (nI cl), .int (nI ln), .int (nI br), .int (nI lp), .int (nI va)]))] sz tz)) ((xt_U ["java/lang/IndexOutOfBoundsException"] False (fun (h9 : Heap) => ∃ u : Nat → Nat, (h9.size ≤ sz + (1)) ∧ (tsl h9 ≤ tz + (6)) ∧ va_P D classes [(d0, .inr (10, [.ref k0, .ref r0, .ref c0, .ref p0, .ref fd0, .ref w0, .ref e0, .ref b0, .ref a0, .ref y0, .ref g0, .ref i0, .int 1])), (g0, .inr (2, [.ref h0, .ref g1, .ref g2, .ref g3, .ref g4, .ref g5, .ref g6, .ref g7, .ref g8, .ref g9, .ref ga, .ref gb, .int (nI cl), .int (nI ln), .int (nI br), .int (nI lp), .int (nI va)]))] h9 ∧ va_D (va_A [(d0, .inr (10, [.ref k0, .ref r0, .ref c0, .ref p0, .ref fd0, .ref w0, .ref e0, .ref b0, .ref a0, .ref y0, .ref g0, .ref i0, .int 1])), (g0, .inr (2, [.ref h0, .ref g1, .ref g2, .ref g3, .ref g4, .ref g5, .ref g6, .ref g7, .ref g8, .ref g9, .ref ga, .ref gb, .int (nI cl), .int (nI ln), .int (nI br), .int (nI lp), .int (nI va)]))] sz) [(d0, .inr (10, [.ref k0, .ref r0, .ref c0, .ref p0, .ref fd0, .ref w0, .ref e0, .ref b0, .ref a0, .ref y0, .ref g0, .ref i0, .int 1])), (g0, .inr (2, [.ref h0, .ref g1, .ref g2, .ref g3, .ref g4, .ref g5, .ref g6, .ref g7, .ref g8, .ref g9, .ref ga, .ref gb, .int (nI cl), .int (nI ln), .int (nI br), .int (nI lp), .int (nI va)]))]) (va_A [(d0, .inr (10, [.ref k0, .ref r0, .ref c0, .ref p0, .ref fd0, .ref w0, .ref e0, .ref b0, .ref a0, .ref y0, .ref g0, .ref i0, .int 1])), (g0, .inr (2, [.ref h0, .ref g1, .ref g2, .ref g3, .ref g4, .ref g5, .ref g6, .ref g7, .ref g8, .ref g9, .ref ga, .ref gb, .int (nI cl), .int (nI ln), .int (nI br), .int (nI lp), .int (nI va)]))] sz))) 1 6 (va_A [(d0, .inr (10, [.ref k0, .ref r0, .ref c0, .ref p0, .ref fd0, .ref w0, .ref e0, .ref b0, .ref a0, .ref y0, .ref g0, .ref i0, .int 1])), (g0, .inr (2, [.ref h0, .ref g1, .ref g2, .ref g3, .ref g4, .ref g5, .ref g6, .ref g7, .ref g8, .ref g9, .ref ga, .ref gb, .int (nI cl), .int (nI ln), .int (nI br), .int (nI lp), .int (nI va)]))] sz) := by
  refine xt_Met.ofW (cc := b_Desk_needClaim) (maxL := 2) (ret := none) (by decide) rfl ?_
  intro p e s m args below meth c s₁ B hml hout hv
  obtain ⟨rfl, ⟨hsz, hP, hK, hD0⟩, htz⟩ := hv
  have hx := B.exec
  have hb := B.bytes
  have hr := B.returns
  have hts := xw_hts B.pre
  have hown : s.vm.findClass R_Desk = some m.cls := findClass_of_methodNamed B.named
  have hlocks := B.notSynchronized
  have htr : e.platform.stackTraces = false := by rw [B.admits.platform]; exact hl
  subst hsz
  subst htz
  have hD := hD0.self (sz := s.heap.size)
  have hN := xz_entry hP
  generalize hAe : va_A [(d0, .inr (10, [.ref k0, .ref r0, .ref c0, .ref p0, .ref fd0, .ref w0, .ref e0, .ref b0, .ref a0, .ref y0, .ref g0, .ref i0, .int 1])), (g0, .inr (2, [.ref h0, .ref g1, .ref g2, .ref g3, .ref g4, .ref g5, .ref g6, .ref g7, .ref g8, .ref g9, .ref ga, .ref gb, .int (nI cl), .int (nI ln), .int (nI br), .int (nI lp), .int (nI va)]))] s.heap.size = A at hD hN ⊢
  have hA : ∀ q : Nat, s.heap.size ≤ q → A q := fun q h => by rw [← hAe]; exact Or.inr h
  have hS : va_S A s.heap s.heap [] := va_S.rf
  have hl0 := lv_entry ([.ref d0, .int x1]) (n := 2) (Nat.le_of_ble_eq_true rfl)
  rw [lg_entry_eq]
  generalize (lg_sl ([.ref d0, .int x1]) ++ List.replicate (2 - (lg_sl ([.ref d0, .int x1])).length) Slot.unset).toArray = ls at hl0 ⊢
  have hl1 : lv_has ls 2 [(0, .ref d0), (1, .int x1)] := hl0
  refine lv_aload_n hx hb d_Desk_needClaim_0 rfl (lv_at hl1 0 rfl) ?_
  obtain ⟨hPc, hDc, hFc, hCs⟩ := xw_sub3 (wc := [(d0, .inr (10, [.ref k0, .ref r0, .ref c0, .ref p0, .ref fd0, .ref w0, .ref e0, .ref b0, .ref a0, .ref y0, .ref g0, .ref i0, .int 1]))]) hP hD hS hA [0] (by decide) rfl
  have hz := xz_of hN hS
  refine va_callv (va_runV (As := []) (rest := []) ⟨hx, hb, hml, hown, hts⟩ (c_D_needProgram_ok l D ax d0 k0 r0 c0 p0 fd0 w0 e0 b0 a0 y0 g0 i0 s.heap.size) (xcV (n := 0) hts wd_665 wd_1 wd_662 wd_664 ps_19 rfl rfl (by decide +kernel) ⟨Nat.le_of_ble_eq_true rfl, Nat.le_of_ble_eq_true rfl⟩) (xpV (ci := 10) (q0 := 0) (As := []) hPc hK hz hDc rfl rfl) rfl rfl hl1.1 rfl (lv_room (Nat.le_of_ble_eq_true rfl)) d_Desk_needClaim_1 ⟨Nat.le_of_ble_eq_true rfl, Nat.le_of_ble_eq_true rfl⟩) hS (fun q _ h => hFc q h) hFc (fun u_1 t H_2 locs ht hvm hw hB hz1 hk1 hS1 => ?_)
  try dsimp only at hw
  obtain ⟨hP1, hD1⟩ := hB
  rw [ht] at hP1
  have hjn := xw_join3 (wl := [(g0, .inr (2, [.ref h0, .ref g1, .ref g2, .ref g3, .ref g4, .ref g5, .ref g6, .ref g7, .ref g8, .ref g9, .ref ga, .ref gb, .int (nI cl), .int (nI ln), .int (nI br), .int (nI lp), .int (nI va)])), (d0, .inr (10, [.ref k0, .ref r0, .ref c0, .ref p0, .ref fd0, .ref w0, .ref e0, .ref b0, .ref a0, .ref y0, .ref g0, .ref i0, .int 1]))]) hP hD [0] [1] hCs (by decide) (by decide) hk1 hFc hP1 hD1 rfl
  clear hP1 hD1
  clear hPc hDc hFc hCs hz hz1 hk1 ht hvm
  clear hP hD hS
  have hS := hS1
  obtain ⟨hP, hD⟩ := hjn
  clear hS1
  refine lv_iload_n hx hb d_Desk_needClaim_4 rfl (lv_at hl1 1 rfl) ?_
  refine lv_if_lt (tgt := 19) hx hb d_Desk_needClaim_5 (by decide) (fun c_4 => ?_) (fun c_4 => ?_)
  · refine wk_know (fun hk8 hk9 => ?_)
    obtain ⟨hP9, hD9⟩ := xw_sub2 (wc := (fun (u : Nat → Nat)  => [(d0, .inr (10, [.ref k0, .ref r0, .ref c0, .ref p0, .ref fd0, .ref w0, .ref e0, .ref b0, .ref a0, .ref y0, .ref g0, .ref i0, .int 1])), (g0, .inr (2, [.ref h0, .ref g1, .ref g2, .ref g3, .ref g4, .ref g5, .ref g6, .ref g7, .ref g8, .ref g9, .ref ga, .ref gb, .int (nI cl), .int (nI ln), .int (nI br), .int (nI lp), .int (nI va)]))]) ((fun _ => 0)) ) hP hD [1, 0] (by decide) rfl
    have hg8 : H_2.size + 1 ≤ s.heap.size + (1) := by omega
    have hg9 : tsl H_2 + 6 ≤ tsl s.heap + (6) := by omega
    exact xt_newG (cls := "java/lang/IndexOutOfBoundsException") (names := xe_nm) hx hb htr hown (by decide +kernel) (by decide +kernel) (fun U hW => lw_gd_good _ wd_741 _ _ _ _ (hts _ wd_741) hW) (fun U hW => lw_gd_good _ wd_24 _ _ _ _ (hts _ wd_24) hW) (fun U hW hU => xe_IOE_Desk (fun w hw => lw_gd_good w hw _ _ _ _ (hts w hw) hW) (hK.moved hW (by rw [hU]; exact xz_of hN hS))) (hl1.1.trans hml.symm) d_Desk_needClaim_19 d_Desk_needClaim_22 d_Desk_needClaim_23 d_Desk_needClaim_26 hout (Nat.le_of_ble_eq_true rfl) (Nat.le_of_ble_eq_true rfl) (Nat.le_of_ble_eq_true rfl) (Nat.le_of_ble_eq_true rfl) hlocks (fun q hq => hS.2.2 q hq) (fun x9 t9 hob h1 h2 h3 hk => ⟨Or.inl ⟨x9, _, by decide, rfl, hob⟩, ⟨(fun _ => 0), Nat.le_trans h2 hg8, Nat.le_trans h3 hg9, xp_kept hP9 hk, hD9⟩, xs_new hS h1 hk⟩)
  · refine lv_iload_n hx hb d_Desk_needClaim_8 rfl (lv_at hl1 1 rfl) ?_
    refine lv_aload_n hx hb d_Desk_needClaim_9 rfl (lv_at hl1 0 rfl) ?_
    refine va_get (D := D) (ci := 10) (v := .ref g0) (C := R_Desk) (T := F_Desk) (N := 13) hx hb hts i_Desk hown hK.1 hP 1 rfl rfl 10 (by decide) (hts _ wd_385) (fun _ h9 => h9) rfl d_Desk_needClaim_10 ?_
    refine va_get (D := D) (ci := 2) (v := .int (nI cl)) (C := R_Listing) (T := F_Listing) (N := 17) hx hb hts i_Listing hown hK.1 hP 0 rfl rfl 12 (by decide) (hts _ wd_307) (fun _ h9 => h9) rfl d_Desk_needClaim_13 ?_
    refine lv_icmp_lt (tgt := 27) hx hb d_Desk_needClaim_16 (by decide) (fun c_5 => ?_) (fun c_5 => ?_)
    · obtain ⟨j, a2, e9⟩ := rng1 (b := cl) (by assumption) (by first | assumption | exact nlt (by assumption)) (by first | assumption | omega)
      exact absurd e9 (hno j a2)
    · refine wk_know (fun hk8 hk9 => ?_)
      obtain ⟨hP9, hD9⟩ := xw_sub2 (wc := (fun (u : Nat → Nat)  => [(d0, .inr (10, [.ref k0, .ref r0, .ref c0, .ref p0, .ref fd0, .ref w0, .ref e0, .ref b0, .ref a0, .ref y0, .ref g0, .ref i0, .int 1])), (g0, .inr (2, [.ref h0, .ref g1, .ref g2, .ref g3, .ref g4, .ref g5, .ref g6, .ref g7, .ref g8, .ref g9, .ref ga, .ref gb, .int (nI cl), .int (nI ln), .int (nI br), .int (nI lp), .int (nI va)]))]) ((fun _ => 0)) ) hP hD [1, 0] (by decide) rfl
      have hg8 : H_2.size + 1 ≤ s.heap.size + (1) := by omega
      have hg9 : tsl H_2 + 6 ≤ tsl s.heap + (6) := by omega
      exact xt_newG (cls := "java/lang/IndexOutOfBoundsException") (names := xe_nm) hx hb htr hown (by decide +kernel) (by decide +kernel) (fun U hW => lw_gd_good _ wd_741 _ _ _ _ (hts _ wd_741) hW) (fun U hW => lw_gd_good _ wd_24 _ _ _ _ (hts _ wd_24) hW) (fun U hW hU => xe_IOE_Desk (fun w hw => lw_gd_good w hw _ _ _ _ (hts w hw) hW) (hK.moved hW (by rw [hU]; exact xz_of hN hS))) (hl1.1.trans hml.symm) d_Desk_needClaim_19 d_Desk_needClaim_22 d_Desk_needClaim_23 d_Desk_needClaim_26 hout (Nat.le_of_ble_eq_true rfl) (Nat.le_of_ble_eq_true rfl) (Nat.le_of_ble_eq_true rfl) (Nat.le_of_ble_eq_true rfl) hlocks (fun q hq => hS.2.2 q hq) (fun x9 t9 hob h1 h2 h3 hk => ⟨Or.inl ⟨x9, _, by decide, rfl, hob⟩, ⟨(fun _ => 0), Nat.le_trans h2 hg8, Nat.le_trans h3 hg9, xp_kept hP9 hk, hD9⟩, xs_new hS h1 hk⟩)
set_option maxHeartbeats 40000000 in
set_option maxRecDepth 100000 in
theorem c_D_needClaim_ok (l : Launch) (D : va_G) (ax : Nat → ClassId) (d0 k0 r0 c0 p0 fd0 w0 e0 b0 a0 y0 g0 i0 h0 g1 g2 g3 g4 g5 g6 g7 g8 g9 ga gb cl ln br lp va : Nat) (k1 : Nat) (sz : Nat) (hcl : cl ≤ 29) (hk1 : k1 < cl) : Met l y_Desk_needClaim (xws (.code y_Desk_needClaim b_Desk_needClaim 2 none)) ({ frames := 20, cells := 0, slots := 0, locals := 800 }) (va_Pc [.ref d0, .int (nI k1)] (xo D ax [(d0, .inr (10, [.ref k0, .ref r0, .ref c0, .ref p0, .ref fd0, .ref w0, .ref e0, .ref b0, .ref a0, .ref y0, .ref g0, .ref i0, .int 1])), (g0, .inr (2, [.ref h0, .ref g1, .ref g2, .ref g3, .ref g4, .ref g5, .ref g6, .ref g7, .ref g8, .ref g9, .ref ga, .ref gb, .int (nI cl), .int (nI ln), .int (nI br), .int (nI lp), .int (nI va)]))] sz)) ((va_Qv (fun (u : Nat → Nat) => True) (xb D (va_A [(d0, .inr (10, [.ref k0, .ref r0, .ref c0, .ref p0, .ref fd0, .ref w0, .ref e0, .ref b0, .ref a0, .ref y0, .ref g0, .ref i0, .int 1])), (g0, .inr (2, [.ref h0, .ref g1, .ref g2, .ref g3, .ref g4, .ref g5, .ref g6, .ref g7, .ref g8, .ref g9, .ref ga, .ref gb, .int (nI cl), .int (nI ln), .int (nI br), .int (nI lp), .int (nI va)]))] sz) (fun u => [(d0, .inr (10, [.ref k0, .ref r0, .ref c0, .ref p0, .ref fd0, .ref w0, .ref e0, .ref b0, .ref a0, .ref y0, .ref g0, .ref i0, .int 1])), (g0, .inr (2, [.ref h0, .ref g1, .ref g2, .ref g3, .ref g4, .ref g5, .ref g6, .ref g7, .ref g8, .ref g9, .ref ga, .ref gb, .int (nI cl), .int (nI ln), .int (nI br), .int (nI lp), .int (nI va)]))])) (va_A [(d0, .inr (10, [.ref k0, .ref r0, .ref c0, .ref p0, .ref fd0, .ref w0, .ref e0, .ref b0, .ref a0, .ref y0, .ref g0, .ref i0, .int 1])), (g0, .inr (2, [.ref h0, .ref g1, .ref g2, .ref g3, .ref g4, .ref g5, .ref g6, .ref g7, .ref g8, .ref g9, .ref ga, .ref gb, .int (nI cl), .int (nI ln), .int (nI br), .int (nI lp), .int (nI va)]))] sz))) 0 0 (va_A [(d0, .inr (10, [.ref k0, .ref r0, .ref c0, .ref p0, .ref fd0, .ref w0, .ref e0, .ref b0, .ref a0, .ref y0, .ref g0, .ref i0, .int 1])), (g0, .inr (2, [.ref h0, .ref g1, .ref g2, .ref g3, .ref g4, .ref g5, .ref g6, .ref g7, .ref g8, .ref g9, .ref ga, .ref gb, .int (nI cl), .int (nI ln), .int (nI br), .int (nI lp), .int (nI va)]))] sz) := by
  refine Met.ofW (cc := b_Desk_needClaim) (maxL := 2) (ret := none) (by decide) rfl ?_
  intro p e s m args below meth c s₁ B hml hv
  obtain ⟨rfl, hsz, hP, hK, hD0⟩ := hv
  have hx := B.exec
  have hb := B.bytes
  have hr := B.returns
  have hts := xw_hts B.pre
  have hown : s.vm.findClass R_Desk = some m.cls := findClass_of_methodNamed B.named
  have hlocks := B.notSynchronized
  subst hsz
  have hD := hD0.self (sz := s.heap.size)
  have hN := xz_entry hP
  generalize hAe : va_A [(d0, .inr (10, [.ref k0, .ref r0, .ref c0, .ref p0, .ref fd0, .ref w0, .ref e0, .ref b0, .ref a0, .ref y0, .ref g0, .ref i0, .int 1])), (g0, .inr (2, [.ref h0, .ref g1, .ref g2, .ref g3, .ref g4, .ref g5, .ref g6, .ref g7, .ref g8, .ref g9, .ref ga, .ref gb, .int (nI cl), .int (nI ln), .int (nI br), .int (nI lp), .int (nI va)]))] s.heap.size = A at hD hN ⊢
  have hA : ∀ q : Nat, s.heap.size ≤ q → A q := fun q h => by rw [← hAe]; exact Or.inr h
  have hS : va_S A s.heap s.heap [] := va_S.rf
  have hl0 := lv_entry ([.ref d0, .int (nI k1)]) (n := 2) (Nat.le_of_ble_eq_true rfl)
  rw [lg_entry_eq]
  generalize (lg_sl ([.ref d0, .int (nI k1)]) ++ List.replicate (2 - (lg_sl ([.ref d0, .int (nI k1)])).length) Slot.unset).toArray = ls at hl0 ⊢
  have hl1 : lv_has ls 2 [(0, .ref d0), (1, .int (nI k1))] := hl0
  refine xw_gen (fun Z9 hQe => ?_)
  refine lv_aload_n hx hb d_Desk_needClaim_0 rfl (lv_at hl1 0 rfl) ?_
  obtain ⟨hPc, hDc, hFc, hCs⟩ := xw_sub3 (wc := [(d0, .inr (10, [.ref k0, .ref r0, .ref c0, .ref p0, .ref fd0, .ref w0, .ref e0, .ref b0, .ref a0, .ref y0, .ref g0, .ref i0, .int 1]))]) hP hD hS hA [0] (by decide) rfl
  have hz := xz_of hN hS
  refine va_callv (va_runV (As := []) (rest := []) ⟨hx, hb, hml, hown, hts⟩ (c_D_needProgram_ok l D ax d0 k0 r0 c0 p0 fd0 w0 e0 b0 a0 y0 g0 i0 s.heap.size) (xcV (n := 0) hts wd_665 wd_1 wd_662 wd_664 ps_19 rfl rfl (by decide +kernel) ⟨Nat.le_of_ble_eq_true rfl, Nat.le_of_ble_eq_true rfl⟩) (xpV (ci := 10) (q0 := 0) (As := []) hPc hK hz hDc rfl rfl) rfl rfl hl1.1 rfl (lv_room (Nat.le_of_ble_eq_true rfl)) d_Desk_needClaim_1 ⟨Nat.le_of_ble_eq_true rfl, Nat.le_of_ble_eq_true rfl⟩) hS (fun q _ h => hFc q h) hFc (fun u_1 t H_2 locs ht hvm hw hB hz1 hk1 hS1 => ?_)
  try dsimp only at hw
  obtain ⟨hP1, hD1⟩ := hB
  rw [ht] at hP1
  have hjn := xw_join3 (wl := [(g0, .inr (2, [.ref h0, .ref g1, .ref g2, .ref g3, .ref g4, .ref g5, .ref g6, .ref g7, .ref g8, .ref g9, .ref ga, .ref gb, .int (nI cl), .int (nI ln), .int (nI br), .int (nI lp), .int (nI va)])), (d0, .inr (10, [.ref k0, .ref r0, .ref c0, .ref p0, .ref fd0, .ref w0, .ref e0, .ref b0, .ref a0, .ref y0, .ref g0, .ref i0, .int 1]))]) hP hD [0] [1] hCs (by decide) (by decide) hk1 hFc hP1 hD1 rfl
  clear hP1 hD1
  clear hPc hDc hFc hCs hz hz1 hk1 ht hvm
  clear hP hD hS
  have hS := hS1
  obtain ⟨hP, hD⟩ := hjn
  clear hS1
  refine lv_iload_n hx hb d_Desk_needClaim_4 rfl (lv_at hl1 1 rfl) ?_
  refine lv_if_lt (tgt := 19) hx hb d_Desk_needClaim_5 (by decide) (fun c_4 => ?_) (fun c_4 => ?_)
  · exfalso
    replace c_4 : k1 < 0 := (nI_ltI (a := k1) (b := 0) (by first | exact Nat.lt_of_lt_of_le (by assumption) (by decide) | exact Nat.lt_of_le_of_lt (by assumption) (by decide) | omega) (by decide)).mp c_4
    omega
  replace c_4 : ¬ k1 < 0 := fun hq9 => c_4 ((nI_ltI (a := k1) (b := 0) (by first | exact Nat.lt_of_lt_of_le (by assumption) (by decide) | exact Nat.lt_of_le_of_lt (by assumption) (by decide) | omega) (by decide)).mpr hq9)
  refine lv_iload_n hx hb d_Desk_needClaim_8 rfl (lv_at hl1 1 rfl) ?_
  refine lv_aload_n hx hb d_Desk_needClaim_9 rfl (lv_at hl1 0 rfl) ?_
  refine va_get (D := D) (ci := 10) (v := .ref g0) (C := R_Desk) (T := F_Desk) (N := 13) hx hb hts i_Desk hown hK.1 hP 1 rfl rfl 10 (by decide) (hts _ wd_385) (fun _ h9 => h9) rfl d_Desk_needClaim_10 ?_
  refine va_get (D := D) (ci := 2) (v := .int (nI cl)) (C := R_Listing) (T := F_Listing) (N := 17) hx hb hts i_Listing hown hK.1 hP 0 rfl rfl 12 (by decide) (hts _ wd_307) (fun _ h9 => h9) rfl d_Desk_needClaim_13 ?_
  refine lv_icmp_lt (tgt := 27) hx hb d_Desk_needClaim_16 (by decide) (fun c_5 => ?_) (fun c_5 => ?_)
  rotate_left
  · exfalso
    replace c_5 : ¬ k1 < cl := fun hq9 => c_5 ((nI_ltI (a := k1) (b := cl) (by first | exact Nat.lt_of_lt_of_le (by assumption) (by decide) | exact Nat.lt_of_le_of_lt (by assumption) (by decide) | omega) (by first | exact Nat.lt_of_lt_of_le (by assumption) (by decide) | exact Nat.lt_of_le_of_lt (by assumption) (by decide) | omega)).mpr hq9)
    omega
  replace c_5 : k1 < cl := (nI_ltI (a := k1) (b := cl) (by first | exact Nat.lt_of_lt_of_le (by assumption) (by decide) | exact Nat.lt_of_le_of_lt (by assumption) (by decide) | omega) (by first | exact Nat.lt_of_lt_of_le (by assumption) (by decide) | exact Nat.lt_of_le_of_lt (by assumption) (by decide) | omega)).mp c_5
  rw [← hQe]
  obtain ⟨hP9, hD9⟩ := xw_sub2 (wc := (fun u : Nat → Nat => [(d0, .inr (10, [.ref k0, .ref r0, .ref c0, .ref p0, .ref fd0, .ref w0, .ref e0, .ref b0, .ref a0, .ref y0, .ref g0, .ref i0, .int 1])), (g0, .inr (2, [.ref h0, .ref g1, .ref g2, .ref g3, .ref g4, .ref g5, .ref g6, .ref g7, .ref g8, .ref g9, .ref ga, .ref gb, .int (nI cl), .int (nI ln), .int (nI br), .int (nI lp), .int (nI va)]))]) (ixn [])) hP hD [1, 0] (by decide) rfl
  exact W.vret hx hb hr (fun t ht hW => ⟨⟨ixn [], rfl, trivial, ⟨by rw [ht]; exact hP9, hD9⟩⟩, hS.F ht⟩) hS.2.2 d_Desk_needClaim_27
abbrev b_Desk_needVariable : ByteArray := prog_1_method_19_code
def y_Desk_needVariable : MethodName := ⟨R_Desk, "needVariable", "(I)V"⟩
theorem d_Desk_needVariable_0 : decode b_Desk_needVariable 0 = .ok (.iload_n 1, 1) := by decide +kernel
theorem d_Desk_needVariable_1 : decode b_Desk_needVariable 1 = .ok (.ifCond .lt 9, 3) := by decide +kernel
theorem d_Desk_needVariable_4 : decode b_Desk_needVariable 4 = .ok (.iload_n 1, 1) := by decide +kernel
theorem d_Desk_needVariable_5 : decode b_Desk_needVariable 5 = .ok (.bipush 6, 2) := by decide +kernel
theorem d_Desk_needVariable_7 : decode b_Desk_needVariable 7 = .ok (.if_icmp .lt 11, 3) := by decide +kernel
theorem d_Desk_needVariable_10 : decode b_Desk_needVariable 10 = .ok (.new 140, 3) := by decide +kernel
theorem d_Desk_needVariable_13 : decode b_Desk_needVariable 13 = .ok (.dup, 1) := by decide +kernel
theorem d_Desk_needVariable_14 : decode b_Desk_needVariable 14 = .ok (.invokespecial 142, 3) := by decide +kernel
theorem d_Desk_needVariable_17 : decode b_Desk_needVariable 17 = .ok (.athrow, 1) := by decide +kernel
theorem d_Desk_needVariable_18 : decode b_Desk_needVariable 18 = .ok (.return_, 1) := by decide +kernel
set_option maxHeartbeats 40000000 in
set_option maxRecDepth 100000 in
theorem c_D_needVariable_no (l : Launch) (hl : l.stackTraces = false) (D : va_G) (ax : Nat → ClassId) (d0 k0 r0 c0 p0 fd0 w0 e0 b0 a0 y0 g0 i0 ld : Nat) (x1 : Int32) (sz tz : Nat) (hno : ∀ j : Nat, j < 6 → x1 ≠ nI j) : xt_Met l y_Desk_needVariable (xws (.code y_Desk_needVariable b_Desk_needVariable 2 none)) ({ frames := 10, cells := 1, slots := 6, locals := 400 }) (va_Pc [.ref d0, .int x1] (xo3 D ax [(d0, .inr (10, [.ref k0, .ref r0, .ref c0, .ref p0, .ref fd0, .ref w0, .ref e0, .ref b0, .ref a0, .ref y0, .ref g0, .ref i0, .int (nI ld)]))] sz tz)) ((xt_U ["java/lang/IndexOutOfBoundsException"] False (fun (h9 : Heap) => ∃ u : Nat → Nat, (h9.size ≤ sz + (1)) ∧ (tsl h9 ≤ tz + (6)) ∧ va_P D classes [(d0, .inr (10, [.ref k0, .ref r0, .ref c0, .ref p0, .ref fd0, .ref w0, .ref e0, .ref b0, .ref a0, .ref y0, .ref g0, .ref i0, .int (nI ld)]))] h9 ∧ va_D (va_A [(d0, .inr (10, [.ref k0, .ref r0, .ref c0, .ref p0, .ref fd0, .ref w0, .ref e0, .ref b0, .ref a0, .ref y0, .ref g0, .ref i0, .int (nI ld)]))] sz) [(d0, .inr (10, [.ref k0, .ref r0, .ref c0, .ref p0, .ref fd0, .ref w0, .ref e0, .ref b0, .ref a0, .ref y0, .ref g0, .ref i0, .int (nI ld)]))]) (va_A [(d0, .inr (10, [.ref k0, .ref r0, .ref c0, .ref p0, .ref fd0, .ref w0, .ref e0, .ref b0, .ref a0, .ref y0, .ref g0, .ref i0, .int (nI ld)]))] sz))) 1 6 (va_A [(d0, .inr (10, [.ref k0, .ref r0, .ref c0, .ref p0, .ref fd0, .ref w0, .ref e0, .ref b0, .ref a0, .ref y0, .ref g0, .ref i0, .int (nI ld)]))] sz) := by
  refine xt_Met.ofW (cc := b_Desk_needVariable) (maxL := 2) (ret := none) (by decide) rfl ?_
  intro p e s m args below meth c s₁ B hml hout hv
  obtain ⟨rfl, ⟨hsz, hP, hK, hD0⟩, htz⟩ := hv
  have hx := B.exec
  have hb := B.bytes
  have hr := B.returns
  have hts := xw_hts B.pre
  have hown : s.vm.findClass R_Desk = some m.cls := findClass_of_methodNamed B.named
  have hlocks := B.notSynchronized
  have htr : e.platform.stackTraces = false := by rw [B.admits.platform]; exact hl
  subst hsz
  subst htz
  have hD := hD0.self (sz := s.heap.size)
  have hN := xz_entry hP
  generalize hAe : va_A [(d0, .inr (10, [.ref k0, .ref r0, .ref c0, .ref p0, .ref fd0, .ref w0, .ref e0, .ref b0, .ref a0, .ref y0, .ref g0, .ref i0, .int (nI ld)]))] s.heap.size = A at hD hN ⊢
  have hA : ∀ q : Nat, s.heap.size ≤ q → A q := fun q h => by rw [← hAe]; exact Or.inr h
  have hS : va_S A s.heap s.heap [] := va_S.rf
  have hl0 := lv_entry ([.ref d0, .int x1]) (n := 2) (Nat.le_of_ble_eq_true rfl)
  rw [lg_entry_eq]
  generalize (lg_sl ([.ref d0, .int x1]) ++ List.replicate (2 - (lg_sl ([.ref d0, .int x1])).length) Slot.unset).toArray = ls at hl0 ⊢
  have hl1 : lv_has ls 2 [(0, .ref d0), (1, .int x1)] := hl0
  refine lv_iload_n hx hb d_Desk_needVariable_0 rfl (lv_at hl1 1 rfl) ?_
  refine lv_if_lt (tgt := 10) hx hb d_Desk_needVariable_1 (by decide) (fun c_1 => ?_) (fun c_1 => ?_)
  · refine wk_know (fun hk8 hk9 => ?_)
    obtain ⟨hP9, hD9⟩ := xw_sub2 (wc := (fun (u : Nat → Nat)  => [(d0, .inr (10, [.ref k0, .ref r0, .ref c0, .ref p0, .ref fd0, .ref w0, .ref e0, .ref b0, .ref a0, .ref y0, .ref g0, .ref i0, .int (nI ld)]))]) ((fun _ => 0)) ) hP hD [0] (by decide) rfl
    have hg8 : s.heap.size + 1 ≤ s.heap.size + (1) := by omega
    have hg9 : tsl s.heap + 6 ≤ tsl s.heap + (6) := by omega
    exact xt_newG (cls := "java/lang/IndexOutOfBoundsException") (names := xe_nm) hx hb htr hown (by decide +kernel) (by decide +kernel) (fun U hW => lw_gd_good _ wd_741 _ _ _ _ (hts _ wd_741) hW) (fun U hW => lw_gd_good _ wd_24 _ _ _ _ (hts _ wd_24) hW) (fun U hW hU => xe_IOE_Desk (fun w hw => lw_gd_good w hw _ _ _ _ (hts w hw) hW) (hK.moved hW (by rw [hU]; exact xz_of hN hS))) (hl1.1.trans hml.symm) d_Desk_needVariable_10 d_Desk_needVariable_13 d_Desk_needVariable_14 d_Desk_needVariable_17 hout (Nat.le_of_ble_eq_true rfl) (Nat.le_of_ble_eq_true rfl) (Nat.le_of_ble_eq_true rfl) (Nat.le_of_ble_eq_true rfl) hlocks (fun q hq => hS.2.2 q hq) (fun x9 t9 hob h1 h2 h3 hk => ⟨Or.inl ⟨x9, _, by decide, rfl, hob⟩, ⟨(fun _ => 0), Nat.le_trans h2 hg8, Nat.le_trans h3 hg9, xp_kept hP9 hk, hD9⟩, xs_new hS h1 hk⟩)
  · refine lv_iload_n hx hb d_Desk_needVariable_4 rfl (lv_at hl1 1 rfl) ?_
    refine lv_bipush (v := 6) hx hb d_Desk_needVariable_5 (by decide) ?_
    refine lv_icmp_lt (tgt := 18) hx hb d_Desk_needVariable_7 (by decide) (fun c_2 => ?_) (fun c_2 => ?_)
    · obtain ⟨j, a2, e9⟩ := rng1 (b := 6) (by assumption) (by first | assumption | exact nlt (by assumption)) (by first | assumption | omega)
      exact absurd e9 (hno j a2)
    · refine wk_know (fun hk8 hk9 => ?_)
      obtain ⟨hP9, hD9⟩ := xw_sub2 (wc := (fun (u : Nat → Nat)  => [(d0, .inr (10, [.ref k0, .ref r0, .ref c0, .ref p0, .ref fd0, .ref w0, .ref e0, .ref b0, .ref a0, .ref y0, .ref g0, .ref i0, .int (nI ld)]))]) ((fun _ => 0)) ) hP hD [0] (by decide) rfl
      have hg8 : s.heap.size + 1 ≤ s.heap.size + (1) := by omega
      have hg9 : tsl s.heap + 6 ≤ tsl s.heap + (6) := by omega
      exact xt_newG (cls := "java/lang/IndexOutOfBoundsException") (names := xe_nm) hx hb htr hown (by decide +kernel) (by decide +kernel) (fun U hW => lw_gd_good _ wd_741 _ _ _ _ (hts _ wd_741) hW) (fun U hW => lw_gd_good _ wd_24 _ _ _ _ (hts _ wd_24) hW) (fun U hW hU => xe_IOE_Desk (fun w hw => lw_gd_good w hw _ _ _ _ (hts w hw) hW) (hK.moved hW (by rw [hU]; exact xz_of hN hS))) (hl1.1.trans hml.symm) d_Desk_needVariable_10 d_Desk_needVariable_13 d_Desk_needVariable_14 d_Desk_needVariable_17 hout (Nat.le_of_ble_eq_true rfl) (Nat.le_of_ble_eq_true rfl) (Nat.le_of_ble_eq_true rfl) (Nat.le_of_ble_eq_true rfl) hlocks (fun q hq => hS.2.2 q hq) (fun x9 t9 hob h1 h2 h3 hk => ⟨Or.inl ⟨x9, _, by decide, rfl, hob⟩, ⟨(fun _ => 0), Nat.le_trans h2 hg8, Nat.le_trans h3 hg9, xp_kept hP9 hk, hD9⟩, xs_new hS h1 hk⟩)
set_option maxHeartbeats 40000000 in
set_option maxRecDepth 100000 in
theorem c_D_needVariable_ok (l : Launch) (D : va_G) (ax : Nat → ClassId) (d0 k0 r0 c0 p0 fd0 w0 e0 b0 a0 y0 g0 i0 ld : Nat) (k1 : Nat) (sz : Nat) (hk1 : k1 < 6) : Met l y_Desk_needVariable (xws (.code y_Desk_needVariable b_Desk_needVariable 2 none)) ({ frames := 10, cells := 0, slots := 0, locals := 400 }) (va_Pc [.ref d0, .int (nI k1)] (xo D ax [(d0, .inr (10, [.ref k0, .ref r0, .ref c0, .ref p0, .ref fd0, .ref w0, .ref e0, .ref b0, .ref a0, .ref y0, .ref g0, .ref i0, .int (nI ld)]))] sz)) ((va_Qv (fun (u : Nat → Nat) => True) (xb D (va_A [(d0, .inr (10, [.ref k0, .ref r0, .ref c0, .ref p0, .ref fd0, .ref w0, .ref e0, .ref b0, .ref a0, .ref y0, .ref g0, .ref i0, .int (nI ld)]))] sz) (fun u => [(d0, .inr (10, [.ref k0, .ref r0, .ref c0, .ref p0, .ref fd0, .ref w0, .ref e0, .ref b0, .ref a0, .ref y0, .ref g0, .ref i0, .int (nI ld)]))])) (va_A [(d0, .inr (10, [.ref k0, .ref r0, .ref c0, .ref p0, .ref fd0, .ref w0, .ref e0, .ref b0, .ref a0, .ref y0, .ref g0, .ref i0, .int (nI ld)]))] sz))) 0 0 (va_A [(d0, .inr (10, [.ref k0, .ref r0, .ref c0, .ref p0, .ref fd0, .ref w0, .ref e0, .ref b0, .ref a0, .ref y0, .ref g0, .ref i0, .int (nI ld)]))] sz) := by
  refine Met.ofW (cc := b_Desk_needVariable) (maxL := 2) (ret := none) (by decide) rfl ?_
  intro p e s m args below meth c s₁ B hml hv
  obtain ⟨rfl, hsz, hP, hK, hD0⟩ := hv
  have hx := B.exec
  have hb := B.bytes
  have hr := B.returns
  have hts := xw_hts B.pre
  have hown : s.vm.findClass R_Desk = some m.cls := findClass_of_methodNamed B.named
  have hlocks := B.notSynchronized
  subst hsz
  have hD := hD0.self (sz := s.heap.size)
  have hN := xz_entry hP
  generalize hAe : va_A [(d0, .inr (10, [.ref k0, .ref r0, .ref c0, .ref p0, .ref fd0, .ref w0, .ref e0, .ref b0, .ref a0, .ref y0, .ref g0, .ref i0, .int (nI ld)]))] s.heap.size = A at hD hN ⊢
  have hA : ∀ q : Nat, s.heap.size ≤ q → A q := fun q h => by rw [← hAe]; exact Or.inr h
  have hS : va_S A s.heap s.heap [] := va_S.rf
  have hl0 := lv_entry ([.ref d0, .int (nI k1)]) (n := 2) (Nat.le_of_ble_eq_true rfl)
  rw [lg_entry_eq]
  generalize (lg_sl ([.ref d0, .int (nI k1)]) ++ List.replicate (2 - (lg_sl ([.ref d0, .int (nI k1)])).length) Slot.unset).toArray = ls at hl0 ⊢
  have hl1 : lv_has ls 2 [(0, .ref d0), (1, .int (nI k1))] := hl0
  refine xw_gen (fun Z9 hQe => ?_)
  refine lv_iload_n hx hb d_Desk_needVariable_0 rfl (lv_at hl1 1 rfl) ?_
  refine lv_if_lt (tgt := 10) hx hb d_Desk_needVariable_1 (by decide) (fun c_1 => ?_) (fun c_1 => ?_)
  · exfalso
    replace c_1 : k1 < 0 := (nI_ltI (a := k1) (b := 0) (by first | exact Nat.lt_of_lt_of_le (by assumption) (by decide) | exact Nat.lt_of_le_of_lt (by assumption) (by decide) | omega) (by decide)).mp c_1
    omega
  replace c_1 : ¬ k1 < 0 := fun hq9 => c_1 ((nI_ltI (a := k1) (b := 0) (by first | exact Nat.lt_of_lt_of_le (by assumption) (by decide) | exact Nat.lt_of_le_of_lt (by assumption) (by decide) | omega) (by decide)).mpr hq9)
  refine lv_iload_n hx hb d_Desk_needVariable_4 rfl (lv_at hl1 1 rfl) ?_
  refine lv_bipush (v := 6) hx hb d_Desk_needVariable_5 (by decide) ?_
  refine lv_icmp_lt (tgt := 18) hx hb d_Desk_needVariable_7 (by decide) (fun c_2 => ?_) (fun c_2 => ?_)
  rotate_left
  · exfalso
    replace c_2 : ¬ k1 < 6 := fun hq9 => c_2 ((nI_ltI (a := k1) (b := 6) (by first | exact Nat.lt_of_lt_of_le (by assumption) (by decide) | exact Nat.lt_of_le_of_lt (by assumption) (by decide) | omega) (by decide)).mpr hq9)
    omega
  replace c_2 : k1 < 6 := (nI_ltI (a := k1) (b := 6) (by first | exact Nat.lt_of_lt_of_le (by assumption) (by decide) | exact Nat.lt_of_le_of_lt (by assumption) (by decide) | omega) (by decide)).mp c_2
  rw [← hQe]
  obtain ⟨hP9, hD9⟩ := xw_sub2 (wc := (fun u : Nat → Nat => [(d0, .inr (10, [.ref k0, .ref r0, .ref c0, .ref p0, .ref fd0, .ref w0, .ref e0, .ref b0, .ref a0, .ref y0, .ref g0, .ref i0, .int (nI ld)]))]) (ixn [])) hP hD [0] (by decide) rfl
  exact W.vret hx hb hr (fun t ht hW => ⟨⟨ixn [], rfl, trivial, ⟨by rw [ht]; exact hP9, hD9⟩⟩, hS.F ht⟩) hS.2.2 d_Desk_needVariable_18
