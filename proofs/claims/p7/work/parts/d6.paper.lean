theorem ps_43 : Cond.selects "TripleDesk$Paper" ⟨"TripleDesk$Paper", "writeNumber", "(I)V"⟩ ⟨"TripleDesk$Paper", "writeNumber", "(I)V"⟩ ∈ lw_gd := ps_in (q := (⟨"TripleDesk$Paper", "writeNumber", "(I)V"⟩, 2)) (i := 43) (by decide +kernel)
theorem ps_44 : Cond.selects "TripleDesk$Paper" ⟨"TripleDesk$Paper", "writeByte", "(I)V"⟩ ⟨"TripleDesk$Paper", "writeByte", "(I)V"⟩ ∈ lw_gd := ps_in (q := (⟨"TripleDesk$Paper", "writeByte", "(I)V"⟩, 2)) (i := 44) (by decide +kernel)
theorem wd_10 : ((Jvm.Cond.initialized "TripleDesk$Paper")) ∈ lw_gd := lw_gd_in (i := 10) (by decide +kernel) rfl
theorem wd_236 : ((Jvm.Cond.fieldLink "TripleDesk$Paper" (9 : Nat) "TripleDesk$Paper" "bytes" "[B")) ∈ lw_gd := lw_gd_in (i := 236) (by decide +kernel) rfl
theorem wd_238 : ((Jvm.Cond.fieldLink "TripleDesk$Paper" (15 : Nat) "TripleDesk$Paper" "size" "I")) ∈ lw_gd := lw_gd_in (i := 238) (by decide +kernel) rfl
theorem wd_931 : ((Jvm.Cond.methodLink "TripleDesk$Paper" (49 : Nat) ({ cls := "TripleDesk$Paper", name := "writeNumber", desc := "(I)V" } : Jvm.MethodName))) ∈ lw_gd := lw_gd_in (i := 931) (by decide +kernel) rfl
theorem wd_933 : ((Jvm.Cond.instanceMethod ({ cls := "TripleDesk$Paper", name := "writeNumber", desc := "(I)V" } : Jvm.MethodName))) ∈ lw_gd := lw_gd_in (i := 933) (by decide +kernel) rfl
theorem wd_934 : ((Jvm.Cond.code ({ cls := "TripleDesk$Paper", name := "writeNumber", desc := "(I)V" } : Jvm.MethodName) prog_7_method_6_code (4 : Nat) (Option.none : Option Jvm.ClassFile.FieldType))) ∈ lw_gd := lw_gd_in (i := 934) (by decide +kernel) rfl
theorem wd_935 : ((Jvm.Cond.methodLink "TripleDesk$Paper" (46 : Nat) ({ cls := "TripleDesk$Paper", name := "writeByte", desc := "(I)V" } : Jvm.MethodName))) ∈ lw_gd := lw_gd_in (i := 935) (by decide +kernel) rfl
theorem wd_937 : ((Jvm.Cond.instanceMethod ({ cls := "TripleDesk$Paper", name := "writeByte", desc := "(I)V" } : Jvm.MethodName))) ∈ lw_gd := lw_gd_in (i := 937) (by decide +kernel) rfl
theorem wd_938 : ((Jvm.Cond.code ({ cls := "TripleDesk$Paper", name := "writeByte", desc := "(I)V" } : Jvm.MethodName) prog_7_method_7_code (2 : Nat) (Option.none : Option Jvm.ClassFile.FieldType))) ∈ lw_gd := lw_gd_in (i := 938) (by decide +kernel) rfl
theorem wd_939 : ((Jvm.Cond.methodLink "TripleDesk$Paper" (59 : Nat) ({ cls := "java/util/Arrays", name := "copyOf", desc := "([BI)[B" } : Jvm.MethodName))) ∈ lw_gd := lw_gd_in (i := 939) (by decide +kernel) rfl
theorem wd_940 : ((Jvm.Cond.methodLink "TripleDesk$Paper" (52 : Nat) ({ cls := "java/lang/Math", name := "abs", desc := "(I)I" } : Jvm.MethodName))) ∈ lw_gd := lw_gd_in (i := 940) (by decide +kernel) rfl
theorem wd_941 : ((Jvm.Cond.static ({ cls := "java/lang/Math", name := "abs", desc := "(I)I" } : Jvm.MethodName))) ∈ lw_gd := lw_gd_in (i := 941) (by decide +kernel) rfl
theorem wd_942 : ((Jvm.Cond.code ({ cls := "java/lang/Math", name := "abs", desc := "(I)I" } : Jvm.MethodName) prog_19_method_59_code (1 : Nat) (Option.some Jvm.ClassFile.FieldType.int))) ∈ lw_gd := lw_gd_in (i := 942) (by decide +kernel) rfl
theorem wd_943 : ((Jvm.Cond.constant "TripleDesk$Paper" (58 : Nat) (1000000 : Int32))) ∈ lw_gd := lw_gd_in (i := 943) (by decide +kernel) rfl
abbrev b_Paper_writeByte : ByteArray := prog_7_method_7_code
def y_Paper_writeByte : MethodName := ⟨R_Paper, "writeByte", "(I)V"⟩
theorem d_Paper_writeByte_0 : decode b_Paper_writeByte 0 = .ok (.aload_n 0, 1) := by decide +kernel
theorem d_Paper_writeByte_1 : decode b_Paper_writeByte 1 = .ok (.getfield 15, 3) := by decide +kernel
theorem d_Paper_writeByte_4 : decode b_Paper_writeByte 4 = .ok (.aload_n 0, 1) := by decide +kernel
theorem d_Paper_writeByte_5 : decode b_Paper_writeByte 5 = .ok (.getfield 9, 3) := by decide +kernel
theorem d_Paper_writeByte_8 : decode b_Paper_writeByte 8 = .ok (.arraylength, 1) := by decide +kernel
theorem d_Paper_writeByte_9 : decode b_Paper_writeByte 9 = .ok (.if_icmp .ne 20, 3) := by decide +kernel
theorem d_Paper_writeByte_12 : decode b_Paper_writeByte 12 = .ok (.aload_n 0, 1) := by decide +kernel
theorem d_Paper_writeByte_13 : decode b_Paper_writeByte 13 = .ok (.aload_n 0, 1) := by decide +kernel
theorem d_Paper_writeByte_14 : decode b_Paper_writeByte 14 = .ok (.getfield 9, 3) := by decide +kernel
theorem d_Paper_writeByte_17 : decode b_Paper_writeByte 17 = .ok (.iconst 2, 1) := by decide +kernel
theorem d_Paper_writeByte_18 : decode b_Paper_writeByte 18 = .ok (.aload_n 0, 1) := by decide +kernel
theorem d_Paper_writeByte_19 : decode b_Paper_writeByte 19 = .ok (.getfield 15, 3) := by decide +kernel
theorem d_Paper_writeByte_22 : decode b_Paper_writeByte 22 = .ok (.imul, 1) := by decide +kernel
theorem d_Paper_writeByte_23 : decode b_Paper_writeByte 23 = .ok (.invokestatic 59, 3) := by decide +kernel
theorem d_Paper_writeByte_26 : decode b_Paper_writeByte 26 = .ok (.putfield 9, 3) := by decide +kernel
theorem d_Paper_writeByte_29 : decode b_Paper_writeByte 29 = .ok (.aload_n 0, 1) := by decide +kernel
theorem d_Paper_writeByte_30 : decode b_Paper_writeByte 30 = .ok (.getfield 9, 3) := by decide +kernel
theorem d_Paper_writeByte_33 : decode b_Paper_writeByte 33 = .ok (.aload_n 0, 1) := by decide +kernel
theorem d_Paper_writeByte_34 : decode b_Paper_writeByte 34 = .ok (.getfield 15, 3) := by decide +kernel
theorem d_Paper_writeByte_37 : decode b_Paper_writeByte 37 = .ok (.iload_n 1, 1) := by decide +kernel
theorem d_Paper_writeByte_38 : decode b_Paper_writeByte 38 = .ok (.i2b, 1) := by decide +kernel
theorem d_Paper_writeByte_39 : decode b_Paper_writeByte 39 = .ok (.bastore, 1) := by decide +kernel
theorem d_Paper_writeByte_40 : decode b_Paper_writeByte 40 = .ok (.aload_n 0, 1) := by decide +kernel
theorem d_Paper_writeByte_41 : decode b_Paper_writeByte 41 = .ok (.dup, 1) := by decide +kernel
theorem d_Paper_writeByte_42 : decode b_Paper_writeByte 42 = .ok (.getfield 15, 3) := by decide +kernel
theorem d_Paper_writeByte_45 : decode b_Paper_writeByte 45 = .ok (.iconst 1, 1) := by decide +kernel
theorem d_Paper_writeByte_46 : decode b_Paper_writeByte 46 = .ok (.iadd, 1) := by decide +kernel
theorem d_Paper_writeByte_47 : decode b_Paper_writeByte 47 = .ok (.putfield 15, 3) := by decide +kernel
theorem d_Paper_writeByte_50 : decode b_Paper_writeByte 50 = .ok (.return_, 1) := by decide +kernel
set_option maxHeartbeats 40000000 in
set_option maxRecDepth 100000 in
theorem c_W_byte (l : Launch) (D : va_G) (ax : Nat → ClassId) (w0 w1 zs bc MB : Nat) (by9 : Nat → Int32) (x1 : Int32) (sz tz : Nat) (hbc : 8 ≤ bc) (hzs : zs ≤ bc) (hmb : bc ≤ MB) (hmz : 2 * (zs + 1) ≤ MB) (hMB : MB ≤ 4000000) (hby : bts by9 bc) : Met l y_Paper_writeByte (xws (.code y_Paper_writeByte b_Paper_writeByte 2 none)) ({ frames := 30, cells := MB / 8 - bc / 8, slots := 2 * (MB - bc), locals := 1200 }) (va_Pc [.ref w0, .int x1] (xo3 D ax [(w0, .inr (5, [.ref w1, .int (nI zs)])), (w1, .inl (ax 1, bc, .inl by9))] sz tz)) ((va_Qv (fun (u : Nat → Nat) => (u 2 = zs + 1 ∧ u 2 ≤ u 1 ∧ bc ≤ u 1 ∧ u 1 ≤ MB)) (fun (u : Nat → Nat) (t9 : State) => ∃ xby : Nat → Int32, (t9.heap.size ≤ sz + (u 1 / 8 - bc / 8)) ∧ (tsl t9.heap ≤ tz + (2 * (u 1 - bc))) ∧ (bts xby (u 1)) ∧ (lsi xby (u 2) = lsi by9 zs ++ [byv x1]) ∧ va_P D classes [(w0, .inr (5, [.ref (u 0), .int (nI (u 2))])), (u 0, .inl (ax 1, u 1, .inl xby))] t9.heap ∧ va_D (va_A [(w0, .inr (5, [.ref w1, .int (nI zs)])), (w1, .inl (ax 1, bc, .inl by9))] sz) [(w0, .inr (5, [.ref (u 0), .int (nI (u 2))])), (u 0, .inl (ax 1, u 1, .inl xby))]) (va_A [(w0, .inr (5, [.ref w1, .int (nI zs)])), (w1, .inl (ax 1, bc, .inl by9))] sz))) (MB / 8 - bc / 8) (2 * (MB - bc)) (va_A [(w0, .inr (5, [.ref w1, .int (nI zs)])), (w1, .inl (ax 1, bc, .inl by9))] sz) := by
  refine Met.ofW (cc := b_Paper_writeByte) (maxL := 2) (ret := none) (by decide) rfl ?_
  intro p e s m args below meth c s₁ B hml hv
  obtain ⟨rfl, ⟨hsz, hP, hK, hD0⟩, htz⟩ := hv
  have hx := B.exec
  have hb := B.bytes
  have hr := B.returns
  have hts := xw_hts B.pre
  have hown : s.vm.findClass R_Paper = some m.cls := findClass_of_methodNamed B.named
  have hlocks := B.notSynchronized
  subst hsz
  subst htz
  have hD := hD0.self (sz := s.heap.size)
  have hN := xz_entry hP
  generalize hAe : va_A [(w0, .inr (5, [.ref w1, .int (nI zs)])), (w1, .inl (ax 1, bc, .inl by9))] s.heap.size = A at hD hN ⊢
  have hA : ∀ q : Nat, s.heap.size ≤ q → A q := fun q h => by rw [← hAe]; exact Or.inr h
  have hS : va_S A s.heap s.heap [] := va_S.rf
  have hl0 := lv_entry ([.ref w0, .int x1]) (n := 2) (Nat.le_of_ble_eq_true rfl)
  rw [lg_entry_eq]
  generalize (lg_sl ([.ref w0, .int x1]) ++ List.replicate (2 - (lg_sl ([.ref w0, .int x1])).length) Slot.unset).toArray = ls at hl0 ⊢
  have hl1 : lv_has ls 2 [(0, .ref w0), (1, .int x1)] := hl0
  refine xw_gen (fun Z9 hQe => ?_)
  refine lv_aload_n hx hb d_Paper_writeByte_0 rfl (lv_at hl1 0 rfl) ?_
  refine va_get (D := D) (ci := 5) (v := .int (nI zs)) (C := R_Paper) (T := F_Paper) (N := 2) hx hb hts i_Paper hown hK.1 hP 0 rfl rfl 1 (by decide) (hts _ wd_238) (fun _ h9 => h9) rfl d_Paper_writeByte_1 ?_
  refine lv_aload_n hx hb d_Paper_writeByte_4 rfl (lv_at hl1 0 rfl) ?_
  refine va_get (D := D) (ci := 5) (v := .ref w1) (C := R_Paper) (T := F_Paper) (N := 2) hx hb hts i_Paper hown hK.1 hP 0 rfl rfl 0 (by decide) (hts _ wd_236) (fun _ h9 => h9) rfl d_Paper_writeByte_5 ?_
  refine va_alen hx hb hK.1 hP 1 1 rfl rfl (v := _) rfl d_Paper_writeByte_8 ?_
  refine lv_icmp_ne (tgt := 29) hx hb d_Paper_writeByte_9 (by decide) (fun c_1 => ?_) (fun c_1 => ?_)
  · replace c_1 : ¬ zs = bc := fun hq9 => c_1 ((nI_eq (a := zs) (b := bc) (by first | exact Nat.lt_of_lt_of_le (by assumption) (by decide) | exact Nat.lt_of_le_of_lt (by assumption) (by decide) | omega) (by first | exact Nat.lt_of_lt_of_le (by assumption) (by decide) | exact Nat.lt_of_le_of_lt (by assumption) (by decide) | omega)).mpr hq9)
    refine lv_aload_n hx hb d_Paper_writeByte_29 rfl (lv_at hl1 0 rfl) ?_
    refine va_get (D := D) (ci := 5) (v := .ref w1) (C := R_Paper) (T := F_Paper) (N := 2) hx hb hts i_Paper hown hK.1 hP 0 rfl rfl 0 (by decide) (hts _ wd_236) (fun _ h9 => h9) rfl d_Paper_writeByte_30 ?_
    refine lv_aload_n hx hb d_Paper_writeByte_33 rfl (lv_at hl1 0 rfl) ?_
    refine va_get (D := D) (ci := 5) (v := .int (nI zs)) (C := R_Paper) (T := F_Paper) (N := 2) hx hb hts i_Paper hown hK.1 hP 0 rfl rfl 1 (by decide) (hts _ wd_238) (fun _ h9 => h9) rfl d_Paper_writeByte_34 ?_
    refine lv_iload_n hx hb d_Paper_writeByte_37 rfl (lv_at hl1 1 rfl) ?_
    refine lv_i2b hx hb d_Paper_writeByte_38 rfl ?_
    refine lv_topi (fun z_2 ez_2 => ?_)
    refine va_bast hx hb hK.1 hP hD hS 1 1 rfl rfl (vp_in_nI (by first | assumption | omega) (by first | exact Nat.lt_of_lt_of_le (by assumption) (by decide) | exact Nat.lt_of_le_of_lt (by assumption) (by decide) | omega)) d_Paper_writeByte_39 (fun H_3 locs hP1 hD1 hS1 => ?_)
    rw [nI_clamp (by first | exact Nat.lt_of_lt_of_le (by assumption) (by decide) | exact Nat.lt_of_le_of_lt (by assumption) (by decide) | omega)] at hP1 hD1
    clear hP hD hS
    have hS := hS1
    have hW7 : (fun w9 : va_W => va_P D classes w9 H_3 ∧ va_D A w9) [(w0, .inr (5, [.ref w1, .int (nI zs)])), (w1, .inl (ax 1, bc, .inl (upd by9 zs (vp_nar .byte z_2))))] := ⟨hP1, hD1⟩
    obtain ⟨hP, hD⟩ := hW7
    clear hP1 hD1 hS1
    refine lv_aload_n hx hb d_Paper_writeByte_40 rfl (lv_at hl1 0 rfl) ?_
    refine lv_dup hx hb d_Paper_writeByte_41 rfl ?_
    refine va_get (D := D) (ci := 5) (v := .int (nI zs)) (C := R_Paper) (T := F_Paper) (N := 2) hx hb hts i_Paper hown hK.1 hP 0 rfl rfl 1 (by decide) (hts _ wd_238) (fun _ h9 => h9) rfl d_Paper_writeByte_42 ?_
    refine lv_iconst (v := 1) hx hb d_Paper_writeByte_45 (by decide) ?_
    refine lv_iadd hx hb d_Paper_writeByte_46 ?_
    refine lv_topi (fun z_4 ez_4 => ?_)
    have ez_4 : z_4 = nI (zs + 1) := ez_4.trans (nI_add zs 1)
    subst ez_4
    refine va_put (D := D) (ci := 5) (v := .int (nI (zs + 1))) (ty := .int) (C := R_Paper) (T := F_Paper) (N := 2) hx hb hts i_Paper t_Paper t_Paper_ok n_Paper hown hK.1 hP hD hS 0 rfl rfl 1 (by decide) (hts _ wd_238) (fun _ h9 => h9) rfl (by decide +kernel) rfl rfl (Nat.le_of_ble_eq_true rfl) d_Paper_writeByte_47 (fun H_5 locs hP1 hD1 hS1 => ?_)
    clear hP hD hS
    have hS := hS1
    have hW7 : (fun w9 : va_W => va_P D classes w9 H_5 ∧ va_D A w9) [(w0, .inr (5, [.ref w1, .int (nI (zs + 1))])), (w1, .inl (ax 1, bc, .inl (upd by9 zs (vp_nar .byte z_2))))] := ⟨hP1, hD1⟩
    obtain ⟨hP, hD⟩ := hW7
    clear hP1 hD1 hS1
    rw [← hQe]
    refine wk_know (fun hk8 hk9 => ?_)
    refine W.widen (k := MB / 8 - bc / 8) (n := 2 * (MB - bc)) (by first | assumption | omega) (by first | assumption | omega) ?_
    obtain ⟨hP9, hD9⟩ := xw_sub2 (wc := (fun (u : Nat → Nat) (xby : Nat → Int32) => [(w0, .inr (5, [.ref (u 0), .int (nI (u 2))])), (u 0, .inl (ax 1, u 1, .inl xby))]) (ixn [w1, bc, (zs + 1)]) (upd by9 zs (vp_nar .byte z_2))) hP hD [0, 1] (by decide) rfl
    have hex0 : bts (upd by9 zs (vp_nar .byte z_2)) (bc) := (by rw [ez_2]; exact hby.up (byv_fits _))
    have hex1 : lsi (upd by9 zs (vp_nar .byte z_2)) ((zs + 1)) = lsi by9 zs ++ [byv x1] := (by rw [ez_2]; exact lsi_upd)
    have hg8 : H_5.size ≤ s.heap.size + (bc / 8 - bc / 8) := by omega
    have hg9 : tsl H_5 ≤ tsl s.heap + (2 * (bc - bc)) := by omega
    have hsp0 : (zs + 1) = zs + 1 := (by first | assumption | omega)
    have hsp1 : (zs + 1) ≤ bc := (by first | assumption | omega)
    have hsp2 : bc ≤ bc := (by first | assumption | omega)
    have hsp3 : bc ≤ MB := (by first | assumption | omega)
    exact W.vret hx hb hr (fun t ht hW => ⟨⟨ixn [w1, bc, (zs + 1)], rfl, ⟨hsp0, hsp1, hsp2, hsp3⟩, ⟨(upd by9 zs (vp_nar .byte z_2)), by rw [ht]; exact hg8, by rw [ht]; exact hg9, hex0, hex1, by rw [ht]; exact hP9, hD9⟩⟩, hS.F ht⟩) hS.2.2 d_Paper_writeByte_50
  · replace c_1 : zs = bc := (nI_eq (a := zs) (b := bc) (by first | exact Nat.lt_of_lt_of_le (by assumption) (by decide) | exact Nat.lt_of_le_of_lt (by assumption) (by decide) | omega) (by first | exact Nat.lt_of_lt_of_le (by assumption) (by decide) | exact Nat.lt_of_le_of_lt (by assumption) (by decide) | omega)).mp c_1
    have hzc : bc = zs := by omega
    refine lv_aload_n hx hb d_Paper_writeByte_12 rfl (lv_at hl1 0 rfl) ?_
    refine lv_aload_n hx hb d_Paper_writeByte_13 rfl (lv_at hl1 0 rfl) ?_
    refine va_get (D := D) (ci := 5) (v := .ref w1) (C := R_Paper) (T := F_Paper) (N := 2) hx hb hts i_Paper hown hK.1 hP 0 rfl rfl 0 (by decide) (hts _ wd_236) (fun _ h9 => h9) rfl d_Paper_writeByte_14 ?_
    refine lv_iconst (v := 2) hx hb d_Paper_writeByte_17 (by decide) ?_
    refine lv_aload_n hx hb d_Paper_writeByte_18 rfl (lv_at hl1 0 rfl) ?_
    refine va_get (D := D) (ci := 5) (v := .int (nI zs)) (C := R_Paper) (T := F_Paper) (N := 2) hx hb hts i_Paper hown hK.1 hP 0 rfl rfl 1 (by decide) (hts _ wd_238) (fun _ h9 => h9) rfl d_Paper_writeByte_19 ?_
    refine lv_imul hx hb d_Paper_writeByte_22 ?_
    refine lv_topi (fun z_6 ez_6 => ?_)
    have ez_6 : z_6 = nI (2 * zs) := ez_6.trans (pk_mul 2 zs)
    subst ez_6
    obtain ⟨hPc, hDc, hFc, hCs⟩ := xw_sub3 (wc := [(w1, .inl (ax 1, bc, .inl by9))]) hP hD hS hA [1] (by decide) rfl
    have hz := xz_of hN hS
    refine va_callr (va_runS (As := [.ref w1, .int (nI (2 * zs))]) (rest := [.ref w0]) ⟨hx, hb, hml, hown, hts⟩ (c_Arrays_copyOf_B l D ax w1 bc (2 * zs) by9 s.heap.size (by first | assumption | omega) (by first | assumption | omega) hby) (xcS (n := 2) hts wd_353 wd_8 wd_939 wd_352 rfl rfl (by decide +kernel) ⟨Nat.le_of_ble_eq_true rfl, Nat.le_of_ble_eq_true rfl⟩) (xpS (As := [.ref w1, .int (nI (2 * zs))]) hPc hK hz hDc) rfl rfl hl1.1 rfl (lv_room (Nat.le_of_ble_eq_true rfl)) d_Paper_writeByte_23 ⟨(show (0) + (1) ≤ (MB / 8 - bc / 8) by omega), (show (0) + (2 * zs) ≤ (2 * (MB - bc)) by omega)⟩) hS (fun q _ h => hFc q h) hFc (fun u_7 r_9 t H_8 locs ht hvm hw hB hz1 hk1 hS1 => ?_)
    try dsimp only at hw
    obtain ⟨hra, hP1, hD1⟩ := hB
    rw [ht] at hP1
    subst hra
    have hjn := xw_join3 (wl := [(w0, .inr (5, [.ref w1, .int (nI zs)])), (w1, .inl (ax 1, bc, .inl by9)), ((u_7 0), .inl (ax 1, 2 * zs, .inl (cpy9 by9 bc)))]) hP hD [1] [0] hCs (by decide) (by decide) hk1 hFc hP1 hD1 rfl
    clear hP1 hD1
    clear hPc hDc hFc hCs hz hz1 hk1 ht hvm
    clear hP hD hS
    have hS := hS1
    obtain ⟨hP, hD⟩ := hjn
    clear hS1
    refine W.widen (k := 1) (n := 2 * zs) (Nat.le_of_ble_eq_true rfl) (by first | assumption | omega) ?_
    refine va_put (D := D) (ci := 5) (v := .ref (u_7 0)) (ty := .array .byte) (C := R_Paper) (T := F_Paper) (N := 2) hx hb hts i_Paper t_Paper t_Paper_ok n_Paper hown hK.1 hP hD hS 0 rfl rfl 0 (by decide) (hts _ wd_236) (fun _ h9 => h9) rfl (by decide +kernel) rfl rfl (Nat.le_of_ble_eq_true rfl) d_Paper_writeByte_26 (fun H_10 locs hP1 hD1 hS1 => ?_)
    clear hP hD hS
    have hS := hS1
    have hW7 : (fun w9 : va_W => va_P D classes w9 H_10 ∧ va_D A w9) [(w0, .inr (5, [.ref (u_7 0), .int (nI zs)])), (w1, .inl (ax 1, bc, .inl by9)), ((u_7 0), .inl (ax 1, 2 * zs, .inl (cpy9 by9 bc)))] := ⟨hP1, hD1⟩
    obtain ⟨hP, hD⟩ := hW7
    clear hP1 hD1 hS1
    refine lv_aload_n hx hb d_Paper_writeByte_29 rfl (lv_at hl1 0 rfl) ?_
    refine va_get (D := D) (ci := 5) (v := .ref (u_7 0)) (C := R_Paper) (T := F_Paper) (N := 2) hx hb hts i_Paper hown hK.1 hP 0 rfl rfl 0 (by decide) (hts _ wd_236) (fun _ h9 => h9) rfl d_Paper_writeByte_30 ?_
    refine lv_aload_n hx hb d_Paper_writeByte_33 rfl (lv_at hl1 0 rfl) ?_
    refine va_get (D := D) (ci := 5) (v := .int (nI zs)) (C := R_Paper) (T := F_Paper) (N := 2) hx hb hts i_Paper hown hK.1 hP 0 rfl rfl 1 (by decide) (hts _ wd_238) (fun _ h9 => h9) rfl d_Paper_writeByte_34 ?_
    refine lv_iload_n hx hb d_Paper_writeByte_37 rfl (lv_at hl1 1 rfl) ?_
    refine lv_i2b hx hb d_Paper_writeByte_38 rfl ?_
    refine lv_topi (fun z_11 ez_11 => ?_)
    refine va_bast hx hb hK.1 hP hD hS 2 1 rfl rfl (vp_in_nI (by first | assumption | omega) (by first | exact Nat.lt_of_lt_of_le (by assumption) (by decide) | exact Nat.lt_of_le_of_lt (by assumption) (by decide) | omega)) d_Paper_writeByte_39 (fun H_12 locs hP1 hD1 hS1 => ?_)
    rw [nI_clamp (by first | exact Nat.lt_of_lt_of_le (by assumption) (by decide) | exact Nat.lt_of_le_of_lt (by assumption) (by decide) | omega)] at hP1 hD1
    clear hP hD hS
    have hS := hS1
    have hW7 : (fun w9 : va_W => va_P D classes w9 H_12 ∧ va_D A w9) [(w0, .inr (5, [.ref (u_7 0), .int (nI zs)])), (w1, .inl (ax 1, bc, .inl by9)), ((u_7 0), .inl (ax 1, 2 * zs, .inl (upd (cpy9 by9 bc) zs (vp_nar .byte z_11))))] := ⟨hP1, hD1⟩
    obtain ⟨hP, hD⟩ := hW7
    clear hP1 hD1 hS1
    refine lv_aload_n hx hb d_Paper_writeByte_40 rfl (lv_at hl1 0 rfl) ?_
    refine lv_dup hx hb d_Paper_writeByte_41 rfl ?_
    refine va_get (D := D) (ci := 5) (v := .int (nI zs)) (C := R_Paper) (T := F_Paper) (N := 2) hx hb hts i_Paper hown hK.1 hP 0 rfl rfl 1 (by decide) (hts _ wd_238) (fun _ h9 => h9) rfl d_Paper_writeByte_42 ?_
    refine lv_iconst (v := 1) hx hb d_Paper_writeByte_45 (by decide) ?_
    refine lv_iadd hx hb d_Paper_writeByte_46 ?_
    refine lv_topi (fun z_13 ez_13 => ?_)
    have ez_13 : z_13 = nI (zs + 1) := ez_13.trans (nI_add zs 1)
    subst ez_13
    refine va_put (D := D) (ci := 5) (v := .int (nI (zs + 1))) (ty := .int) (C := R_Paper) (T := F_Paper) (N := 2) hx hb hts i_Paper t_Paper t_Paper_ok n_Paper hown hK.1 hP hD hS 0 rfl rfl 1 (by decide) (hts _ wd_238) (fun _ h9 => h9) rfl (by decide +kernel) rfl rfl (Nat.le_of_ble_eq_true rfl) d_Paper_writeByte_47 (fun H_14 locs hP1 hD1 hS1 => ?_)
    clear hP hD hS
    have hS := hS1
    have hW7 : (fun w9 : va_W => va_P D classes w9 H_14 ∧ va_D A w9) [(w0, .inr (5, [.ref (u_7 0), .int (nI (zs + 1))])), (w1, .inl (ax 1, bc, .inl by9)), ((u_7 0), .inl (ax 1, 2 * zs, .inl (upd (cpy9 by9 bc) zs (vp_nar .byte z_11))))] := ⟨hP1, hD1⟩
    obtain ⟨hP, hD⟩ := hW7
    clear hP1 hD1 hS1
    rw [← hQe]
    refine wk_know (fun hk8 hk9 => ?_)
    refine W.widen (k := MB / 8 - bc / 8) (n := 2 * (MB - bc)) (by first | assumption | omega) (by first | assumption | omega) ?_
    obtain ⟨hP9, hD9⟩ := xw_sub2 (wc := (fun (u : Nat → Nat) (xby : Nat → Int32) => [(w0, .inr (5, [.ref (u 0), .int (nI (u 2))])), (u 0, .inl (ax 1, u 1, .inl xby))]) (ixn [(u_7 0), (2 * zs), (zs + 1)]) (upd (cpy9 by9 bc) zs (vp_nar .byte z_11))) hP hD [0, 2] (by decide) rfl
    have hex0 : bts (upd (cpy9 by9 bc) zs (vp_nar .byte z_11)) ((2 * zs)) := (by rw [ez_11]; exact hby.cz.up (byv_fits _))
    have hex1 : lsi (upd (cpy9 by9 bc) zs (vp_nar .byte z_11)) ((zs + 1)) = lsi by9 zs ++ [byv x1] := (by rw [ez_11]; exact lsi_upd.trans (congrArg (fun q => q ++ [byv x1]) (lsi_cpy (by first | assumption | omega))))
    have hg8 : H_14.size ≤ s.heap.size + ((2 * zs) / 8 - bc / 8) := by omega
    have hg9 : tsl H_14 ≤ tsl s.heap + (2 * ((2 * zs) - bc)) := by omega
    have hsp0 : (zs + 1) = zs + 1 := (by first | assumption | omega)
    have hsp1 : (zs + 1) ≤ (2 * zs) := (by first | assumption | omega)
    have hsp2 : bc ≤ (2 * zs) := (by first | assumption | omega)
    have hsp3 : (2 * zs) ≤ MB := (by first | assumption | omega)
    exact W.vret hx hb hr (fun t ht hW => ⟨⟨ixn [(u_7 0), (2 * zs), (zs + 1)], rfl, ⟨hsp0, hsp1, hsp2, hsp3⟩, ⟨(upd (cpy9 by9 bc) zs (vp_nar .byte z_11)), by rw [ht]; exact hg8, by rw [ht]; exact hg9, hex0, hex1, by rw [ht]; exact hP9, hD9⟩⟩, hS.F ht⟩) hS.2.2 d_Paper_writeByte_50
abbrev b_Paper_writeNumber : ByteArray := prog_7_method_6_code
def y_Paper_writeNumber : MethodName := ⟨R_Paper, "writeNumber", "(I)V"⟩
theorem d_Paper_writeNumber_0 : decode b_Paper_writeNumber 0 = .ok (.iload_n 1, 1) := by decide +kernel
theorem d_Paper_writeNumber_1 : decode b_Paper_writeNumber 1 = .ok (.ifCond .ge 9, 3) := by decide +kernel
theorem d_Paper_writeNumber_4 : decode b_Paper_writeNumber 4 = .ok (.aload_n 0, 1) := by decide +kernel
theorem d_Paper_writeNumber_5 : decode b_Paper_writeNumber 5 = .ok (.bipush 45, 2) := by decide +kernel
theorem d_Paper_writeNumber_7 : decode b_Paper_writeNumber 7 = .ok (.invokevirtual 46, 3) := by decide +kernel
theorem d_Paper_writeNumber_10 : decode b_Paper_writeNumber 10 = .ok (.iload_n 1, 1) := by decide +kernel
theorem d_Paper_writeNumber_11 : decode b_Paper_writeNumber 11 = .ok (.invokestatic 52, 3) := by decide +kernel
theorem d_Paper_writeNumber_14 : decode b_Paper_writeNumber 14 = .ok (.istore_n 2, 1) := by decide +kernel
theorem d_Paper_writeNumber_15 : decode b_Paper_writeNumber 15 = .ok (.ldc 58, 2) := by decide +kernel
theorem d_Paper_writeNumber_17 : decode b_Paper_writeNumber 17 = .ok (.istore_n 3, 1) := by decide +kernel
theorem d_Paper_writeNumber_18 : decode b_Paper_writeNumber 18 = .ok (.iload_n 3, 1) := by decide +kernel
theorem d_Paper_writeNumber_19 : decode b_Paper_writeNumber 19 = .ok (.ifCond .le 34, 3) := by decide +kernel
theorem d_Paper_writeNumber_22 : decode b_Paper_writeNumber 22 = .ok (.iload_n 2, 1) := by decide +kernel
theorem d_Paper_writeNumber_23 : decode b_Paper_writeNumber 23 = .ok (.iload_n 3, 1) := by decide +kernel
theorem d_Paper_writeNumber_24 : decode b_Paper_writeNumber 24 = .ok (.if_icmp .ge 8, 3) := by decide +kernel
theorem d_Paper_writeNumber_27 : decode b_Paper_writeNumber 27 = .ok (.iload_n 3, 1) := by decide +kernel
theorem d_Paper_writeNumber_28 : decode b_Paper_writeNumber 28 = .ok (.iconst 1, 1) := by decide +kernel
theorem d_Paper_writeNumber_29 : decode b_Paper_writeNumber 29 = .ok (.if_icmp .ne 16, 3) := by decide +kernel
theorem d_Paper_writeNumber_32 : decode b_Paper_writeNumber 32 = .ok (.aload_n 0, 1) := by decide +kernel
theorem d_Paper_writeNumber_33 : decode b_Paper_writeNumber 33 = .ok (.bipush 48, 2) := by decide +kernel
theorem d_Paper_writeNumber_35 : decode b_Paper_writeNumber 35 = .ok (.iload_n 2, 1) := by decide +kernel
theorem d_Paper_writeNumber_36 : decode b_Paper_writeNumber 36 = .ok (.iload_n 3, 1) := by decide +kernel
theorem d_Paper_writeNumber_37 : decode b_Paper_writeNumber 37 = .ok (.idiv, 1) := by decide +kernel
theorem d_Paper_writeNumber_38 : decode b_Paper_writeNumber 38 = .ok (.bipush 10, 2) := by decide +kernel
theorem d_Paper_writeNumber_40 : decode b_Paper_writeNumber 40 = .ok (.irem, 1) := by decide +kernel
theorem d_Paper_writeNumber_41 : decode b_Paper_writeNumber 41 = .ok (.iadd, 1) := by decide +kernel
theorem d_Paper_writeNumber_42 : decode b_Paper_writeNumber 42 = .ok (.invokevirtual 46, 3) := by decide +kernel
theorem d_Paper_writeNumber_45 : decode b_Paper_writeNumber 45 = .ok (.iload_n 3, 1) := by decide +kernel
theorem d_Paper_writeNumber_46 : decode b_Paper_writeNumber 46 = .ok (.bipush 10, 2) := by decide +kernel
theorem d_Paper_writeNumber_48 : decode b_Paper_writeNumber 48 = .ok (.idiv, 1) := by decide +kernel
theorem d_Paper_writeNumber_49 : decode b_Paper_writeNumber 49 = .ok (.istore_n 3, 1) := by decide +kernel
theorem d_Paper_writeNumber_50 : decode b_Paper_writeNumber 50 = .ok (.goto (-32), 3) := by decide +kernel
theorem d_Paper_writeNumber_53 : decode b_Paper_writeNumber 53 = .ok (.return_, 1) := by decide +kernel
set_option maxHeartbeats 40000000 in
set_option maxRecDepth 100000 in
theorem c_W_number (l : Launch) (D : va_G) (ax : Nat → ClassId) (w0 w1 zs bc MB : Nat) (by9 : Nat → Int32) (x1 : Int32) (sz tz : Nat) (hbc : 8 ≤ bc) (hzs : zs ≤ bc) (hmb : bc ≤ MB) (hmz : 2 * (zs + 8) ≤ MB) (hMB : MB ≤ 4000000) (hby : bts by9 bc) : Met l y_Paper_writeNumber (xws (.code y_Paper_writeNumber b_Paper_writeNumber 4 none)) ({ frames := 40, cells := MB / 8 - bc / 8, slots := 2 * (MB - bc), locals := 1600 }) (va_Pc [.ref w0, .int x1] (xo3 D ax [(w0, .inr (5, [.ref w1, .int (nI zs)])), (w1, .inl (ax 1, bc, .inl by9))] sz tz)) ((va_Qv (fun (u : Nat → Nat) => (u 2 ≤ zs + 8 ∧ zs ≤ u 2 ∧ u 2 ≤ u 1 ∧ bc ≤ u 1 ∧ u 1 ≤ MB)) (fun (u : Nat → Nat) (t9 : State) => ∃ xby : Nat → Int32, (t9.heap.size ≤ sz + (u 1 / 8 - bc / 8)) ∧ (tsl t9.heap ≤ tz + (2 * (u 1 - bc))) ∧ (bts xby (u 1)) ∧ (wnQ x1 by9 zs xby (u 2)) ∧ va_P D classes [(w0, .inr (5, [.ref (u 0), .int (nI (u 2))])), (u 0, .inl (ax 1, u 1, .inl xby))] t9.heap ∧ va_D (va_A [(w0, .inr (5, [.ref w1, .int (nI zs)])), (w1, .inl (ax 1, bc, .inl by9))] sz) [(w0, .inr (5, [.ref (u 0), .int (nI (u 2))])), (u 0, .inl (ax 1, u 1, .inl xby))]) (va_A [(w0, .inr (5, [.ref w1, .int (nI zs)])), (w1, .inl (ax 1, bc, .inl by9))] sz))) (MB / 8 - bc / 8) (2 * (MB - bc)) (va_A [(w0, .inr (5, [.ref w1, .int (nI zs)])), (w1, .inl (ax 1, bc, .inl by9))] sz) := by
  refine Met.ofW (cc := b_Paper_writeNumber) (maxL := 4) (ret := none) (by decide) rfl ?_
  intro p e s m args below meth c s₁ B hml hv
  obtain ⟨rfl, ⟨hsz, hP, hK, hD0⟩, htz⟩ := hv
  have hx := B.exec
  have hb := B.bytes
  have hr := B.returns
  have hts := xw_hts B.pre
  have hown : s.vm.findClass R_Paper = some m.cls := findClass_of_methodNamed B.named
  have hlocks := B.notSynchronized
  subst hsz
  subst htz
  have hD := hD0.self (sz := s.heap.size)
  have hN := xz_entry hP
  generalize hAe : va_A [(w0, .inr (5, [.ref w1, .int (nI zs)])), (w1, .inl (ax 1, bc, .inl by9))] s.heap.size = A at hD hN ⊢
  have hA : ∀ q : Nat, s.heap.size ≤ q → A q := fun q h => by rw [← hAe]; exact Or.inr h
  have hS : va_S A s.heap s.heap [] := va_S.rf
  have hl0 := lv_entry ([.ref w0, .int x1]) (n := 4) (Nat.le_of_ble_eq_true rfl)
  rw [lg_entry_eq]
  generalize (lg_sl ([.ref w0, .int x1]) ++ List.replicate (4 - (lg_sl ([.ref w0, .int x1])).length) Slot.unset).toArray = ls at hl0 ⊢
  have hl1 : lv_has ls 4 [(0, .ref w0), (1, .int x1)] := hl0
  refine xw_gen (fun Z9 hQe => ?_)
  have jn_1 : ∀ (z0 c0 a0 : Nat) (y0 : Nat → Int32), z0 ≤ zs + 1 → zs ≤ z0 → z0 ≤ c0 → bc ≤ c0 → c0 ≤ MB → bts y0 c0 → lsi y0 z0 = lsi by9 zs ++ sgT9 x1 → ∀ (H : Heap) (locs : List Loc) (ls : Array Slot), va_P D classes [(w0, .inr (5, [.ref a0, .int (nI z0)])), (a0, .inl (ax 1, c0, .inl y0))] H → va_D A [(w0, .inr (5, [.ref a0, .int (nI z0)])), (a0, .inl (ax 1, c0, .inl y0))] → va_S A s.heap H locs → lv_has ls 4 [(0, .ref w0), (1, .int x1)] → W p l e (headSpec (xws (.code y_Paper_writeNumber b_Paper_writeNumber 4 none)) ({ frames := 40, cells := MB / 8 - bc / 8, slots := 2 * (MB - bc), locals := 1600 })).room s m ([.ref w0, .int x1] : List Value).toArray below meth c H locs (c0 / 8 - bc / 8) (2 * (c0 - bc)) Z9 (F0 m 10 ls []) := by
    clear hP hD hS hl1
    intro z0 c0 a0 y0 gz0a gz0b gz0c gz0d gz0e gz0f hN0 H locs ls hP hD hS hl1
    refine lv_iload_n hx hb d_Paper_writeNumber_10 rfl (lv_at hl1 1 rfl) ?_
    refine va_mabs hx hb (hl1.1.trans hml.symm).symm hown (hts _ wd_940) (hts _ wd_941) (hts _ wd_13) (hts _ wd_942) (Nat.le_of_ble_eq_true rfl) (Nat.le_of_ble_eq_true rfl) (show (c0 / 8 - bc / 8) ≤ (MB / 8 - bc / 8) by omega) (show (2 * (c0 - bc)) ≤ (2 * (MB - bc)) by omega) d_Paper_writeNumber_11 ?_
    refine lv_topi (fun z_2 ez_2 => ?_)
    refine lv_istore_n (lv' := [(2, .int z_2), (0, .ref w0), (1, .int x1)]) hx hb d_Paper_writeNumber_14 rfl hl1 (by decide) rfl (fun ls hl2 => ?_)
    clear hl1; have hl1 := hl2; clear hl2
    refine lv_ldc (v := 1000000) hx hb hown (hts _ wd_943) d_Paper_writeNumber_15 ?_
    refine lv_istore_n (lv' := [(3, .int 1000000), (2, .int z_2), (0, .ref w0), (1, .int x1)]) hx hb d_Paper_writeNumber_17 rfl hl1 (by decide) rfl (fun ls hl2 => ?_)
    clear hl1; have hl1 := hl2; clear hl2
    have hl1 : lv_has ls 4 [(3, .int (nI (pwo 7))), (2, .int z_2), (0, .ref w0), (1, .int x1)] := hl1
    suffices key_3 : ∀ (k : Nat) (d2 z1 c1 a1 : Nat) (y1 : Nat → Int32), d2 < k → d2 ≤ 7 → pwo d2 ≤ 1000000000 → z1 + d2 ≤ zs + 8 → zs ≤ z1 → z1 ≤ c1 → bc ≤ c1 → c1 ≤ MB → bts y1 c1 → wnJ x1 by9 zs y1 z1 d2 → ∀ (H : Heap) (locs : List Loc) (ls : Array Slot), va_P D classes [(w0, .inr (5, [.ref a1, .int (nI z1)])), (a1, .inl (ax 1, c1, .inl y1))] H → va_D A [(w0, .inr (5, [.ref a1, .int (nI z1)])), (a1, .inl (ax 1, c1, .inl y1))] → va_S A s.heap H locs → lv_has ls 4 [(0, .ref w0), (1, .int x1), (2, .int z_2), (3, .int (nI (pwo d2)))] → W p l e (headSpec (xws (.code y_Paper_writeNumber b_Paper_writeNumber 4 none)) ({ frames := 40, cells := MB / 8 - bc / 8, slots := 2 * (MB - bc), locals := 1600 })).room s m ([.ref w0, .int x1] : List Value).toArray below meth c H locs (c1 / 8 - bc / 8) (2 * (c1 - bc)) Z9 (F0 m 18 ls []) from key_3 (7 + 1) 7 z0 c0 a0 y0 (Nat.lt_succ_self _) (by first | assumption | omega) (pwo_le (by first | assumption | omega)) (by first | assumption | omega) (by first | assumption | omega) (by first | assumption | omega) (by first | assumption | omega) (by first | assumption | omega) (by assumption) (wnJ_0 hN0) _ _ _ (hP) (hD) hS (lv_sub hl1 [2, 3, 1, 0] rfl)
    intro k_4
    induction k_4 with
    | zero =>
      intro d2 z1 c1 a1 y1 hk_6
      exact absurd hk_6 (Nat.not_lt_zero _)
    | succ k_4 ih_5 =>
      clear hP hD hS hl1
      intro d2 z1 c1 a1 y1 hk_6 hd3 hpw2 gz1a gz1b gz1c gz1d gz1e gz1f hN1 H locs ls hP hD hS hl1
      refine lv_iload_n hx hb d_Paper_writeNumber_18 rfl (lv_at hl1 3 rfl) ?_
      refine lv_if_le (tgt := 53) hx hb d_Paper_writeNumber_19 (by decide) (fun c_7 => ?_) (fun c_7 => ?_)
      · replace c_7 : pwo d2 ≤ 0 := (nI_leI (a := pwo d2) (b := 0) (by first | exact Nat.lt_of_lt_of_le (by assumption) (by decide) | exact Nat.lt_of_le_of_lt (by assumption) (by decide) | omega) (by decide)).mp c_7
        rw [← hQe]
        refine wk_know (fun hk8 hk9 => ?_)
        refine W.widen (k := MB / 8 - bc / 8) (n := 2 * (MB - bc)) (by first | assumption | omega) (by first | assumption | omega) ?_
        obtain ⟨hP9, hD9⟩ := xw_sub2 (wc := (fun (u : Nat → Nat) (xby : Nat → Int32) => [(w0, .inr (5, [.ref (u 0), .int (nI (u 2))])), (u 0, .inl (ax 1, u 1, .inl xby))]) (ixn [a1, c1, z1]) y1) hP hD [0, 1] (by decide) rfl
        have hex0 : bts y1 (c1) := (by assumption)
        have hex1 : wnQ x1 by9 zs y1 (z1) := (wnJ_e hN1 (pwo_z (by first | assumption | omega)))
        have hg8 : H.size ≤ s.heap.size + (c1 / 8 - bc / 8) := by omega
        have hg9 : tsl H ≤ tsl s.heap + (2 * (c1 - bc)) := by omega
        have hsp0 : z1 ≤ zs + 8 := (by first | assumption | omega)
        have hsp1 : zs ≤ z1 := (by first | assumption | omega)
        have hsp2 : z1 ≤ c1 := (by first | assumption | omega)
        have hsp3 : bc ≤ c1 := (by first | assumption | omega)
        have hsp4 : c1 ≤ MB := (by first | assumption | omega)
        exact W.vret hx hb hr (fun t ht hW => ⟨⟨ixn [a1, c1, z1], rfl, ⟨hsp0, hsp1, hsp2, hsp3, hsp4⟩, ⟨y1, by rw [ht]; exact hg8, by rw [ht]; exact hg9, hex0, hex1, by rw [ht]; exact hP9, hD9⟩⟩, hS.F ht⟩) hS.2.2 d_Paper_writeNumber_53
      · replace c_7 : ¬ pwo d2 ≤ 0 := fun hq9 => c_7 ((nI_leI (a := pwo d2) (b := 0) (by first | exact Nat.lt_of_lt_of_le (by assumption) (by decide) | exact Nat.lt_of_le_of_lt (by assumption) (by decide) | omega) (by decide)).mpr hq9)
        obtain ⟨d3, rfl⟩ : ∃ d3, d2 = d3 + 1 := by
          cases d2 with
          | zero => exfalso; have h9 : pwo 0 = 0 := rfl; omega
          | succ k => exact ⟨k, rfl⟩
        have hpp := pwo_pos (k := d3 + 1) (by first | assumption | omega)
        refine lv_iload_n hx hb d_Paper_writeNumber_22 rfl (lv_at hl1 2 rfl) ?_
        refine lv_iload_n hx hb d_Paper_writeNumber_23 rfl (lv_at hl1 3 rfl) ?_
        refine lv_icmp_ge (tgt := 32) hx hb d_Paper_writeNumber_24 (by decide) (fun c_8 => ?_) (fun c_8 => ?_)
        · refine lv_aload_n hx hb d_Paper_writeNumber_32 rfl (lv_at hl1 0 rfl) ?_
          refine lv_bipush (v := 48) hx hb d_Paper_writeNumber_33 (by decide) ?_
          refine lv_iload_n hx hb d_Paper_writeNumber_35 rfl (lv_at hl1 2 rfl) ?_
          refine lv_iload_n hx hb d_Paper_writeNumber_36 rfl (lv_at hl1 3 rfl) ?_
          refine lv_idiv hx hb d_Paper_writeNumber_37 (nI_ne0 (by first | assumption | omega) (by first | assumption | omega)) ?_
          refine lv_topi (fun z_9 ez_9 => ?_)
          refine lv_bipush (v := 10) hx hb d_Paper_writeNumber_38 (by decide) ?_
          refine lv_irem hx hb d_Paper_writeNumber_40 (by decide) ?_
          refine lv_topi (fun z_10 ez_10 => ?_)
          refine lv_iadd hx hb d_Paper_writeNumber_41 ?_
          refine lv_topi (fun z_11 ez_11 => ?_)
          obtain ⟨hPc, hDc, hFc, hCs⟩ := xw_sub3 (wc := [(w0, .inr (5, [.ref a1, .int (nI z1)])), (a1, .inl (ax 1, c1, .inl y1))]) hP hD hS hA [0, 1] (by decide) rfl
          have hz := xz_of hN hS
          refine wk_know (fun hk8 hk9 => ?_)
          refine va_callv (va_runV (As := [.int z_11]) (rest := []) ⟨hx, hb, hml, hown, hts⟩ (c_W_byte l D ax w0 a1 z1 c1 MB y1 z_11 H.size (tsl H) (by first | assumption | omega) (by first | assumption | omega) (by first | assumption | omega) (by first | assumption | omega) (by first | assumption | omega) (by assumption)) (xcV (n := 1) hts wd_938 wd_10 wd_935 wd_937 ps_44 rfl rfl (by decide +kernel) ⟨Nat.le_of_ble_eq_true rfl, Nat.le_of_ble_eq_true rfl⟩) (xpV3 (ci := 5) (q0 := 0) (As := [.int z_11]) hPc hK hz hDc rfl rfl) rfl rfl hl1.1 rfl (lv_room (Nat.le_of_ble_eq_true rfl)) d_Paper_writeNumber_42 ⟨(show (c1 / 8 - bc / 8) + (MB / 8 - c1 / 8) ≤ (MB / 8 - bc / 8) by omega), (show (2 * (c1 - bc)) + (2 * (MB - c1)) ≤ (2 * (MB - bc)) by omega)⟩) hS (fun q _ h => hFc q h) hFc (fun u_12 t H_13 locs ht hvm hw hB hz1 hk1 hS1 => ?_)
          try dsimp only at hw
          obtain ⟨hs_15, hs_16, hs_17, hs_18⟩ := hw
          obtain ⟨x_19, hg8, hg9, hx_20, hx_21, hP1, hD1⟩ := hB
          rw [ht] at hg8 hg9 hP1
          have hjn := xw_join3 (wl := [(w0, .inr (5, [.ref (u_12 0), .int (nI (u_12 2))])), ((u_12 0), .inl (ax 1, u_12 1, .inl x_19))]) hP hD [0, 1] [] hCs (by decide) (by decide) hk1 hFc hP1 hD1 rfl
          clear hP1 hD1
          clear hPc hDc hFc hCs hz hz1 hk1 ht hvm
          clear hP hD hS
          have hS := hS1
          obtain ⟨hP, hD⟩ := hjn
          clear hS1
          refine wk_narrow (k := c1 / 8 - bc / 8 + (u_12 1 / 8 - c1 / 8)) (n := 2 * (c1 - bc) + (2 * (u_12 1 - c1))) (by first | assumption | omega) (by first | assumption | omega) ?_
          clear hk8 hk9 hg8 hg9
          refine lv_iload_n hx hb d_Paper_writeNumber_45 rfl (lv_at hl1 3 rfl) ?_
          refine lv_bipush (v := 10) hx hb d_Paper_writeNumber_46 (by decide) ?_
          refine lv_idiv hx hb d_Paper_writeNumber_48 (by decide) ?_
          refine lv_topi (fun z_22 ez_22 => ?_)
          have ez_22 : z_22 = nI ((pwo (d3 + 1)) / 10) := ez_22.trans (pk_div (a := pwo (d3 + 1)) (d := 10) (by first | assumption | omega) (by first | assumption | omega) (by first | assumption | omega))
          subst ez_22
          refine lv_istore_n (lv' := [(3, .int (nI ((pwo (d3 + 1)) / 10))), (0, .ref w0), (1, .int x1), (2, .int z_2)]) hx hb d_Paper_writeNumber_49 rfl hl1 (by decide) rfl (fun ls hl2 => ?_)
          clear hl1; have hl1 := hl2; clear hl2
          rw [pwo_div d3] at hl1
          have hl1 : lv_has ls 4 [(3, .int (nI (pwo d3))), (0, .ref w0), (1, .int x1), (2, .int z_2)] := hl1
          refine lv_goto (tgt := 18) hx hb d_Paper_writeNumber_50 (by decide) ?_
          refine W.widen (k := (u_12 1) / 8 - bc / 8) (n := 2 * ((u_12 1) - bc)) (by first | assumption | omega) (by first | assumption | omega) ?_
          exact ih_5 d3 (u_12 2) (u_12 1) (u_12 0) x_19 (by first | assumption | omega) (by first | assumption | omega) (pwo_le (by first | assumption | omega)) (by first | assumption | omega) (by first | assumption | omega) (by first | assumption | omega) (by first | assumption | omega) (by first | assumption | omega) (by assumption) (wnJ_s hN1 ez_2 ez_9 ez_10 ez_11 hx_21 (by first | exact Or.inl (by assumption) | exact Or.inr (pwo_1 (by first | assumption | omega))) hd3) _ _ _ (hP.sub [0, 1] rfl) (hD.sub [0, 1] (by decide) rfl) hS (lv_sub hl1 [1, 2, 3, 0] rfl)
        · refine lv_iload_n hx hb d_Paper_writeNumber_27 rfl (lv_at hl1 3 rfl) ?_
          refine lv_iconst (v := 1) hx hb d_Paper_writeNumber_28 (by decide) ?_
          refine lv_icmp_ne (tgt := 45) hx hb d_Paper_writeNumber_29 (by decide) (fun c_23 => ?_) (fun c_23 => ?_)
          · replace c_23 : ¬ pwo (d3 + 1) = 1 := fun hq9 => c_23 ((nI_eq (a := pwo (d3 + 1)) (b := 1) (by first | exact Nat.lt_of_lt_of_le (by assumption) (by decide) | exact Nat.lt_of_le_of_lt (by assumption) (by decide) | omega) (by decide)).mpr hq9)
            refine lv_iload_n hx hb d_Paper_writeNumber_45 rfl (lv_at hl1 3 rfl) ?_
            refine lv_bipush (v := 10) hx hb d_Paper_writeNumber_46 (by decide) ?_
            refine lv_idiv hx hb d_Paper_writeNumber_48 (by decide) ?_
            refine lv_topi (fun z_24 ez_24 => ?_)
            have ez_24 : z_24 = nI ((pwo (d3 + 1)) / 10) := ez_24.trans (pk_div (a := pwo (d3 + 1)) (d := 10) (by first | assumption | omega) (by first | assumption | omega) (by first | assumption | omega))
            subst ez_24
            refine lv_istore_n (lv' := [(3, .int (nI ((pwo (d3 + 1)) / 10))), (0, .ref w0), (1, .int x1), (2, .int z_2)]) hx hb d_Paper_writeNumber_49 rfl hl1 (by decide) rfl (fun ls hl2 => ?_)
            clear hl1; have hl1 := hl2; clear hl2
            rw [pwo_div d3] at hl1
            have hl1 : lv_has ls 4 [(3, .int (nI (pwo d3))), (0, .ref w0), (1, .int x1), (2, .int z_2)] := hl1
            refine lv_goto (tgt := 18) hx hb d_Paper_writeNumber_50 (by decide) ?_
            refine W.widen (k := c1 / 8 - bc / 8) (n := 2 * (c1 - bc)) (by first | assumption | omega) (by first | assumption | omega) ?_
            exact ih_5 d3 z1 c1 a1 y1 (by first | assumption | omega) (by first | assumption | omega) (pwo_le (by first | assumption | omega)) (by first | assumption | omega) (by first | assumption | omega) (by first | assumption | omega) (by first | assumption | omega) (by first | assumption | omega) (by assumption) (wnJ_k hN1 ez_2 (by first | assumption | exact nlt (by assumption) | exact nle (by assumption)) (by first | assumption | omega) hd3) _ _ _ (hP.sub [0, 1] rfl) (hD.sub [0, 1] (by decide) rfl) hS (lv_sub hl1 [1, 2, 3, 0] rfl)
          · replace c_23 : pwo (d3 + 1) = 1 := (nI_eq (a := pwo (d3 + 1)) (b := 1) (by first | exact Nat.lt_of_lt_of_le (by assumption) (by decide) | exact Nat.lt_of_le_of_lt (by assumption) (by decide) | omega) (by decide)).mp c_23
            refine lv_aload_n hx hb d_Paper_writeNumber_32 rfl (lv_at hl1 0 rfl) ?_
            refine lv_bipush (v := 48) hx hb d_Paper_writeNumber_33 (by decide) ?_
            refine lv_iload_n hx hb d_Paper_writeNumber_35 rfl (lv_at hl1 2 rfl) ?_
            refine lv_iload_n hx hb d_Paper_writeNumber_36 rfl (lv_at hl1 3 rfl) ?_
            refine lv_idiv hx hb d_Paper_writeNumber_37 (nI_ne0 (by first | assumption | omega) (by first | assumption | omega)) ?_
            refine lv_topi (fun z_25 ez_25 => ?_)
            refine lv_bipush (v := 10) hx hb d_Paper_writeNumber_38 (by decide) ?_
            refine lv_irem hx hb d_Paper_writeNumber_40 (by decide) ?_
            refine lv_topi (fun z_26 ez_26 => ?_)
            refine lv_iadd hx hb d_Paper_writeNumber_41 ?_
            refine lv_topi (fun z_27 ez_27 => ?_)
            obtain ⟨hPc, hDc, hFc, hCs⟩ := xw_sub3 (wc := [(w0, .inr (5, [.ref a1, .int (nI z1)])), (a1, .inl (ax 1, c1, .inl y1))]) hP hD hS hA [0, 1] (by decide) rfl
            have hz := xz_of hN hS
            refine wk_know (fun hk8 hk9 => ?_)
            refine va_callv (va_runV (As := [.int z_27]) (rest := []) ⟨hx, hb, hml, hown, hts⟩ (c_W_byte l D ax w0 a1 z1 c1 MB y1 z_27 H.size (tsl H) (by first | assumption | omega) (by first | assumption | omega) (by first | assumption | omega) (by first | assumption | omega) (by first | assumption | omega) (by assumption)) (xcV (n := 1) hts wd_938 wd_10 wd_935 wd_937 ps_44 rfl rfl (by decide +kernel) ⟨Nat.le_of_ble_eq_true rfl, Nat.le_of_ble_eq_true rfl⟩) (xpV3 (ci := 5) (q0 := 0) (As := [.int z_27]) hPc hK hz hDc rfl rfl) rfl rfl hl1.1 rfl (lv_room (Nat.le_of_ble_eq_true rfl)) d_Paper_writeNumber_42 ⟨(show (c1 / 8 - bc / 8) + (MB / 8 - c1 / 8) ≤ (MB / 8 - bc / 8) by omega), (show (2 * (c1 - bc)) + (2 * (MB - c1)) ≤ (2 * (MB - bc)) by omega)⟩) hS (fun q _ h => hFc q h) hFc (fun u_28 t H_29 locs ht hvm hw hB hz1 hk1 hS1 => ?_)
            try dsimp only at hw
            obtain ⟨hs_31, hs_32, hs_33, hs_34⟩ := hw
            obtain ⟨x_35, hg8, hg9, hx_36, hx_37, hP1, hD1⟩ := hB
            rw [ht] at hg8 hg9 hP1
            have hjn := xw_join3 (wl := [(w0, .inr (5, [.ref (u_28 0), .int (nI (u_28 2))])), ((u_28 0), .inl (ax 1, u_28 1, .inl x_35))]) hP hD [0, 1] [] hCs (by decide) (by decide) hk1 hFc hP1 hD1 rfl
            clear hP1 hD1
            clear hPc hDc hFc hCs hz hz1 hk1 ht hvm
            clear hP hD hS
            have hS := hS1
            obtain ⟨hP, hD⟩ := hjn
            clear hS1
            refine wk_narrow (k := c1 / 8 - bc / 8 + (u_28 1 / 8 - c1 / 8)) (n := 2 * (c1 - bc) + (2 * (u_28 1 - c1))) (by first | assumption | omega) (by first | assumption | omega) ?_
            clear hk8 hk9 hg8 hg9
            refine lv_iload_n hx hb d_Paper_writeNumber_45 rfl (lv_at hl1 3 rfl) ?_
            refine lv_bipush (v := 10) hx hb d_Paper_writeNumber_46 (by decide) ?_
            refine lv_idiv hx hb d_Paper_writeNumber_48 (by decide) ?_
            refine lv_topi (fun z_38 ez_38 => ?_)
            have ez_38 : z_38 = nI ((pwo (d3 + 1)) / 10) := ez_38.trans (pk_div (a := pwo (d3 + 1)) (d := 10) (by first | assumption | omega) (by first | assumption | omega) (by first | assumption | omega))
            subst ez_38
            refine lv_istore_n (lv' := [(3, .int (nI ((pwo (d3 + 1)) / 10))), (0, .ref w0), (1, .int x1), (2, .int z_2)]) hx hb d_Paper_writeNumber_49 rfl hl1 (by decide) rfl (fun ls hl2 => ?_)
            clear hl1; have hl1 := hl2; clear hl2
            rw [pwo_div d3] at hl1
            have hl1 : lv_has ls 4 [(3, .int (nI (pwo d3))), (0, .ref w0), (1, .int x1), (2, .int z_2)] := hl1
            refine lv_goto (tgt := 18) hx hb d_Paper_writeNumber_50 (by decide) ?_
            refine W.widen (k := (u_28 1) / 8 - bc / 8) (n := 2 * ((u_28 1) - bc)) (by first | assumption | omega) (by first | assumption | omega) ?_
            exact ih_5 d3 (u_28 2) (u_28 1) (u_28 0) x_35 (by first | assumption | omega) (by first | assumption | omega) (pwo_le (by first | assumption | omega)) (by first | assumption | omega) (by first | assumption | omega) (by first | assumption | omega) (by first | assumption | omega) (by first | assumption | omega) (by assumption) (wnJ_s hN1 ez_2 ez_25 ez_26 ez_27 hx_37 (by first | exact Or.inl (by assumption) | exact Or.inr (pwo_1 (by first | assumption | omega))) hd3) _ _ _ (hP.sub [0, 1] rfl) (hD.sub [0, 1] (by decide) rfl) hS (lv_sub hl1 [1, 2, 3, 0] rfl)
  refine lv_iload_n hx hb d_Paper_writeNumber_0 rfl (lv_at hl1 1 rfl) ?_
  refine lv_if_ge (tgt := 10) hx hb d_Paper_writeNumber_1 (by decide) (fun c_39 => ?_) (fun c_39 => ?_)
  · refine W.widen (k := bc / 8 - bc / 8) (n := 2 * (bc - bc)) (by first | assumption | omega) (by first | assumption | omega) ?_
    exact jn_1 zs bc w1 by9 (by first | assumption | omega) (by first | assumption | omega) (by first | assumption | omega) (by first | assumption | omega) (by first | assumption | omega) (by assumption) (by rw [sgT9_n (by first | assumption | exact nlt (by assumption) | exact nle (by assumption))]; exact (List.append_nil _).symm) _ _ _ (hP.sub [0, 1] rfl) (hD.sub [0, 1] (by decide) rfl) hS (lv_sub hl1 [0, 1] rfl)
  · refine lv_aload_n hx hb d_Paper_writeNumber_4 rfl (lv_at hl1 0 rfl) ?_
    refine lv_bipush (v := 45) hx hb d_Paper_writeNumber_5 (by decide) ?_
    obtain ⟨hPc, hDc, hFc, hCs⟩ := xw_sub3 (wc := [(w0, .inr (5, [.ref w1, .int (nI zs)])), (w1, .inl (ax 1, bc, .inl by9))]) hP hD hS hA [0, 1] (by decide) rfl
    have hz := xz_of hN hS
    refine wk_know (fun hk8 hk9 => ?_)
    refine va_callv (va_runV (As := [.int 45]) (rest := []) ⟨hx, hb, hml, hown, hts⟩ (c_W_byte l D ax w0 w1 zs bc MB by9 45 s.heap.size (tsl s.heap) (by first | assumption | omega) (by first | assumption | omega) (by first | assumption | omega) (by first | assumption | omega) (by first | assumption | omega) (by assumption)) (xcV (n := 1) hts wd_938 wd_10 wd_935 wd_937 ps_44 rfl rfl (by decide +kernel) ⟨Nat.le_of_ble_eq_true rfl, Nat.le_of_ble_eq_true rfl⟩) (xpV3 (ci := 5) (q0 := 0) (As := [.int 45]) hPc hK hz hDc rfl rfl) rfl rfl hl1.1 rfl (lv_room (Nat.le_of_ble_eq_true rfl)) d_Paper_writeNumber_7 ⟨(show (0) + (MB / 8 - bc / 8) ≤ (MB / 8 - bc / 8) by omega), (show (0) + (2 * (MB - bc)) ≤ (2 * (MB - bc)) by omega)⟩) hS (fun q _ h => hFc q h) hFc (fun u_40 t H_41 locs ht hvm hw hB hz1 hk1 hS1 => ?_)
    try dsimp only at hw
    obtain ⟨hs_43, hs_44, hs_45, hs_46⟩ := hw
    obtain ⟨x_47, hg8, hg9, hx_48, hx_49, hP1, hD1⟩ := hB
    rw [ht] at hg8 hg9 hP1
    have hjn := xw_join3 (wl := [(w0, .inr (5, [.ref (u_40 0), .int (nI (u_40 2))])), ((u_40 0), .inl (ax 1, u_40 1, .inl x_47))]) hP hD [0, 1] [] hCs (by decide) (by decide) hk1 hFc hP1 hD1 rfl
    clear hP1 hD1
    clear hPc hDc hFc hCs hz hz1 hk1 ht hvm
    clear hP hD hS
    have hS := hS1
    obtain ⟨hP, hD⟩ := hjn
    clear hS1
    refine wk_narrow (k := u_40 1 / 8 - bc / 8) (n := 2 * (u_40 1 - bc)) (by first | assumption | omega) (by first | assumption | omega) ?_
    clear hk8 hk9 hg8 hg9
    refine W.widen (k := (u_40 1) / 8 - bc / 8) (n := 2 * ((u_40 1) - bc)) (by first | assumption | omega) (by first | assumption | omega) ?_
    exact jn_1 (u_40 2) (u_40 1) (u_40 0) x_47 (by first | assumption | omega) (by first | assumption | omega) (by first | assumption | omega) (by first | assumption | omega) (by first | assumption | omega) (by assumption) (by rw [hx_49, sgT9_y (by first | assumption | exact nlt (by assumption) | exact nle (by assumption)), byv_c.1]) _ _ _ (hP.sub [0, 1] rfl) (hD.sub [0, 1] (by decide) rfl) hS (lv_sub hl1 [0, 1] rfl)
abbrev b_Paper_writeTerm : ByteArray := prog_7_method_5_code
def y_Paper_writeTerm : MethodName := ⟨R_Paper, "writeTerm", "(I)V"⟩
theorem d_Paper_writeTerm_0 : decode b_Paper_writeTerm 0 = .ok (.iload_n 1, 1) := by decide +kernel
theorem d_Paper_writeTerm_1 : decode b_Paper_writeTerm 1 = .ok (.bipush 15, 2) := by decide +kernel
theorem d_Paper_writeTerm_3 : decode b_Paper_writeTerm 3 = .ok (.iand, 1) := by decide +kernel
theorem d_Paper_writeTerm_4 : decode b_Paper_writeTerm 4 = .ok (.istore_n 2, 1) := by decide +kernel
theorem d_Paper_writeTerm_5 : decode b_Paper_writeTerm 5 = .ok (.iload_n 1, 1) := by decide +kernel
theorem d_Paper_writeTerm_6 : decode b_Paper_writeTerm 6 = .ok (.iconst 4, 1) := by decide +kernel
theorem d_Paper_writeTerm_7 : decode b_Paper_writeTerm 7 = .ok (.ishr, 1) := by decide +kernel
theorem d_Paper_writeTerm_8 : decode b_Paper_writeTerm 8 = .ok (.istore_n 3, 1) := by decide +kernel
theorem d_Paper_writeTerm_9 : decode b_Paper_writeTerm 9 = .ok (.iload_n 2, 1) := by decide +kernel
theorem d_Paper_writeTerm_10 : decode b_Paper_writeTerm 10 = .ok (.bipush 10, 2) := by decide +kernel
theorem d_Paper_writeTerm_12 : decode b_Paper_writeTerm 12 = .ok (.if_icmp .ne 9, 3) := by decide +kernel
theorem d_Paper_writeTerm_15 : decode b_Paper_writeTerm 15 = .ok (.aload_n 0, 1) := by decide +kernel
theorem d_Paper_writeTerm_16 : decode b_Paper_writeTerm 16 = .ok (.iload_n 3, 1) := by decide +kernel
theorem d_Paper_writeTerm_17 : decode b_Paper_writeTerm 17 = .ok (.invokevirtual 49, 3) := by decide +kernel
theorem d_Paper_writeTerm_20 : decode b_Paper_writeTerm 20 = .ok (.return_, 1) := by decide +kernel
theorem d_Paper_writeTerm_21 : decode b_Paper_writeTerm 21 = .ok (.aload_n 0, 1) := by decide +kernel
theorem d_Paper_writeTerm_22 : decode b_Paper_writeTerm 22 = .ok (.iload_n 2, 1) := by decide +kernel
theorem d_Paper_writeTerm_23 : decode b_Paper_writeTerm 23 = .ok (.bipush 6, 2) := by decide +kernel
theorem d_Paper_writeTerm_25 : decode b_Paper_writeTerm 25 = .ok (.if_icmp .ge 10, 3) := by decide +kernel
theorem d_Paper_writeTerm_28 : decode b_Paper_writeTerm 28 = .ok (.bipush 97, 2) := by decide +kernel
theorem d_Paper_writeTerm_30 : decode b_Paper_writeTerm 30 = .ok (.iload_n 2, 1) := by decide +kernel
theorem d_Paper_writeTerm_31 : decode b_Paper_writeTerm 31 = .ok (.iadd, 1) := by decide +kernel
theorem d_Paper_writeTerm_32 : decode b_Paper_writeTerm 32 = .ok (.goto 10, 3) := by decide +kernel
theorem d_Paper_writeTerm_35 : decode b_Paper_writeTerm 35 = .ok (.bipush 119, 2) := by decide +kernel
theorem d_Paper_writeTerm_37 : decode b_Paper_writeTerm 37 = .ok (.iload_n 2, 1) := by decide +kernel
theorem d_Paper_writeTerm_38 : decode b_Paper_writeTerm 38 = .ok (.iadd, 1) := by decide +kernel
theorem d_Paper_writeTerm_39 : decode b_Paper_writeTerm 39 = .ok (.bipush 6, 2) := by decide +kernel
theorem d_Paper_writeTerm_41 : decode b_Paper_writeTerm 41 = .ok (.isub, 1) := by decide +kernel
theorem d_Paper_writeTerm_42 : decode b_Paper_writeTerm 42 = .ok (.invokevirtual 46, 3) := by decide +kernel
theorem d_Paper_writeTerm_45 : decode b_Paper_writeTerm 45 = .ok (.iload_n 3, 1) := by decide +kernel
theorem d_Paper_writeTerm_46 : decode b_Paper_writeTerm 46 = .ok (.ifCond .le 9, 3) := by decide +kernel
theorem d_Paper_writeTerm_49 : decode b_Paper_writeTerm 49 = .ok (.aload_n 0, 1) := by decide +kernel
theorem d_Paper_writeTerm_50 : decode b_Paper_writeTerm 50 = .ok (.bipush 43, 2) := by decide +kernel
theorem d_Paper_writeTerm_52 : decode b_Paper_writeTerm 52 = .ok (.invokevirtual 46, 3) := by decide +kernel
theorem d_Paper_writeTerm_55 : decode b_Paper_writeTerm 55 = .ok (.iload_n 3, 1) := by decide +kernel
theorem d_Paper_writeTerm_56 : decode b_Paper_writeTerm 56 = .ok (.ifCond .eq 8, 3) := by decide +kernel
theorem d_Paper_writeTerm_59 : decode b_Paper_writeTerm 59 = .ok (.aload_n 0, 1) := by decide +kernel
theorem d_Paper_writeTerm_60 : decode b_Paper_writeTerm 60 = .ok (.iload_n 3, 1) := by decide +kernel
theorem d_Paper_writeTerm_61 : decode b_Paper_writeTerm 61 = .ok (.invokevirtual 49, 3) := by decide +kernel
theorem d_Paper_writeTerm_64 : decode b_Paper_writeTerm 64 = .ok (.return_, 1) := by decide +kernel
set_option maxHeartbeats 40000000 in
set_option maxRecDepth 100000 in
theorem c_W_term (l : Launch) (D : va_G) (ax : Nat → ClassId) (w0 w1 zs bc MB : Nat) (by9 : Nat → Int32) (x1 : Int32) (sz tz : Nat) (hbc : 8 ≤ bc) (hzs : zs ≤ bc) (hmb : bc ≤ MB) (hmz : 2 * (zs + 10) ≤ MB) (hMB : MB ≤ 4000000) (hby : bts by9 bc) : Met l y_Paper_writeTerm (xws (.code y_Paper_writeTerm b_Paper_writeTerm 4 none)) ({ frames := 50, cells := MB / 8 - bc / 8, slots := 2 * (MB - bc), locals := 2000 }) (va_Pc [.ref w0, .int x1] (xo3 D ax [(w0, .inr (5, [.ref w1, .int (nI zs)])), (w1, .inl (ax 1, bc, .inl by9))] sz tz)) ((va_Qv (fun (u : Nat → Nat) => (u 2 ≤ zs + 10 ∧ zs ≤ u 2 ∧ u 2 ≤ u 1 ∧ bc ≤ u 1 ∧ u 1 ≤ MB)) (fun (u : Nat → Nat) (t9 : State) => ∃ xby : Nat → Int32, (t9.heap.size ≤ sz + (u 1 / 8 - bc / 8)) ∧ (tsl t9.heap ≤ tz + (2 * (u 1 - bc))) ∧ (bts xby (u 1)) ∧ (wtQ x1 by9 zs xby (u 2)) ∧ va_P D classes [(w0, .inr (5, [.ref (u 0), .int (nI (u 2))])), (u 0, .inl (ax 1, u 1, .inl xby))] t9.heap ∧ va_D (va_A [(w0, .inr (5, [.ref w1, .int (nI zs)])), (w1, .inl (ax 1, bc, .inl by9))] sz) [(w0, .inr (5, [.ref (u 0), .int (nI (u 2))])), (u 0, .inl (ax 1, u 1, .inl xby))]) (va_A [(w0, .inr (5, [.ref w1, .int (nI zs)])), (w1, .inl (ax 1, bc, .inl by9))] sz))) (MB / 8 - bc / 8) (2 * (MB - bc)) (va_A [(w0, .inr (5, [.ref w1, .int (nI zs)])), (w1, .inl (ax 1, bc, .inl by9))] sz) := by
  refine Met.ofW (cc := b_Paper_writeTerm) (maxL := 4) (ret := none) (by decide) rfl ?_
  intro p e s m args below meth c s₁ B hml hv
  obtain ⟨rfl, ⟨hsz, hP, hK, hD0⟩, htz⟩ := hv
  have hx := B.exec
  have hb := B.bytes
  have hr := B.returns
  have hts := xw_hts B.pre
  have hown : s.vm.findClass R_Paper = some m.cls := findClass_of_methodNamed B.named
  have hlocks := B.notSynchronized
  subst hsz
  subst htz
  have hD := hD0.self (sz := s.heap.size)
  have hN := xz_entry hP
  generalize hAe : va_A [(w0, .inr (5, [.ref w1, .int (nI zs)])), (w1, .inl (ax 1, bc, .inl by9))] s.heap.size = A at hD hN ⊢
  have hA : ∀ q : Nat, s.heap.size ≤ q → A q := fun q h => by rw [← hAe]; exact Or.inr h
  have hS : va_S A s.heap s.heap [] := va_S.rf
  have hl0 := lv_entry ([.ref w0, .int x1]) (n := 4) (Nat.le_of_ble_eq_true rfl)
  rw [lg_entry_eq]
  generalize (lg_sl ([.ref w0, .int x1]) ++ List.replicate (4 - (lg_sl ([.ref w0, .int x1])).length) Slot.unset).toArray = ls at hl0 ⊢
  have hl1 : lv_has ls 4 [(0, .ref w0), (1, .int x1)] := hl0
  refine xw_gen (fun Z9 hQe => ?_)
  refine lv_iload_n hx hb d_Paper_writeTerm_0 rfl (lv_at hl1 1 rfl) ?_
  refine lv_bipush (v := 15) hx hb d_Paper_writeTerm_1 (by decide) ?_
  refine lv_iand hx hb d_Paper_writeTerm_3 ?_
  refine lv_topi (fun z_1 ez_1 => ?_)
  have ez_1 : z_1 = nI (i2n x1 % 16) := ez_1.trans (nb_andm 4 x1)
  subst ez_1
  refine lv_istore_n (lv' := [(2, .int (nI (i2n x1 % 16))), (0, .ref w0), (1, .int x1)]) hx hb d_Paper_writeTerm_4 rfl hl1 (by decide) rfl (fun ls hl2 => ?_)
  clear hl1; have hl1 := hl2; clear hl2
  refine lv_iload_n hx hb d_Paper_writeTerm_5 rfl (lv_at hl1 2 rfl) ?_
  refine lv_iconst (v := 4) hx hb d_Paper_writeTerm_6 (by decide) ?_
  refine lv_ishr hx hb d_Paper_writeTerm_7 ?_
  refine lv_topi (fun z_2 ez_2 => ?_)
  refine lv_istore_n (lv' := [(3, .int z_2), (2, .int (nI (i2n x1 % 16))), (0, .ref w0), (1, .int x1)]) hx hb d_Paper_writeTerm_8 rfl hl1 (by decide) rfl (fun ls hl2 => ?_)
  clear hl1; have hl1 := hl2; clear hl2
  have jn_3 : ∀ (z1 c1 a1 : Nat) (y1 : Nat → Int32), z1 ≤ zs + 1 → zs ≤ z1 → z1 ≤ c1 → bc ≤ c1 → c1 ≤ MB → bts y1 c1 → (¬ i2n x1 % 16 = 10 ∧ (i2n x1 % 16 < 10 → lsi y1 z1 = lsi by9 zs ++ nmT (i2n x1 % 16))) → ∀ (H : Heap) (locs : List Loc) (ls : Array Slot), va_P D classes [(w0, .inr (5, [.ref a1, .int (nI z1)])), (a1, .inl (ax 1, c1, .inl y1))] H → va_D A [(w0, .inr (5, [.ref a1, .int (nI z1)])), (a1, .inl (ax 1, c1, .inl y1))] → va_S A s.heap H locs → lv_has ls 4 [(0, .ref w0), (2, .int (nI (i2n x1 % 16))), (3, .int z_2)] → W p l e (headSpec (xws (.code y_Paper_writeTerm b_Paper_writeTerm 4 none)) ({ frames := 50, cells := MB / 8 - bc / 8, slots := 2 * (MB - bc), locals := 2000 })).room s m ([.ref w0, .int x1] : List Value).toArray below meth c H locs (c1 / 8 - bc / 8) (2 * (c1 - bc)) Z9 (F0 m 45 ls []) := by
    clear hP hD hS hl1
    intro z1 c1 a1 y1 gz1a gz1b gz1c gz1d gz1e gz1f hT1 H locs ls hP hD hS hl1
    have jn_4 : ∀ (z2 c2 a2 : Nat) (y2 : Nat → Int32), z2 ≤ zs + 2 → zs ≤ z2 → z2 ≤ c2 → bc ≤ c2 → c2 ≤ MB → bts y2 c2 → (¬ i2n x1 % 16 = 10 ∧ (i2n x1 % 16 < 10 → lsi y2 z2 = lsi by9 zs ++ nmT (i2n x1 % 16) ++ plT z_2)) → ∀ (H : Heap) (locs : List Loc) (ls : Array Slot), va_P D classes [(w0, .inr (5, [.ref a2, .int (nI z2)])), (a2, .inl (ax 1, c2, .inl y2))] H → va_D A [(w0, .inr (5, [.ref a2, .int (nI z2)])), (a2, .inl (ax 1, c2, .inl y2))] → va_S A s.heap H locs → lv_has ls 4 [(0, .ref w0), (2, .int (nI (i2n x1 % 16))), (3, .int z_2)] → W p l e (headSpec (xws (.code y_Paper_writeTerm b_Paper_writeTerm 4 none)) ({ frames := 50, cells := MB / 8 - bc / 8, slots := 2 * (MB - bc), locals := 2000 })).room s m ([.ref w0, .int x1] : List Value).toArray below meth c H locs (c2 / 8 - bc / 8) (2 * (c2 - bc)) Z9 (F0 m 55 ls []) := by
      clear hP hD hS hl1
      intro z2 c2 a2 y2 gz2a gz2b gz2c gz2d gz2e gz2f hT2 H locs ls hP hD hS hl1
      refine lv_iload_n hx hb d_Paper_writeTerm_55 rfl (lv_at hl1 2 rfl) ?_
      refine lv_if_eq (tgt := 64) hx hb d_Paper_writeTerm_56 (by decide) (fun c_5 => ?_) (fun c_5 => ?_)
      · rw [← hQe]
        refine wk_know (fun hk8 hk9 => ?_)
        refine W.widen (k := MB / 8 - bc / 8) (n := 2 * (MB - bc)) (by first | assumption | omega) (by first | assumption | omega) ?_
        obtain ⟨hP9, hD9⟩ := xw_sub2 (wc := (fun (u : Nat → Nat) (xby : Nat → Int32) => [(w0, .inr (5, [.ref (u 0), .int (nI (u 2))])), (u 0, .inl (ax 1, u 1, .inl xby))]) (ixn [a2, c2, z2]) y2) hP hD [0, 1] (by decide) rfl
        have hex0 : bts y2 (c2) := (by assumption)
        have hex1 : wtQ x1 by9 zs y2 (z2) := (wt_z ez_2 hT2.1 hT2.2 (by assumption))
        have hg8 : H.size ≤ s.heap.size + (c2 / 8 - bc / 8) := by omega
        have hg9 : tsl H ≤ tsl s.heap + (2 * (c2 - bc)) := by omega
        have hsp0 : z2 ≤ zs + 10 := (by first | assumption | omega)
        have hsp1 : zs ≤ z2 := (by first | assumption | omega)
        have hsp2 : z2 ≤ c2 := (by first | assumption | omega)
        have hsp3 : bc ≤ c2 := (by first | assumption | omega)
        have hsp4 : c2 ≤ MB := (by first | assumption | omega)
        exact W.vret hx hb hr (fun t ht hW => ⟨⟨ixn [a2, c2, z2], rfl, ⟨hsp0, hsp1, hsp2, hsp3, hsp4⟩, ⟨y2, by rw [ht]; exact hg8, by rw [ht]; exact hg9, hex0, hex1, by rw [ht]; exact hP9, hD9⟩⟩, hS.F ht⟩) hS.2.2 d_Paper_writeTerm_64
      · refine lv_aload_n hx hb d_Paper_writeTerm_59 rfl (lv_at hl1 0 rfl) ?_
        refine lv_iload_n hx hb d_Paper_writeTerm_60 rfl (lv_at hl1 2 rfl) ?_
        obtain ⟨hPc, hDc, hFc, hCs⟩ := xw_sub3 (wc := [(w0, .inr (5, [.ref a2, .int (nI z2)])), (a2, .inl (ax 1, c2, .inl y2))]) hP hD hS hA [0, 1] (by decide) rfl
        have hz := xz_of hN hS
        refine wk_know (fun hk8 hk9 => ?_)
        refine va_callv (va_runV (As := [.int z_2]) (rest := []) ⟨hx, hb, hml, hown, hts⟩ (c_W_number l D ax w0 a2 z2 c2 MB y2 z_2 H.size (tsl H) (by first | assumption | omega) (by first | assumption | omega) (by first | assumption | omega) (by first | assumption | omega) (by first | assumption | omega) (by assumption)) (xcV (n := 1) hts wd_934 wd_10 wd_931 wd_933 ps_43 rfl rfl (by decide +kernel) ⟨Nat.le_of_ble_eq_true rfl, Nat.le_of_ble_eq_true rfl⟩) (xpV3 (ci := 5) (q0 := 0) (As := [.int z_2]) hPc hK hz hDc rfl rfl) rfl rfl hl1.1 rfl (lv_room (Nat.le_of_ble_eq_true rfl)) d_Paper_writeTerm_61 ⟨(show (c2 / 8 - bc / 8) + (MB / 8 - c2 / 8) ≤ (MB / 8 - bc / 8) by omega), (show (2 * (c2 - bc)) + (2 * (MB - c2)) ≤ (2 * (MB - bc)) by omega)⟩) hS (fun q _ h => hFc q h) hFc (fun u_6 t H_7 locs ht hvm hw hB hz1 hk1 hS1 => ?_)
        try dsimp only at hw
        obtain ⟨hs_9, hs_10, hs_11, hs_12, hs_13⟩ := hw
        obtain ⟨x_14, hg8, hg9, hx_15, hx_16, hP1, hD1⟩ := hB
        rw [ht] at hg8 hg9 hP1
        have hjn := xw_join3 (wl := [(w0, .inr (5, [.ref (u_6 0), .int (nI (u_6 2))])), ((u_6 0), .inl (ax 1, u_6 1, .inl x_14))]) hP hD [0, 1] [] hCs (by decide) (by decide) hk1 hFc hP1 hD1 rfl
        clear hP1 hD1
        clear hPc hDc hFc hCs hz hz1 hk1 ht hvm
        clear hP hD hS
        have hS := hS1
        obtain ⟨hP, hD⟩ := hjn
        clear hS1
        refine wk_narrow (k := c2 / 8 - bc / 8 + (u_6 1 / 8 - c2 / 8)) (n := 2 * (c2 - bc) + (2 * (u_6 1 - c2))) (by first | assumption | omega) (by first | assumption | omega) ?_
        clear hk8 hk9 hg8 hg9
        rw [← hQe]
        refine wk_know (fun hk8 hk9 => ?_)
        refine W.widen (k := MB / 8 - bc / 8) (n := 2 * (MB - bc)) (by first | assumption | omega) (by first | assumption | omega) ?_
        obtain ⟨hP9, hD9⟩ := xw_sub2 (wc := (fun (u : Nat → Nat) (xby : Nat → Int32) => [(w0, .inr (5, [.ref (u 0), .int (nI (u 2))])), (u 0, .inl (ax 1, u 1, .inl xby))]) (ixn [(u_6 0), (u_6 1), (u_6 2)]) x_14) hP hD [0, 1] (by decide) rfl
        have hex0 : bts x_14 ((u_6 1)) := (by assumption)
        have hex1 : wtQ x1 by9 zs x_14 ((u_6 2)) := (wt_n ez_2 hT2.1 hT2.2 hx_16 (by assumption))
        have hg8 : H_7.size ≤ s.heap.size + ((u_6 1) / 8 - bc / 8) := by omega
        have hg9 : tsl H_7 ≤ tsl s.heap + (2 * ((u_6 1) - bc)) := by omega
        have hsp0 : (u_6 2) ≤ zs + 10 := (by first | assumption | omega)
        have hsp1 : zs ≤ (u_6 2) := (by first | assumption | omega)
        have hsp2 : (u_6 2) ≤ (u_6 1) := (by first | assumption | omega)
        have hsp3 : bc ≤ (u_6 1) := (by first | assumption | omega)
        have hsp4 : (u_6 1) ≤ MB := (by first | assumption | omega)
        exact W.vret hx hb hr (fun t ht hW => ⟨⟨ixn [(u_6 0), (u_6 1), (u_6 2)], rfl, ⟨hsp0, hsp1, hsp2, hsp3, hsp4⟩, ⟨x_14, by rw [ht]; exact hg8, by rw [ht]; exact hg9, hex0, hex1, by rw [ht]; exact hP9, hD9⟩⟩, hS.F ht⟩) hS.2.2 d_Paper_writeTerm_64
    refine lv_iload_n hx hb d_Paper_writeTerm_45 rfl (lv_at hl1 2 rfl) ?_
    refine lv_if_le (tgt := 55) hx hb d_Paper_writeTerm_46 (by decide) (fun c_17 => ?_) (fun c_17 => ?_)
    · refine W.widen (k := c1 / 8 - bc / 8) (n := 2 * (c1 - bc)) (by first | assumption | omega) (by first | assumption | omega) ?_
      exact jn_4 z1 c1 a1 y1 (by first | assumption | omega) (by first | assumption | omega) (by first | assumption | omega) (by first | assumption | omega) (by first | assumption | omega) (by assumption) ⟨hT1.1, fun q => by rw [hT1.2 q, plT_n (by first | assumption | exact nlt (by assumption) | exact nle (by assumption))]; exact (List.append_nil _).symm⟩ _ _ _ (hP.sub [0, 1] rfl) (hD.sub [0, 1] (by decide) rfl) hS (lv_sub hl1 [0, 1, 2] rfl)
    · refine lv_aload_n hx hb d_Paper_writeTerm_49 rfl (lv_at hl1 0 rfl) ?_
      refine lv_bipush (v := 43) hx hb d_Paper_writeTerm_50 (by decide) ?_
      obtain ⟨hPc, hDc, hFc, hCs⟩ := xw_sub3 (wc := [(w0, .inr (5, [.ref a1, .int (nI z1)])), (a1, .inl (ax 1, c1, .inl y1))]) hP hD hS hA [0, 1] (by decide) rfl
      have hz := xz_of hN hS
      refine wk_know (fun hk8 hk9 => ?_)
      refine va_callv (va_runV (As := [.int 43]) (rest := []) ⟨hx, hb, hml, hown, hts⟩ (c_W_byte l D ax w0 a1 z1 c1 MB y1 43 H.size (tsl H) (by first | assumption | omega) (by first | assumption | omega) (by first | assumption | omega) (by first | assumption | omega) (by first | assumption | omega) (by assumption)) (xcV (n := 1) hts wd_938 wd_10 wd_935 wd_937 ps_44 rfl rfl (by decide +kernel) ⟨Nat.le_of_ble_eq_true rfl, Nat.le_of_ble_eq_true rfl⟩) (xpV3 (ci := 5) (q0 := 0) (As := [.int 43]) hPc hK hz hDc rfl rfl) rfl rfl hl1.1 rfl (lv_room (Nat.le_of_ble_eq_true rfl)) d_Paper_writeTerm_52 ⟨(show (c1 / 8 - bc / 8) + (MB / 8 - c1 / 8) ≤ (MB / 8 - bc / 8) by omega), (show (2 * (c1 - bc)) + (2 * (MB - c1)) ≤ (2 * (MB - bc)) by omega)⟩) hS (fun q _ h => hFc q h) hFc (fun u_18 t H_19 locs ht hvm hw hB hz1 hk1 hS1 => ?_)
      try dsimp only at hw
      obtain ⟨hs_21, hs_22, hs_23, hs_24⟩ := hw
      obtain ⟨x_25, hg8, hg9, hx_26, hx_27, hP1, hD1⟩ := hB
      rw [ht] at hg8 hg9 hP1
      have hjn := xw_join3 (wl := [(w0, .inr (5, [.ref (u_18 0), .int (nI (u_18 2))])), ((u_18 0), .inl (ax 1, u_18 1, .inl x_25))]) hP hD [0, 1] [] hCs (by decide) (by decide) hk1 hFc hP1 hD1 rfl
      clear hP1 hD1
      clear hPc hDc hFc hCs hz hz1 hk1 ht hvm
      clear hP hD hS
      have hS := hS1
      obtain ⟨hP, hD⟩ := hjn
      clear hS1
      refine wk_narrow (k := c1 / 8 - bc / 8 + (u_18 1 / 8 - c1 / 8)) (n := 2 * (c1 - bc) + (2 * (u_18 1 - c1))) (by first | assumption | omega) (by first | assumption | omega) ?_
      clear hk8 hk9 hg8 hg9
      refine W.widen (k := (u_18 1) / 8 - bc / 8) (n := 2 * ((u_18 1) - bc)) (by first | assumption | omega) (by first | assumption | omega) ?_
      exact jn_4 (u_18 2) (u_18 1) (u_18 0) x_25 (by first | assumption | omega) (by first | assumption | omega) (by first | assumption | omega) (by first | assumption | omega) (by first | assumption | omega) (by assumption) ⟨hT1.1, fun q => by rw [hx_27, hT1.2 q, plT_y (by first | assumption | exact nlt (by assumption) | exact nle (by assumption)), byv_c.2.1]⟩ _ _ _ (hP.sub [0, 1] rfl) (hD.sub [0, 1] (by decide) rfl) hS (lv_sub hl1 [0, 1, 2] rfl)
  refine lv_iload_n hx hb d_Paper_writeTerm_9 rfl (lv_at hl1 1 rfl) ?_
  refine lv_bipush (v := 10) hx hb d_Paper_writeTerm_10 (by decide) ?_
  refine lv_icmp_ne (tgt := 21) hx hb d_Paper_writeTerm_12 (by decide) (fun c_28 => ?_) (fun c_28 => ?_)
  · replace c_28 : ¬ i2n x1 % 16 = 10 := fun hq9 => c_28 ((nI_eq (a := i2n x1 % 16) (b := 10) (by first | exact Nat.lt_of_lt_of_le (by assumption) (by decide) | exact Nat.lt_of_le_of_lt (by assumption) (by decide) | omega) (by decide)).mpr hq9)
    refine lv_aload_n hx hb d_Paper_writeTerm_21 rfl (lv_at hl1 2 rfl) ?_
    refine lv_iload_n hx hb d_Paper_writeTerm_22 rfl (lv_at hl1 1 rfl) ?_
    refine lv_bipush (v := 6) hx hb d_Paper_writeTerm_23 (by decide) ?_
    refine lv_icmp_ge (tgt := 35) hx hb d_Paper_writeTerm_25 (by decide) (fun c_29 => ?_) (fun c_29 => ?_)
    · replace c_29 : 6 ≤ i2n x1 % 16 := (nI_leI (a := 6) (b := i2n x1 % 16) (by decide) (by first | exact Nat.lt_of_lt_of_le (by assumption) (by decide) | exact Nat.lt_of_le_of_lt (by assumption) (by decide) | omega)).mp c_29
      refine lv_bipush (v := 119) hx hb d_Paper_writeTerm_35 (by decide) ?_
      refine lv_iload_n hx hb d_Paper_writeTerm_37 rfl (lv_at hl1 1 rfl) ?_
      refine lv_iadd hx hb d_Paper_writeTerm_38 ?_
      refine lv_topi (fun z_30 ez_30 => ?_)
      have ez_30 : z_30 = nI (119 + i2n x1 % 16) := ez_30.trans (nI_add 119 (i2n x1 % 16))
      subst ez_30
      refine lv_bipush (v := 6) hx hb d_Paper_writeTerm_39 (by decide) ?_
      refine lv_isub hx hb d_Paper_writeTerm_41 ?_
      refine lv_topi (fun z_31 ez_31 => ?_)
      have ez_31 : z_31 = nI ((119 + i2n x1 % 16) - 6) := ez_31.trans (pk_sub (a := 119 + i2n x1 % 16) (b := 6) (by first | assumption | omega))
      subst ez_31
      obtain ⟨hPc, hDc, hFc, hCs⟩ := xw_sub3 (wc := [(w0, .inr (5, [.ref w1, .int (nI zs)])), (w1, .inl (ax 1, bc, .inl by9))]) hP hD hS hA [0, 1] (by decide) rfl
      have hz := xz_of hN hS
      refine wk_know (fun hk8 hk9 => ?_)
      refine va_callv (va_runV (As := [.int (nI ((119 + i2n x1 % 16) - 6))]) (rest := []) ⟨hx, hb, hml, hown, hts⟩ (c_W_byte l D ax w0 w1 zs bc MB by9 (nI ((119 + i2n x1 % 16) - 6)) s.heap.size (tsl s.heap) (by first | assumption | omega) (by first | assumption | omega) (by first | assumption | omega) (by first | assumption | omega) (by first | assumption | omega) (by assumption)) (xcV (n := 1) hts wd_938 wd_10 wd_935 wd_937 ps_44 rfl rfl (by decide +kernel) ⟨Nat.le_of_ble_eq_true rfl, Nat.le_of_ble_eq_true rfl⟩) (xpV3 (ci := 5) (q0 := 0) (As := [.int (nI ((119 + i2n x1 % 16) - 6))]) hPc hK hz hDc rfl rfl) rfl rfl hl1.1 rfl (lv_room (Nat.le_of_ble_eq_true rfl)) d_Paper_writeTerm_42 ⟨(show (0) + (MB / 8 - bc / 8) ≤ (MB / 8 - bc / 8) by omega), (show (0) + (2 * (MB - bc)) ≤ (2 * (MB - bc)) by omega)⟩) hS (fun q _ h => hFc q h) hFc (fun u_32 t H_33 locs ht hvm hw hB hz1 hk1 hS1 => ?_)
      try dsimp only at hw
      obtain ⟨hs_35, hs_36, hs_37, hs_38⟩ := hw
      obtain ⟨x_39, hg8, hg9, hx_40, hx_41, hP1, hD1⟩ := hB
      rw [ht] at hg8 hg9 hP1
      have hjn := xw_join3 (wl := [(w0, .inr (5, [.ref (u_32 0), .int (nI (u_32 2))])), ((u_32 0), .inl (ax 1, u_32 1, .inl x_39))]) hP hD [0, 1] [] hCs (by decide) (by decide) hk1 hFc hP1 hD1 rfl
      clear hP1 hD1
      clear hPc hDc hFc hCs hz hz1 hk1 ht hvm
      clear hP hD hS
      have hS := hS1
      obtain ⟨hP, hD⟩ := hjn
      clear hS1
      refine wk_narrow (k := u_32 1 / 8 - bc / 8) (n := 2 * (u_32 1 - bc)) (by first | assumption | omega) (by first | assumption | omega) ?_
      clear hk8 hk9 hg8 hg9
      refine W.widen (k := (u_32 1) / 8 - bc / 8) (n := 2 * ((u_32 1) - bc)) (by first | assumption | omega) (by first | assumption | omega) ?_
      exact jn_3 (u_32 2) (u_32 1) (u_32 0) x_39 (by first | assumption | omega) (by first | assumption | omega) (by first | assumption | omega) (by first | assumption | omega) (by first | assumption | omega) (by assumption) ⟨by omega, by first | exact wt_1 hx_41 (by first | assumption | omega) | exact wt_2 hx_41 (by first | assumption | omega)⟩ _ _ _ (hP.sub [0, 1] rfl) (hD.sub [0, 1] (by decide) rfl) hS (lv_sub hl1 [2, 1, 0] rfl)
    · replace c_29 : ¬ 6 ≤ i2n x1 % 16 := fun hq9 => c_29 ((nI_leI (a := 6) (b := i2n x1 % 16) (by decide) (by first | exact Nat.lt_of_lt_of_le (by assumption) (by decide) | exact Nat.lt_of_le_of_lt (by assumption) (by decide) | omega)).mpr hq9)
      refine lv_bipush (v := 97) hx hb d_Paper_writeTerm_28 (by decide) ?_
      refine lv_iload_n hx hb d_Paper_writeTerm_30 rfl (lv_at hl1 1 rfl) ?_
      refine lv_iadd hx hb d_Paper_writeTerm_31 ?_
      refine lv_topi (fun z_42 ez_42 => ?_)
      have ez_42 : z_42 = nI (97 + i2n x1 % 16) := ez_42.trans (nI_add 97 (i2n x1 % 16))
      subst ez_42
      refine lv_goto (tgt := 42) hx hb d_Paper_writeTerm_32 (by decide) ?_
      obtain ⟨hPc, hDc, hFc, hCs⟩ := xw_sub3 (wc := [(w0, .inr (5, [.ref w1, .int (nI zs)])), (w1, .inl (ax 1, bc, .inl by9))]) hP hD hS hA [0, 1] (by decide) rfl
      have hz := xz_of hN hS
      refine wk_know (fun hk8 hk9 => ?_)
      refine va_callv (va_runV (As := [.int (nI (97 + i2n x1 % 16))]) (rest := []) ⟨hx, hb, hml, hown, hts⟩ (c_W_byte l D ax w0 w1 zs bc MB by9 (nI (97 + i2n x1 % 16)) s.heap.size (tsl s.heap) (by first | assumption | omega) (by first | assumption | omega) (by first | assumption | omega) (by first | assumption | omega) (by first | assumption | omega) (by assumption)) (xcV (n := 1) hts wd_938 wd_10 wd_935 wd_937 ps_44 rfl rfl (by decide +kernel) ⟨Nat.le_of_ble_eq_true rfl, Nat.le_of_ble_eq_true rfl⟩) (xpV3 (ci := 5) (q0 := 0) (As := [.int (nI (97 + i2n x1 % 16))]) hPc hK hz hDc rfl rfl) rfl rfl hl1.1 rfl (lv_room (Nat.le_of_ble_eq_true rfl)) d_Paper_writeTerm_42 ⟨(show (0) + (MB / 8 - bc / 8) ≤ (MB / 8 - bc / 8) by omega), (show (0) + (2 * (MB - bc)) ≤ (2 * (MB - bc)) by omega)⟩) hS (fun q _ h => hFc q h) hFc (fun u_43 t H_44 locs ht hvm hw hB hz1 hk1 hS1 => ?_)
      try dsimp only at hw
      obtain ⟨hs_46, hs_47, hs_48, hs_49⟩ := hw
      obtain ⟨x_50, hg8, hg9, hx_51, hx_52, hP1, hD1⟩ := hB
      rw [ht] at hg8 hg9 hP1
      have hjn := xw_join3 (wl := [(w0, .inr (5, [.ref (u_43 0), .int (nI (u_43 2))])), ((u_43 0), .inl (ax 1, u_43 1, .inl x_50))]) hP hD [0, 1] [] hCs (by decide) (by decide) hk1 hFc hP1 hD1 rfl
      clear hP1 hD1
      clear hPc hDc hFc hCs hz hz1 hk1 ht hvm
      clear hP hD hS
      have hS := hS1
      obtain ⟨hP, hD⟩ := hjn
      clear hS1
      refine wk_narrow (k := u_43 1 / 8 - bc / 8) (n := 2 * (u_43 1 - bc)) (by first | assumption | omega) (by first | assumption | omega) ?_
      clear hk8 hk9 hg8 hg9
      refine W.widen (k := (u_43 1) / 8 - bc / 8) (n := 2 * ((u_43 1) - bc)) (by first | assumption | omega) (by first | assumption | omega) ?_
      exact jn_3 (u_43 2) (u_43 1) (u_43 0) x_50 (by first | assumption | omega) (by first | assumption | omega) (by first | assumption | omega) (by first | assumption | omega) (by first | assumption | omega) (by assumption) ⟨by omega, by first | exact wt_1 hx_52 (by first | assumption | omega) | exact wt_2 hx_52 (by first | assumption | omega)⟩ _ _ _ (hP.sub [0, 1] rfl) (hD.sub [0, 1] (by decide) rfl) hS (lv_sub hl1 [2, 1, 0] rfl)
  · replace c_28 : i2n x1 % 16 = 10 := (nI_eq (a := i2n x1 % 16) (b := 10) (by first | exact Nat.lt_of_lt_of_le (by assumption) (by decide) | exact Nat.lt_of_le_of_lt (by assumption) (by decide) | omega) (by decide)).mp c_28
    refine lv_aload_n hx hb d_Paper_writeTerm_15 rfl (lv_at hl1 2 rfl) ?_
    refine lv_iload_n hx hb d_Paper_writeTerm_16 rfl (lv_at hl1 0 rfl) ?_
    obtain ⟨hPc, hDc, hFc, hCs⟩ := xw_sub3 (wc := [(w0, .inr (5, [.ref w1, .int (nI zs)])), (w1, .inl (ax 1, bc, .inl by9))]) hP hD hS hA [0, 1] (by decide) rfl
    have hz := xz_of hN hS
    refine wk_know (fun hk8 hk9 => ?_)
    refine va_callv (va_runV (As := [.int z_2]) (rest := []) ⟨hx, hb, hml, hown, hts⟩ (c_W_number l D ax w0 w1 zs bc MB by9 z_2 s.heap.size (tsl s.heap) (by first | assumption | omega) (by first | assumption | omega) (by first | assumption | omega) (by first | assumption | omega) (by first | assumption | omega) (by assumption)) (xcV (n := 1) hts wd_934 wd_10 wd_931 wd_933 ps_43 rfl rfl (by decide +kernel) ⟨Nat.le_of_ble_eq_true rfl, Nat.le_of_ble_eq_true rfl⟩) (xpV3 (ci := 5) (q0 := 0) (As := [.int z_2]) hPc hK hz hDc rfl rfl) rfl rfl hl1.1 rfl (lv_room (Nat.le_of_ble_eq_true rfl)) d_Paper_writeTerm_17 ⟨(show (0) + (MB / 8 - bc / 8) ≤ (MB / 8 - bc / 8) by omega), (show (0) + (2 * (MB - bc)) ≤ (2 * (MB - bc)) by omega)⟩) hS (fun q _ h => hFc q h) hFc (fun u_53 t H_54 locs ht hvm hw hB hz1 hk1 hS1 => ?_)
    try dsimp only at hw
    obtain ⟨hs_56, hs_57, hs_58, hs_59, hs_60⟩ := hw
    obtain ⟨x_61, hg8, hg9, hx_62, hx_63, hP1, hD1⟩ := hB
    rw [ht] at hg8 hg9 hP1
    have hjn := xw_join3 (wl := [(w0, .inr (5, [.ref (u_53 0), .int (nI (u_53 2))])), ((u_53 0), .inl (ax 1, u_53 1, .inl x_61))]) hP hD [0, 1] [] hCs (by decide) (by decide) hk1 hFc hP1 hD1 rfl
    clear hP1 hD1
    clear hPc hDc hFc hCs hz hz1 hk1 ht hvm
    clear hP hD hS
    have hS := hS1
    obtain ⟨hP, hD⟩ := hjn
    clear hS1
    refine wk_narrow (k := u_53 1 / 8 - bc / 8) (n := 2 * (u_53 1 - bc)) (by first | assumption | omega) (by first | assumption | omega) ?_
    clear hk8 hk9 hg8 hg9
    rw [← hQe]
    refine wk_know (fun hk8 hk9 => ?_)
    refine W.widen (k := MB / 8 - bc / 8) (n := 2 * (MB - bc)) (by first | assumption | omega) (by first | assumption | omega) ?_
    obtain ⟨hP9, hD9⟩ := xw_sub2 (wc := (fun (u : Nat → Nat) (xby : Nat → Int32) => [(w0, .inr (5, [.ref (u 0), .int (nI (u 2))])), (u 0, .inl (ax 1, u 1, .inl xby))]) (ixn [(u_53 0), (u_53 1), (u_53 2)]) x_61) hP hD [0, 1] (by decide) rfl
    have hex0 : bts x_61 ((u_53 1)) := (by assumption)
    have hex1 : wtQ x1 by9 zs x_61 ((u_53 2)) := (wt_m ez_2 (by first | assumption | omega) hx_63)
    have hg8 : H_54.size ≤ s.heap.size + ((u_53 1) / 8 - bc / 8) := by omega
    have hg9 : tsl H_54 ≤ tsl s.heap + (2 * ((u_53 1) - bc)) := by omega
    have hsp0 : (u_53 2) ≤ zs + 10 := (by first | assumption | omega)
    have hsp1 : zs ≤ (u_53 2) := (by first | assumption | omega)
    have hsp2 : (u_53 2) ≤ (u_53 1) := (by first | assumption | omega)
    have hsp3 : bc ≤ (u_53 1) := (by first | assumption | omega)
    have hsp4 : (u_53 1) ≤ MB := (by first | assumption | omega)
    exact W.vret hx hb hr (fun t ht hW => ⟨⟨ixn [(u_53 0), (u_53 1), (u_53 2)], rfl, ⟨hsp0, hsp1, hsp2, hsp3, hsp4⟩, ⟨x_61, by rw [ht]; exact hg8, by rw [ht]; exact hg9, hex0, hex1, by rw [ht]; exact hP9, hD9⟩⟩, hS.F ht⟩) hS.2.2 d_Paper_writeTerm_20
abbrev b_Paper_writeComparison : ByteArray := prog_7_method_4_code
def y_Paper_writeComparison : MethodName := ⟨R_Paper, "writeComparison", "(I)V"⟩
theorem d_Paper_writeComparison_0 : decode b_Paper_writeComparison 0 = .ok (.iload_n 1, 1) := by decide +kernel
theorem d_Paper_writeComparison_1 : decode b_Paper_writeComparison 1 = .ok (.lookupswitch 45 #[(4, 27), (5, 36)], 27) := by decide +kernel
theorem d_Paper_writeComparison_28 : decode b_Paper_writeComparison 28 = .ok (.aload_n 0, 1) := by decide +kernel
theorem d_Paper_writeComparison_29 : decode b_Paper_writeComparison 29 = .ok (.bipush 61, 2) := by decide +kernel
theorem d_Paper_writeComparison_31 : decode b_Paper_writeComparison 31 = .ok (.invokevirtual 46, 3) := by decide +kernel
theorem d_Paper_writeComparison_34 : decode b_Paper_writeComparison 34 = .ok (.goto 48, 3) := by decide +kernel
theorem d_Paper_writeComparison_37 : decode b_Paper_writeComparison 37 = .ok (.aload_n 0, 1) := by decide +kernel
theorem d_Paper_writeComparison_38 : decode b_Paper_writeComparison 38 = .ok (.bipush 35, 2) := by decide +kernel
theorem d_Paper_writeComparison_40 : decode b_Paper_writeComparison 40 = .ok (.invokevirtual 46, 3) := by decide +kernel
theorem d_Paper_writeComparison_43 : decode b_Paper_writeComparison 43 = .ok (.goto 39, 3) := by decide +kernel
theorem d_Paper_writeComparison_46 : decode b_Paper_writeComparison 46 = .ok (.aload_n 0, 1) := by decide +kernel
theorem d_Paper_writeComparison_47 : decode b_Paper_writeComparison 47 = .ok (.iload_n 1, 1) := by decide +kernel
theorem d_Paper_writeComparison_48 : decode b_Paper_writeComparison 48 = .ok (.ifCond .eq 8, 3) := by decide +kernel
theorem d_Paper_writeComparison_51 : decode b_Paper_writeComparison 51 = .ok (.iload_n 1, 1) := by decide +kernel
theorem d_Paper_writeComparison_52 : decode b_Paper_writeComparison 52 = .ok (.iconst 2, 1) := by decide +kernel
theorem d_Paper_writeComparison_53 : decode b_Paper_writeComparison 53 = .ok (.if_icmp .ne 8, 3) := by decide +kernel
theorem d_Paper_writeComparison_56 : decode b_Paper_writeComparison 56 = .ok (.bipush 60, 2) := by decide +kernel
theorem d_Paper_writeComparison_58 : decode b_Paper_writeComparison 58 = .ok (.goto 5, 3) := by decide +kernel
theorem d_Paper_writeComparison_61 : decode b_Paper_writeComparison 61 = .ok (.bipush 62, 2) := by decide +kernel
theorem d_Paper_writeComparison_63 : decode b_Paper_writeComparison 63 = .ok (.invokevirtual 46, 3) := by decide +kernel
theorem d_Paper_writeComparison_66 : decode b_Paper_writeComparison 66 = .ok (.iload_n 1, 1) := by decide +kernel
theorem d_Paper_writeComparison_67 : decode b_Paper_writeComparison 67 = .ok (.iconst 2, 1) := by decide +kernel
theorem d_Paper_writeComparison_68 : decode b_Paper_writeComparison 68 = .ok (.if_icmp .eq 8, 3) := by decide +kernel
theorem d_Paper_writeComparison_71 : decode b_Paper_writeComparison 71 = .ok (.iload_n 1, 1) := by decide +kernel
theorem d_Paper_writeComparison_72 : decode b_Paper_writeComparison 72 = .ok (.iconst 1, 1) := by decide +kernel
theorem d_Paper_writeComparison_73 : decode b_Paper_writeComparison 73 = .ok (.if_icmp .ne 9, 3) := by decide +kernel
theorem d_Paper_writeComparison_76 : decode b_Paper_writeComparison 76 = .ok (.aload_n 0, 1) := by decide +kernel
theorem d_Paper_writeComparison_77 : decode b_Paper_writeComparison 77 = .ok (.bipush 61, 2) := by decide +kernel
theorem d_Paper_writeComparison_79 : decode b_Paper_writeComparison 79 = .ok (.invokevirtual 46, 3) := by decide +kernel
theorem d_Paper_writeComparison_82 : decode b_Paper_writeComparison 82 = .ok (.return_, 1) := by decide +kernel
set_option maxHeartbeats 40000000 in
set_option maxRecDepth 100000 in
theorem c_W_comparison (l : Launch) (D : va_G) (ax : Nat → ClassId) (w0 w1 zs bc MB : Nat) (by9 : Nat → Int32) (q9 : Nat) (sz tz : Nat) (hbc : 8 ≤ bc) (hzs : zs ≤ bc) (hmb : bc ≤ MB) (hmz : 2 * (zs + 2) ≤ MB) (hMB : MB ≤ 4000000) (hby : bts by9 bc) (hq9 : q9 ≤ 8) : Met l y_Paper_writeComparison (xws (.code y_Paper_writeComparison b_Paper_writeComparison 2 none)) ({ frames := 40, cells := MB / 8 - bc / 8, slots := 2 * (MB - bc), locals := 1600 }) (va_Pc [.ref w0, .int (nI q9)] (xo3 D ax [(w0, .inr (5, [.ref w1, .int (nI zs)])), (w1, .inl (ax 1, bc, .inl by9))] sz tz)) ((va_Qv (fun (u : Nat → Nat) => (u 2 ≤ zs + 2 ∧ zs ≤ u 2 ∧ u 2 ≤ u 1 ∧ bc ≤ u 1 ∧ u 1 ≤ MB)) (fun (u : Nat → Nat) (t9 : State) => ∃ xby : Nat → Int32, (t9.heap.size ≤ sz + (u 1 / 8 - bc / 8)) ∧ (tsl t9.heap ≤ tz + (2 * (u 1 - bc))) ∧ (bts xby (u 1)) ∧ (q9 < 6 → lsi xby (u 2) = lsi by9 zs ++ cmT q9) ∧ va_P D classes [(w0, .inr (5, [.ref (u 0), .int (nI (u 2))])), (u 0, .inl (ax 1, u 1, .inl xby))] t9.heap ∧ va_D (va_A [(w0, .inr (5, [.ref w1, .int (nI zs)])), (w1, .inl (ax 1, bc, .inl by9))] sz) [(w0, .inr (5, [.ref (u 0), .int (nI (u 2))])), (u 0, .inl (ax 1, u 1, .inl xby))]) (va_A [(w0, .inr (5, [.ref w1, .int (nI zs)])), (w1, .inl (ax 1, bc, .inl by9))] sz))) (MB / 8 - bc / 8) (2 * (MB - bc)) (va_A [(w0, .inr (5, [.ref w1, .int (nI zs)])), (w1, .inl (ax 1, bc, .inl by9))] sz) := by
  refine Met.ofW (cc := b_Paper_writeComparison) (maxL := 2) (ret := none) (by decide) rfl ?_
  intro p e s m args below meth c s₁ B hml hv
  obtain ⟨rfl, ⟨hsz, hP, hK, hD0⟩, htz⟩ := hv
  have hx := B.exec
  have hb := B.bytes
  have hr := B.returns
  have hts := xw_hts B.pre
  have hown : s.vm.findClass R_Paper = some m.cls := findClass_of_methodNamed B.named
  have hlocks := B.notSynchronized
  subst hsz
  subst htz
  have hD := hD0.self (sz := s.heap.size)
  have hN := xz_entry hP
  generalize hAe : va_A [(w0, .inr (5, [.ref w1, .int (nI zs)])), (w1, .inl (ax 1, bc, .inl by9))] s.heap.size = A at hD hN ⊢
  have hA : ∀ q : Nat, s.heap.size ≤ q → A q := fun q h => by rw [← hAe]; exact Or.inr h
  have hS : va_S A s.heap s.heap [] := va_S.rf
  have hl0 := lv_entry ([.ref w0, .int (nI q9)]) (n := 2) (Nat.le_of_ble_eq_true rfl)
  rw [lg_entry_eq]
  generalize (lg_sl ([.ref w0, .int (nI q9)]) ++ List.replicate (2 - (lg_sl ([.ref w0, .int (nI q9)])).length) Slot.unset).toArray = ls at hl0 ⊢
  have hl1 : lv_has ls 2 [(0, .ref w0), (1, .int (nI q9))] := hl0
  refine xw_gen (fun Z9 hQe => ?_)
  refine lv_iload_n hx hb d_Paper_writeComparison_0 rfl (lv_at hl1 1 rfl) ?_
  by_cases hw_1 : q9 = 4
  · refine W.eq (g2 := F0 m 1 ls [.int 4]) (by rw [hw_1]; rfl) ?_
    refine lv_lookup (off := 27) (tgt := 28) hx hb d_Paper_writeComparison_1 (by decide) (by decide) (by decide) ?_
    refine lv_aload_n hx hb d_Paper_writeComparison_28 rfl (lv_at hl1 0 rfl) ?_
    refine lv_bipush (v := 61) hx hb d_Paper_writeComparison_29 (by decide) ?_
    obtain ⟨hPc, hDc, hFc, hCs⟩ := xw_sub3 (wc := [(w0, .inr (5, [.ref w1, .int (nI zs)])), (w1, .inl (ax 1, bc, .inl by9))]) hP hD hS hA [0, 1] (by decide) rfl
    have hz := xz_of hN hS
    refine wk_know (fun hk8 hk9 => ?_)
    refine va_callv (va_runV (As := [.int 61]) (rest := []) ⟨hx, hb, hml, hown, hts⟩ (c_W_byte l D ax w0 w1 zs bc MB by9 61 s.heap.size (tsl s.heap) (by first | assumption | omega) (by first | assumption | omega) (by first | assumption | omega) (by first | assumption | omega) (by first | assumption | omega) (by assumption)) (xcV (n := 1) hts wd_938 wd_10 wd_935 wd_937 ps_44 rfl rfl (by decide +kernel) ⟨Nat.le_of_ble_eq_true rfl, Nat.le_of_ble_eq_true rfl⟩) (xpV3 (ci := 5) (q0 := 0) (As := [.int 61]) hPc hK hz hDc rfl rfl) rfl rfl hl1.1 rfl (lv_room (Nat.le_of_ble_eq_true rfl)) d_Paper_writeComparison_31 ⟨(show (0) + (MB / 8 - bc / 8) ≤ (MB / 8 - bc / 8) by omega), (show (0) + (2 * (MB - bc)) ≤ (2 * (MB - bc)) by omega)⟩) hS (fun q _ h => hFc q h) hFc (fun u_2 t H_3 locs ht hvm hw hB hz1 hk1 hS1 => ?_)
    try dsimp only at hw
    obtain ⟨hs_5, hs_6, hs_7, hs_8⟩ := hw
    obtain ⟨x_9, hg8, hg9, hx_10, hx_11, hP1, hD1⟩ := hB
    rw [ht] at hg8 hg9 hP1
    have hjn := xw_join3 (wl := [(w0, .inr (5, [.ref (u_2 0), .int (nI (u_2 2))])), ((u_2 0), .inl (ax 1, u_2 1, .inl x_9))]) hP hD [0, 1] [] hCs (by decide) (by decide) hk1 hFc hP1 hD1 rfl
    clear hP1 hD1
    clear hPc hDc hFc hCs hz hz1 hk1 ht hvm
    clear hP hD hS
    have hS := hS1
    obtain ⟨hP, hD⟩ := hjn
    clear hS1
    refine wk_narrow (k := u_2 1 / 8 - bc / 8) (n := 2 * (u_2 1 - bc)) (by first | assumption | omega) (by first | assumption | omega) ?_
    clear hk8 hk9 hg8 hg9
    refine lv_goto (tgt := 82) hx hb d_Paper_writeComparison_34 (by decide) ?_
    rw [← hQe]
    refine wk_know (fun hk8 hk9 => ?_)
    refine W.widen (k := MB / 8 - bc / 8) (n := 2 * (MB - bc)) (by first | assumption | omega) (by first | assumption | omega) ?_
    obtain ⟨hP9, hD9⟩ := xw_sub2 (wc := (fun (u : Nat → Nat) (xby : Nat → Int32) => [(w0, .inr (5, [.ref (u 0), .int (nI (u 2))])), (u 0, .inl (ax 1, u 1, .inl xby))]) (ixn [(u_2 0), (u_2 1), (u_2 2)]) x_9) hP hD [0, 1] (by decide) rfl
    have hex0 : bts x_9 ((u_2 1)) := (by assumption)
    have hex1 : q9 < 6 → lsi x_9 ((u_2 2)) = lsi by9 zs ++ cmT q9 := (fun _ => wc_4 hx_11 (by first | assumption | omega))
    have hg8 : H_3.size ≤ s.heap.size + ((u_2 1) / 8 - bc / 8) := by omega
    have hg9 : tsl H_3 ≤ tsl s.heap + (2 * ((u_2 1) - bc)) := by omega
    have hsp0 : (u_2 2) ≤ zs + 2 := (by first | assumption | omega)
    have hsp1 : zs ≤ (u_2 2) := (by first | assumption | omega)
    have hsp2 : (u_2 2) ≤ (u_2 1) := (by first | assumption | omega)
    have hsp3 : bc ≤ (u_2 1) := (by first | assumption | omega)
    have hsp4 : (u_2 1) ≤ MB := (by first | assumption | omega)
    exact W.vret hx hb hr (fun t ht hW => ⟨⟨ixn [(u_2 0), (u_2 1), (u_2 2)], rfl, ⟨hsp0, hsp1, hsp2, hsp3, hsp4⟩, ⟨x_9, by rw [ht]; exact hg8, by rw [ht]; exact hg9, hex0, hex1, by rw [ht]; exact hP9, hD9⟩⟩, hS.F ht⟩) hS.2.2 d_Paper_writeComparison_82
  by_cases hw_12 : q9 = 5
  · refine W.eq (g2 := F0 m 1 ls [.int 5]) (by rw [hw_12]; rfl) ?_
    refine lv_lookup (off := 36) (tgt := 37) hx hb d_Paper_writeComparison_1 (by decide) (by decide) (by decide) ?_
    refine lv_aload_n hx hb d_Paper_writeComparison_37 rfl (lv_at hl1 0 rfl) ?_
    refine lv_bipush (v := 35) hx hb d_Paper_writeComparison_38 (by decide) ?_
    obtain ⟨hPc, hDc, hFc, hCs⟩ := xw_sub3 (wc := [(w0, .inr (5, [.ref w1, .int (nI zs)])), (w1, .inl (ax 1, bc, .inl by9))]) hP hD hS hA [0, 1] (by decide) rfl
    have hz := xz_of hN hS
    refine wk_know (fun hk8 hk9 => ?_)
    refine va_callv (va_runV (As := [.int 35]) (rest := []) ⟨hx, hb, hml, hown, hts⟩ (c_W_byte l D ax w0 w1 zs bc MB by9 35 s.heap.size (tsl s.heap) (by first | assumption | omega) (by first | assumption | omega) (by first | assumption | omega) (by first | assumption | omega) (by first | assumption | omega) (by assumption)) (xcV (n := 1) hts wd_938 wd_10 wd_935 wd_937 ps_44 rfl rfl (by decide +kernel) ⟨Nat.le_of_ble_eq_true rfl, Nat.le_of_ble_eq_true rfl⟩) (xpV3 (ci := 5) (q0 := 0) (As := [.int 35]) hPc hK hz hDc rfl rfl) rfl rfl hl1.1 rfl (lv_room (Nat.le_of_ble_eq_true rfl)) d_Paper_writeComparison_40 ⟨(show (0) + (MB / 8 - bc / 8) ≤ (MB / 8 - bc / 8) by omega), (show (0) + (2 * (MB - bc)) ≤ (2 * (MB - bc)) by omega)⟩) hS (fun q _ h => hFc q h) hFc (fun u_13 t H_14 locs ht hvm hw hB hz1 hk1 hS1 => ?_)
    try dsimp only at hw
    obtain ⟨hs_16, hs_17, hs_18, hs_19⟩ := hw
    obtain ⟨x_20, hg8, hg9, hx_21, hx_22, hP1, hD1⟩ := hB
    rw [ht] at hg8 hg9 hP1
    have hjn := xw_join3 (wl := [(w0, .inr (5, [.ref (u_13 0), .int (nI (u_13 2))])), ((u_13 0), .inl (ax 1, u_13 1, .inl x_20))]) hP hD [0, 1] [] hCs (by decide) (by decide) hk1 hFc hP1 hD1 rfl
    clear hP1 hD1
    clear hPc hDc hFc hCs hz hz1 hk1 ht hvm
    clear hP hD hS
    have hS := hS1
    obtain ⟨hP, hD⟩ := hjn
    clear hS1
    refine wk_narrow (k := u_13 1 / 8 - bc / 8) (n := 2 * (u_13 1 - bc)) (by first | assumption | omega) (by first | assumption | omega) ?_
    clear hk8 hk9 hg8 hg9
    refine lv_goto (tgt := 82) hx hb d_Paper_writeComparison_43 (by decide) ?_
    rw [← hQe]
    refine wk_know (fun hk8 hk9 => ?_)
    refine W.widen (k := MB / 8 - bc / 8) (n := 2 * (MB - bc)) (by first | assumption | omega) (by first | assumption | omega) ?_
    obtain ⟨hP9, hD9⟩ := xw_sub2 (wc := (fun (u : Nat → Nat) (xby : Nat → Int32) => [(w0, .inr (5, [.ref (u 0), .int (nI (u 2))])), (u 0, .inl (ax 1, u 1, .inl xby))]) (ixn [(u_13 0), (u_13 1), (u_13 2)]) x_20) hP hD [0, 1] (by decide) rfl
    have hex0 : bts x_20 ((u_13 1)) := (by assumption)
    have hex1 : q9 < 6 → lsi x_20 ((u_13 2)) = lsi by9 zs ++ cmT q9 := (fun _ => wc_5 hx_22 (by first | assumption | omega))
    have hg8 : H_14.size ≤ s.heap.size + ((u_13 1) / 8 - bc / 8) := by omega
    have hg9 : tsl H_14 ≤ tsl s.heap + (2 * ((u_13 1) - bc)) := by omega
    have hsp0 : (u_13 2) ≤ zs + 2 := (by first | assumption | omega)
    have hsp1 : zs ≤ (u_13 2) := (by first | assumption | omega)
    have hsp2 : (u_13 2) ≤ (u_13 1) := (by first | assumption | omega)
    have hsp3 : bc ≤ (u_13 1) := (by first | assumption | omega)
    have hsp4 : (u_13 1) ≤ MB := (by first | assumption | omega)
    exact W.vret hx hb hr (fun t ht hW => ⟨⟨ixn [(u_13 0), (u_13 1), (u_13 2)], rfl, ⟨hsp0, hsp1, hsp2, hsp3, hsp4⟩, ⟨x_20, by rw [ht]; exact hg8, by rw [ht]; exact hg9, hex0, hex1, by rw [ht]; exact hP9, hD9⟩⟩, hS.F ht⟩) hS.2.2 d_Paper_writeComparison_82
  refine lv_lookup (off := 45) (tgt := 46) hx hb d_Paper_writeComparison_1 (by decide) (by rw [nI_toInt (by first | assumption | omega)]; exact sw_no (by simp; omega)) (by decide) ?_
  have jn_23 : ∀ (z1 c1 a1 : Nat) (y1 : Nat → Int32), z1 ≤ zs + 1 → zs ≤ z1 → z1 ≤ c1 → bc ≤ c1 → c1 ≤ MB → bts y1 c1 → lsi y1 z1 = lsi by9 zs ++ [cm8 q9] → ∀ (H : Heap) (locs : List Loc) (ls : Array Slot), va_P D classes [(w0, .inr (5, [.ref a1, .int (nI z1)])), (a1, .inl (ax 1, c1, .inl y1))] H → va_D A [(w0, .inr (5, [.ref a1, .int (nI z1)])), (a1, .inl (ax 1, c1, .inl y1))] → va_S A s.heap H locs → lv_has ls 2 [(0, .ref w0), (1, .int (nI q9))] → W p l e (headSpec (xws (.code y_Paper_writeComparison b_Paper_writeComparison 2 none)) ({ frames := 40, cells := MB / 8 - bc / 8, slots := 2 * (MB - bc), locals := 1600 })).room s m ([.ref w0, .int (nI q9)] : List Value).toArray below meth c H locs (c1 / 8 - bc / 8) (2 * (c1 - bc)) Z9 (F0 m 66 ls []) := by
    clear hP hD hS hl1
    intro z1 c1 a1 y1 gz1a gz1b gz1c gz1d gz1e gz1f hC1 H locs ls hP hD hS hl1
    refine lv_iload_n hx hb d_Paper_writeComparison_66 rfl (lv_at hl1 1 rfl) ?_
    refine lv_iconst (v := 2) hx hb d_Paper_writeComparison_67 (by decide) ?_
    refine lv_icmp_eq (tgt := 76) hx hb d_Paper_writeComparison_68 (by decide) (fun c_24 => ?_) (fun c_24 => ?_)
    · replace c_24 : q9 = 2 := (nI_eq (a := q9) (b := 2) (by first | exact Nat.lt_of_lt_of_le (by assumption) (by decide) | exact Nat.lt_of_le_of_lt (by assumption) (by decide) | omega) (by decide)).mp c_24
      refine lv_aload_n hx hb d_Paper_writeComparison_76 rfl (lv_at hl1 0 rfl) ?_
      refine lv_bipush (v := 61) hx hb d_Paper_writeComparison_77 (by decide) ?_
      obtain ⟨hPc, hDc, hFc, hCs⟩ := xw_sub3 (wc := [(w0, .inr (5, [.ref a1, .int (nI z1)])), (a1, .inl (ax 1, c1, .inl y1))]) hP hD hS hA [0, 1] (by decide) rfl
      have hz := xz_of hN hS
      refine wk_know (fun hk8 hk9 => ?_)
      refine va_callv (va_runV (As := [.int 61]) (rest := []) ⟨hx, hb, hml, hown, hts⟩ (c_W_byte l D ax w0 a1 z1 c1 MB y1 61 H.size (tsl H) (by first | assumption | omega) (by first | assumption | omega) (by first | assumption | omega) (by first | assumption | omega) (by first | assumption | omega) (by assumption)) (xcV (n := 1) hts wd_938 wd_10 wd_935 wd_937 ps_44 rfl rfl (by decide +kernel) ⟨Nat.le_of_ble_eq_true rfl, Nat.le_of_ble_eq_true rfl⟩) (xpV3 (ci := 5) (q0 := 0) (As := [.int 61]) hPc hK hz hDc rfl rfl) rfl rfl hl1.1 rfl (lv_room (Nat.le_of_ble_eq_true rfl)) d_Paper_writeComparison_79 ⟨(show (c1 / 8 - bc / 8) + (MB / 8 - c1 / 8) ≤ (MB / 8 - bc / 8) by omega), (show (2 * (c1 - bc)) + (2 * (MB - c1)) ≤ (2 * (MB - bc)) by omega)⟩) hS (fun q _ h => hFc q h) hFc (fun u_25 t H_26 locs ht hvm hw hB hz1 hk1 hS1 => ?_)
      try dsimp only at hw
      obtain ⟨hs_28, hs_29, hs_30, hs_31⟩ := hw
      obtain ⟨x_32, hg8, hg9, hx_33, hx_34, hP1, hD1⟩ := hB
      rw [ht] at hg8 hg9 hP1
      have hjn := xw_join3 (wl := [(w0, .inr (5, [.ref (u_25 0), .int (nI (u_25 2))])), ((u_25 0), .inl (ax 1, u_25 1, .inl x_32))]) hP hD [0, 1] [] hCs (by decide) (by decide) hk1 hFc hP1 hD1 rfl
      clear hP1 hD1
      clear hPc hDc hFc hCs hz hz1 hk1 ht hvm
      clear hP hD hS
      have hS := hS1
      obtain ⟨hP, hD⟩ := hjn
      clear hS1
      refine wk_narrow (k := c1 / 8 - bc / 8 + (u_25 1 / 8 - c1 / 8)) (n := 2 * (c1 - bc) + (2 * (u_25 1 - c1))) (by first | assumption | omega) (by first | assumption | omega) ?_
      clear hk8 hk9 hg8 hg9
      rw [← hQe]
      refine wk_know (fun hk8 hk9 => ?_)
      refine W.widen (k := MB / 8 - bc / 8) (n := 2 * (MB - bc)) (by first | assumption | omega) (by first | assumption | omega) ?_
      obtain ⟨hP9, hD9⟩ := xw_sub2 (wc := (fun (u : Nat → Nat) (xby : Nat → Int32) => [(w0, .inr (5, [.ref (u 0), .int (nI (u 2))])), (u 0, .inl (ax 1, u 1, .inl xby))]) (ixn [(u_25 0), (u_25 1), (u_25 2)]) x_32) hP hD [0, 1] (by decide) rfl
      have hex0 : bts x_32 ((u_25 1)) := (by assumption)
      have hex1 : q9 < 6 → lsi x_32 ((u_25 2)) = lsi by9 zs ++ cmT q9 := (fun _ => wc_e hC1 hx_34 (by first | assumption | omega))
      have hg8 : H_26.size ≤ s.heap.size + ((u_25 1) / 8 - bc / 8) := by omega
      have hg9 : tsl H_26 ≤ tsl s.heap + (2 * ((u_25 1) - bc)) := by omega
      have hsp0 : (u_25 2) ≤ zs + 2 := (by first | assumption | omega)
      have hsp1 : zs ≤ (u_25 2) := (by first | assumption | omega)
      have hsp2 : (u_25 2) ≤ (u_25 1) := (by first | assumption | omega)
      have hsp3 : bc ≤ (u_25 1) := (by first | assumption | omega)
      have hsp4 : (u_25 1) ≤ MB := (by first | assumption | omega)
      exact W.vret hx hb hr (fun t ht hW => ⟨⟨ixn [(u_25 0), (u_25 1), (u_25 2)], rfl, ⟨hsp0, hsp1, hsp2, hsp3, hsp4⟩, ⟨x_32, by rw [ht]; exact hg8, by rw [ht]; exact hg9, hex0, hex1, by rw [ht]; exact hP9, hD9⟩⟩, hS.F ht⟩) hS.2.2 d_Paper_writeComparison_82
    · replace c_24 : ¬ q9 = 2 := fun hq9 => c_24 ((nI_eq (a := q9) (b := 2) (by first | exact Nat.lt_of_lt_of_le (by assumption) (by decide) | exact Nat.lt_of_le_of_lt (by assumption) (by decide) | omega) (by decide)).mpr hq9)
      refine lv_iload_n hx hb d_Paper_writeComparison_71 rfl (lv_at hl1 1 rfl) ?_
      refine lv_iconst (v := 1) hx hb d_Paper_writeComparison_72 (by decide) ?_
      refine lv_icmp_ne (tgt := 82) hx hb d_Paper_writeComparison_73 (by decide) (fun c_35 => ?_) (fun c_35 => ?_)
      · replace c_35 : ¬ q9 = 1 := fun hq9 => c_35 ((nI_eq (a := q9) (b := 1) (by first | exact Nat.lt_of_lt_of_le (by assumption) (by decide) | exact Nat.lt_of_le_of_lt (by assumption) (by decide) | omega) (by decide)).mpr hq9)
        rw [← hQe]
        refine wk_know (fun hk8 hk9 => ?_)
        refine W.widen (k := MB / 8 - bc / 8) (n := 2 * (MB - bc)) (by first | assumption | omega) (by first | assumption | omega) ?_
        obtain ⟨hP9, hD9⟩ := xw_sub2 (wc := (fun (u : Nat → Nat) (xby : Nat → Int32) => [(w0, .inr (5, [.ref (u 0), .int (nI (u 2))])), (u 0, .inl (ax 1, u 1, .inl xby))]) (ixn [a1, c1, z1]) y1) hP hD [0, 1] (by decide) rfl
        have hex0 : bts y1 (c1) := (by assumption)
        have hex1 : q9 < 6 → lsi y1 (z1) = lsi by9 zs ++ cmT q9 := (fun _ => wc_n hC1 (by first | assumption | omega))
        have hg8 : H.size ≤ s.heap.size + (c1 / 8 - bc / 8) := by omega
        have hg9 : tsl H ≤ tsl s.heap + (2 * (c1 - bc)) := by omega
        have hsp0 : z1 ≤ zs + 2 := (by first | assumption | omega)
        have hsp1 : zs ≤ z1 := (by first | assumption | omega)
        have hsp2 : z1 ≤ c1 := (by first | assumption | omega)
        have hsp3 : bc ≤ c1 := (by first | assumption | omega)
        have hsp4 : c1 ≤ MB := (by first | assumption | omega)
        exact W.vret hx hb hr (fun t ht hW => ⟨⟨ixn [a1, c1, z1], rfl, ⟨hsp0, hsp1, hsp2, hsp3, hsp4⟩, ⟨y1, by rw [ht]; exact hg8, by rw [ht]; exact hg9, hex0, hex1, by rw [ht]; exact hP9, hD9⟩⟩, hS.F ht⟩) hS.2.2 d_Paper_writeComparison_82
      · replace c_35 : q9 = 1 := (nI_eq (a := q9) (b := 1) (by first | exact Nat.lt_of_lt_of_le (by assumption) (by decide) | exact Nat.lt_of_le_of_lt (by assumption) (by decide) | omega) (by decide)).mp c_35
        refine lv_aload_n hx hb d_Paper_writeComparison_76 rfl (lv_at hl1 0 rfl) ?_
        refine lv_bipush (v := 61) hx hb d_Paper_writeComparison_77 (by decide) ?_
        obtain ⟨hPc, hDc, hFc, hCs⟩ := xw_sub3 (wc := [(w0, .inr (5, [.ref a1, .int (nI z1)])), (a1, .inl (ax 1, c1, .inl y1))]) hP hD hS hA [0, 1] (by decide) rfl
        have hz := xz_of hN hS
        refine wk_know (fun hk8 hk9 => ?_)
        refine va_callv (va_runV (As := [.int 61]) (rest := []) ⟨hx, hb, hml, hown, hts⟩ (c_W_byte l D ax w0 a1 z1 c1 MB y1 61 H.size (tsl H) (by first | assumption | omega) (by first | assumption | omega) (by first | assumption | omega) (by first | assumption | omega) (by first | assumption | omega) (by assumption)) (xcV (n := 1) hts wd_938 wd_10 wd_935 wd_937 ps_44 rfl rfl (by decide +kernel) ⟨Nat.le_of_ble_eq_true rfl, Nat.le_of_ble_eq_true rfl⟩) (xpV3 (ci := 5) (q0 := 0) (As := [.int 61]) hPc hK hz hDc rfl rfl) rfl rfl hl1.1 rfl (lv_room (Nat.le_of_ble_eq_true rfl)) d_Paper_writeComparison_79 ⟨(show (c1 / 8 - bc / 8) + (MB / 8 - c1 / 8) ≤ (MB / 8 - bc / 8) by omega), (show (2 * (c1 - bc)) + (2 * (MB - c1)) ≤ (2 * (MB - bc)) by omega)⟩) hS (fun q _ h => hFc q h) hFc (fun u_36 t H_37 locs ht hvm hw hB hz1 hk1 hS1 => ?_)
        try dsimp only at hw
        obtain ⟨hs_39, hs_40, hs_41, hs_42⟩ := hw
        obtain ⟨x_43, hg8, hg9, hx_44, hx_45, hP1, hD1⟩ := hB
        rw [ht] at hg8 hg9 hP1
        have hjn := xw_join3 (wl := [(w0, .inr (5, [.ref (u_36 0), .int (nI (u_36 2))])), ((u_36 0), .inl (ax 1, u_36 1, .inl x_43))]) hP hD [0, 1] [] hCs (by decide) (by decide) hk1 hFc hP1 hD1 rfl
        clear hP1 hD1
        clear hPc hDc hFc hCs hz hz1 hk1 ht hvm
        clear hP hD hS
        have hS := hS1
        obtain ⟨hP, hD⟩ := hjn
        clear hS1
        refine wk_narrow (k := c1 / 8 - bc / 8 + (u_36 1 / 8 - c1 / 8)) (n := 2 * (c1 - bc) + (2 * (u_36 1 - c1))) (by first | assumption | omega) (by first | assumption | omega) ?_
        clear hk8 hk9 hg8 hg9
        rw [← hQe]
        refine wk_know (fun hk8 hk9 => ?_)
        refine W.widen (k := MB / 8 - bc / 8) (n := 2 * (MB - bc)) (by first | assumption | omega) (by first | assumption | omega) ?_
        obtain ⟨hP9, hD9⟩ := xw_sub2 (wc := (fun (u : Nat → Nat) (xby : Nat → Int32) => [(w0, .inr (5, [.ref (u 0), .int (nI (u 2))])), (u 0, .inl (ax 1, u 1, .inl xby))]) (ixn [(u_36 0), (u_36 1), (u_36 2)]) x_43) hP hD [0, 1] (by decide) rfl
        have hex0 : bts x_43 ((u_36 1)) := (by assumption)
        have hex1 : q9 < 6 → lsi x_43 ((u_36 2)) = lsi by9 zs ++ cmT q9 := (fun _ => wc_e hC1 hx_45 (by first | assumption | omega))
        have hg8 : H_37.size ≤ s.heap.size + ((u_36 1) / 8 - bc / 8) := by omega
        have hg9 : tsl H_37 ≤ tsl s.heap + (2 * ((u_36 1) - bc)) := by omega
        have hsp0 : (u_36 2) ≤ zs + 2 := (by first | assumption | omega)
        have hsp1 : zs ≤ (u_36 2) := (by first | assumption | omega)
        have hsp2 : (u_36 2) ≤ (u_36 1) := (by first | assumption | omega)
        have hsp3 : bc ≤ (u_36 1) := (by first | assumption | omega)
        have hsp4 : (u_36 1) ≤ MB := (by first | assumption | omega)
        exact W.vret hx hb hr (fun t ht hW => ⟨⟨ixn [(u_36 0), (u_36 1), (u_36 2)], rfl, ⟨hsp0, hsp1, hsp2, hsp3, hsp4⟩, ⟨x_43, by rw [ht]; exact hg8, by rw [ht]; exact hg9, hex0, hex1, by rw [ht]; exact hP9, hD9⟩⟩, hS.F ht⟩) hS.2.2 d_Paper_writeComparison_82
  refine lv_aload_n hx hb d_Paper_writeComparison_46 rfl (lv_at hl1 0 rfl) ?_
  refine lv_iload_n hx hb d_Paper_writeComparison_47 rfl (lv_at hl1 1 rfl) ?_
  refine lv_if_eq (tgt := 56) hx hb d_Paper_writeComparison_48 (by decide) (fun c_46 => ?_) (fun c_46 => ?_)
  · replace c_46 : q9 = 0 := (nI_eq (a := q9) (b := 0) (by first | exact Nat.lt_of_lt_of_le (by assumption) (by decide) | exact Nat.lt_of_le_of_lt (by assumption) (by decide) | omega) (by decide)).mp c_46
    refine lv_bipush (v := 60) hx hb d_Paper_writeComparison_56 (by decide) ?_
    refine lv_goto (tgt := 63) hx hb d_Paper_writeComparison_58 (by decide) ?_
    obtain ⟨hPc, hDc, hFc, hCs⟩ := xw_sub3 (wc := [(w0, .inr (5, [.ref w1, .int (nI zs)])), (w1, .inl (ax 1, bc, .inl by9))]) hP hD hS hA [0, 1] (by decide) rfl
    have hz := xz_of hN hS
    refine wk_know (fun hk8 hk9 => ?_)
    refine va_callv (va_runV (As := [.int 60]) (rest := []) ⟨hx, hb, hml, hown, hts⟩ (c_W_byte l D ax w0 w1 zs bc MB by9 60 s.heap.size (tsl s.heap) (by first | assumption | omega) (by first | assumption | omega) (by first | assumption | omega) (by first | assumption | omega) (by first | assumption | omega) (by assumption)) (xcV (n := 1) hts wd_938 wd_10 wd_935 wd_937 ps_44 rfl rfl (by decide +kernel) ⟨Nat.le_of_ble_eq_true rfl, Nat.le_of_ble_eq_true rfl⟩) (xpV3 (ci := 5) (q0 := 0) (As := [.int 60]) hPc hK hz hDc rfl rfl) rfl rfl hl1.1 rfl (lv_room (Nat.le_of_ble_eq_true rfl)) d_Paper_writeComparison_63 ⟨(show (0) + (MB / 8 - bc / 8) ≤ (MB / 8 - bc / 8) by omega), (show (0) + (2 * (MB - bc)) ≤ (2 * (MB - bc)) by omega)⟩) hS (fun q _ h => hFc q h) hFc (fun u_47 t H_48 locs ht hvm hw hB hz1 hk1 hS1 => ?_)
    try dsimp only at hw
    obtain ⟨hs_50, hs_51, hs_52, hs_53⟩ := hw
    obtain ⟨x_54, hg8, hg9, hx_55, hx_56, hP1, hD1⟩ := hB
    rw [ht] at hg8 hg9 hP1
    have hjn := xw_join3 (wl := [(w0, .inr (5, [.ref (u_47 0), .int (nI (u_47 2))])), ((u_47 0), .inl (ax 1, u_47 1, .inl x_54))]) hP hD [0, 1] [] hCs (by decide) (by decide) hk1 hFc hP1 hD1 rfl
    clear hP1 hD1
    clear hPc hDc hFc hCs hz hz1 hk1 ht hvm
    clear hP hD hS
    have hS := hS1
    obtain ⟨hP, hD⟩ := hjn
    clear hS1
    refine wk_narrow (k := u_47 1 / 8 - bc / 8) (n := 2 * (u_47 1 - bc)) (by first | assumption | omega) (by first | assumption | omega) ?_
    clear hk8 hk9 hg8 hg9
    refine W.widen (k := (u_47 1) / 8 - bc / 8) (n := 2 * ((u_47 1) - bc)) (by first | assumption | omega) (by first | assumption | omega) ?_
    exact jn_23 (u_47 2) (u_47 1) (u_47 0) x_54 (by first | assumption | omega) (by first | assumption | omega) (by first | assumption | omega) (by first | assumption | omega) (by first | assumption | omega) (by assumption) (by rw [hx_56]; first | rw [cm8_y (by first | assumption | omega), byv_c.2.2.2.2.1] | rw [cm8_n (by first | assumption | omega), byv_c.2.2.2.2.2.1]) _ _ _ (hP.sub [0, 1] rfl) (hD.sub [0, 1] (by decide) rfl) hS (lv_sub hl1 [0, 1] rfl)
  · replace c_46 : ¬ q9 = 0 := fun hq9 => c_46 ((nI_eq (a := q9) (b := 0) (by first | exact Nat.lt_of_lt_of_le (by assumption) (by decide) | exact Nat.lt_of_le_of_lt (by assumption) (by decide) | omega) (by decide)).mpr hq9)
    refine lv_iload_n hx hb d_Paper_writeComparison_51 rfl (lv_at hl1 1 rfl) ?_
    refine lv_iconst (v := 2) hx hb d_Paper_writeComparison_52 (by decide) ?_
    refine lv_icmp_ne (tgt := 61) hx hb d_Paper_writeComparison_53 (by decide) (fun c_57 => ?_) (fun c_57 => ?_)
    · replace c_57 : ¬ q9 = 2 := fun hq9 => c_57 ((nI_eq (a := q9) (b := 2) (by first | exact Nat.lt_of_lt_of_le (by assumption) (by decide) | exact Nat.lt_of_le_of_lt (by assumption) (by decide) | omega) (by decide)).mpr hq9)
      refine lv_bipush (v := 62) hx hb d_Paper_writeComparison_61 (by decide) ?_
      obtain ⟨hPc, hDc, hFc, hCs⟩ := xw_sub3 (wc := [(w0, .inr (5, [.ref w1, .int (nI zs)])), (w1, .inl (ax 1, bc, .inl by9))]) hP hD hS hA [0, 1] (by decide) rfl
      have hz := xz_of hN hS
      refine wk_know (fun hk8 hk9 => ?_)
      refine va_callv (va_runV (As := [.int 62]) (rest := []) ⟨hx, hb, hml, hown, hts⟩ (c_W_byte l D ax w0 w1 zs bc MB by9 62 s.heap.size (tsl s.heap) (by first | assumption | omega) (by first | assumption | omega) (by first | assumption | omega) (by first | assumption | omega) (by first | assumption | omega) (by assumption)) (xcV (n := 1) hts wd_938 wd_10 wd_935 wd_937 ps_44 rfl rfl (by decide +kernel) ⟨Nat.le_of_ble_eq_true rfl, Nat.le_of_ble_eq_true rfl⟩) (xpV3 (ci := 5) (q0 := 0) (As := [.int 62]) hPc hK hz hDc rfl rfl) rfl rfl hl1.1 rfl (lv_room (Nat.le_of_ble_eq_true rfl)) d_Paper_writeComparison_63 ⟨(show (0) + (MB / 8 - bc / 8) ≤ (MB / 8 - bc / 8) by omega), (show (0) + (2 * (MB - bc)) ≤ (2 * (MB - bc)) by omega)⟩) hS (fun q _ h => hFc q h) hFc (fun u_58 t H_59 locs ht hvm hw hB hz1 hk1 hS1 => ?_)
      try dsimp only at hw
      obtain ⟨hs_61, hs_62, hs_63, hs_64⟩ := hw
      obtain ⟨x_65, hg8, hg9, hx_66, hx_67, hP1, hD1⟩ := hB
      rw [ht] at hg8 hg9 hP1
      have hjn := xw_join3 (wl := [(w0, .inr (5, [.ref (u_58 0), .int (nI (u_58 2))])), ((u_58 0), .inl (ax 1, u_58 1, .inl x_65))]) hP hD [0, 1] [] hCs (by decide) (by decide) hk1 hFc hP1 hD1 rfl
      clear hP1 hD1
      clear hPc hDc hFc hCs hz hz1 hk1 ht hvm
      clear hP hD hS
      have hS := hS1
      obtain ⟨hP, hD⟩ := hjn
      clear hS1
      refine wk_narrow (k := u_58 1 / 8 - bc / 8) (n := 2 * (u_58 1 - bc)) (by first | assumption | omega) (by first | assumption | omega) ?_
      clear hk8 hk9 hg8 hg9
      refine W.widen (k := (u_58 1) / 8 - bc / 8) (n := 2 * ((u_58 1) - bc)) (by first | assumption | omega) (by first | assumption | omega) ?_
      exact jn_23 (u_58 2) (u_58 1) (u_58 0) x_65 (by first | assumption | omega) (by first | assumption | omega) (by first | assumption | omega) (by first | assumption | omega) (by first | assumption | omega) (by assumption) (by rw [hx_67]; first | rw [cm8_y (by first | assumption | omega), byv_c.2.2.2.2.1] | rw [cm8_n (by first | assumption | omega), byv_c.2.2.2.2.2.1]) _ _ _ (hP.sub [0, 1] rfl) (hD.sub [0, 1] (by decide) rfl) hS (lv_sub hl1 [0, 1] rfl)
    · replace c_57 : q9 = 2 := (nI_eq (a := q9) (b := 2) (by first | exact Nat.lt_of_lt_of_le (by assumption) (by decide) | exact Nat.lt_of_le_of_lt (by assumption) (by decide) | omega) (by decide)).mp c_57
      refine lv_bipush (v := 60) hx hb d_Paper_writeComparison_56 (by decide) ?_
      refine lv_goto (tgt := 63) hx hb d_Paper_writeComparison_58 (by decide) ?_
      obtain ⟨hPc, hDc, hFc, hCs⟩ := xw_sub3 (wc := [(w0, .inr (5, [.ref w1, .int (nI zs)])), (w1, .inl (ax 1, bc, .inl by9))]) hP hD hS hA [0, 1] (by decide) rfl
      have hz := xz_of hN hS
      refine wk_know (fun hk8 hk9 => ?_)
      refine va_callv (va_runV (As := [.int 60]) (rest := []) ⟨hx, hb, hml, hown, hts⟩ (c_W_byte l D ax w0 w1 zs bc MB by9 60 s.heap.size (tsl s.heap) (by first | assumption | omega) (by first | assumption | omega) (by first | assumption | omega) (by first | assumption | omega) (by first | assumption | omega) (by assumption)) (xcV (n := 1) hts wd_938 wd_10 wd_935 wd_937 ps_44 rfl rfl (by decide +kernel) ⟨Nat.le_of_ble_eq_true rfl, Nat.le_of_ble_eq_true rfl⟩) (xpV3 (ci := 5) (q0 := 0) (As := [.int 60]) hPc hK hz hDc rfl rfl) rfl rfl hl1.1 rfl (lv_room (Nat.le_of_ble_eq_true rfl)) d_Paper_writeComparison_63 ⟨(show (0) + (MB / 8 - bc / 8) ≤ (MB / 8 - bc / 8) by omega), (show (0) + (2 * (MB - bc)) ≤ (2 * (MB - bc)) by omega)⟩) hS (fun q _ h => hFc q h) hFc (fun u_68 t H_69 locs ht hvm hw hB hz1 hk1 hS1 => ?_)
      try dsimp only at hw
      obtain ⟨hs_71, hs_72, hs_73, hs_74⟩ := hw
      obtain ⟨x_75, hg8, hg9, hx_76, hx_77, hP1, hD1⟩ := hB
      rw [ht] at hg8 hg9 hP1
      have hjn := xw_join3 (wl := [(w0, .inr (5, [.ref (u_68 0), .int (nI (u_68 2))])), ((u_68 0), .inl (ax 1, u_68 1, .inl x_75))]) hP hD [0, 1] [] hCs (by decide) (by decide) hk1 hFc hP1 hD1 rfl
      clear hP1 hD1
      clear hPc hDc hFc hCs hz hz1 hk1 ht hvm
      clear hP hD hS
      have hS := hS1
      obtain ⟨hP, hD⟩ := hjn
      clear hS1
      refine wk_narrow (k := u_68 1 / 8 - bc / 8) (n := 2 * (u_68 1 - bc)) (by first | assumption | omega) (by first | assumption | omega) ?_
      clear hk8 hk9 hg8 hg9
      refine W.widen (k := (u_68 1) / 8 - bc / 8) (n := 2 * ((u_68 1) - bc)) (by first | assumption | omega) (by first | assumption | omega) ?_
      exact jn_23 (u_68 2) (u_68 1) (u_68 0) x_75 (by first | assumption | omega) (by first | assumption | omega) (by first | assumption | omega) (by first | assumption | omega) (by first | assumption | omega) (by assumption) (by rw [hx_77]; first | rw [cm8_y (by first | assumption | omega), byv_c.2.2.2.2.1] | rw [cm8_n (by first | assumption | omega), byv_c.2.2.2.2.2.1]) _ _ _ (hP.sub [0, 1] rfl) (hD.sub [0, 1] (by decide) rfl) hS (lv_sub hl1 [0, 1] rfl)
