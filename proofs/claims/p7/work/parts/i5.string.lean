theorem wd_16 : ((Jvm.Cond.initialized "java/lang/String")) ∈ lw_gd := lw_gd_in (i := 16) (by decide +kernel) rfl
theorem wd_459 : ((Jvm.Cond.methodLink "java/lang/String" (335 : Nat) ({ cls := "java/lang/String", name := "coder", desc := "()B" } : Jvm.MethodName))) ∈ lw_gd := lw_gd_in (i := 459) (by decide +kernel) rfl
theorem wd_460 : ((Jvm.Cond.instanceMethod ({ cls := "java/lang/String", name := "coder", desc := "()B" } : Jvm.MethodName))) ∈ lw_gd := lw_gd_in (i := 460) (by decide +kernel) rfl
theorem wd_461 : ((Jvm.Cond.selects "java/lang/String" ({ cls := "java/lang/String", name := "coder", desc := "()B" } : Jvm.MethodName) ({ cls := "java/lang/String", name := "coder", desc := "()B" } : Jvm.MethodName))) ∈ lw_gd := lw_gd_in (i := 461) (by decide +kernel) rfl
theorem wd_462 : ((Jvm.Cond.code ({ cls := "java/lang/String", name := "coder", desc := "()B" } : Jvm.MethodName) prog_21_method_152_code (1 : Nat) (Option.some Jvm.ClassFile.FieldType.byte))) ∈ lw_gd := lw_gd_in (i := 462) (by decide +kernel) rfl
theorem wd_463 : ((Jvm.Cond.fieldLink "java/lang/String" (38 : Nat) "java/lang/String" "COMPACT_STRINGS" "Z")) ∈ lw_gd := lw_gd_in (i := 463) (by decide +kernel) rfl
theorem wd_1610 : ((Jvm.Cond.fieldLink "java/lang/String" (9 : Nat) "java/lang/String" "value" "[B")) ∈ lw_gd := lw_gd_in (i := 1610) (by decide +kernel) rfl
theorem wd_1611 : ((Jvm.Cond.fieldLink "java/lang/String" (15 : Nat) "java/lang/String" "coder" "B")) ∈ lw_gd := lw_gd_in (i := 1611) (by decide +kernel) rfl
abbrev b_Str_coder : ByteArray := prog_21_method_152_code
def y_Str_coder : MethodName := ⟨R_Str, "coder", "()B"⟩
theorem d_Str_coder_0 : decode b_Str_coder 0 = .ok (.getstatic 38, 3) := by decide +kernel
theorem d_Str_coder_3 : decode b_Str_coder 3 = .ok (.ifCond .eq 10, 3) := by decide +kernel
theorem d_Str_coder_6 : decode b_Str_coder 6 = .ok (.aload_n 0, 1) := by decide +kernel
theorem d_Str_coder_7 : decode b_Str_coder 7 = .ok (.getfield 15, 3) := by decide +kernel
theorem d_Str_coder_10 : decode b_Str_coder 10 = .ok (.goto 4, 3) := by decide +kernel
theorem d_Str_coder_14 : decode b_Str_coder 14 = .ok (.ireturn, 1) := by decide +kernel
set_option maxHeartbeats 40000000 in
set_option maxRecDepth 100000 in
theorem c_Z_coder (l : Launch) (D : va_G) (ax : Nat → ClassId) (ad av : Nat → Nat) (fm : Nat) (i9 : Nat) (sz tz : Nat) (hi9 : i9 < 11) : Met l y_Str_coder (xws (.code y_Str_coder b_Str_coder 1 (some .byte))) ({ frames := 10, cells := 0, slots := 0, locals := 400 }) (va_Pc [.ref (ad i9)] (xo4 D ax ad av fm [] sz tz)) ((va_Qi (fun (r : Int32) (u : Nat → Nat) => r = 0) (fun (u : Nat → Nat) (t9 : State) => (t9.heap.size ≤ sz + (0)) ∧ (tsl t9.heap ≤ tz + (0)) ∧ va_P D classes [] t9.heap ∧ va_D (va_A [] sz) []) (va_A [] sz))) 0 0 (va_A [] sz) := by
  refine Met.ofW (cc := b_Str_coder) (maxL := 1) (ret := (some .byte)) (by decide) rfl ?_
  intro p e s m args below meth c s₁ B hml hv
  obtain ⟨rfl, ⟨⟨hsz, hP, hK, hD0⟩, htz⟩, hX⟩ := hv
  have hx := B.exec
  have hb := B.bytes
  have hr := B.returns
  have hts := xw_hts B.pre
  have hown : s.vm.findClass R_Str = some m.cls := findClass_of_methodNamed B.named
  have hlocks := B.notSynchronized
  subst hsz
  subst htz
  have hD := hD0.self (sz := s.heap.size)
  have hN := xz_entry hP
  generalize hAe : va_A [] s.heap.size = A at hD hN hX ⊢
  have hA : ∀ q : Nat, s.heap.size ≤ q → A q := fun q h => by rw [← hAe]; exact Or.inr h
  have hS : va_S A s.heap s.heap [] := va_S.rf
  have hl0 := lv_entry ([.ref (ad i9)]) (n := 1) (Nat.le_of_ble_eq_true rfl)
  rw [lg_entry_eq]
  generalize (lg_sl ([.ref (ad i9)]) ++ List.replicate (1 - (lg_sl ([.ref (ad i9)])).length) Slot.unset).toArray = ls at hl0 ⊢
  have hl1 : lv_has ls 1 [(0, .ref (ad i9))] := hl0
  refine xw_gen (fun Z9 hQe => ?_)
  refine va_gets hx hb hX.2.2.1 hS hown (hts _ wd_463) (fun _ h9 => h9) d_Str_coder_0 ?_
  refine lv_if_eq (tgt := 13) hx hb d_Str_coder_3 (by decide) (fun c_1 => ?_) (fun c_1 => ?_)
  · first | exact absurd c_1 (by decide) | exact absurd (by decide) c_1
  refine lv_aload_n hx hb d_Str_coder_6 rfl (lv_at hl1 0 rfl) ?_
  refine vk_getf hx hb (hX.1.1 i9 (by first | assumption | omega)).2.1 hS hown (hts _ wd_1611) (fun _ h9 => h9) d_Str_coder_7 ?_
  refine lv_goto (tgt := 14) hx hb d_Str_coder_10 (by decide) ?_
  rw [← hQe]
  refine wk_know (fun hk8 hk9 => ?_)
  obtain ⟨hP9, hD9⟩ := xw_sub2 (wc := (fun (u : Nat → Nat)  => []) (ixn []) ) hP hD [] (by decide) rfl
  have hg8 : s.heap.size ≤ s.heap.size + (0) := by omega
  have hg9 : tsl s.heap ≤ tsl s.heap + (0) := by omega
  exact W.zret (v := 0) hx hb hr rfl (fun t ht hW => ⟨⟨0, ixn [], rfl, rfl, ⟨by rw [ht]; exact hg8, by rw [ht]; exact hg9, by rw [ht]; exact hP9, hD9⟩⟩, hS.F ht⟩) hS.2.2 d_Str_coder_14
abbrev b_Str_length : ByteArray := prog_21_method_54_code
def y_Str_length : MethodName := ⟨R_Str, "length", "()I"⟩
theorem d_Str_length_0 : decode b_Str_length 0 = .ok (.aload_n 0, 1) := by decide +kernel
theorem d_Str_length_1 : decode b_Str_length 1 = .ok (.getfield 9, 3) := by decide +kernel
theorem d_Str_length_4 : decode b_Str_length 4 = .ok (.arraylength, 1) := by decide +kernel
theorem d_Str_length_5 : decode b_Str_length 5 = .ok (.aload_n 0, 1) := by decide +kernel
theorem d_Str_length_6 : decode b_Str_length 6 = .ok (.invokevirtual 335, 3) := by decide +kernel
theorem d_Str_length_9 : decode b_Str_length 9 = .ok (.ishr, 1) := by decide +kernel
theorem d_Str_length_10 : decode b_Str_length 10 = .ok (.ireturn, 1) := by decide +kernel
set_option maxHeartbeats 40000000 in
set_option maxRecDepth 100000 in
theorem c_Z_length (l : Launch) (D : va_G) (ax : Nat → ClassId) (ad av : Nat → Nat) (fm : Nat) (i9 : Nat) (sz tz : Nat) (hi9 : i9 < 11) : Met l y_Str_length (xws (.code y_Str_length b_Str_length 1 (some .int))) ({ frames := 20, cells := 0, slots := 0, locals := 800 }) (va_Pc [.ref (ad i9)] (xo4 D ax ad av fm [] sz tz)) ((va_Qi (fun (r : Int32) (u : Nat → Nat) => r = nI (u 0) ∧ (u 0 = xsl.getD i9 0)) (fun (u : Nat → Nat) (t9 : State) => (t9.heap.size ≤ sz + (0)) ∧ (tsl t9.heap ≤ tz + (0)) ∧ va_P D classes [] t9.heap ∧ va_D (va_A [] sz) []) (va_A [] sz))) 0 0 (va_A [] sz) := by
  refine Met.ofW (cc := b_Str_length) (maxL := 1) (ret := (some .int)) (by decide) rfl ?_
  intro p e s m args below meth c s₁ B hml hv
  obtain ⟨rfl, ⟨⟨hsz, hP, hK, hD0⟩, htz⟩, hX⟩ := hv
  have hx := B.exec
  have hb := B.bytes
  have hr := B.returns
  have hts := xw_hts B.pre
  have hown : s.vm.findClass R_Str = some m.cls := findClass_of_methodNamed B.named
  have hlocks := B.notSynchronized
  subst hsz
  subst htz
  have hD := hD0.self (sz := s.heap.size)
  have hN := xz_entry hP
  generalize hAe : va_A [] s.heap.size = A at hD hN hX ⊢
  have hA : ∀ q : Nat, s.heap.size ≤ q → A q := fun q h => by rw [← hAe]; exact Or.inr h
  have hS : va_S A s.heap s.heap [] := va_S.rf
  have hl0 := lv_entry ([.ref (ad i9)]) (n := 1) (Nat.le_of_ble_eq_true rfl)
  rw [lg_entry_eq]
  generalize (lg_sl ([.ref (ad i9)]) ++ List.replicate (1 - (lg_sl ([.ref (ad i9)])).length) Slot.unset).toArray = ls at hl0 ⊢
  have hl1 : lv_has ls 1 [(0, .ref (ad i9))] := hl0
  refine xw_gen (fun Z9 hQe => ?_)
  have hx6 := xsl_le hi9
  refine lv_aload_n hx hb d_Str_length_0 rfl (lv_at hl1 0 rfl) ?_
  refine vk_getf hx hb (hX.1.1 i9 (by first | assumption | omega)).2.2.1 hS hown (hts _ wd_1610) (fun _ h9 => h9) d_Str_length_1 ?_
  refine va_tlen hx hb (hX.1.1 i9 (by first | assumption | omega)).2.2.2 hS (v := nI (xsl.getD i9 0)) rfl d_Str_length_4 ?_
  refine lv_aload_n hx hb d_Str_length_5 rfl (lv_at hl1 0 rfl) ?_
  obtain ⟨hPc, hDc, hFc, hCs⟩ := xw_sub3 (wc := []) hP hD hS hA [] (by decide) rfl
  have hz := xz_of hN hS
  refine wk_know (fun hk8 hk9 => ?_)
  refine va_calli (va_runV (As := []) (rest := [.int (nI (xsl.getD i9 0))]) ⟨hx, hb, hml, hown, hts⟩ (c_Z_coder l D ax ad av fm i9 s.heap.size (tsl s.heap) (by first | assumption | omega)) (xcV (n := 0) hts wd_462 wd_16 wd_459 wd_460 wd_461 rfl rfl (by decide +kernel) ⟨Nat.le_of_ble_eq_true rfl, Nat.le_of_ble_eq_true rfl⟩) (xpK4 (i := i9) (As := []) (by first | assumption | omega) hX hS hFc hPc hK hz hDc) rfl rfl hl1.1 rfl (lv_room (Nat.le_of_ble_eq_true rfl)) d_Str_length_6 ⟨Nat.le_of_ble_eq_true rfl, Nat.le_of_ble_eq_true rfl⟩) hS (fun q _ h => hFc q h) hFc (fun r_3 u_1 t H_2 locs ht hvm hw hB hz1 hk1 hS1 => ?_)
  try dsimp only at hw
  subst hw
  obtain ⟨hg8, hg9, hP1, hD1⟩ := hB
  rw [ht] at hg8 hg9 hP1
  have hjn := xw_join3 (wl := []) hP hD [] [] hCs (by decide) (by decide) hk1 hFc hP1 hD1 rfl
  clear hP1 hD1
  clear hPc hDc hFc hCs hz hz1 hk1 ht hvm
  clear hP hD hS
  have hS := hS1
  obtain ⟨hP, hD⟩ := hjn
  clear hS1
  refine wk_narrow (k := 0) (n := 0) (by first | assumption | omega) (by first | assumption | omega) ?_
  clear hk8 hk9 hg8 hg9
  refine lv_ishr hx hb d_Str_length_9 ?_
  refine lv_topi (fun z_4 ez_4 => ?_)
  have ez_4 : z_4 = nI ((xsl.getD i9 0) / 1) := ez_4.trans (nb_shr (k := 0) (a := xsl.getD i9 0) (by decide) (by first | assumption | omega))
  subst ez_4
  rw [← hQe]
  refine wk_know (fun hk8 hk9 => ?_)
  refine W.widen (k := 0) (n := 0) (Nat.le_of_ble_eq_true rfl) (Nat.le_of_ble_eq_true rfl) ?_
  obtain ⟨hP9, hD9⟩ := xw_sub2 (wc := (fun (u : Nat → Nat)  => []) (ixn [((xsl.getD i9 0) / 1)]) ) hP hD [] (by decide) rfl
  have hg8 : H_2.size ≤ s.heap.size + (0) := by omega
  have hg9 : tsl H_2 ≤ tsl s.heap + (0) := by omega
  have hsp0 : ((xsl.getD i9 0) / 1) = xsl.getD i9 0 := (by first | assumption | omega)
  exact W.iret (v := nI ((xsl.getD i9 0) / 1)) hx hb hr (fun t ht hW => ⟨⟨nI ((xsl.getD i9 0) / 1), ixn [((xsl.getD i9 0) / 1)], rfl, ⟨rfl, hsp0⟩, ⟨by rw [ht]; exact hg8, by rw [ht]; exact hg9, by rw [ht]; exact hP9, hD9⟩⟩, hS.F ht⟩) hS.2.2 d_Str_length_10
abbrev b_Str_isLatin1 : ByteArray := prog_21_method_154_code
def y_Str_isLatin1 : MethodName := ⟨R_Str, "isLatin1", "()Z"⟩
theorem d_Str_isLatin1_0 : decode b_Str_isLatin1 0 = .ok (.getstatic 38, 3) := by decide +kernel
theorem d_Str_isLatin1_3 : decode b_Str_isLatin1 3 = .ok (.ifCond .eq 14, 3) := by decide +kernel
theorem d_Str_isLatin1_6 : decode b_Str_isLatin1 6 = .ok (.aload_n 0, 1) := by decide +kernel
theorem d_Str_isLatin1_7 : decode b_Str_isLatin1 7 = .ok (.getfield 15, 3) := by decide +kernel
theorem d_Str_isLatin1_10 : decode b_Str_isLatin1 10 = .ok (.ifCond .ne 7, 3) := by decide +kernel
theorem d_Str_isLatin1_13 : decode b_Str_isLatin1 13 = .ok (.iconst 1, 1) := by decide +kernel
theorem d_Str_isLatin1_14 : decode b_Str_isLatin1 14 = .ok (.goto 4, 3) := by decide +kernel
theorem d_Str_isLatin1_18 : decode b_Str_isLatin1 18 = .ok (.ireturn, 1) := by decide +kernel
set_option maxHeartbeats 40000000 in
set_option maxRecDepth 100000 in
theorem c_Z_isLatin1 (l : Launch) (D : va_G) (ax : Nat → ClassId) (ad av : Nat → Nat) (fm : Nat) (i9 : Nat) (sz tz : Nat) (hi9 : i9 < 11) : Met l y_Str_isLatin1 (xws (.code y_Str_isLatin1 b_Str_isLatin1 1 (some .boolean))) ({ frames := 10, cells := 0, slots := 0, locals := 400 }) (va_Pc [.ref (ad i9)] (xo4 D ax ad av fm [] sz tz)) ((va_Qi (fun (r : Int32) (u : Nat → Nat) => r = 1) (fun (u : Nat → Nat) (t9 : State) => (t9.heap.size ≤ sz + (0)) ∧ (tsl t9.heap ≤ tz + (0)) ∧ va_P D classes [] t9.heap ∧ va_D (va_A [] sz) []) (va_A [] sz))) 0 0 (va_A [] sz) := by
  refine Met.ofW (cc := b_Str_isLatin1) (maxL := 1) (ret := (some .boolean)) (by decide) rfl ?_
  intro p e s m args below meth c s₁ B hml hv
  obtain ⟨rfl, ⟨⟨hsz, hP, hK, hD0⟩, htz⟩, hX⟩ := hv
  have hx := B.exec
  have hb := B.bytes
  have hr := B.returns
  have hts := xw_hts B.pre
  have hown : s.vm.findClass R_Str = some m.cls := findClass_of_methodNamed B.named
  have hlocks := B.notSynchronized
  subst hsz
  subst htz
  have hD := hD0.self (sz := s.heap.size)
  have hN := xz_entry hP
  generalize hAe : va_A [] s.heap.size = A at hD hN hX ⊢
  have hA : ∀ q : Nat, s.heap.size ≤ q → A q := fun q h => by rw [← hAe]; exact Or.inr h
  have hS : va_S A s.heap s.heap [] := va_S.rf
  have hl0 := lv_entry ([.ref (ad i9)]) (n := 1) (Nat.le_of_ble_eq_true rfl)
  rw [lg_entry_eq]
  generalize (lg_sl ([.ref (ad i9)]) ++ List.replicate (1 - (lg_sl ([.ref (ad i9)])).length) Slot.unset).toArray = ls at hl0 ⊢
  have hl1 : lv_has ls 1 [(0, .ref (ad i9))] := hl0
  refine xw_gen (fun Z9 hQe => ?_)
  refine va_gets hx hb hX.2.2.1 hS hown (hts _ wd_463) (fun _ h9 => h9) d_Str_isLatin1_0 ?_
  refine lv_if_eq (tgt := 17) hx hb d_Str_isLatin1_3 (by decide) (fun c_1 => ?_) (fun c_1 => ?_)
  · first | exact absurd c_1 (by decide) | exact absurd (by decide) c_1
  refine lv_aload_n hx hb d_Str_isLatin1_6 rfl (lv_at hl1 0 rfl) ?_
  refine vk_getf hx hb (hX.1.1 i9 (by first | assumption | omega)).2.1 hS hown (hts _ wd_1611) (fun _ h9 => h9) d_Str_isLatin1_7 ?_
  refine lv_if_ne (tgt := 17) hx hb d_Str_isLatin1_10 (by decide) (fun c_2 => ?_) (fun c_2 => ?_)
  · first | exact absurd c_2 (by decide) | exact absurd (by decide) c_2
  refine lv_iconst (v := 1) hx hb d_Str_isLatin1_13 (by decide) ?_
  refine lv_goto (tgt := 18) hx hb d_Str_isLatin1_14 (by decide) ?_
  rw [← hQe]
  refine wk_know (fun hk8 hk9 => ?_)
  obtain ⟨hP9, hD9⟩ := xw_sub2 (wc := (fun (u : Nat → Nat)  => []) (ixn []) ) hP hD [] (by decide) rfl
  have hg8 : s.heap.size ≤ s.heap.size + (0) := by omega
  have hg9 : tsl s.heap ≤ tsl s.heap + (0) := by omega
  exact W.zret (v := 1) hx hb hr rfl (fun t ht hW => ⟨⟨1, ixn [], rfl, rfl, ⟨by rw [ht]; exact hg8, by rw [ht]; exact hg9, by rw [ht]; exact hP9, hD9⟩⟩, hS.F ht⟩) hS.2.2 d_Str_isLatin1_18
