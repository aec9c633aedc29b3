theorem wd_17 : ((Jvm.Cond.initialized "java/lang/StringLatin1")) ∈ lw_gd := lw_gd_in (i := 17) (by decide +kernel) rfl
theorem wd_18 : ((Jvm.Cond.initialized "jdk/internal/util/Preconditions")) ∈ lw_gd := lw_gd_in (i := 18) (by decide +kernel) rfl
theorem wd_469 : ((Jvm.Cond.methodLink "java/lang/String" (492 : Nat) ({ cls := "java/lang/String", name := "isLatin1", desc := "()Z" } : Jvm.MethodName))) ∈ lw_gd := lw_gd_in (i := 469) (by decide +kernel) rfl
theorem wd_470 : ((Jvm.Cond.instanceMethod ({ cls := "java/lang/String", name := "isLatin1", desc := "()Z" } : Jvm.MethodName))) ∈ lw_gd := lw_gd_in (i := 470) (by decide +kernel) rfl
theorem wd_471 : ((Jvm.Cond.selects "java/lang/String" ({ cls := "java/lang/String", name := "isLatin1", desc := "()Z" } : Jvm.MethodName) ({ cls := "java/lang/String", name := "isLatin1", desc := "()Z" } : Jvm.MethodName))) ∈ lw_gd := lw_gd_in (i := 471) (by decide +kernel) rfl
theorem wd_472 : ((Jvm.Cond.code ({ cls := "java/lang/String", name := "isLatin1", desc := "()Z" } : Jvm.MethodName) prog_21_method_154_code (1 : Nat) (Option.some Jvm.ClassFile.FieldType.boolean))) ∈ lw_gd := lw_gd_in (i := 472) (by decide +kernel) rfl
theorem wd_473 : ((Jvm.Cond.methodLink "java/lang/String" (495 : Nat) ({ cls := "java/lang/StringLatin1", name := "charAt", desc := "([BI)C" } : Jvm.MethodName))) ∈ lw_gd := lw_gd_in (i := 473) (by decide +kernel) rfl
theorem wd_474 : ((Jvm.Cond.static ({ cls := "java/lang/StringLatin1", name := "charAt", desc := "([BI)C" } : Jvm.MethodName))) ∈ lw_gd := lw_gd_in (i := 474) (by decide +kernel) rfl
theorem wd_475 : ((Jvm.Cond.code ({ cls := "java/lang/StringLatin1", name := "charAt", desc := "([BI)C" } : Jvm.MethodName) prog_22_method_2_code (2 : Nat) (Option.some Jvm.ClassFile.FieldType.char))) ∈ lw_gd := lw_gd_in (i := 475) (by decide +kernel) rfl
theorem wd_476 : ((Jvm.Cond.methodLink "java/lang/StringLatin1" (9 : Nat) ({ cls := "java/lang/String", name := "checkIndex", desc := "(II)V" } : Jvm.MethodName))) ∈ lw_gd := lw_gd_in (i := 476) (by decide +kernel) rfl
theorem wd_477 : ((Jvm.Cond.static ({ cls := "java/lang/String", name := "checkIndex", desc := "(II)V" } : Jvm.MethodName))) ∈ lw_gd := lw_gd_in (i := 477) (by decide +kernel) rfl
theorem wd_478 : ((Jvm.Cond.code ({ cls := "java/lang/String", name := "checkIndex", desc := "(II)V" } : Jvm.MethodName) prog_21_method_155_code (2 : Nat) (Option.none : Option Jvm.ClassFile.FieldType))) ∈ lw_gd := lw_gd_in (i := 478) (by decide +kernel) rfl
theorem wd_479 : ((Jvm.Cond.fieldLink "java/lang/String" (1053 : Nat) "jdk/internal/util/Preconditions" "SIOOBE_FORMATTER" "Ljava/util/function/BiFunction;")) ∈ lw_gd := lw_gd_in (i := 479) (by decide +kernel) rfl
theorem wd_481 : ((Jvm.Cond.methodLink "java/lang/String" (1059 : Nat) ({ cls := "jdk/internal/util/Preconditions", name := "checkIndex", desc := "(IILjava/util/function/BiFunction;)I" } : Jvm.MethodName))) ∈ lw_gd := lw_gd_in (i := 481) (by decide +kernel) rfl
theorem wd_482 : ((Jvm.Cond.static ({ cls := "jdk/internal/util/Preconditions", name := "checkIndex", desc := "(IILjava/util/function/BiFunction;)I" } : Jvm.MethodName))) ∈ lw_gd := lw_gd_in (i := 482) (by decide +kernel) rfl
theorem wd_483 : ((Jvm.Cond.code ({ cls := "jdk/internal/util/Preconditions", name := "checkIndex", desc := "(IILjava/util/function/BiFunction;)I" } : Jvm.MethodName) prog_27_method_11_code (3 : Nat) (Option.some Jvm.ClassFile.FieldType.int))) ∈ lw_gd := lw_gd_in (i := 483) (by decide +kernel) rfl
theorem nb_i2c {n : Nat} (h : n < 256) : ((nI n).toUInt32 % 65536).toInt32 = nI n := (by decide +kernel : ∀ n, n < 256 → ((nI n).toUInt32 % 65536).toInt32 = nI n) n h
theorem nI_char {n : Nat} (h : n < 256) : Jvm.narrow .char (.int (nI n)) = .int (nI n) := congrArg Value.int ((by decide +kernel : ∀ n, n < 256 → (nI n).toUInt32.toUInt16.toUInt32.toInt32 = nI n) n h)
abbrev b_Pcd_checkIndex : ByteArray := prog_27_method_11_code
def y_Pcd_checkIndex : MethodName := ⟨R_Pcd, "checkIndex", "(IILjava/util/function/BiFunction;)I"⟩
theorem d_Pcd_checkIndex_0 : decode b_Pcd_checkIndex 0 = .ok (.iload_n 0, 1) := by decide +kernel
theorem d_Pcd_checkIndex_1 : decode b_Pcd_checkIndex 1 = .ok (.ifCond .lt 8, 3) := by decide +kernel
theorem d_Pcd_checkIndex_4 : decode b_Pcd_checkIndex 4 = .ok (.iload_n 0, 1) := by decide +kernel
theorem d_Pcd_checkIndex_5 : decode b_Pcd_checkIndex 5 = .ok (.iload_n 1, 1) := by decide +kernel
theorem d_Pcd_checkIndex_6 : decode b_Pcd_checkIndex 6 = .ok (.if_icmp .lt 10, 3) := by decide +kernel
theorem d_Pcd_checkIndex_16 : decode b_Pcd_checkIndex 16 = .ok (.iload_n 0, 1) := by decide +kernel
theorem d_Pcd_checkIndex_17 : decode b_Pcd_checkIndex 17 = .ok (.ireturn, 1) := by decide +kernel
set_option maxHeartbeats 40000000 in
set_option maxRecDepth 100000 in
theorem c_Z_check0 (l : Launch) (D : va_G) (ax : Nat → ClassId) (j9 n9 f9 : Nat) (sz : Nat) (hj9 : j9 < n9) (hn9 : n9 < 2 ^ 31) : Met l y_Pcd_checkIndex (xws (.code y_Pcd_checkIndex b_Pcd_checkIndex 3 (some .int))) ({ frames := 10, cells := 0, slots := 0, locals := 400 }) (va_Pc [.int (nI j9), .int (nI n9), .ref f9] (xo D ax [] sz)) ((va_Qi (fun (r : Int32) (u : Nat → Nat) => r = nI j9) (xb D (va_A [] sz) (fun u => [])) (va_A [] sz))) 0 0 (va_A [] sz) := by
  refine Met.ofW (cc := b_Pcd_checkIndex) (maxL := 3) (ret := (some .int)) (by decide) rfl ?_
  intro p e s m args below meth c s₁ B hml hv
  obtain ⟨rfl, hsz, hP, hK, hD0⟩ := hv
  have hx := B.exec
  have hb := B.bytes
  have hr := B.returns
  have hts := xw_hts B.pre
  have hown : s.vm.findClass R_Pcd = some m.cls := findClass_of_methodNamed B.named
  have hlocks := B.notSynchronized
  subst hsz
  have hD := hD0.self (sz := s.heap.size)
  have hN := xz_entry hP
  generalize hAe : va_A [] s.heap.size = A at hD hN ⊢
  have hA : ∀ q : Nat, s.heap.size ≤ q → A q := fun q h => by rw [← hAe]; exact Or.inr h
  have hS : va_S A s.heap s.heap [] := va_S.rf
  have hl0 := lv_entry ([.int (nI j9), .int (nI n9), .ref f9]) (n := 3) (Nat.le_of_ble_eq_true rfl)
  rw [lg_entry_eq]
  generalize (lg_sl ([.int (nI j9), .int (nI n9), .ref f9]) ++ List.replicate (3 - (lg_sl ([.int (nI j9), .int (nI n9), .ref f9])).length) Slot.unset).toArray = ls at hl0 ⊢
  have hl1 : lv_has ls 3 [(0, .int (nI j9)), (1, .int (nI n9)), (2, .ref f9)] := hl0
  refine xw_gen (fun Z9 hQe => ?_)
  refine lv_iload_n hx hb d_Pcd_checkIndex_0 rfl (lv_at hl1 0 rfl) ?_
  refine lv_if_lt (tgt := 9) hx hb d_Pcd_checkIndex_1 (by decide) (fun c_1 => ?_) (fun c_1 => ?_)
  · exfalso
    replace c_1 : j9 < 0 := (nI_ltI (a := j9) (b := 0) (by first | exact Nat.lt_of_lt_of_le (by assumption) (by decide) | exact Nat.lt_of_le_of_lt (by assumption) (by decide) | omega) (by decide)).mp c_1
    omega
  replace c_1 : ¬ j9 < 0 := fun hq9 => c_1 ((nI_ltI (a := j9) (b := 0) (by first | exact Nat.lt_of_lt_of_le (by assumption) (by decide) | exact Nat.lt_of_le_of_lt (by assumption) (by decide) | omega) (by decide)).mpr hq9)
  refine lv_iload_n hx hb d_Pcd_checkIndex_4 rfl (lv_at hl1 0 rfl) ?_
  refine lv_iload_n hx hb d_Pcd_checkIndex_5 rfl (lv_at hl1 1 rfl) ?_
  refine lv_icmp_lt (tgt := 16) hx hb d_Pcd_checkIndex_6 (by decide) (fun c_2 => ?_) (fun c_2 => ?_)
  rotate_left
  · exfalso
    replace c_2 : ¬ j9 < n9 := fun hq9 => c_2 ((nI_ltI (a := j9) (b := n9) (by first | exact Nat.lt_of_lt_of_le (by assumption) (by decide) | exact Nat.lt_of_le_of_lt (by assumption) (by decide) | omega) (by first | exact Nat.lt_of_lt_of_le (by assumption) (by decide) | exact Nat.lt_of_le_of_lt (by assumption) (by decide) | omega)).mpr hq9)
    omega
  replace c_2 : j9 < n9 := (nI_ltI (a := j9) (b := n9) (by first | exact Nat.lt_of_lt_of_le (by assumption) (by decide) | exact Nat.lt_of_le_of_lt (by assumption) (by decide) | omega) (by first | exact Nat.lt_of_lt_of_le (by assumption) (by decide) | exact Nat.lt_of_le_of_lt (by assumption) (by decide) | omega)).mp c_2
  refine lv_iload_n hx hb d_Pcd_checkIndex_16 rfl (lv_at hl1 0 rfl) ?_
  rw [← hQe]
  obtain ⟨hP9, hD9⟩ := xw_sub2 (wc := (fun u : Nat → Nat => []) (ixn [])) hP hD [] (by decide) rfl
  exact W.iret (v := nI j9) hx hb hr (fun t ht hW => ⟨⟨nI j9, ixn [], rfl, rfl, ⟨by rw [ht]; exact hP9, hD9⟩⟩, hS.F ht⟩) hS.2.2 d_Pcd_checkIndex_17
set_option maxHeartbeats 40000000 in
set_option maxRecDepth 100000 in
theorem c_Z_check0n (l : Launch) (D : va_G) (ax : Nat → ClassId) (j9 n9 : Nat) (sz : Nat) (hj9 : j9 < n9) (hn9 : n9 < 2 ^ 31) : Met l y_Pcd_checkIndex (xws (.code y_Pcd_checkIndex b_Pcd_checkIndex 3 (some .int))) ({ frames := 10, cells := 0, slots := 0, locals := 400 }) (va_Pc [.int (nI j9), .int (nI n9), .null] (xo D ax [] sz)) ((va_Qi (fun (r : Int32) (u : Nat → Nat) => r = nI j9) (xb D (va_A [] sz) (fun u => [])) (va_A [] sz))) 0 0 (va_A [] sz) := by
  refine Met.ofW (cc := b_Pcd_checkIndex) (maxL := 3) (ret := (some .int)) (by decide) rfl ?_
  intro p e s m args below meth c s₁ B hml hv
  obtain ⟨rfl, hsz, hP, hK, hD0⟩ := hv
  have hx := B.exec
  have hb := B.bytes
  have hr := B.returns
  have hts := xw_hts B.pre
  have hown : s.vm.findClass R_Pcd = some m.cls := findClass_of_methodNamed B.named
  have hlocks := B.notSynchronized
  subst hsz
  have hD := hD0.self (sz := s.heap.size)
  have hN := xz_entry hP
  generalize hAe : va_A [] s.heap.size = A at hD hN ⊢
  have hA : ∀ q : Nat, s.heap.size ≤ q → A q := fun q h => by rw [← hAe]; exact Or.inr h
  have hS : va_S A s.heap s.heap [] := va_S.rf
  have hl0 := lv_entry ([.int (nI j9), .int (nI n9), .null]) (n := 3) (Nat.le_of_ble_eq_true rfl)
  rw [lg_entry_eq]
  generalize (lg_sl ([.int (nI j9), .int (nI n9), .null]) ++ List.replicate (3 - (lg_sl ([.int (nI j9), .int (nI n9), .null])).length) Slot.unset).toArray = ls at hl0 ⊢
  have hl1 : lv_has ls 3 [(0, .int (nI j9)), (1, .int (nI n9)), (2, .null)] := hl0
  refine xw_gen (fun Z9 hQe => ?_)
  refine lv_iload_n hx hb d_Pcd_checkIndex_0 rfl (lv_at hl1 0 rfl) ?_
  refine lv_if_lt (tgt := 9) hx hb d_Pcd_checkIndex_1 (by decide) (fun c_1 => ?_) (fun c_1 => ?_)
  · exfalso
    replace c_1 : j9 < 0 := (nI_ltI (a := j9) (b := 0) (by first | exact Nat.lt_of_lt_of_le (by assumption) (by decide) | exact Nat.lt_of_le_of_lt (by assumption) (by decide) | omega) (by decide)).mp c_1
    omega
  replace c_1 : ¬ j9 < 0 := fun hq9 => c_1 ((nI_ltI (a := j9) (b := 0) (by first | exact Nat.lt_of_lt_of_le (by assumption) (by decide) | exact Nat.lt_of_le_of_lt (by assumption) (by decide) | omega) (by decide)).mpr hq9)
  refine lv_iload_n hx hb d_Pcd_checkIndex_4 rfl (lv_at hl1 0 rfl) ?_
  refine lv_iload_n hx hb d_Pcd_checkIndex_5 rfl (lv_at hl1 1 rfl) ?_
  refine lv_icmp_lt (tgt := 16) hx hb d_Pcd_checkIndex_6 (by decide) (fun c_2 => ?_) (fun c_2 => ?_)
  rotate_left
  · exfalso
    replace c_2 : ¬ j9 < n9 := fun hq9 => c_2 ((nI_ltI (a := j9) (b := n9) (by first | exact Nat.lt_of_lt_of_le (by assumption) (by decide) | exact Nat.lt_of_le_of_lt (by assumption) (by decide) | omega) (by first | exact Nat.lt_of_lt_of_le (by assumption) (by decide) | exact Nat.lt_of_le_of_lt (by assumption) (by decide) | omega)).mpr hq9)
    omega
  replace c_2 : j9 < n9 := (nI_ltI (a := j9) (b := n9) (by first | exact Nat.lt_of_lt_of_le (by assumption) (by decide) | exact Nat.lt_of_le_of_lt (by assumption) (by decide) | omega) (by first | exact Nat.lt_of_lt_of_le (by assumption) (by decide) | exact Nat.lt_of_le_of_lt (by assumption) (by decide) | omega)).mp c_2
  refine lv_iload_n hx hb d_Pcd_checkIndex_16 rfl (lv_at hl1 0 rfl) ?_
  rw [← hQe]
  obtain ⟨hP9, hD9⟩ := xw_sub2 (wc := (fun u : Nat → Nat => []) (ixn [])) hP hD [] (by decide) rfl
  exact W.iret (v := nI j9) hx hb hr (fun t ht hW => ⟨⟨nI j9, ixn [], rfl, rfl, ⟨by rw [ht]; exact hP9, hD9⟩⟩, hS.F ht⟩) hS.2.2 d_Pcd_checkIndex_17
abbrev b_Str_checkIndex : ByteArray := prog_21_method_155_code
def y_Str_checkIndex : MethodName := ⟨R_Str, "checkIndex", "(II)V"⟩
theorem d_Str_checkIndex_0 : decode b_Str_checkIndex 0 = .ok (.iload_n 0, 1) := by decide +kernel
theorem d_Str_checkIndex_1 : decode b_Str_checkIndex 1 = .ok (.iload_n 1, 1) := by decide +kernel
theorem d_Str_checkIndex_2 : decode b_Str_checkIndex 2 = .ok (.getstatic 1053, 3) := by decide +kernel
theorem d_Str_checkIndex_5 : decode b_Str_checkIndex 5 = .ok (.invokestatic 1059, 3) := by decide +kernel
theorem d_Str_checkIndex_8 : decode b_Str_checkIndex 8 = .ok (.pop, 1) := by decide +kernel
theorem d_Str_checkIndex_9 : decode b_Str_checkIndex 9 = .ok (.return_, 1) := by decide +kernel
set_option maxHeartbeats 40000000 in
set_option maxRecDepth 100000 in
theorem c_Z_check (l : Launch) (D : va_G) (ax : Nat → ClassId) (ad av : Nat → Nat) (fm : Nat) (j9 n9 : Nat) (sz tz : Nat) (hj9 : j9 < n9) (hn9 : n9 < 2 ^ 31) : Met l y_Str_checkIndex (xws (.code y_Str_checkIndex b_Str_checkIndex 2 none)) ({ frames := 20, cells := 0, slots := 0, locals := 800 }) (va_Pc [.int (nI j9), .int (nI n9)] (xo4 D ax ad av fm [] sz tz)) ((va_Qv (fun (u : Nat → Nat) => True) (fun (u : Nat → Nat) (t9 : State) => (t9.heap.size ≤ sz + (0)) ∧ (tsl t9.heap ≤ tz + (0)) ∧ va_P D classes [] t9.heap ∧ va_D (va_A [] sz) []) (va_A [] sz))) 0 0 (va_A [] sz) := by
  refine Met.ofW (cc := b_Str_checkIndex) (maxL := 2) (ret := none) (by decide) rfl ?_
  intro p e s m args below meth c s₁ B hml hv
  obtain ⟨rfl, ⟨⟨hsz, hP, hK, hD0⟩, htz⟩, hX⟩ := hv
  have hx := B.exec
  have hb := B.bytes
  have hr := B.returns
  have hts := xw_hts B.pre
  have hown : s.vm.findClass R_Str = some m.cls := findClass_of_methodNamed B.named
  have hlocks := B.notSynchronized
  subst hsz
  subst htz
  have hD := hD0.self (sz := s.heap.size)
  have hN := xz_entry hP
  generalize hAe : va_A [] s.heap.size = A at hD hN hX ⊢
  have hA : ∀ q : Nat, s.heap.size ≤ q → A q := fun q h => by rw [← hAe]; exact Or.inr h
  have hS : va_S A s.heap s.heap [] := va_S.rf
  have hl0 := lv_entry ([.int (nI j9), .int (nI n9)]) (n := 2) (Nat.le_of_ble_eq_true rfl)
  rw [lg_entry_eq]
  generalize (lg_sl ([.int (nI j9), .int (nI n9)]) ++ List.replicate (2 - (lg_sl ([.int (nI j9), .int (nI n9)])).length) Slot.unset).toArray = ls at hl0 ⊢
  have hl1 : lv_has ls 2 [(0, .int (nI j9)), (1, .int (nI n9))] := hl0
  refine xw_gen (fun Z9 hQe => ?_)
  refine lv_iload_n hx hb d_Str_checkIndex_0 rfl (lv_at hl1 0 rfl) ?_
  refine lv_iload_n hx hb d_Str_checkIndex_1 rfl (lv_at hl1 1 rfl) ?_
  rcases hX.2.2.2 with hfm | hfm
  · refine va_gets hx hb hfm hS hown (hts _ wd_479) (fun _ h9 => h9) d_Str_checkIndex_2 ?_
    obtain ⟨hPc, hDc, hFc, hCs⟩ := xw_sub3 (wc := []) hP hD hS hA [] (by decide) rfl
    have hz := xz_of hN hS
    refine va_calli (va_runS (As := [.int (nI j9), .int (nI n9), .ref fm]) (rest := []) ⟨hx, hb, hml, hown, hts⟩ (c_Z_check0 l D ax j9 n9 fm s.heap.size (by first | assumption | omega) (by first | assumption | omega)) (xcS (n := 3) hts wd_483 wd_18 wd_481 wd_482 rfl rfl (by decide +kernel) ⟨Nat.le_of_ble_eq_true rfl, Nat.le_of_ble_eq_true rfl⟩) (xpS (As := [.int (nI j9), .int (nI n9), .ref fm]) hPc hK hz hDc) rfl rfl hl1.1 rfl (lv_room (Nat.le_of_ble_eq_true rfl)) d_Str_checkIndex_5 ⟨Nat.le_of_ble_eq_true rfl, Nat.le_of_ble_eq_true rfl⟩) hS (fun q _ h => hFc q h) hFc (fun r_3 u_1 t H_2 locs ht hvm hw hB hz1 hk1 hS1 => ?_)
    try dsimp only at hw
    subst hw
    obtain ⟨hP1, hD1⟩ := hB
    rw [ht] at hP1
    have hjn := xw_join3 (wl := []) hP hD [] [] hCs (by decide) (by decide) hk1 hFc hP1 hD1 rfl
    clear hP1 hD1
    clear hPc hDc hFc hCs hz hz1 hk1 ht hvm
    clear hP hD hS
    have hS := hS1
    obtain ⟨hP, hD⟩ := hjn
    clear hS1
    refine lv_pop hx hb d_Str_checkIndex_8 rfl ?_
    rw [← hQe]
    refine wk_know (fun hk8 hk9 => ?_)
    obtain ⟨hP9, hD9⟩ := xw_sub2 (wc := (fun (u : Nat → Nat)  => []) (ixn []) ) hP hD [] (by decide) rfl
    have hg8 : H_2.size ≤ s.heap.size + (0) := by omega
    have hg9 : tsl H_2 ≤ tsl s.heap + (0) := by omega
    exact W.vret hx hb hr (fun t ht hW => ⟨⟨ixn [], rfl, trivial, ⟨by rw [ht]; exact hg8, by rw [ht]; exact hg9, by rw [ht]; exact hP9, hD9⟩⟩, hS.F ht⟩) hS.2.2 d_Str_checkIndex_9
  · refine va_gets hx hb hfm hS hown (hts _ wd_479) (fun _ h9 => h9) d_Str_checkIndex_2 ?_
    obtain ⟨hPc, hDc, hFc, hCs⟩ := xw_sub3 (wc := []) hP hD hS hA [] (by decide) rfl
    have hz := xz_of hN hS
    refine va_calli (va_runS (As := [.int (nI j9), .int (nI n9), .null]) (rest := []) ⟨hx, hb, hml, hown, hts⟩ (c_Z_check0n l D ax j9 n9 s.heap.size (by first | assumption | omega) (by first | assumption | omega)) (xcS (n := 3) hts wd_483 wd_18 wd_481 wd_482 rfl rfl (by decide +kernel) ⟨Nat.le_of_ble_eq_true rfl, Nat.le_of_ble_eq_true rfl⟩) (xpS (As := [.int (nI j9), .int (nI n9), .null]) hPc hK hz hDc) rfl rfl hl1.1 rfl (lv_room (Nat.le_of_ble_eq_true rfl)) d_Str_checkIndex_5 ⟨Nat.le_of_ble_eq_true rfl, Nat.le_of_ble_eq_true rfl⟩) hS (fun q _ h => hFc q h) hFc (fun r_6 u_4 t H_5 locs ht hvm hw hB hz1 hk1 hS1 => ?_)
    try dsimp only at hw
    subst hw
    obtain ⟨hP1, hD1⟩ := hB
    rw [ht] at hP1
    have hjn := xw_join3 (wl := []) hP hD [] [] hCs (by decide) (by decide) hk1 hFc hP1 hD1 rfl
    clear hP1 hD1
    clear hPc hDc hFc hCs hz hz1 hk1 ht hvm
    clear hP hD hS
    have hS := hS1
    obtain ⟨hP, hD⟩ := hjn
    clear hS1
    refine lv_pop hx hb d_Str_checkIndex_8 rfl ?_
    rw [← hQe]
    refine wk_know (fun hk8 hk9 => ?_)
    obtain ⟨hP9, hD9⟩ := xw_sub2 (wc := (fun (u : Nat → Nat)  => []) (ixn []) ) hP hD [] (by decide) rfl
    have hg8 : H_5.size ≤ s.heap.size + (0) := by omega
    have hg9 : tsl H_5 ≤ tsl s.heap + (0) := by omega
    exact W.vret hx hb hr (fun t ht hW => ⟨⟨ixn [], rfl, trivial, ⟨by rw [ht]; exact hg8, by rw [ht]; exact hg9, by rw [ht]; exact hP9, hD9⟩⟩, hS.F ht⟩) hS.2.2 d_Str_checkIndex_9
abbrev b_StrL_charAt : ByteArray := prog_22_method_2_code
def y_StrL_charAt : MethodName := ⟨R_StrL, "charAt", "([BI)C"⟩
theorem d_StrL_charAt_0 : decode b_StrL_charAt 0 = .ok (.iload_n 1, 1) := by decide +kernel
theorem d_StrL_charAt_1 : decode b_StrL_charAt 1 = .ok (.aload_n 0, 1) := by decide +kernel
theorem d_StrL_charAt_2 : decode b_StrL_charAt 2 = .ok (.arraylength, 1) := by decide +kernel
theorem d_StrL_charAt_3 : decode b_StrL_charAt 3 = .ok (.invokestatic 9, 3) := by decide +kernel
theorem d_StrL_charAt_6 : decode b_StrL_charAt 6 = .ok (.aload_n 0, 1) := by decide +kernel
theorem d_StrL_charAt_7 : decode b_StrL_charAt 7 = .ok (.iload_n 1, 1) := by decide +kernel
theorem d_StrL_charAt_8 : decode b_StrL_charAt 8 = .ok (.baload, 1) := by decide +kernel
theorem d_StrL_charAt_9 : decode b_StrL_charAt 9 = .ok (.sipush 255, 3) := by decide +kernel
theorem d_StrL_charAt_12 : decode b_StrL_charAt 12 = .ok (.iand, 1) := by decide +kernel
theorem d_StrL_charAt_13 : decode b_StrL_charAt 13 = .ok (.i2c, 1) := by decide +kernel
theorem d_StrL_charAt_14 : decode b_StrL_charAt 14 = .ok (.ireturn, 1) := by decide +kernel
set_option maxHeartbeats 40000000 in
set_option maxRecDepth 100000 in
theorem c_Z_charL (l : Launch) (D : va_G) (ax : Nat → ClassId) (ad av : Nat → Nat) (fm : Nat) (i9 : Nat) (j9 : Nat) (sz tz : Nat) (hi9 : i9 < 11) (hj9 : j9 < xsl.getD i9 0) : Met l y_StrL_charAt (xws (.code y_StrL_charAt b_StrL_charAt 2 (some .char))) ({ frames := 30, cells := 0, slots := 0, locals := 1200 }) (va_Pc [.ref (av i9), .int (nI j9)] (xo4 D ax ad av fm [] sz tz)) ((va_Qi (fun (r : Int32) (u : Nat → Nat) => r = nI (u 0) ∧ (u 0 < 256 ∧ u 0 = i2n ((xsb.getD i9 []).getD j9 0) % 256)) (fun (u : Nat → Nat) (t9 : State) => (t9.heap.size ≤ sz + (0)) ∧ (tsl t9.heap ≤ tz + (0)) ∧ va_P D classes [] t9.heap ∧ va_D (va_A [] sz) []) (va_A [] sz))) 0 0 (va_A [] sz) := by
  refine Met.ofW (cc := b_StrL_charAt) (maxL := 2) (ret := (some .char)) (by decide) rfl ?_
  intro p e s m args below meth c s₁ B hml hv
  obtain ⟨rfl, ⟨⟨hsz, hP, hK, hD0⟩, htz⟩, hX⟩ := hv
  have hx := B.exec
  have hb := B.bytes
  have hr := B.returns
  have hts := xw_hts B.pre
  have hown : s.vm.findClass R_StrL = some m.cls := findClass_of_methodNamed B.named
  have hlocks := B.notSynchronized
  subst hsz
  subst htz
  have hD := hD0.self (sz := s.heap.size)
  have hN := xz_entry hP
  generalize hAe : va_A [] s.heap.size = A at hD hN hX ⊢
  have hA : ∀ q : Nat, s.heap.size ≤ q → A q := fun q h => by rw [← hAe]; exact Or.inr h
  have hS : va_S A s.heap s.heap [] := va_S.rf
  have hl0 := lv_entry ([.ref (av i9), .int (nI j9)]) (n := 2) (Nat.le_of_ble_eq_true rfl)
  rw [lg_entry_eq]
  generalize (lg_sl ([.ref (av i9), .int (nI j9)]) ++ List.replicate (2 - (lg_sl ([.ref (av i9), .int (nI j9)])).length) Slot.unset).toArray = ls at hl0 ⊢
  have hl1 : lv_has ls 2 [(0, .ref (av i9)), (1, .int (nI j9))] := hl0
  refine xw_gen (fun Z9 hQe => ?_)
  have hx6 := xsl_le hi9
  refine lv_iload_n hx hb d_StrL_charAt_0 rfl (lv_at hl1 1 rfl) ?_
  refine lv_aload_n hx hb d_StrL_charAt_1 rfl (lv_at hl1 0 rfl) ?_
  refine va_tlen hx hb (hX.1.1 i9 (by first | assumption | omega)).2.2.2 hS (v := nI (xsl.getD i9 0)) rfl d_StrL_charAt_2 ?_
  obtain ⟨hPc, hDc, hFc, hCs⟩ := xw_sub3 (wc := []) hP hD hS hA [] (by decide) rfl
  have hz := xz_of hN hS
  refine wk_know (fun hk8 hk9 => ?_)
  refine va_callv (va_runS (As := [.int (nI j9), .int (nI (xsl.getD i9 0))]) (rest := []) ⟨hx, hb, hml, hown, hts⟩ (c_Z_check l D ax ad av fm j9 (xsl.getD i9 0) s.heap.size (tsl s.heap) (by first | assumption | omega) (by first | assumption | omega)) (xcS (n := 2) hts wd_478 wd_16 wd_476 wd_477 rfl rfl (by decide +kernel) ⟨Nat.le_of_ble_eq_true rfl, Nat.le_of_ble_eq_true rfl⟩) (xpS4 (As := [.int (nI j9), .int (nI (xsl.getD i9 0))]) hX hS hFc hPc hK hz hDc) rfl rfl hl1.1 rfl (lv_room (Nat.le_of_ble_eq_true rfl)) d_StrL_charAt_3 ⟨Nat.le_of_ble_eq_true rfl, Nat.le_of_ble_eq_true rfl⟩) hS (fun q _ h => hFc q h) hFc (fun u_1 t H_2 locs ht hvm hw hB hz1 hk1 hS1 => ?_)
  try dsimp only at hw
  obtain ⟨hg8, hg9, hP1, hD1⟩ := hB
  rw [ht] at hg8 hg9 hP1
  have hjn := xw_join3 (wl := []) hP hD [] [] hCs (by decide) (by decide) hk1 hFc hP1 hD1 rfl
  clear hP1 hD1
  clear hPc hDc hFc hCs hz hz1 hk1 ht hvm
  clear hP hD hS
  have hS := hS1
  obtain ⟨hP, hD⟩ := hjn
  clear hS1
  refine wk_narrow (k := 0) (n := 0) (by first | assumption | omega) (by first | assumption | omega) ?_
  clear hk8 hk9 hg8 hg9
  refine lv_aload_n hx hb d_StrL_charAt_6 rfl (lv_at hl1 0 rfl) ?_
  refine lv_iload_n hx hb d_StrL_charAt_7 rfl (lv_at hl1 1 rfl) ?_
  refine va_tb hx hb (hX.1.1 i9 (by first | assumption | omega)).2.2.2 hS (vp_in_nI (by first | assumption | omega) (by first | exact Nat.lt_of_lt_of_le (by assumption) (by decide) | exact Nat.lt_of_le_of_lt (by assumption) (by decide) | omega)) rfl d_StrL_charAt_8 ?_
  refine lv_topi (fun z_4 ez_4 => ?_)
  refine lv_sipush (v := 255) hx hb d_StrL_charAt_9 (by decide) ?_
  refine lv_iand hx hb d_StrL_charAt_12 ?_
  refine lv_topi (fun z_5 ez_5 => ?_)
  have ez_5 : z_5 = nI (i2n z_4 % 256) := ez_5.trans (nb_andm 8 z_4)
  subst ez_5
  refine lv_i2c (v := nI (i2n z_4 % 256)) hx hb d_StrL_charAt_13 (nb_i2c (by first | assumption | omega)) ?_
  rw [← hQe]
  refine wk_know (fun hk8 hk9 => ?_)
  refine W.widen (k := 0) (n := 0) (Nat.le_of_ble_eq_true rfl) (Nat.le_of_ble_eq_true rfl) ?_
  obtain ⟨hP9, hD9⟩ := xw_sub2 (wc := (fun (u : Nat → Nat)  => []) (ixn [(i2n z_4 % 256)]) ) hP hD [] (by decide) rfl
  have hg8 : H_2.size ≤ s.heap.size + (0) := by omega
  have hg9 : tsl H_2 ≤ tsl s.heap + (0) := by omega
  have hsp0 : (i2n z_4 % 256) < 256 := (by first | assumption | omega)
  have hsp1 : (i2n z_4 % 256) = i2n ((xsb.getD i9 []).getD j9 0) % 256 := (by rw [ez_4, nI_clamp (by first | assumption | omega)])
  exact W.zret (v := nI (i2n z_4 % 256)) hx hb hr (nI_char (by first | assumption | omega)) (fun t ht hW => ⟨⟨nI (i2n z_4 % 256), ixn [(i2n z_4 % 256)], rfl, ⟨rfl, ⟨hsp0, hsp1⟩⟩, ⟨by rw [ht]; exact hg8, by rw [ht]; exact hg9, by rw [ht]; exact hP9, hD9⟩⟩, hS.F ht⟩) hS.2.2 d_StrL_charAt_14
abbrev b_Str_charAt : ByteArray := prog_21_method_56_code
def y_Str_charAt : MethodName := ⟨R_Str, "charAt", "(I)C"⟩
theorem d_Str_charAt_0 : decode b_Str_charAt 0 = .ok (.aload_n 0, 1) := by decide +kernel
theorem d_Str_charAt_1 : decode b_Str_charAt 1 = .ok (.invokevirtual 492, 3) := by decide +kernel
theorem d_Str_charAt_4 : decode b_Str_charAt 4 = .ok (.ifCond .eq 12, 3) := by decide +kernel
theorem d_Str_charAt_7 : decode b_Str_charAt 7 = .ok (.aload_n 0, 1) := by decide +kernel
theorem d_Str_charAt_8 : decode b_Str_charAt 8 = .ok (.getfield 9, 3) := by decide +kernel
theorem d_Str_charAt_11 : decode b_Str_charAt 11 = .ok (.iload_n 1, 1) := by decide +kernel
theorem d_Str_charAt_12 : decode b_Str_charAt 12 = .ok (.invokestatic 495, 3) := by decide +kernel
theorem d_Str_charAt_15 : decode b_Str_charAt 15 = .ok (.ireturn, 1) := by decide +kernel
set_option maxHeartbeats 40000000 in
set_option maxRecDepth 100000 in
theorem c_Z_charAt (l : Launch) (D : va_G) (ax : Nat → ClassId) (ad av : Nat → Nat) (fm : Nat) (i9 : Nat) (j9 : Nat) (sz tz : Nat) (hi9 : i9 < 11) (hj9 : j9 < xsl.getD i9 0) : Met l y_Str_charAt (xws (.code y_Str_charAt b_Str_charAt 2 (some .char))) ({ frames := 40, cells := 0, slots := 0, locals := 1600 }) (va_Pc [.ref (ad i9), .int (nI j9)] (xo4 D ax ad av fm [] sz tz)) ((va_Qi (fun (r : Int32) (u : Nat → Nat) => r = nI (u 0) ∧ (u 0 < 256 ∧ u 0 = i2n ((xsb.getD i9 []).getD j9 0) % 256)) (fun (u : Nat → Nat) (t9 : State) => (t9.heap.size ≤ sz + (0)) ∧ (tsl t9.heap ≤ tz + (0)) ∧ va_P D classes [] t9.heap ∧ va_D (va_A [] sz) []) (va_A [] sz))) 0 0 (va_A [] sz) := by
  refine Met.ofW (cc := b_Str_charAt) (maxL := 2) (ret := (some .char)) (by decide) rfl ?_
  intro p e s m args below meth c s₁ B hml hv
  obtain ⟨rfl, ⟨⟨hsz, hP, hK, hD0⟩, htz⟩, hX⟩ := hv
  have hx := B.exec
  have hb := B.bytes
  have hr := B.returns
  have hts := xw_hts B.pre
  have hown : s.vm.findClass R_Str = some m.cls := findClass_of_methodNamed B.named
  have hlocks := B.notSynchronized
  subst hsz
  subst htz
  have hD := hD0.self (sz := s.heap.size)
  have hN := xz_entry hP
  generalize hAe : va_A [] s.heap.size = A at hD hN hX ⊢
  have hA : ∀ q : Nat, s.heap.size ≤ q → A q := fun q h => by rw [← hAe]; exact Or.inr h
  have hS : va_S A s.heap s.heap [] := va_S.rf
  have hl0 := lv_entry ([.ref (ad i9), .int (nI j9)]) (n := 2) (Nat.le_of_ble_eq_true rfl)
  rw [lg_entry_eq]
  generalize (lg_sl ([.ref (ad i9), .int (nI j9)]) ++ List.replicate (2 - (lg_sl ([.ref (ad i9), .int (nI j9)])).length) Slot.unset).toArray = ls at hl0 ⊢
  have hl1 : lv_has ls 2 [(0, .ref (ad i9)), (1, .int (nI j9))] := hl0
  refine xw_gen (fun Z9 hQe => ?_)
  have hx6 := xsl_le hi9
  refine lv_aload_n hx hb d_Str_charAt_0 rfl (lv_at hl1 0 rfl) ?_
  obtain ⟨hPc, hDc, hFc, hCs⟩ := xw_sub3 (wc := []) hP hD hS hA [] (by decide) rfl
  have hz := xz_of hN hS
  refine wk_know (fun hk8 hk9 => ?_)
  refine va_calli (va_runV (As := []) (rest := []) ⟨hx, hb, hml, hown, hts⟩ (c_Z_isLatin1 l D ax ad av fm i9 s.heap.size (tsl s.heap) (by first | assumption | omega)) (xcV (n := 0) hts wd_472 wd_16 wd_469 wd_470 wd_471 rfl rfl (by decide +kernel) ⟨Nat.le_of_ble_eq_true rfl, Nat.le_of_ble_eq_true rfl⟩) (xpK4 (i := i9) (As := []) (by first | assumption | omega) hX hS hFc hPc hK hz hDc) rfl rfl hl1.1 rfl (lv_room (Nat.le_of_ble_eq_true rfl)) d_Str_charAt_1 ⟨Nat.le_of_ble_eq_true rfl, Nat.le_of_ble_eq_true rfl⟩) hS (fun q _ h => hFc q h) hFc (fun r_3 u_1 t H_2 locs ht hvm hw hB hz1 hk1 hS1 => ?_)
  try dsimp only at hw
  subst hw
  obtain ⟨hg8, hg9, hP1, hD1⟩ := hB
  rw [ht] at hg8 hg9 hP1
  have hjn := xw_join3 (wl := []) hP hD [] [] hCs (by decide) (by decide) hk1 hFc hP1 hD1 rfl
  clear hP1 hD1
  clear hPc hDc hFc hCs hz hz1 hk1 ht hvm
  clear hP hD hS
  have hS := hS1
  obtain ⟨hP, hD⟩ := hjn
  clear hS1
  refine wk_narrow (k := 0) (n := 0) (by first | assumption | omega) (by first | assumption | omega) ?_
  clear hk8 hk9 hg8 hg9
  refine lv_if_eq (tgt := 16) hx hb d_Str_charAt_4 (by decide) (fun c_4 => ?_) (fun c_4 => ?_)
  · first | exact absurd c_4 (by decide) | exact absurd (by decide) c_4
  refine lv_aload_n hx hb d_Str_charAt_7 rfl (lv_at hl1 0 rfl) ?_
  refine vk_getf hx hb (hX.1.1 i9 (by first | assumption | omega)).2.2.1 hS hown (hts _ wd_1610) (fun _ h9 => h9) d_Str_charAt_8 ?_
  refine lv_iload_n hx hb d_Str_charAt_11 rfl (lv_at hl1 1 rfl) ?_
  obtain ⟨hPc, hDc, hFc, hCs⟩ := xw_sub3 (wc := []) hP hD hS hA [] (by decide) rfl
  have hz := xz_of hN hS
  refine wk_know (fun hk8 hk9 => ?_)
  refine va_calli (va_runS (As := [.ref (av i9), .int (nI j9)]) (rest := []) ⟨hx, hb, hml, hown, hts⟩ (c_Z_charL l D ax ad av fm i9 j9 H_2.size (tsl H_2) (by first | assumption | omega) (by first | assumption | omega)) (xcS (n := 2) hts wd_475 wd_17 wd_473 wd_474 rfl rfl (by decide +kernel) ⟨Nat.le_of_ble_eq_true rfl, Nat.le_of_ble_eq_true rfl⟩) (xpS4 (As := [.ref (av i9), .int (nI j9)]) hX hS hFc hPc hK hz hDc) rfl rfl hl1.1 rfl (lv_room (Nat.le_of_ble_eq_true rfl)) d_Str_charAt_12 ⟨(show (0) + (0) ≤ (0) by omega), (show (0) + (0) ≤ (0) by omega)⟩) hS (fun q _ h => hFc q h) hFc (fun r_7 u_5 t H_6 locs ht hvm hw hB hz1 hk1 hS1 => ?_)
  try dsimp only at hw
  obtain ⟨hw, hs_8, hs_9⟩ := hw
  subst hw
  obtain ⟨hg8, hg9, hP1, hD1⟩ := hB
  rw [ht] at hg8 hg9 hP1
  have hjn := xw_join3 (wl := []) hP hD [] [] hCs (by decide) (by decide) hk1 hFc hP1 hD1 rfl
  clear hP1 hD1
  clear hPc hDc hFc hCs hz hz1 hk1 ht hvm
  clear hP hD hS
  have hS := hS1
  obtain ⟨hP, hD⟩ := hjn
  clear hS1
  refine wk_narrow (k := 0 + (0)) (n := 0 + (0)) (by first | assumption | omega) (by first | assumption | omega) ?_
  clear hk8 hk9 hg8 hg9
  rw [← hQe]
  refine wk_know (fun hk8 hk9 => ?_)
  refine W.widen (k := 0) (n := 0) (Nat.le_of_ble_eq_true rfl) (Nat.le_of_ble_eq_true rfl) ?_
  obtain ⟨hP9, hD9⟩ := xw_sub2 (wc := (fun (u : Nat → Nat)  => []) (ixn [(u_5 0)]) ) hP hD [] (by decide) rfl
  have hg8 : H_6.size ≤ s.heap.size + (0) := by omega
  have hg9 : tsl H_6 ≤ tsl s.heap + (0) := by omega
  have hsp0 : (u_5 0) < 256 := (by first | assumption | omega)
  have hsp1 : (u_5 0) = i2n ((xsb.getD i9 []).getD j9 0) % 256 := (by assumption)
  exact W.zret (v := nI (u_5 0)) hx hb hr (nI_char (by first | assumption | omega)) (fun t ht hW => ⟨⟨nI (u_5 0), ixn [(u_5 0)], rfl, ⟨rfl, ⟨hsp0, hsp1⟩⟩, ⟨by rw [ht]; exact hg8, by rw [ht]; exact hg9, by rw [ht]; exact hP9, hD9⟩⟩, hS.F ht⟩) hS.2.2 d_Str_charAt_15
