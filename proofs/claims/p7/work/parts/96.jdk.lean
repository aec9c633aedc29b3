theorem wd_13 : ((Jvm.Cond.initialized "java/lang/Math")) ∈ lw_gd := lw_gd_in (i := 13) (by decide +kernel) rfl
theorem wd_14 : ((Jvm.Cond.initialized "java/lang/System")) ∈ lw_gd := lw_gd_in (i := 14) (by decide +kernel) rfl
theorem wd_67 : ((Jvm.Cond.arrayClass Jvm.ClassFile.FieldType.byte)) ∈ lw_gd := lw_gd_in (i := 67) (by decide +kernel) rfl
theorem wd_68 : ((Jvm.Cond.arrayClass Jvm.ClassFile.FieldType.int)) ∈ lw_gd := lw_gd_in (i := 68) (by decide +kernel) rfl
theorem wd_361 : ((Jvm.Cond.methodLink "java/util/Arrays" (304 : Nat) ({ cls := "java/lang/Math", name := "min", desc := "(II)I" } : Jvm.MethodName))) ∈ lw_gd := lw_gd_in (i := 361) (by decide +kernel) rfl
theorem wd_362 : ((Jvm.Cond.static ({ cls := "java/lang/Math", name := "min", desc := "(II)I" } : Jvm.MethodName))) ∈ lw_gd := lw_gd_in (i := 362) (by decide +kernel) rfl
theorem wd_363 : ((Jvm.Cond.code ({ cls := "java/lang/Math", name := "min", desc := "(II)I" } : Jvm.MethodName) prog_19_method_69_code (2 : Nat) (Option.some Jvm.ClassFile.FieldType.int))) ∈ lw_gd := lw_gd_in (i := 363) (by decide +kernel) rfl
theorem wd_364 : ((Jvm.Cond.methodLink "java/util/Arrays" (150 : Nat) ({ cls := "java/lang/System", name := "arraycopy", desc := "(Ljava/lang/Object;ILjava/lang/Object;II)V" } : Jvm.MethodName))) ∈ lw_gd := lw_gd_in (i := 364) (by decide +kernel) rfl
theorem wd_365 : ((Jvm.Cond.static ({ cls := "java/lang/System", name := "arraycopy", desc := "(Ljava/lang/Object;ILjava/lang/Object;II)V" } : Jvm.MethodName))) ∈ lw_gd := lw_gd_in (i := 365) (by decide +kernel) rfl
theorem wd_366 : ((Jvm.Cond.native ({ cls := "java/lang/System", name := "arraycopy", desc := "(Ljava/lang/Object;ILjava/lang/Object;II)V" } : Jvm.MethodName))) ∈ lw_gd := lw_gd_in (i := 366) (by decide +kernel) rfl
theorem mm_min {a b : Nat} (ha : a < 2 ^ 31) (hb : b < 2 ^ 31) : (if nI b < nI a then nI b else nI a) = nI (min a b) := by
  by_cases h : b < a
  · rw [if_pos ((nI_ltI hb ha).mpr h), Nat.min_eq_right (by omega)]
  · rw [if_neg (fun q => h ((nI_ltI hb ha).mp q)), Nat.min_eq_left (by omega)]
theorem mm_max {a b : Nat} (ha : a < 2 ^ 31) (hb : b < 2 ^ 31) : (if nI a < nI b then nI b else nI a) = nI (max a b) := by
  by_cases h : a < b
  · rw [if_pos ((nI_ltI ha hb).mpr h), Nat.max_eq_right (by omega)]
  · rw [if_neg (fun q => h ((nI_ltI ha hb).mp q)), Nat.max_eq_left (by omega)]
def cpz (f : Nat → Nat) (n : Nat) : Nat → Nat := fun j => if j < n then f j else 0
def cpy9 (f : Nat → Int32) (n : Nat) : Nat → Int32 := fun j => if j < n then f j else 0
theorem cpy9_eq (f : Nat → Int32) (n : Nat) : va_cpy f (fun _ => 0) 0 0 n = cpy9 f n := by
  funext j
  unfold va_cpy cpy9
  by_cases h : j < n
  · rw [if_pos h, if_pos (by omega)]; simp
  · rw [if_neg h, if_neg (by omega)]
theorem cpz_eq (f : Nat → Nat) (n : Nat) : va_cpy (fun j => nI (f j)) (fun _ => 0) 0 0 n = (fun j => nI (cpz f n j)) := by
  rw [cpy9_eq]
  funext j
  unfold cpy9 cpz
  by_cases h : j < n
  · rw [if_pos h, if_pos h]
  · rw [if_neg h, if_neg h]; rfl
def bts (f : Nat → Int32) (n : Nat) : Prop := ∀ j, j < n → fits .byte (.int (f j)) = true
theorem fits_b {v : Nat} (h : v < 128) : fits .byte (.int (nI v)) = true := by
  have h1 : ((-128 : Int32) ≤ nI v) := by rw [Int32.le_iff_toInt_le, nI_toInt (by omega)]; have e : (-128 : Int32).toInt = -128 := by decide
                                          omega
  have h2 : nI v ≤ (127 : Int32) := by rw [Int32.le_iff_toInt_le, nI_toInt (by omega)]; have e : (127 : Int32).toInt = 127 := by decide
                                       omega
  show (decide ((-128 : Int32) ≤ nI v) && decide (nI v ≤ 127)) = true
  rw [decide_eq_true h1, decide_eq_true h2]; rfl
abbrev b_Arrays_copyOf_ABI : ByteArray := prog_26_method_121_code
def y_Arrays_copyOf_ABI : MethodName := ⟨R_Arrays, "copyOf", "([BI)[B"⟩
theorem d_Arrays_copyOf_ABI_0 : decode b_Arrays_copyOf_ABI 0 = .ok (.iload_n 1, 1) := by decide +kernel
theorem d_Arrays_copyOf_ABI_1 : decode b_Arrays_copyOf_ABI 1 = .ok (.aload_n 0, 1) := by decide +kernel
theorem d_Arrays_copyOf_ABI_2 : decode b_Arrays_copyOf_ABI 2 = .ok (.arraylength, 1) := by decide +kernel
theorem d_Arrays_copyOf_ABI_3 : decode b_Arrays_copyOf_ABI 3 = .ok (.if_icmp .ne 11, 3) := by decide +kernel
theorem d_Arrays_copyOf_ABI_14 : decode b_Arrays_copyOf_ABI 14 = .ok (.iload_n 1, 1) := by decide +kernel
theorem d_Arrays_copyOf_ABI_15 : decode b_Arrays_copyOf_ABI 15 = .ok (.newarray .byte, 2) := by decide +kernel
theorem d_Arrays_copyOf_ABI_17 : decode b_Arrays_copyOf_ABI 17 = .ok (.astore_n 2, 1) := by decide +kernel
theorem d_Arrays_copyOf_ABI_18 : decode b_Arrays_copyOf_ABI 18 = .ok (.aload_n 0, 1) := by decide +kernel
theorem d_Arrays_copyOf_ABI_19 : decode b_Arrays_copyOf_ABI 19 = .ok (.iconst 0, 1) := by decide +kernel
theorem d_Arrays_copyOf_ABI_20 : decode b_Arrays_copyOf_ABI 20 = .ok (.aload_n 2, 1) := by decide +kernel
theorem d_Arrays_copyOf_ABI_21 : decode b_Arrays_copyOf_ABI 21 = .ok (.iconst 0, 1) := by decide +kernel
theorem d_Arrays_copyOf_ABI_22 : decode b_Arrays_copyOf_ABI 22 = .ok (.aload_n 0, 1) := by decide +kernel
theorem d_Arrays_copyOf_ABI_23 : decode b_Arrays_copyOf_ABI 23 = .ok (.arraylength, 1) := by decide +kernel
theorem d_Arrays_copyOf_ABI_24 : decode b_Arrays_copyOf_ABI 24 = .ok (.iload_n 1, 1) := by decide +kernel
theorem d_Arrays_copyOf_ABI_25 : decode b_Arrays_copyOf_ABI 25 = .ok (.invokestatic 304, 3) := by decide +kernel
theorem d_Arrays_copyOf_ABI_28 : decode b_Arrays_copyOf_ABI 28 = .ok (.invokestatic 150, 3) := by decide +kernel
theorem d_Arrays_copyOf_ABI_31 : decode b_Arrays_copyOf_ABI 31 = .ok (.aload_n 2, 1) := by decide +kernel
theorem d_Arrays_copyOf_ABI_32 : decode b_Arrays_copyOf_ABI 32 = .ok (.areturn, 1) := by decide +kernel
set_option maxHeartbeats 40000000 in
set_option maxRecDepth 100000 in
theorem c_Arrays_copyOf_B (l : Launch) (D : va_G) (ax : Nat → ClassId) (h0 n1 n2 : Nat) (f : Nat → Int32) (sz : Nat) (hn : n1 < n2) (hn2 : n2 < 100000000) (hf : bts f n1) : Met l y_Arrays_copyOf_ABI (xws (.code y_Arrays_copyOf_ABI b_Arrays_copyOf_ABI 3 (some (.array .byte)))) ({ frames := 20, cells := 1, slots := n2, locals := 800 }) (va_Pc [.ref h0, .int (nI n2)] (xo D ax [(h0, .inl (ax 1, n1, .inl f))] sz)) ((va_Qr (fun (u : Nat → Nat) => True) (fun (u : Nat → Nat) (ra : Nat) (t9 : State) => (ra = u 0) ∧ va_P D classes [(h0, .inl (ax 1, n1, .inl f)), (u 0, .inl (ax 1, n2, .inl (cpy9 f n1)))] t9.heap ∧ va_D (va_A [(h0, .inl (ax 1, n1, .inl f))] sz) [(h0, .inl (ax 1, n1, .inl f)), (u 0, .inl (ax 1, n2, .inl (cpy9 f n1)))]) (va_A [(h0, .inl (ax 1, n1, .inl f))] sz))) 1 (n2) (va_A [(h0, .inl (ax 1, n1, .inl f))] sz) := by
  refine Met.ofW (cc := b_Arrays_copyOf_ABI) (maxL := 3) (ret := (some (.array .byte))) (by decide) rfl ?_
  intro p e s m args below meth c s₁ B hml hv
  obtain ⟨rfl, hsz, hP, hK, hD0⟩ := hv
  have hx := B.exec
  have hb := B.bytes
  have hr := B.returns
  have hts := xw_hts B.pre
  have hown : s.vm.findClass R_Arrays = some m.cls := findClass_of_methodNamed B.named
  have hlocks := B.notSynchronized
  subst hsz
  have hD := hD0.self (sz := s.heap.size)
  have hN := xz_entry hP
  generalize hAe : va_A [(h0, .inl (ax 1, n1, .inl f))] s.heap.size = A at hD hN ⊢
  have hA : ∀ q : Nat, s.heap.size ≤ q → A q := fun q h => by rw [← hAe]; exact Or.inr h
  have hS : va_S A s.heap s.heap [] := va_S.rf
  have hl0 := lv_entry ([.ref h0, .int (nI n2)]) (n := 3) (Nat.le_of_ble_eq_true rfl)
  rw [lg_entry_eq]
  generalize (lg_sl ([.ref h0, .int (nI n2)]) ++ List.replicate (3 - (lg_sl ([.ref h0, .int (nI n2)])).length) Slot.unset).toArray = ls at hl0 ⊢
  have hl1 : lv_has ls 3 [(0, .ref h0), (1, .int (nI n2))] := hl0
  refine xw_gen (fun Z9 hQe => ?_)
  refine lv_iload_n hx hb d_Arrays_copyOf_ABI_0 rfl (lv_at hl1 1 rfl) ?_
  refine lv_aload_n hx hb d_Arrays_copyOf_ABI_1 rfl (lv_at hl1 0 rfl) ?_
  refine va_alen hx hb hK.1 hP 0 1 rfl rfl (v := _) rfl d_Arrays_copyOf_ABI_2 ?_
  refine lv_icmp_ne (tgt := 14) hx hb d_Arrays_copyOf_ABI_3 (by decide) (fun c_1 => ?_) (fun c_1 => ?_)
  rotate_left
  · exfalso
    replace c_1 : n2 = n1 := (nI_eq (a := n2) (b := n1) (by first | exact Nat.lt_of_lt_of_le (by assumption) (by decide) | exact Nat.lt_of_le_of_lt (by assumption) (by decide) | omega) (by first | exact Nat.lt_of_lt_of_le (by assumption) (by decide) | exact Nat.lt_of_le_of_lt (by assumption) (by decide) | omega)).mp c_1
    omega
  replace c_1 : ¬ n2 = n1 := fun hq9 => c_1 ((nI_eq (a := n2) (b := n1) (by first | exact Nat.lt_of_lt_of_le (by assumption) (by decide) | exact Nat.lt_of_le_of_lt (by assumption) (by decide) | omega) (by first | exact Nat.lt_of_lt_of_le (by assumption) (by decide) | exact Nat.lt_of_le_of_lt (by assumption) (by decide) | omega)).mpr hq9)
  refine lv_iload_n hx hb d_Arrays_copyOf_ABI_14 rfl (lv_at hl1 1 rfl) ?_
  refine xnewa (atype := .byte) (ty := .byte) (aX := ax 1) hx hb (hts _ wd_67) rfl hK.2.1.2.1 hP hD hS hA (xa_b n2) (nI_pos (by first | assumption | omega)) (nI_clamp (by first | assumption | omega)) (by show _ * 1 ≤ _; omega) (Nat.le_of_ble_eq_true rfl) (show (0) + (n2) ≤ (n2) by omega) d_Arrays_copyOf_ABI_15 (fun q_2 H_3 hP1 hD1 hS1 => ?_)
  clear hP hD hS
  have hS := hS1
  have hW7 : (fun w9 : va_W => va_P D classes w9 H_3 ∧ va_D A w9) [(h0, .inl (ax 1, n1, .inl f)), (q_2, .inl (ax 1, n2, .inl (fun _ => 0)))] := ⟨hP1, hD1⟩
  obtain ⟨hP, hD⟩ := hW7
  clear hP1 hD1 hS1
  refine W.widen (k := 1) (n := n2) (Nat.le_of_ble_eq_true rfl) (by first | assumption | omega) ?_
  refine lv_astore_n (lv' := [(2, .ref q_2), (0, .ref h0), (1, .int (nI n2))]) hx hb d_Arrays_copyOf_ABI_17 rfl hl1 (by decide) rfl (fun ls hl2 => ?_)
  clear hl1; have hl1 := hl2; clear hl2
  refine lv_aload_n hx hb d_Arrays_copyOf_ABI_18 rfl (lv_at hl1 1 rfl) ?_
  refine lv_iconst (v := 0) hx hb d_Arrays_copyOf_ABI_19 (by decide) ?_
  refine lv_aload_n hx hb d_Arrays_copyOf_ABI_20 rfl (lv_at hl1 0 rfl) ?_
  refine lv_iconst (v := 0) hx hb d_Arrays_copyOf_ABI_21 (by decide) ?_
  refine lv_aload_n hx hb d_Arrays_copyOf_ABI_22 rfl (lv_at hl1 1 rfl) ?_
  refine va_alen hx hb hK.1 hP 0 1 rfl rfl (v := _) rfl d_Arrays_copyOf_ABI_23 ?_
  refine lv_iload_n hx hb d_Arrays_copyOf_ABI_24 rfl (lv_at hl1 2 rfl) ?_
  refine va_mmin hx hb (hl1.1.trans hml.symm).symm hown (hts _ wd_361) (hts _ wd_362) (hts _ wd_13) (hts _ wd_363) (Nat.le_of_ble_eq_true rfl) (Nat.le_of_ble_eq_true rfl) (Nat.le_of_ble_eq_true rfl) (show (n2) ≤ (n2) by omega) d_Arrays_copyOf_ABI_25 ?_
  refine lv_topi (fun z_4 ez_4 => ?_)
  have ez_4 : z_4 = nI (min n1 n2) := ez_4.trans (mm_min (by first | assumption | omega) (by first | assumption | omega))
  subst ez_4
  refine va_copyi hx hb (hl1.1.trans hml.symm).symm hown (hts _ wd_364) (hts _ wd_366) (hts _ wd_365) (hts _ wd_14) hK.1 hP hD hS 0 1 1 1 rfl rfl rfl rfl rfl (by decide) (by decide) (nI_pos (by first | assumption | omega)) (by show 0 + _ ≤ _; rw [nI_clamp (by first | assumption | omega)]; omega) (by show 0 + _ ≤ _; rw [nI_clamp (by first | assumption | omega)]; omega) (fun i hi => by rw [nI_clamp (by first | assumption | omega)] at hi; exact hf _ (by show 0 + i < n1; omega)) (Nat.le_of_ble_eq_true rfl) (Nat.le_of_ble_eq_true rfl) d_Arrays_copyOf_ABI_28 (fun H_5 locs hP1 hD1 hS1 => ?_)
  rw [nI_clamp (by first | assumption | omega)] at hP1 hD1
  clear hP hD hS
  have hS := hS1
  have hW7 : (fun w9 : va_W => va_P D classes w9 H_5 ∧ va_D A w9) [(h0, .inl (ax 1, n1, .inl f)), (q_2, .inl (ax 1, n2, .inl (va_cpy f (fun _ => 0) 0 0 (min n1 n2))))] := ⟨hP1, hD1⟩
  obtain ⟨hP, hD⟩ := hW7
  clear hP1 hD1 hS1
  rw [Nat.min_eq_left (show n1 ≤ n2 by omega), cpy9_eq] at hP hD
  have hP7 := hP; have hD7 := hD; clear hP hD
  have hW7 : (fun w9 : va_W => va_P D classes w9 H_5 ∧ va_D A w9) [(h0, .inl (ax 1, n1, .inl f)), (q_2, .inl (ax 1, n2, .inl (cpy9 f n1)))] := ⟨hP7, hD7⟩
  obtain ⟨hP, hD⟩ := hW7
  clear hP7 hD7
  refine lv_aload_n hx hb d_Arrays_copyOf_ABI_31 rfl (lv_at hl1 0 rfl) ?_
  rw [← hQe]
  obtain ⟨hP9, hD9⟩ := xw_sub2 (wc := (fun (u : Nat → Nat)  => [(h0, .inl (ax 1, n1, .inl f)), (u 0, .inl (ax 1, n2, .inl (cpy9 f n1)))]) (ixn [q_2]) ) hP hD [0, 1] (by decide) rfl
  exact W.aret (v := .ref q_2) hx hb hr (Or.inr ⟨_, rfl⟩) (Or.inr ⟨_, rfl⟩) (fun t ht hW => ⟨⟨ixn [q_2], q_2, rfl, trivial, ⟨rfl, by rw [ht]; exact hP9, hD9⟩⟩, hS.F ht⟩) hS.2.2 d_Arrays_copyOf_ABI_32
abbrev b_Arrays_copyOf_AII : ByteArray := prog_26_method_123_code
def y_Arrays_copyOf_AII : MethodName := ⟨R_Arrays, "copyOf", "([II)[I"⟩
theorem d_Arrays_copyOf_AII_0 : decode b_Arrays_copyOf_AII 0 = .ok (.iload_n 1, 1) := by decide +kernel
theorem d_Arrays_copyOf_AII_1 : decode b_Arrays_copyOf_AII 1 = .ok (.aload_n 0, 1) := by decide +kernel
theorem d_Arrays_copyOf_AII_2 : decode b_Arrays_copyOf_AII 2 = .ok (.arraylength, 1) := by decide +kernel
theorem d_Arrays_copyOf_AII_3 : decode b_Arrays_copyOf_AII 3 = .ok (.if_icmp .ne 11, 3) := by decide +kernel
theorem d_Arrays_copyOf_AII_14 : decode b_Arrays_copyOf_AII 14 = .ok (.iload_n 1, 1) := by decide +kernel
theorem d_Arrays_copyOf_AII_15 : decode b_Arrays_copyOf_AII 15 = .ok (.newarray .int, 2) := by decide +kernel
theorem d_Arrays_copyOf_AII_17 : decode b_Arrays_copyOf_AII 17 = .ok (.astore_n 2, 1) := by decide +kernel
theorem d_Arrays_copyOf_AII_18 : decode b_Arrays_copyOf_AII 18 = .ok (.aload_n 0, 1) := by decide +kernel
theorem d_Arrays_copyOf_AII_19 : decode b_Arrays_copyOf_AII 19 = .ok (.iconst 0, 1) := by decide +kernel
theorem d_Arrays_copyOf_AII_20 : decode b_Arrays_copyOf_AII 20 = .ok (.aload_n 2, 1) := by decide +kernel
theorem d_Arrays_copyOf_AII_21 : decode b_Arrays_copyOf_AII 21 = .ok (.iconst 0, 1) := by decide +kernel
theorem d_Arrays_copyOf_AII_22 : decode b_Arrays_copyOf_AII 22 = .ok (.aload_n 0, 1) := by decide +kernel
theorem d_Arrays_copyOf_AII_23 : decode b_Arrays_copyOf_AII 23 = .ok (.arraylength, 1) := by decide +kernel
theorem d_Arrays_copyOf_AII_24 : decode b_Arrays_copyOf_AII 24 = .ok (.iload_n 1, 1) := by decide +kernel
theorem d_Arrays_copyOf_AII_25 : decode b_Arrays_copyOf_AII 25 = .ok (.invokestatic 304, 3) := by decide +kernel
theorem d_Arrays_copyOf_AII_28 : decode b_Arrays_copyOf_AII 28 = .ok (.invokestatic 150, 3) := by decide +kernel
theorem d_Arrays_copyOf_AII_31 : decode b_Arrays_copyOf_AII 31 = .ok (.aload_n 2, 1) := by decide +kernel
theorem d_Arrays_copyOf_AII_32 : decode b_Arrays_copyOf_AII 32 = .ok (.areturn, 1) := by decide +kernel
set_option maxHeartbeats 40000000 in
set_option maxRecDepth 100000 in
theorem c_Arrays_copyOf_I (l : Launch) (D : va_G) (ax : Nat → ClassId) (h0 n1 n2 : Nat) (f : Nat → Int32) (sz : Nat) (hn : n1 < n2) (hn2 : n2 < 100000000) : Met l y_Arrays_copyOf_AII (xws (.code y_Arrays_copyOf_AII b_Arrays_copyOf_AII 3 (some (.array .int)))) ({ frames := 20, cells := 1, slots := n2, locals := 800 }) (va_Pc [.ref h0, .int (nI n2)] (xo D ax [(h0, .inl (ax 0, n1, .inl f))] sz)) ((va_Qr (fun (u : Nat → Nat) => True) (fun (u : Nat → Nat) (ra : Nat) (t9 : State) => (ra = u 0) ∧ va_P D classes [(h0, .inl (ax 0, n1, .inl f)), (u 0, .inl (ax 0, n2, .inl (cpy9 f n1)))] t9.heap ∧ va_D (va_A [(h0, .inl (ax 0, n1, .inl f))] sz) [(h0, .inl (ax 0, n1, .inl f)), (u 0, .inl (ax 0, n2, .inl (cpy9 f n1)))]) (va_A [(h0, .inl (ax 0, n1, .inl f))] sz))) 1 (n2) (va_A [(h0, .inl (ax 0, n1, .inl f))] sz) := by
  refine Met.ofW (cc := b_Arrays_copyOf_AII) (maxL := 3) (ret := (some (.array .int))) (by decide) rfl ?_
  intro p e s m args below meth c s₁ B hml hv
  obtain ⟨rfl, hsz, hP, hK, hD0⟩ := hv
  have hx := B.exec
  have hb := B.bytes
  have hr := B.returns
  have hts := xw_hts B.pre
  have hown : s.vm.findClass R_Arrays = some m.cls := findClass_of_methodNamed B.named
  have hlocks := B.notSynchronized
  subst hsz
  have hD := hD0.self (sz := s.heap.size)
  have hN := xz_entry hP
  generalize hAe : va_A [(h0, .inl (ax 0, n1, .inl f))] s.heap.size = A at hD hN ⊢
  have hA : ∀ q : Nat, s.heap.size ≤ q → A q := fun q h => by rw [← hAe]; exact Or.inr h
  have hS : va_S A s.heap s.heap [] := va_S.rf
  have hl0 := lv_entry ([.ref h0, .int (nI n2)]) (n := 3) (Nat.le_of_ble_eq_true rfl)
  rw [lg_entry_eq]
  generalize (lg_sl ([.ref h0, .int (nI n2)]) ++ List.replicate (3 - (lg_sl ([.ref h0, .int (nI n2)])).length) Slot.unset).toArray = ls at hl0 ⊢
  have hl1 : lv_has ls 3 [(0, .ref h0), (1, .int (nI n2))] := hl0
  refine xw_gen (fun Z9 hQe => ?_)
  refine lv_iload_n hx hb d_Arrays_copyOf_AII_0 rfl (lv_at hl1 1 rfl) ?_
  refine lv_aload_n hx hb d_Arrays_copyOf_AII_1 rfl (lv_at hl1 0 rfl) ?_
  refine va_alen hx hb hK.1 hP 0 0 rfl rfl (v := _) rfl d_Arrays_copyOf_AII_2 ?_
  refine lv_icmp_ne (tgt := 14) hx hb d_Arrays_copyOf_AII_3 (by decide) (fun c_1 => ?_) (fun c_1 => ?_)
  rotate_left
  · exfalso
    replace c_1 : n2 = n1 := (nI_eq (a := n2) (b := n1) (by first | exact Nat.lt_of_lt_of_le (by assumption) (by decide) | exact Nat.lt_of_le_of_lt (by assumption) (by decide) | omega) (by first | exact Nat.lt_of_lt_of_le (by assumption) (by decide) | exact Nat.lt_of_le_of_lt (by assumption) (by decide) | omega)).mp c_1
    omega
  replace c_1 : ¬ n2 = n1 := fun hq9 => c_1 ((nI_eq (a := n2) (b := n1) (by first | exact Nat.lt_of_lt_of_le (by assumption) (by decide) | exact Nat.lt_of_le_of_lt (by assumption) (by decide) | omega) (by first | exact Nat.lt_of_lt_of_le (by assumption) (by decide) | exact Nat.lt_of_le_of_lt (by assumption) (by decide) | omega)).mpr hq9)
  refine lv_iload_n hx hb d_Arrays_copyOf_AII_14 rfl (lv_at hl1 1 rfl) ?_
  refine xnewa (atype := .int) (ty := .int) (aX := ax 0) hx hb (hts _ wd_68) rfl hK.2.1.1 hP hD hS hA (xa_i n2) (nI_pos (by first | assumption | omega)) (nI_clamp (by first | assumption | omega)) (by show _ * 4 ≤ _; omega) (Nat.le_of_ble_eq_true rfl) (show (0) + (n2) ≤ (n2) by omega) d_Arrays_copyOf_AII_15 (fun q_2 H_3 hP1 hD1 hS1 => ?_)
  clear hP hD hS
  have hS := hS1
  have hW7 : (fun w9 : va_W => va_P D classes w9 H_3 ∧ va_D A w9) [(h0, .inl (ax 0, n1, .inl f)), (q_2, .inl (ax 0, n2, .inl (fun _ => 0)))] := ⟨hP1, hD1⟩
  obtain ⟨hP, hD⟩ := hW7
  clear hP1 hD1 hS1
  refine W.widen (k := 1) (n := n2) (Nat.le_of_ble_eq_true rfl) (by first | assumption | omega) ?_
  refine lv_astore_n (lv' := [(2, .ref q_2), (0, .ref h0), (1, .int (nI n2))]) hx hb d_Arrays_copyOf_AII_17 rfl hl1 (by decide) rfl (fun ls hl2 => ?_)
  clear hl1; have hl1 := hl2; clear hl2
  refine lv_aload_n hx hb d_Arrays_copyOf_AII_18 rfl (lv_at hl1 1 rfl) ?_
  refine lv_iconst (v := 0) hx hb d_Arrays_copyOf_AII_19 (by decide) ?_
  refine lv_aload_n hx hb d_Arrays_copyOf_AII_20 rfl (lv_at hl1 0 rfl) ?_
  refine lv_iconst (v := 0) hx hb d_Arrays_copyOf_AII_21 (by decide) ?_
  refine lv_aload_n hx hb d_Arrays_copyOf_AII_22 rfl (lv_at hl1 1 rfl) ?_
  refine va_alen hx hb hK.1 hP 0 0 rfl rfl (v := _) rfl d_Arrays_copyOf_AII_23 ?_
  refine lv_iload_n hx hb d_Arrays_copyOf_AII_24 rfl (lv_at hl1 2 rfl) ?_
  refine va_mmin hx hb (hl1.1.trans hml.symm).symm hown (hts _ wd_361) (hts _ wd_362) (hts _ wd_13) (hts _ wd_363) (Nat.le_of_ble_eq_true rfl) (Nat.le_of_ble_eq_true rfl) (Nat.le_of_ble_eq_true rfl) (show (n2) ≤ (n2) by omega) d_Arrays_copyOf_AII_25 ?_
  refine lv_topi (fun z_4 ez_4 => ?_)
  have ez_4 : z_4 = nI (min n1 n2) := ez_4.trans (mm_min (by first | assumption | omega) (by first | assumption | omega))
  subst ez_4
  refine va_copyi hx hb (hl1.1.trans hml.symm).symm hown (hts _ wd_364) (hts _ wd_366) (hts _ wd_365) (hts _ wd_14) hK.1 hP hD hS 0 1 0 0 rfl rfl rfl rfl rfl (by decide) (by decide) (nI_pos (by first | assumption | omega)) (by show 0 + _ ≤ _; rw [nI_clamp (by first | assumption | omega)]; omega) (by show 0 + _ ≤ _; rw [nI_clamp (by first | assumption | omega)]; omega) (fun _ _ => rfl) (Nat.le_of_ble_eq_true rfl) (Nat.le_of_ble_eq_true rfl) d_Arrays_copyOf_AII_28 (fun H_5 locs hP1 hD1 hS1 => ?_)
  rw [nI_clamp (by first | assumption | omega)] at hP1 hD1
  clear hP hD hS
  have hS := hS1
  have hW7 : (fun w9 : va_W => va_P D classes w9 H_5 ∧ va_D A w9) [(h0, .inl (ax 0, n1, .inl f)), (q_2, .inl (ax 0, n2, .inl (va_cpy f (fun _ => 0) 0 0 (min n1 n2))))] := ⟨hP1, hD1⟩
  obtain ⟨hP, hD⟩ := hW7
  clear hP1 hD1 hS1
  rw [Nat.min_eq_left (show n1 ≤ n2 by omega), cpy9_eq] at hP hD
  have hP7 := hP; have hD7 := hD; clear hP hD
  have hW7 : (fun w9 : va_W => va_P D classes w9 H_5 ∧ va_D A w9) [(h0, .inl (ax 0, n1, .inl f)), (q_2, .inl (ax 0, n2, .inl (cpy9 f n1)))] := ⟨hP7, hD7⟩
  obtain ⟨hP, hD⟩ := hW7
  clear hP7 hD7
  refine lv_aload_n hx hb d_Arrays_copyOf_AII_31 rfl (lv_at hl1 0 rfl) ?_
  rw [← hQe]
  obtain ⟨hP9, hD9⟩ := xw_sub2 (wc := (fun (u : Nat → Nat)  => [(h0, .inl (ax 0, n1, .inl f)), (u 0, .inl (ax 0, n2, .inl (cpy9 f n1)))]) (ixn [q_2]) ) hP hD [0, 1] (by decide) rfl
  exact W.aret (v := .ref q_2) hx hb hr (Or.inr ⟨_, rfl⟩) (Or.inr ⟨_, rfl⟩) (fun t ht hW => ⟨⟨ixn [q_2], q_2, rfl, trivial, ⟨rfl, by rw [ht]; exact hP9, hD9⟩⟩, hS.F ht⟩) hS.2.2 d_Arrays_copyOf_AII_32
