theorem wd_176 : ((Jvm.Cond.fieldLink "TripleDesk$Findings" (40 : Nat) "TripleDesk$Prover" "bounds" "LTripleDesk$Bounds;")) ∈ lw_gd := lw_gd_in (i := 176) (by decide +kernel) rfl
theorem wd_178 : ((Jvm.Cond.fieldLink "TripleDesk$Findings" (31 : Nat) "TripleDesk$Prover" "rows" "I")) ∈ lw_gd := lw_gd_in (i := 178) (by decide +kernel) rfl
theorem wd_180 : ((Jvm.Cond.fieldLink "TripleDesk$Findings" (36 : Nat) "TripleDesk$Prover" "atoms" "I")) ∈ lw_gd := lw_gd_in (i := 180) (by decide +kernel) rfl
theorem wd_182 : ((Jvm.Cond.fieldLink "TripleDesk$Findings" (38 : Nat) "TripleDesk$Prover" "first" "I")) ∈ lw_gd := lw_gd_in (i := 182) (by decide +kernel) rfl
theorem wd_214 : ((Jvm.Cond.fieldLink "TripleDesk$Findings" (9 : Nat) "TripleDesk$Findings" "rows" "[S")) ∈ lw_gd := lw_gd_in (i := 214) (by decide +kernel) rfl
theorem wd_216 : ((Jvm.Cond.fieldLink "TripleDesk$Findings" (15 : Nat) "TripleDesk$Findings" "atoms" "[S")) ∈ lw_gd := lw_gd_in (i := 216) (by decide +kernel) rfl
theorem wd_218 : ((Jvm.Cond.fieldLink "TripleDesk$Findings" (18 : Nat) "TripleDesk$Findings" "first" "[S")) ∈ lw_gd := lw_gd_in (i := 218) (by decide +kernel) rfl
theorem wd_220 : ((Jvm.Cond.fieldLink "TripleDesk$Findings" (21 : Nat) "TripleDesk$Findings" "numbers" "[I")) ∈ lw_gd := lw_gd_in (i := 220) (by decide +kernel) rfl
theorem wd_590 : ((Jvm.Cond.methodLink "TripleDesk$Findings" (25 : Nat) ({ cls := "java/util/Arrays", name := "fill", desc := "([SS)V" } : Jvm.MethodName))) ∈ lw_gd := lw_gd_in (i := 590) (by decide +kernel) rfl
theorem wd_591 : ((Jvm.Cond.static ({ cls := "java/util/Arrays", name := "fill", desc := "([SS)V" } : Jvm.MethodName))) ∈ lw_gd := lw_gd_in (i := 591) (by decide +kernel) rfl
theorem wd_592 : ((Jvm.Cond.code ({ cls := "java/util/Arrays", name := "fill", desc := "([SS)V" } : Jvm.MethodName) prog_26_method_105_code (4 : Nat) (Option.none : Option Jvm.ClassFile.FieldType))) ∈ lw_gd := lw_gd_in (i := 592) (by decide +kernel) rfl
theorem wd_878 : ((Jvm.Cond.methodLink "TripleDesk$Findings" (44 : Nat) ({ cls := "TripleDesk$Bounds", name := "number", desc := "(I)I" } : Jvm.MethodName))) ∈ lw_gd := lw_gd_in (i := 878) (by decide +kernel) rfl
theorem wd_879 : ((Jvm.Cond.instanceMethod ({ cls := "TripleDesk$Bounds", name := "number", desc := "(I)I" } : Jvm.MethodName))) ∈ lw_gd := lw_gd_in (i := 879) (by decide +kernel) rfl
theorem wd_880 : ((Jvm.Cond.selects "TripleDesk$Bounds" ({ cls := "TripleDesk$Bounds", name := "number", desc := "(I)I" } : Jvm.MethodName) ({ cls := "TripleDesk$Bounds", name := "number", desc := "(I)I" } : Jvm.MethodName))) ∈ lw_gd := lw_gd_in (i := 880) (by decide +kernel) rfl
theorem wd_881 : ((Jvm.Cond.code ({ cls := "TripleDesk$Bounds", name := "number", desc := "(I)I" } : Jvm.MethodName) prog_2_method_3_code (2 : Nat) (Option.some Jvm.ClassFile.FieldType.int))) ∈ lw_gd := lw_gd_in (i := 881) (by decide +kernel) rfl
abbrev b_Arrays_fill_ASS : ByteArray := prog_26_method_105_code
def y_Arrays_fill_ASS : MethodName := ⟨R_Arrays, "fill", "([SS)V"⟩
theorem d_Arrays_fill_ASS_0 : decode b_Arrays_fill_ASS 0 = .ok (.iconst 0, 1) := by decide +kernel
theorem d_Arrays_fill_ASS_1 : decode b_Arrays_fill_ASS 1 = .ok (.istore_n 2, 1) := by decide +kernel
theorem d_Arrays_fill_ASS_2 : decode b_Arrays_fill_ASS 2 = .ok (.aload_n 0, 1) := by decide +kernel
theorem d_Arrays_fill_ASS_3 : decode b_Arrays_fill_ASS 3 = .ok (.arraylength, 1) := by decide +kernel
theorem d_Arrays_fill_ASS_4 : decode b_Arrays_fill_ASS 4 = .ok (.istore_n 3, 1) := by decide +kernel
theorem d_Arrays_fill_ASS_5 : decode b_Arrays_fill_ASS 5 = .ok (.iload_n 2, 1) := by decide +kernel
theorem d_Arrays_fill_ASS_6 : decode b_Arrays_fill_ASS 6 = .ok (.iload_n 3, 1) := by decide +kernel
theorem d_Arrays_fill_ASS_7 : decode b_Arrays_fill_ASS 7 = .ok (.if_icmp .ge 13, 3) := by decide +kernel
theorem d_Arrays_fill_ASS_10 : decode b_Arrays_fill_ASS 10 = .ok (.aload_n 0, 1) := by decide +kernel
theorem d_Arrays_fill_ASS_11 : decode b_Arrays_fill_ASS 11 = .ok (.iload_n 2, 1) := by decide +kernel
theorem d_Arrays_fill_ASS_12 : decode b_Arrays_fill_ASS 12 = .ok (.iload_n 1, 1) := by decide +kernel
theorem d_Arrays_fill_ASS_13 : decode b_Arrays_fill_ASS 13 = .ok (.sastore, 1) := by decide +kernel
theorem d_Arrays_fill_ASS_14 : decode b_Arrays_fill_ASS 14 = .ok (.iinc 2 1, 3) := by decide +kernel
theorem d_Arrays_fill_ASS_17 : decode b_Arrays_fill_ASS 17 = .ok (.goto (-12), 3) := by decide +kernel
theorem d_Arrays_fill_ASS_20 : decode b_Arrays_fill_ASS 20 = .ok (.return_, 1) := by decide +kernel
set_option maxHeartbeats 40000000 in
set_option maxRecDepth 100000 in
theorem c_Arrays_fill_S (l : Launch) (D : va_G) (ax : Nat → ClassId) (h0 n : Nat) (f : Nat → Int32) (v : Int32) (sz : Nat) (hn : n < 2 ^ 31) : Met l y_Arrays_fill_ASS (xws (.code y_Arrays_fill_ASS b_Arrays_fill_ASS 4 none)) ({ frames := 10, cells := 0, slots := 0, locals := 400 }) (va_Pc [.ref h0, .int v] (xo D ax [(h0, .inl (ax 2, n, .inl f))] sz)) ((va_Qv (fun (u : Nat → Nat) => True) (fun (u : Nat → Nat) (t9 : State) => ∃ xf : Nat → Int32, (∀ j, j < n → xf j = vp_nar .short v) ∧ va_P D classes [(h0, .inl (ax 2, n, .inl xf))] t9.heap ∧ va_D (va_A [(h0, .inl (ax 2, n, .inl f))] sz) [(h0, .inl (ax 2, n, .inl xf))]) (va_A [(h0, .inl (ax 2, n, .inl f))] sz))) 0 0 (va_A [(h0, .inl (ax 2, n, .inl f))] sz) := by
  refine Met.ofW (cc := b_Arrays_fill_ASS) (maxL := 4) (ret := none) (by decide) rfl ?_
  intro p e s m args below meth c s₁ B hml hv
  obtain ⟨rfl, hsz, hP, hK, hD0⟩ := hv
  have hx := B.exec
  have hb := B.bytes
  have hr := B.returns
  have hts := xw_hts B.pre
  have hown : s.vm.findClass R_Arrays = some m.cls := findClass_of_methodNamed B.named
  have hlocks := B.notSynchronized
  subst hsz
  have hD := hD0.self (sz := s.heap.size)
  have hN := xz_entry hP
  generalize hAe : va_A [(h0, .inl (ax 2, n, .inl f))] s.heap.size = A at hD hN ⊢
  have hA : ∀ q : Nat, s.heap.size ≤ q → A q := fun q h => by rw [← hAe]; exact Or.inr h
  have hS : va_S A s.heap s.heap [] := va_S.rf
  have hl0 := lv_entry ([.ref h0, .int v]) (n := 4) (Nat.le_of_ble_eq_true rfl)
  rw [lg_entry_eq]
  generalize (lg_sl ([.ref h0, .int v]) ++ List.replicate (4 - (lg_sl ([.ref h0, .int v])).length) Slot.unset).toArray = ls at hl0 ⊢
  have hl1 : lv_has ls 4 [(0, .ref h0), (1, .int v)] := hl0
  refine xw_gen (fun Z9 hQe => ?_)
  refine lv_iconst (v := 0) hx hb d_Arrays_fill_ASS_0 (by decide) ?_
  refine lv_istore_n (lv' := [(2, .int 0), (0, .ref h0), (1, .int v)]) hx hb d_Arrays_fill_ASS_1 rfl hl1 (by decide) rfl (fun ls hl2 => ?_)
  clear hl1; have hl1 := hl2; clear hl2
  refine lv_aload_n hx hb d_Arrays_fill_ASS_2 rfl (lv_at hl1 1 rfl) ?_
  refine va_alen hx hb hK.1 hP 0 2 rfl rfl (v := _) rfl d_Arrays_fill_ASS_3 ?_
  refine lv_istore_n (lv' := [(3, .int (nI n)), (2, .int 0), (0, .ref h0), (1, .int v)]) hx hb d_Arrays_fill_ASS_4 rfl hl1 (by decide) rfl (fun ls hl2 => ?_)
  clear hl1; have hl1 := hl2; clear hl2
  suffices key_1 : ∀ (k : Nat) (i1 : Nat) (f1 : Nat → Int32), n - i1 < k → i1 ≤ n → (∀ j, j < i1 → f1 j = vp_nar .short v) → ∀ (H : Heap) (locs : List Loc) (ls : Array Slot), va_P D classes [(h0, .inl (ax 2, n, .inl f1))] H → va_D A [(h0, .inl (ax 2, n, .inl f1))] → va_S A s.heap H locs → lv_has ls 4 [(3, .int (nI n)), (2, .int (nI i1)), (0, .ref h0), (1, .int v)] → W p l e (headSpec (xws (.code y_Arrays_fill_ASS b_Arrays_fill_ASS 4 none)) ({ frames := 10, cells := 0, slots := 0, locals := 400 })).room s m ([.ref h0, .int v] : List Value).toArray below meth c H locs 0 0 Z9 (F0 m 5 ls []) from key_1 (n - 0 + 1) 0 f (Nat.lt_succ_self _) (by first | assumption | omega) (fun j hj => absurd hj (Nat.not_lt_zero _)) _ _ _ (hP) (hD) hS (lv_sub hl1 [0, 1, 2, 3] rfl)
  intro k_2
  induction k_2 with
  | zero =>
    intro i1 f1 hk_4
    exact absurd hk_4 (Nat.not_lt_zero _)
  | succ k_2 ih_3 =>
    clear hP hD hS hl1
    intro i1 f1 hk_4 hi1 hz8 H locs ls hP hD hS hl1
    refine lv_iload_n hx hb d_Arrays_fill_ASS_5 rfl (lv_at hl1 1 rfl) ?_
    refine lv_iload_n hx hb d_Arrays_fill_ASS_6 rfl (lv_at hl1 0 rfl) ?_
    refine lv_icmp_ge (tgt := 20) hx hb d_Arrays_fill_ASS_7 (by decide) (fun c_5 => ?_) (fun c_5 => ?_)
    · replace c_5 : n ≤ i1 := (nI_leI (a := n) (b := i1) (by first | exact Nat.lt_of_lt_of_le (by assumption) (by decide) | exact Nat.lt_of_le_of_lt (by assumption) (by decide) | omega) (by first | exact Nat.lt_of_lt_of_le (by assumption) (by decide) | exact Nat.lt_of_le_of_lt (by assumption) (by decide) | omega)).mp c_5
      rw [← hQe]
      obtain ⟨hP9, hD9⟩ := xw_sub2 (wc := (fun (u : Nat → Nat) (xf : Nat → Int32) => [(h0, .inl (ax 2, n, .inl xf))]) (ixn []) f1) hP hD [0] (by decide) rfl
      have hex0 : ∀ j, j < n → f1 j = vp_nar .short v := (fun j hj => hz8 j (by first | assumption | omega))
      exact W.vret hx hb hr (fun t ht hW => ⟨⟨ixn [], rfl, trivial, ⟨f1, hex0, by rw [ht]; exact hP9, hD9⟩⟩, hS.F ht⟩) hS.2.2 d_Arrays_fill_ASS_20
    · replace c_5 : ¬ n ≤ i1 := fun hq9 => c_5 ((nI_leI (a := n) (b := i1) (by first | exact Nat.lt_of_lt_of_le (by assumption) (by decide) | exact Nat.lt_of_le_of_lt (by assumption) (by decide) | omega) (by first | exact Nat.lt_of_lt_of_le (by assumption) (by decide) | exact Nat.lt_of_le_of_lt (by assumption) (by decide) | omega)).mpr hq9)
      refine lv_aload_n hx hb d_Arrays_fill_ASS_10 rfl (lv_at hl1 2 rfl) ?_
      refine lv_iload_n hx hb d_Arrays_fill_ASS_11 rfl (lv_at hl1 1 rfl) ?_
      refine lv_iload_n hx hb d_Arrays_fill_ASS_12 rfl (lv_at hl1 3 rfl) ?_
      refine va_sast hx hb hK.1 hP hD hS 0 2 rfl rfl (vp_in_nI (by first | assumption | omega) (by first | exact Nat.lt_of_lt_of_le (by assumption) (by decide) | exact Nat.lt_of_le_of_lt (by assumption) (by decide) | omega)) d_Arrays_fill_ASS_13 (fun H_6 locs hP1 hD1 hS1 => ?_)
      rw [nI_clamp (by first | exact Nat.lt_of_lt_of_le (by assumption) (by decide) | exact Nat.lt_of_le_of_lt (by assumption) (by decide) | omega)] at hP1 hD1
      clear hP hD hS
      have hS := hS1
      have hW7 : (fun w9 : va_W => va_P D classes w9 H_6 ∧ va_D A w9) [(h0, .inl (ax 2, n, .inl (upd f1 i1 (vp_nar .short v))))] := ⟨hP1, hD1⟩
      obtain ⟨hP, hD⟩ := hW7
      clear hP1 hD1 hS1
      refine lv_iinc (v := nI (i1 + 1)) (lv' := [(2, .int (nI (i1 + 1))), (3, .int (nI n)), (0, .ref h0), (1, .int v)]) hx hb d_Arrays_fill_ASS_14 hl1 (k := 1) rfl (nI_add i1 1) (by decide) rfl (fun ls hl2 => ?_)
      clear hl1; have hl1 := hl2; clear hl2
      refine lv_goto (tgt := 5) hx hb d_Arrays_fill_ASS_17 (by decide) ?_
      exact ih_3 (i1 + 1) (upd f1 i1 (vp_nar .short v)) (by first | assumption | omega) (by first | assumption | omega) (fl8 hz8) _ _ _ (hP.sub [0] rfl) (hD.sub [0] (by decide) rfl) hS (lv_sub hl1 [1, 0, 2, 3] rfl)
abbrev b_Findings_clear : ByteArray := prog_3_method_2_code
def y_Findings_clear : MethodName := ⟨R_Findings, "clear", "()V"⟩
theorem d_Findings_clear_0 : decode b_Findings_clear 0 = .ok (.aload_n 0, 1) := by decide +kernel
theorem d_Findings_clear_1 : decode b_Findings_clear 1 = .ok (.getfield 9, 3) := by decide +kernel
theorem d_Findings_clear_4 : decode b_Findings_clear 4 = .ok (.iconst 0, 1) := by decide +kernel
theorem d_Findings_clear_5 : decode b_Findings_clear 5 = .ok (.invokestatic 25, 3) := by decide +kernel
theorem d_Findings_clear_8 : decode b_Findings_clear 8 = .ok (.return_, 1) := by decide +kernel
set_option maxHeartbeats 40000000 in
set_option maxRecDepth 100000 in
theorem c_F_clear (l : Launch) (D : va_G) (ax : Nat → ClassId) (f0 f1 f2 f3 f4 : Nat) (rw aa ff nb : Nat → Int32) (sz : Nat) : Met l y_Findings_clear (xws (.code y_Findings_clear b_Findings_clear 1 none)) ({ frames := 20, cells := 0, slots := 0, locals := 800 }) (va_Pc [.ref f0] (xo D ax [(f0, .inr (1, [.ref f1, .ref f2, .ref f3, .ref f4])), (f1, .inl (ax 2, 29, .inl rw)), (f2, .inl (ax 2, 29, .inl aa)), (f3, .inl (ax 2, 29, .inl ff)), (f4, .inl (ax 0, 290, .inl nb))] sz)) ((va_Qv (fun (u : Nat → Nat) => True) (fun (u : Nat → Nat) (t9 : State) => ∃ xrw : Nat → Int32, (∀ j, j < 29 → xrw j = 0) ∧ va_P D classes [(f0, .inr (1, [.ref f1, .ref f2, .ref f3, .ref f4])), (f1, .inl (ax 2, 29, .inl xrw)), (f2, .inl (ax 2, 29, .inl aa)), (f3, .inl (ax 2, 29, .inl ff)), (f4, .inl (ax 0, 290, .inl nb))] t9.heap ∧ va_D (va_A [(f0, .inr (1, [.ref f1, .ref f2, .ref f3, .ref f4])), (f1, .inl (ax 2, 29, .inl rw)), (f2, .inl (ax 2, 29, .inl aa)), (f3, .inl (ax 2, 29, .inl ff)), (f4, .inl (ax 0, 290, .inl nb))] sz) [(f0, .inr (1, [.ref f1, .ref f2, .ref f3, .ref f4])), (f1, .inl (ax 2, 29, .inl xrw)), (f2, .inl (ax 2, 29, .inl aa)), (f3, .inl (ax 2, 29, .inl ff)), (f4, .inl (ax 0, 290, .inl nb))]) (va_A [(f0, .inr (1, [.ref f1, .ref f2, .ref f3, .ref f4])), (f1, .inl (ax 2, 29, .inl rw)), (f2, .inl (ax 2, 29, .inl aa)), (f3, .inl (ax 2, 29, .inl ff)), (f4, .inl (ax 0, 290, .inl nb))] sz))) 0 0 (va_A [(f0, .inr (1, [.ref f1, .ref f2, .ref f3, .ref f4])), (f1, .inl (ax 2, 29, .inl rw)), (f2, .inl (ax 2, 29, .inl aa)), (f3, .inl (ax 2, 29, .inl ff)), (f4, .inl (ax 0, 290, .inl nb))] sz) := by
  refine Met.ofW (cc := b_Findings_clear) (maxL := 1) (ret := none) (by decide) rfl ?_
  intro p e s m args below meth c s₁ B hml hv
  obtain ⟨rfl, hsz, hP, hK, hD0⟩ := hv
  have hx := B.exec
  have hb := B.bytes
  have hr := B.returns
  have hts := xw_hts B.pre
  have hown : s.vm.findClass R_Findings = some m.cls := findClass_of_methodNamed B.named
  have hlocks := B.notSynchronized
  subst hsz
  have hD := hD0.self (sz := s.heap.size)
  have hN := xz_entry hP
  generalize hAe : va_A [(f0, .inr (1, [.ref f1, .ref f2, .ref f3, .ref f4])), (f1, .inl (ax 2, 29, .inl rw)), (f2, .inl (ax 2, 29, .inl aa)), (f3, .inl (ax 2, 29, .inl ff)), (f4, .inl (ax 0, 290, .inl nb))] s.heap.size = A at hD hN ⊢
  have hA : ∀ q : Nat, s.heap.size ≤ q → A q := fun q h => by rw [← hAe]; exact Or.inr h
  have hS : va_S A s.heap s.heap [] := va_S.rf
  have hl0 := lv_entry ([.ref f0]) (n := 1) (Nat.le_of_ble_eq_true rfl)
  rw [lg_entry_eq]
  generalize (lg_sl ([.ref f0]) ++ List.replicate (1 - (lg_sl ([.ref f0])).length) Slot.unset).toArray = ls at hl0 ⊢
  have hl1 : lv_has ls 1 [(0, .ref f0)] := hl0
  refine xw_gen (fun Z9 hQe => ?_)
  refine lv_aload_n hx hb d_Findings_clear_0 rfl (lv_at hl1 0 rfl) ?_
  refine va_get (D := D) (ci := 1) (v := .ref f1) (C := R_Findings) (T := F_Findings) (N := 4) hx hb hts i_Findings hown hK.1 hP 0 rfl rfl 0 (by decide) (hts _ wd_214) (fun _ h9 => h9) rfl d_Findings_clear_1 ?_
  refine lv_iconst (v := 0) hx hb d_Findings_clear_4 (by decide) ?_
  obtain ⟨hPc, hDc, hFc, hCs⟩ := xw_sub3 (wc := [(f1, .inl (ax 2, 29, .inl rw))]) hP hD hS hA [1] (by decide) rfl
  have hz := xz_of hN hS
  refine va_callv (va_runS (As := [.ref f1, .int 0]) (rest := []) ⟨hx, hb, hml, hown, hts⟩ (c_Arrays_fill_S l D ax f1 29 rw 0 s.heap.size (by decide)) (xcS (n := 2) hts wd_592 wd_8 wd_590 wd_591 rfl rfl (by decide +kernel) ⟨Nat.le_of_ble_eq_true rfl, Nat.le_of_ble_eq_true rfl⟩) (xpS (As := [.ref f1, .int 0]) hPc hK hz hDc) rfl rfl hl1.1 rfl (lv_room (Nat.le_of_ble_eq_true rfl)) d_Findings_clear_5 ⟨Nat.le_of_ble_eq_true rfl, Nat.le_of_ble_eq_true rfl⟩) hS (fun q _ h => hFc q h) hFc (fun u_1 t H_2 locs ht hvm hw hB hz1 hk1 hS1 => ?_)
  try dsimp only at hw
  obtain ⟨x_4, hx_5, hP1, hD1⟩ := hB
  rw [ht] at hP1
  have hjn := xw_join3 (wl := [(f0, .inr (1, [.ref f1, .ref f2, .ref f3, .ref f4])), (f2, .inl (ax 2, 29, .inl aa)), (f3, .inl (ax 2, 29, .inl ff)), (f4, .inl (ax 0, 290, .inl nb)), (f1, .inl (ax 2, 29, .inl x_4))]) hP hD [1] [0, 2, 3, 4] hCs (by decide) (by decide) hk1 hFc hP1 hD1 rfl
  clear hP1 hD1
  clear hPc hDc hFc hCs hz hz1 hk1 ht hvm
  clear hP hD hS
  have hS := hS1
  obtain ⟨hP, hD⟩ := hjn
  clear hS1
  rw [← hQe]
  obtain ⟨hP9, hD9⟩ := xw_sub2 (wc := (fun (u : Nat → Nat) (xrw : Nat → Int32) => [(f0, .inr (1, [.ref f1, .ref f2, .ref f3, .ref f4])), (f1, .inl (ax 2, 29, .inl xrw)), (f2, .inl (ax 2, 29, .inl aa)), (f3, .inl (ax 2, 29, .inl ff)), (f4, .inl (ax 0, 290, .inl nb))]) (ixn []) x_4) hP hD [0, 4, 1, 2, 3] (by decide) rfl
  have hex0 : ∀ j, j < 29 → x_4 j = 0 := (fun j hj => (hx_5 j hj).trans vps_0)
  exact W.vret hx hb hr (fun t ht hW => ⟨⟨ixn [], rfl, trivial, ⟨x_4, hex0, by rw [ht]; exact hP9, hD9⟩⟩, hS.F ht⟩) hS.2.2 d_Findings_clear_8
abbrev b_Findings_known : ByteArray := prog_3_method_3_code
def y_Findings_known : MethodName := ⟨R_Findings, "known", "(I)Z"⟩
theorem d_Findings_known_0 : decode b_Findings_known 0 = .ok (.aload_n 0, 1) := by decide +kernel
theorem d_Findings_known_1 : decode b_Findings_known 1 = .ok (.getfield 9, 3) := by decide +kernel
theorem d_Findings_known_4 : decode b_Findings_known 4 = .ok (.iload_n 1, 1) := by decide +kernel
theorem d_Findings_known_5 : decode b_Findings_known 5 = .ok (.saload, 1) := by decide +kernel
theorem d_Findings_known_6 : decode b_Findings_known 6 = .ok (.ifCond .eq 7, 3) := by decide +kernel
theorem d_Findings_known_9 : decode b_Findings_known 9 = .ok (.iconst 1, 1) := by decide +kernel
theorem d_Findings_known_10 : decode b_Findings_known 10 = .ok (.goto 4, 3) := by decide +kernel
theorem d_Findings_known_13 : decode b_Findings_known 13 = .ok (.iconst 0, 1) := by decide +kernel
theorem d_Findings_known_14 : decode b_Findings_known 14 = .ok (.ireturn, 1) := by decide +kernel
set_option maxHeartbeats 40000000 in
set_option maxRecDepth 100000 in
theorem c_F_known (l : Launch) (D : va_G) (ax : Nat → ClassId) (f0 f1 f2 f3 f4 : Nat) (rw aa ff nb : Nat → Int32) (j1 : Nat) (sz : Nat) (hj : j1 < 29) : Met l y_Findings_known (xws (.code y_Findings_known b_Findings_known 2 (some .boolean))) ({ frames := 10, cells := 0, slots := 0, locals := 400 }) (va_Pc [.ref f0, .int (nI j1)] (xo D ax [(f0, .inr (1, [.ref f1, .ref f2, .ref f3, .ref f4])), (f1, .inl (ax 2, 29, .inl rw)), (f2, .inl (ax 2, 29, .inl aa)), (f3, .inl (ax 2, 29, .inl ff)), (f4, .inl (ax 0, 290, .inl nb))] sz)) ((va_Qi (fun (r : Int32) (u : Nat → Nat) => r = nI (u 0) ∧ (u 0 ≤ 1 ∧ hid ((u 0 = 0 ∧ rw j1 = 0) ∨ (u 0 = 1 ∧ ¬ rw j1 = 0)))) (xb D (va_A [(f0, .inr (1, [.ref f1, .ref f2, .ref f3, .ref f4])), (f1, .inl (ax 2, 29, .inl rw)), (f2, .inl (ax 2, 29, .inl aa)), (f3, .inl (ax 2, 29, .inl ff)), (f4, .inl (ax 0, 290, .inl nb))] sz) (fun u => [(f0, .inr (1, [.ref f1, .ref f2, .ref f3, .ref f4])), (f1, .inl (ax 2, 29, .inl rw)), (f2, .inl (ax 2, 29, .inl aa)), (f3, .inl (ax 2, 29, .inl ff)), (f4, .inl (ax 0, 290, .inl nb))])) (va_A [(f0, .inr (1, [.ref f1, .ref f2, .ref f3, .ref f4])), (f1, .inl (ax 2, 29, .inl rw)), (f2, .inl (ax 2, 29, .inl aa)), (f3, .inl (ax 2, 29, .inl ff)), (f4, .inl (ax 0, 290, .inl nb))] sz))) 0 0 (va_A [(f0, .inr (1, [.ref f1, .ref f2, .ref f3, .ref f4])), (f1, .inl (ax 2, 29, .inl rw)), (f2, .inl (ax 2, 29, .inl aa)), (f3, .inl (ax 2, 29, .inl ff)), (f4, .inl (ax 0, 290, .inl nb))] sz) := by
  refine Met.ofW (cc := b_Findings_known) (maxL := 2) (ret := (some .boolean)) (by decide) rfl ?_
  intro p e s m args below meth c s₁ B hml hv
  obtain ⟨rfl, hsz, hP, hK, hD0⟩ := hv
  have hx := B.exec
  have hb := B.bytes
  have hr := B.returns
  have hts := xw_hts B.pre
  have hown : s.vm.findClass R_Findings = some m.cls := findClass_of_methodNamed B.named
  have hlocks := B.notSynchronized
  subst hsz
  have hD := hD0.self (sz := s.heap.size)
  have hN := xz_entry hP
  generalize hAe : va_A [(f0, .inr (1, [.ref f1, .ref f2, .ref f3, .ref f4])), (f1, .inl (ax 2, 29, .inl rw)), (f2, .inl (ax 2, 29, .inl aa)), (f3, .inl (ax 2, 29, .inl ff)), (f4, .inl (ax 0, 290, .inl nb))] s.heap.size = A at hD hN ⊢
  have hA : ∀ q : Nat, s.heap.size ≤ q → A q := fun q h => by rw [← hAe]; exact Or.inr h
  have hS : va_S A s.heap s.heap [] := va_S.rf
  have hl0 := lv_entry ([.ref f0, .int (nI j1)]) (n := 2) (Nat.le_of_ble_eq_true rfl)
  rw [lg_entry_eq]
  generalize (lg_sl ([.ref f0, .int (nI j1)]) ++ List.replicate (2 - (lg_sl ([.ref f0, .int (nI j1)])).length) Slot.unset).toArray = ls at hl0 ⊢
  have hl1 : lv_has ls 2 [(0, .ref f0), (1, .int (nI j1))] := hl0
  refine xw_gen (fun Z9 hQe => ?_)
  refine lv_aload_n hx hb d_Findings_known_0 rfl (lv_at hl1 0 rfl) ?_
  refine va_get (D := D) (ci := 1) (v := .ref f1) (C := R_Findings) (T := F_Findings) (N := 4) hx hb hts i_Findings hown hK.1 hP 0 rfl rfl 0 (by decide) (hts _ wd_214) (fun _ h9 => h9) rfl d_Findings_known_1 ?_
  refine lv_iload_n hx hb d_Findings_known_4 rfl (lv_at hl1 1 rfl) ?_
  refine va_sald hx hb hK.1 hP 1 2 rfl rfl (vp_in_nI (by first | assumption | omega) (by decide)) d_Findings_known_5 ?_
  refine W.eq (g2 := F0 m 6 ls [.int (rw j1)]) (by rw [nI_clamp (by first | exact Nat.lt_of_lt_of_le (by assumption) (by decide) | exact Nat.lt_of_le_of_lt (by assumption) (by decide) | omega)]) ?_
  refine lv_if_eq (tgt := 13) hx hb d_Findings_known_6 (by decide) (fun c_1 => ?_) (fun c_1 => ?_)
  · refine lv_iconst (v := 0) hx hb d_Findings_known_13 (by decide) ?_
    rw [← hQe]
    obtain ⟨hP9, hD9⟩ := xw_sub2 (wc := (fun u : Nat → Nat => [(f0, .inr (1, [.ref f1, .ref f2, .ref f3, .ref f4])), (f1, .inl (ax 2, 29, .inl rw)), (f2, .inl (ax 2, 29, .inl aa)), (f3, .inl (ax 2, 29, .inl ff)), (f4, .inl (ax 0, 290, .inl nb))]) (ixn [0])) hP hD [0, 1, 2, 3, 4] (by decide) rfl
    have hsp0 : 0 ≤ 1 := (by first | assumption | omega)
    have hsp1 : hid ((0 = 0 ∧ rw j1 = 0) ∨ (0 = 1 ∧ ¬ rw j1 = 0)) := (by first | exact Or.inl ⟨rfl, by assumption⟩ | exact Or.inr ⟨rfl, by assumption⟩)
    exact W.zret (v := 0) hx hb hr rfl (fun t ht hW => ⟨⟨0, ixn [0], rfl, ⟨rfl, ⟨hsp0, hsp1⟩⟩, ⟨by rw [ht]; exact hP9, hD9⟩⟩, hS.F ht⟩) hS.2.2 d_Findings_known_14
  · refine lv_iconst (v := 1) hx hb d_Findings_known_9 (by decide) ?_
    refine lv_goto (tgt := 14) hx hb d_Findings_known_10 (by decide) ?_
    rw [← hQe]
    obtain ⟨hP9, hD9⟩ := xw_sub2 (wc := (fun u : Nat → Nat => [(f0, .inr (1, [.ref f1, .ref f2, .ref f3, .ref f4])), (f1, .inl (ax 2, 29, .inl rw)), (f2, .inl (ax 2, 29, .inl aa)), (f3, .inl (ax 2, 29, .inl ff)), (f4, .inl (ax 0, 290, .inl nb))]) (ixn [1])) hP hD [0, 1, 2, 3, 4] (by decide) rfl
    have hsp0 : 1 ≤ 1 := (by first | assumption | omega)
    have hsp1 : hid ((1 = 0 ∧ rw j1 = 0) ∨ (1 = 1 ∧ ¬ rw j1 = 0)) := (by first | exact Or.inl ⟨rfl, by assumption⟩ | exact Or.inr ⟨rfl, by assumption⟩)
    exact W.zret (v := 1) hx hb hr rfl (fun t ht hW => ⟨⟨1, ixn [1], rfl, ⟨rfl, ⟨hsp0, hsp1⟩⟩, ⟨by rw [ht]; exact hP9, hD9⟩⟩, hS.F ht⟩) hS.2.2 d_Findings_known_14
abbrev b_Findings_verdict : ByteArray := prog_3_method_4_code
def y_Findings_verdict : MethodName := ⟨R_Findings, "verdict", "(I)I"⟩
theorem d_Findings_verdict_0 : decode b_Findings_verdict 0 = .ok (.aload_n 0, 1) := by decide +kernel
theorem d_Findings_verdict_1 : decode b_Findings_verdict 1 = .ok (.getfield 9, 3) := by decide +kernel
theorem d_Findings_verdict_4 : decode b_Findings_verdict 4 = .ok (.iload_n 1, 1) := by decide +kernel
theorem d_Findings_verdict_5 : decode b_Findings_verdict 5 = .ok (.saload, 1) := by decide +kernel
theorem d_Findings_verdict_6 : decode b_Findings_verdict 6 = .ok (.sipush 5000, 3) := by decide +kernel
theorem d_Findings_verdict_9 : decode b_Findings_verdict 9 = .ok (.if_icmp .le 5, 3) := by decide +kernel
theorem d_Findings_verdict_12 : decode b_Findings_verdict 12 = .ok (.iconst (-1), 1) := by decide +kernel
theorem d_Findings_verdict_13 : decode b_Findings_verdict 13 = .ok (.ireturn, 1) := by decide +kernel
theorem d_Findings_verdict_14 : decode b_Findings_verdict 14 = .ok (.aload_n 0, 1) := by decide +kernel
theorem d_Findings_verdict_15 : decode b_Findings_verdict 15 = .ok (.getfield 18, 3) := by decide +kernel
theorem d_Findings_verdict_18 : decode b_Findings_verdict 18 = .ok (.iload_n 1, 1) := by decide +kernel
theorem d_Findings_verdict_19 : decode b_Findings_verdict 19 = .ok (.saload, 1) := by decide +kernel
theorem d_Findings_verdict_20 : decode b_Findings_verdict 20 = .ok (.iconst (-1), 1) := by decide +kernel
theorem d_Findings_verdict_21 : decode b_Findings_verdict 21 = .ok (.if_icmp .ne 7, 3) := by decide +kernel
theorem d_Findings_verdict_24 : decode b_Findings_verdict 24 = .ok (.iconst 1, 1) := by decide +kernel
theorem d_Findings_verdict_25 : decode b_Findings_verdict 25 = .ok (.goto 4, 3) := by decide +kernel
theorem d_Findings_verdict_28 : decode b_Findings_verdict 28 = .ok (.iconst 0, 1) := by decide +kernel
theorem d_Findings_verdict_29 : decode b_Findings_verdict 29 = .ok (.ireturn, 1) := by decide +kernel
set_option maxHeartbeats 40000000 in
set_option maxRecDepth 100000 in
theorem c_F_verdict (l : Launch) (D : va_G) (ax : Nat → ClassId) (f0 f1 f2 f3 f4 : Nat) (rw aa ff nb : Nat → Int32) (j1 : Nat) (sz : Nat) (hj : j1 < 29) : Met l y_Findings_verdict (xws (.code y_Findings_verdict b_Findings_verdict 2 (some .int))) ({ frames := 10, cells := 0, slots := 0, locals := 400 }) (va_Pc [.ref f0, .int (nI j1)] (xo D ax [(f0, .inr (1, [.ref f1, .ref f2, .ref f3, .ref f4])), (f1, .inl (ax 2, 29, .inl rw)), (f2, .inl (ax 2, 29, .inl aa)), (f3, .inl (ax 2, 29, .inl ff)), (f4, .inl (ax 0, 290, .inl nb))] sz)) ((va_Qi (fun (r : Int32) (u : Nat → Nat) => r = nI (u 0) ∧ (u 0 ≤ 4294967295 ∧ vdF8 (rw j1) (ff j1) (nI (u 0)))) (xb D (va_A [(f0, .inr (1, [.ref f1, .ref f2, .ref f3, .ref f4])), (f1, .inl (ax 2, 29, .inl rw)), (f2, .inl (ax 2, 29, .inl aa)), (f3, .inl (ax 2, 29, .inl ff)), (f4, .inl (ax 0, 290, .inl nb))] sz) (fun u => [(f0, .inr (1, [.ref f1, .ref f2, .ref f3, .ref f4])), (f1, .inl (ax 2, 29, .inl rw)), (f2, .inl (ax 2, 29, .inl aa)), (f3, .inl (ax 2, 29, .inl ff)), (f4, .inl (ax 0, 290, .inl nb))])) (va_A [(f0, .inr (1, [.ref f1, .ref f2, .ref f3, .ref f4])), (f1, .inl (ax 2, 29, .inl rw)), (f2, .inl (ax 2, 29, .inl aa)), (f3, .inl (ax 2, 29, .inl ff)), (f4, .inl (ax 0, 290, .inl nb))] sz))) 0 0 (va_A [(f0, .inr (1, [.ref f1, .ref f2, .ref f3, .ref f4])), (f1, .inl (ax 2, 29, .inl rw)), (f2, .inl (ax 2, 29, .inl aa)), (f3, .inl (ax 2, 29, .inl ff)), (f4, .inl (ax 0, 290, .inl nb))] sz) := by
  refine Met.ofW (cc := b_Findings_verdict) (maxL := 2) (ret := (some .int)) (by decide) rfl ?_
  intro p e s m args below meth c s₁ B hml hv
  obtain ⟨rfl, hsz, hP, hK, hD0⟩ := hv
  have hx := B.exec
  have hb := B.bytes
  have hr := B.returns
  have hts := xw_hts B.pre
  have hown : s.vm.findClass R_Findings = some m.cls := findClass_of_methodNamed B.named
  have hlocks := B.notSynchronized
  subst hsz
  have hD := hD0.self (sz := s.heap.size)
  have hN := xz_entry hP
  generalize hAe : va_A [(f0, .inr (1, [.ref f1, .ref f2, .ref f3, .ref f4])), (f1, .inl (ax 2, 29, .inl rw)), (f2, .inl (ax 2, 29, .inl aa)), (f3, .inl (ax 2, 29, .inl ff)), (f4, .inl (ax 0, 290, .inl nb))] s.heap.size = A at hD hN ⊢
  have hA : ∀ q : Nat, s.heap.size ≤ q → A q := fun q h => by rw [← hAe]; exact Or.inr h
  have hS : va_S A s.heap s.heap [] := va_S.rf
  have hl0 := lv_entry ([.ref f0, .int (nI j1)]) (n := 2) (Nat.le_of_ble_eq_true rfl)
  rw [lg_entry_eq]
  generalize (lg_sl ([.ref f0, .int (nI j1)]) ++ List.replicate (2 - (lg_sl ([.ref f0, .int (nI j1)])).length) Slot.unset).toArray = ls at hl0 ⊢
  have hl1 : lv_has ls 2 [(0, .ref f0), (1, .int (nI j1))] := hl0
  refine xw_gen (fun Z9 hQe => ?_)
  refine lv_aload_n hx hb d_Findings_verdict_0 rfl (lv_at hl1 0 rfl) ?_
  refine va_get (D := D) (ci := 1) (v := .ref f1) (C := R_Findings) (T := F_Findings) (N := 4) hx hb hts i_Findings hown hK.1 hP 0 rfl rfl 0 (by decide) (hts _ wd_214) (fun _ h9 => h9) rfl d_Findings_verdict_1 ?_
  refine lv_iload_n hx hb d_Findings_verdict_4 rfl (lv_at hl1 1 rfl) ?_
  refine va_sald hx hb hK.1 hP 1 2 rfl rfl (vp_in_nI (by first | assumption | omega) (by decide)) d_Findings_verdict_5 ?_
  refine W.eq (g2 := F0 m 6 ls [.int (rw j1)]) (by rw [nI_clamp (by first | exact Nat.lt_of_lt_of_le (by assumption) (by decide) | exact Nat.lt_of_le_of_lt (by assumption) (by decide) | omega)]) ?_
  refine lv_sipush (v := 5000) hx hb d_Findings_verdict_6 (by decide) ?_
  refine lv_icmp_le (tgt := 14) hx hb d_Findings_verdict_9 (by decide) (fun c_1 => ?_) (fun c_1 => ?_)
  · refine lv_aload_n hx hb d_Findings_verdict_14 rfl (lv_at hl1 0 rfl) ?_
    refine va_get (D := D) (ci := 1) (v := .ref f3) (C := R_Findings) (T := F_Findings) (N := 4) hx hb hts i_Findings hown hK.1 hP 0 rfl rfl 2 (by decide) (hts _ wd_218) (fun _ h9 => h9) rfl d_Findings_verdict_15 ?_
    refine lv_iload_n hx hb d_Findings_verdict_18 rfl (lv_at hl1 1 rfl) ?_
    refine va_sald hx hb hK.1 hP 3 2 rfl rfl (vp_in_nI (by first | assumption | omega) (by decide)) d_Findings_verdict_19 ?_
    refine W.eq (g2 := F0 m 20 ls [.int (ff j1)]) (by rw [nI_clamp (by first | exact Nat.lt_of_lt_of_le (by assumption) (by decide) | exact Nat.lt_of_le_of_lt (by assumption) (by decide) | omega)]) ?_
    refine lv_iconst (v := (-1)) hx hb d_Findings_verdict_20 (by decide) ?_
    refine lv_icmp_ne (tgt := 28) hx hb d_Findings_verdict_21 (by decide) (fun c_2 => ?_) (fun c_2 => ?_)
    · refine lv_iconst (v := 0) hx hb d_Findings_verdict_28 (by decide) ?_
      rw [← hQe]
      obtain ⟨hP9, hD9⟩ := xw_sub2 (wc := (fun u : Nat → Nat => [(f0, .inr (1, [.ref f1, .ref f2, .ref f3, .ref f4])), (f1, .inl (ax 2, 29, .inl rw)), (f2, .inl (ax 2, 29, .inl aa)), (f3, .inl (ax 2, 29, .inl ff)), (f4, .inl (ax 0, 290, .inl nb))]) (ixn [0])) hP hD [0, 1, 2, 3, 4] (by decide) rfl
      have hsp0 : 0 ≤ 4294967295 := (by first | assumption | omega)
      have hsp1 : vdF8 (rw j1) (ff j1) (nI (0)) := (Or.inr (Or.inr ⟨le8 (by assumption), by assumption, rfl⟩))
      exact W.iret (v := 0) hx hb hr (fun t ht hW => ⟨⟨0, ixn [0], rfl, ⟨rfl, ⟨hsp0, hsp1⟩⟩, ⟨by rw [ht]; exact hP9, hD9⟩⟩, hS.F ht⟩) hS.2.2 d_Findings_verdict_29
    · refine lv_iconst (v := 1) hx hb d_Findings_verdict_24 (by decide) ?_
      refine lv_goto (tgt := 29) hx hb d_Findings_verdict_25 (by decide) ?_
      rw [← hQe]
      obtain ⟨hP9, hD9⟩ := xw_sub2 (wc := (fun u : Nat → Nat => [(f0, .inr (1, [.ref f1, .ref f2, .ref f3, .ref f4])), (f1, .inl (ax 2, 29, .inl rw)), (f2, .inl (ax 2, 29, .inl aa)), (f3, .inl (ax 2, 29, .inl ff)), (f4, .inl (ax 0, 290, .inl nb))]) (ixn [1])) hP hD [0, 1, 2, 3, 4] (by decide) rfl
      have hsp0 : 1 ≤ 4294967295 := (by first | assumption | omega)
      have hsp1 : vdF8 (rw j1) (ff j1) (nI (1)) := (Or.inr (Or.inl ⟨le8 (by assumption), by assumption, rfl⟩))
      exact W.iret (v := 1) hx hb hr (fun t ht hW => ⟨⟨1, ixn [1], rfl, ⟨rfl, ⟨hsp0, hsp1⟩⟩, ⟨by rw [ht]; exact hP9, hD9⟩⟩, hS.F ht⟩) hS.2.2 d_Findings_verdict_29
  · refine lv_iconst (v := (-1)) hx hb d_Findings_verdict_12 (by decide) ?_
    rw [← hQe]
    obtain ⟨hP9, hD9⟩ := xw_sub2 (wc := (fun u : Nat → Nat => [(f0, .inr (1, [.ref f1, .ref f2, .ref f3, .ref f4])), (f1, .inl (ax 2, 29, .inl rw)), (f2, .inl (ax 2, 29, .inl aa)), (f3, .inl (ax 2, 29, .inl ff)), (f4, .inl (ax 0, 290, .inl nb))]) (ixn [4294967295])) hP hD [0, 1, 2, 3, 4] (by decide) rfl
    have hsp0 : 4294967295 ≤ 4294967295 := (by first | assumption | omega)
    have hsp1 : vdF8 (rw j1) (ff j1) (nI (4294967295)) := (Or.inl ⟨nl8 (by assumption), (by first | rfl | decide)⟩)
    exact W.iret (v := (-1)) hx hb hr (fun t ht hW => ⟨⟨(-1), ixn [4294967295], rfl, ⟨rfl, ⟨hsp0, hsp1⟩⟩, ⟨by rw [ht]; exact hP9, hD9⟩⟩, hS.F ht⟩) hS.2.2 d_Findings_verdict_13
abbrev b_Findings_number : ByteArray := prog_3_method_6_code
def y_Findings_number : MethodName := ⟨R_Findings, "number", "(II)I"⟩
theorem d_Findings_number_0 : decode b_Findings_number 0 = .ok (.aload_n 0, 1) := by decide +kernel
theorem d_Findings_number_1 : decode b_Findings_number 1 = .ok (.getfield 21, 3) := by decide +kernel
theorem d_Findings_number_4 : decode b_Findings_number 4 = .ok (.bipush 10, 2) := by decide +kernel
theorem d_Findings_number_6 : decode b_Findings_number 6 = .ok (.iload_n 1, 1) := by decide +kernel
theorem d_Findings_number_7 : decode b_Findings_number 7 = .ok (.imul, 1) := by decide +kernel
theorem d_Findings_number_8 : decode b_Findings_number 8 = .ok (.iload_n 2, 1) := by decide +kernel
theorem d_Findings_number_9 : decode b_Findings_number 9 = .ok (.iadd, 1) := by decide +kernel
theorem d_Findings_number_10 : decode b_Findings_number 10 = .ok (.iaload, 1) := by decide +kernel
theorem d_Findings_number_11 : decode b_Findings_number 11 = .ok (.ireturn, 1) := by decide +kernel
set_option maxHeartbeats 40000000 in
set_option maxRecDepth 100000 in
theorem c_F_number (l : Launch) (D : va_G) (ax : Nat → ClassId) (f0 f1 f2 f3 f4 : Nat) (rw aa ff nb : Nat → Int32) (j1 v1 : Nat) (sz : Nat) (hj : j1 < 29) (hv1 : v1 < 10) : Met l y_Findings_number (xws (.code y_Findings_number b_Findings_number 3 (some .int))) ({ frames := 10, cells := 0, slots := 0, locals := 400 }) (va_Pc [.ref f0, .int (nI j1), .int (nI v1)] (xo D ax [(f0, .inr (1, [.ref f1, .ref f2, .ref f3, .ref f4])), (f1, .inl (ax 2, 29, .inl rw)), (f2, .inl (ax 2, 29, .inl aa)), (f3, .inl (ax 2, 29, .inl ff)), (f4, .inl (ax 0, 290, .inl nb))] sz)) ((va_Qi (fun (r : Int32) (u : Nat → Nat) => r = nI (u 0) ∧ (u 0 ≤ 4294967295 ∧ nI (u 0) = nb (10 * j1 + v1))) (xb D (va_A [(f0, .inr (1, [.ref f1, .ref f2, .ref f3, .ref f4])), (f1, .inl (ax 2, 29, .inl rw)), (f2, .inl (ax 2, 29, .inl aa)), (f3, .inl (ax 2, 29, .inl ff)), (f4, .inl (ax 0, 290, .inl nb))] sz) (fun u => [(f0, .inr (1, [.ref f1, .ref f2, .ref f3, .ref f4])), (f1, .inl (ax 2, 29, .inl rw)), (f2, .inl (ax 2, 29, .inl aa)), (f3, .inl (ax 2, 29, .inl ff)), (f4, .inl (ax 0, 290, .inl nb))])) (va_A [(f0, .inr (1, [.ref f1, .ref f2, .ref f3, .ref f4])), (f1, .inl (ax 2, 29, .inl rw)), (f2, .inl (ax 2, 29, .inl aa)), (f3, .inl (ax 2, 29, .inl ff)), (f4, .inl (ax 0, 290, .inl nb))] sz))) 0 0 (va_A [(f0, .inr (1, [.ref f1, .ref f2, .ref f3, .ref f4])), (f1, .inl (ax 2, 29, .inl rw)), (f2, .inl (ax 2, 29, .inl aa)), (f3, .inl (ax 2, 29, .inl ff)), (f4, .inl (ax 0, 290, .inl nb))] sz) := by
  refine Met.ofW (cc := b_Findings_number) (maxL := 3) (ret := (some .int)) (by decide) rfl ?_
  intro p e s m args below meth c s₁ B hml hv
  obtain ⟨rfl, hsz, hP, hK, hD0⟩ := hv
  have hx := B.exec
  have hb := B.bytes
  have hr := B.returns
  have hts := xw_hts B.pre
  have hown : s.vm.findClass R_Findings = some m.cls := findClass_of_methodNamed B.named
  have hlocks := B.notSynchronized
  subst hsz
  have hD := hD0.self (sz := s.heap.size)
  have hN := xz_entry hP
  generalize hAe : va_A [(f0, .inr (1, [.ref f1, .ref f2, .ref f3, .ref f4])), (f1, .inl (ax 2, 29, .inl rw)), (f2, .inl (ax 2, 29, .inl aa)), (f3, .inl (ax 2, 29, .inl ff)), (f4, .inl (ax 0, 290, .inl nb))] s.heap.size = A at hD hN ⊢
  have hA : ∀ q : Nat, s.heap.size ≤ q → A q := fun q h => by rw [← hAe]; exact Or.inr h
  have hS : va_S A s.heap s.heap [] := va_S.rf
  have hl0 := lv_entry ([.ref f0, .int (nI j1), .int (nI v1)]) (n := 3) (Nat.le_of_ble_eq_true rfl)
  rw [lg_entry_eq]
  generalize (lg_sl ([.ref f0, .int (nI j1), .int (nI v1)]) ++ List.replicate (3 - (lg_sl ([.ref f0, .int (nI j1), .int (nI v1)])).length) Slot.unset).toArray = ls at hl0 ⊢
  have hl1 : lv_has ls 3 [(0, .ref f0), (1, .int (nI j1)), (2, .int (nI v1))] := hl0
  refine xw_gen (fun Z9 hQe => ?_)
  refine lv_aload_n hx hb d_Findings_number_0 rfl (lv_at hl1 0 rfl) ?_
  refine va_get (D := D) (ci := 1) (v := .ref f4) (C := R_Findings) (T := F_Findings) (N := 4) hx hb hts i_Findings hown hK.1 hP 0 rfl rfl 3 (by decide) (hts _ wd_220) (fun _ h9 => h9) rfl d_Findings_number_1 ?_
  refine lv_bipush (v := 10) hx hb d_Findings_number_4 (by decide) ?_
  refine lv_iload_n hx hb d_Findings_number_6 rfl (lv_at hl1 1 rfl) ?_
  refine lv_imul hx hb d_Findings_number_7 ?_
  refine lv_topi (fun z_1 ez_1 => ?_)
  have ez_1 : z_1 = nI (10 * j1) := ez_1.trans (pk_mul 10 j1)
  subst ez_1
  refine lv_iload_n hx hb d_Findings_number_8 rfl (lv_at hl1 2 rfl) ?_
  refine lv_iadd hx hb d_Findings_number_9 ?_
  refine lv_topi (fun z_2 ez_2 => ?_)
  have ez_2 : z_2 = nI (10 * j1 + v1) := ez_2.trans (nI_add (10 * j1) v1)
  subst ez_2
  refine va_iald hx hb hK.1 hP 4 0 rfl rfl (vp_in_nI (by first | assumption | omega) (by decide)) d_Findings_number_10 ?_
  refine W.eq (g2 := F0 m 11 ls [.int (nb (10 * j1 + v1))]) (by rw [nI_clamp (by first | exact Nat.lt_of_lt_of_le (by assumption) (by decide) | exact Nat.lt_of_le_of_lt (by assumption) (by decide) | omega)]) ?_
  rw [← hQe]
  obtain ⟨hP9, hD9⟩ := xw_sub2 (wc := (fun u : Nat → Nat => [(f0, .inr (1, [.ref f1, .ref f2, .ref f3, .ref f4])), (f1, .inl (ax 2, 29, .inl rw)), (f2, .inl (ax 2, 29, .inl aa)), (f3, .inl (ax 2, 29, .inl ff)), (f4, .inl (ax 0, 290, .inl nb))]) (ixn [(i2n (nb (10 * j1 + v1)))])) hP hD [0, 1, 2, 3, 4] (by decide) rfl
  have hsp0 : (i2n (nb (10 * j1 + v1))) ≤ 4294967295 := (Nat.le_of_lt_succ (i2n_lt _))
  have hsp1 : nI ((i2n (nb (10 * j1 + v1)))) = nb (10 * j1 + v1) := (nI_i2n _)
  exact W.iret (v := nb (10 * j1 + v1)) hx hb hr (fun t ht hW => ⟨⟨nb (10 * j1 + v1), ixn [(i2n (nb (10 * j1 + v1)))], rfl, ⟨(nI_i2n _).symm, ⟨hsp0, hsp1⟩⟩, ⟨by rw [ht]; exact hP9, hD9⟩⟩, hS.F ht⟩) hS.2.2 d_Findings_number_11
abbrev b_Findings_keep : ByteArray := prog_3_method_5_code
def y_Findings_keep : MethodName := ⟨R_Findings, "keep", "(ILTripleDesk$Prover;)V"⟩
theorem d_Findings_keep_0 : decode b_Findings_keep 0 = .ok (.aload_n 0, 1) := by decide +kernel
theorem d_Findings_keep_1 : decode b_Findings_keep 1 = .ok (.getfield 9, 3) := by decide +kernel
theorem d_Findings_keep_4 : decode b_Findings_keep 4 = .ok (.iload_n 1, 1) := by decide +kernel
theorem d_Findings_keep_5 : decode b_Findings_keep 5 = .ok (.aload_n 2, 1) := by decide +kernel
theorem d_Findings_keep_6 : decode b_Findings_keep 6 = .ok (.getfield 31, 3) := by decide +kernel
theorem d_Findings_keep_9 : decode b_Findings_keep 9 = .ok (.i2s, 1) := by decide +kernel
theorem d_Findings_keep_10 : decode b_Findings_keep 10 = .ok (.sastore, 1) := by decide +kernel
theorem d_Findings_keep_11 : decode b_Findings_keep 11 = .ok (.aload_n 0, 1) := by decide +kernel
theorem d_Findings_keep_12 : decode b_Findings_keep 12 = .ok (.getfield 15, 3) := by decide +kernel
theorem d_Findings_keep_15 : decode b_Findings_keep 15 = .ok (.iload_n 1, 1) := by decide +kernel
theorem d_Findings_keep_16 : decode b_Findings_keep 16 = .ok (.aload_n 2, 1) := by decide +kernel
theorem d_Findings_keep_17 : decode b_Findings_keep 17 = .ok (.getfield 36, 3) := by decide +kernel
theorem d_Findings_keep_20 : decode b_Findings_keep 20 = .ok (.i2s, 1) := by decide +kernel
theorem d_Findings_keep_21 : decode b_Findings_keep 21 = .ok (.sastore, 1) := by decide +kernel
theorem d_Findings_keep_22 : decode b_Findings_keep 22 = .ok (.aload_n 0, 1) := by decide +kernel
theorem d_Findings_keep_23 : decode b_Findings_keep 23 = .ok (.getfield 18, 3) := by decide +kernel
theorem d_Findings_keep_26 : decode b_Findings_keep 26 = .ok (.iload_n 1, 1) := by decide +kernel
theorem d_Findings_keep_27 : decode b_Findings_keep 27 = .ok (.aload_n 2, 1) := by decide +kernel
theorem d_Findings_keep_28 : decode b_Findings_keep 28 = .ok (.getfield 38, 3) := by decide +kernel
theorem d_Findings_keep_31 : decode b_Findings_keep 31 = .ok (.i2s, 1) := by decide +kernel
theorem d_Findings_keep_32 : decode b_Findings_keep 32 = .ok (.sastore, 1) := by decide +kernel
theorem d_Findings_keep_33 : decode b_Findings_keep 33 = .ok (.iconst 0, 1) := by decide +kernel
theorem d_Findings_keep_34 : decode b_Findings_keep 34 = .ok (.istore_n 3, 1) := by decide +kernel
theorem d_Findings_keep_35 : decode b_Findings_keep 35 = .ok (.iload_n 3, 1) := by decide +kernel
theorem d_Findings_keep_36 : decode b_Findings_keep 36 = .ok (.bipush 10, 2) := by decide +kernel
theorem d_Findings_keep_38 : decode b_Findings_keep 38 = .ok (.if_icmp .ge 28, 3) := by decide +kernel
theorem d_Findings_keep_41 : decode b_Findings_keep 41 = .ok (.aload_n 0, 1) := by decide +kernel
theorem d_Findings_keep_42 : decode b_Findings_keep 42 = .ok (.getfield 21, 3) := by decide +kernel
theorem d_Findings_keep_45 : decode b_Findings_keep 45 = .ok (.bipush 10, 2) := by decide +kernel
theorem d_Findings_keep_47 : decode b_Findings_keep 47 = .ok (.iload_n 1, 1) := by decide +kernel
theorem d_Findings_keep_48 : decode b_Findings_keep 48 = .ok (.imul, 1) := by decide +kernel
theorem d_Findings_keep_49 : decode b_Findings_keep 49 = .ok (.iload_n 3, 1) := by decide +kernel
theorem d_Findings_keep_50 : decode b_Findings_keep 50 = .ok (.iadd, 1) := by decide +kernel
theorem d_Findings_keep_51 : decode b_Findings_keep 51 = .ok (.aload_n 2, 1) := by decide +kernel
theorem d_Findings_keep_52 : decode b_Findings_keep 52 = .ok (.getfield 40, 3) := by decide +kernel
theorem d_Findings_keep_55 : decode b_Findings_keep 55 = .ok (.iload_n 3, 1) := by decide +kernel
theorem d_Findings_keep_56 : decode b_Findings_keep 56 = .ok (.invokevirtual 44, 3) := by decide +kernel
theorem d_Findings_keep_59 : decode b_Findings_keep 59 = .ok (.iastore, 1) := by decide +kernel
theorem d_Findings_keep_60 : decode b_Findings_keep 60 = .ok (.iinc 3 1, 3) := by decide +kernel
theorem d_Findings_keep_63 : decode b_Findings_keep 63 = .ok (.goto (-28), 3) := by decide +kernel
theorem d_Findings_keep_66 : decode b_Findings_keep 66 = .ok (.return_, 1) := by decide +kernel
set_option maxHeartbeats 40000000 in
set_option maxRecDepth 100000 in
theorem c_F_keep (l : Launch) (D : va_G) (ax : Nat → ClassId) (f0 f1 f2 f3 f4 : Nat) (rw aa ff nb : Nat → Int32) (b0 b1 b2 b3 bn : Nat) (lv mo : Nat → Int32) (bo : Nat → Nat) (j1 p0 : Nat) (s_rows s_atoms s_first : Int32) (vf vr vd vi vw : Value) (sz : Nat) (hj : j1 < 29) (hs1 : sm8 s_rows) (hs2 : sm8 s_atoms) (hs3 : sm8 s_first) : Met l y_Findings_keep (xws (.code y_Findings_keep b_Findings_keep 4 none)) ({ frames := 20, cells := 0, slots := 0, locals := 800 }) (va_Pc [.ref f0, .int (nI j1), .ref p0] (xo D ax [(f0, .inr (1, [.ref f1, .ref f2, .ref f3, .ref f4])), (f1, .inl (ax 2, 29, .inl rw)), (f2, .inl (ax 2, 29, .inl aa)), (f3, .inl (ax 2, 29, .inl ff)), (f4, .inl (ax 0, 290, .inl nb)), (p0, .inr (6, [.ref b0, .int s_rows, .int s_atoms, .int s_first, vf, vr, vd, vi, vw])), (b0, .inr (0, [.ref b1, .ref b2, .ref b3, .int (nI bn)])), (b1, .inl (ax 0, 11, .inl lv)), (b2, .inl (ax 0, 121, .inl mo)), (b3, .inl (ax 0, 121, .inl (fun j => nI (bo j))))] sz)) ((va_Qv (fun (u : Nat → Nat) => True) (fun (u : Nat → Nat) (t9 : State) => ∃ xrw : Nat → Int32, ∃ xaa : Nat → Int32, ∃ xff : Nat → Int32, ∃ xnb : Nat → Int32, (up8 rw xrw j1 s_rows) ∧ (up8 aa xaa j1 s_atoms) ∧ (up8 ff xff j1 s_first) ∧ (knI8 nb lv j1 10 xnb) ∧ va_P D classes [(f0, .inr (1, [.ref f1, .ref f2, .ref f3, .ref f4])), (f1, .inl (ax 2, 29, .inl xrw)), (f2, .inl (ax 2, 29, .inl xaa)), (f3, .inl (ax 2, 29, .inl xff)), (f4, .inl (ax 0, 290, .inl xnb)), (p0, .inr (6, [.ref b0, .int s_rows, .int s_atoms, .int s_first, vf, vr, vd, vi, vw])), (b0, .inr (0, [.ref b1, .ref b2, .ref b3, .int (nI bn)])), (b1, .inl (ax 0, 11, .inl lv)), (b2, .inl (ax 0, 121, .inl mo)), (b3, .inl (ax 0, 121, .inl (fun j => nI (bo j))))] t9.heap ∧ va_D (va_A [(f0, .inr (1, [.ref f1, .ref f2, .ref f3, .ref f4])), (f1, .inl (ax 2, 29, .inl rw)), (f2, .inl (ax 2, 29, .inl aa)), (f3, .inl (ax 2, 29, .inl ff)), (f4, .inl (ax 0, 290, .inl nb)), (p0, .inr (6, [.ref b0, .int s_rows, .int s_atoms, .int s_first, vf, vr, vd, vi, vw])), (b0, .inr (0, [.ref b1, .ref b2, .ref b3, .int (nI bn)])), (b1, .inl (ax 0, 11, .inl lv)), (b2, .inl (ax 0, 121, .inl mo)), (b3, .inl (ax 0, 121, .inl (fun j => nI (bo j))))] sz) [(f0, .inr (1, [.ref f1, .ref f2, .ref f3, .ref f4])), (f1, .inl (ax 2, 29, .inl xrw)), (f2, .inl (ax 2, 29, .inl xaa)), (f3, .inl (ax 2, 29, .inl xff)), (f4, .inl (ax 0, 290, .inl xnb)), (p0, .inr (6, [.ref b0, .int s_rows, .int s_atoms, .int s_first, vf, vr, vd, vi, vw])), (b0, .inr (0, [.ref b1, .ref b2, .ref b3, .int (nI bn)])), (b1, .inl (ax 0, 11, .inl lv)), (b2, .inl (ax 0, 121, .inl mo)), (b3, .inl (ax 0, 121, .inl (fun j => nI (bo j))))]) (va_A [(f0, .inr (1, [.ref f1, .ref f2, .ref f3, .ref f4])), (f1, .inl (ax 2, 29, .inl rw)), (f2, .inl (ax 2, 29, .inl aa)), (f3, .inl (ax 2, 29, .inl ff)), (f4, .inl (ax 0, 290, .inl nb)), (p0, .inr (6, [.ref b0, .int s_rows, .int s_atoms, .int s_first, vf, vr, vd, vi, vw])), (b0, .inr (0, [.ref b1, .ref b2, .ref b3, .int (nI bn)])), (b1, .inl (ax 0, 11, .inl lv)), (b2, .inl (ax 0, 121, .inl mo)), (b3, .inl (ax 0, 121, .inl (fun j => nI (bo j))))] sz))) 0 0 (va_A [(f0, .inr (1, [.ref f1, .ref f2, .ref f3, .ref f4])), (f1, .inl (ax 2, 29, .inl rw)), (f2, .inl (ax 2, 29, .inl aa)), (f3, .inl (ax 2, 29, .inl ff)), (f4, .inl (ax 0, 290, .inl nb)), (p0, .inr (6, [.ref b0, .int s_rows, .int s_atoms, .int s_first, vf, vr, vd, vi, vw])), (b0, .inr (0, [.ref b1, .ref b2, .ref b3, .int (nI bn)])), (b1, .inl (ax 0, 11, .inl lv)), (b2, .inl (ax 0, 121, .inl mo)), (b3, .inl (ax 0, 121, .inl (fun j => nI (bo j))))] sz) := by
  refine Met.ofW (cc := b_Findings_keep) (maxL := 4) (ret := none) (by decide) rfl ?_
  intro p e s m args below meth c s₁ B hml hv
  obtain ⟨rfl, hsz, hP, hK, hD0⟩ := hv
  have hx := B.exec
  have hb := B.bytes
  have hr := B.returns
  have hts := xw_hts B.pre
  have hown : s.vm.findClass R_Findings = some m.cls := findClass_of_methodNamed B.named
  have hlocks := B.notSynchronized
  subst hsz
  have hD := hD0.self (sz := s.heap.size)
  have hN := xz_entry hP
  generalize hAe : va_A [(f0, .inr (1, [.ref f1, .ref f2, .ref f3, .ref f4])), (f1, .inl (ax 2, 29, .inl rw)), (f2, .inl (ax 2, 29, .inl aa)), (f3, .inl (ax 2, 29, .inl ff)), (f4, .inl (ax 0, 290, .inl nb)), (p0, .inr (6, [.ref b0, .int s_rows, .int s_atoms, .int s_first, vf, vr, vd, vi, vw])), (b0, .inr (0, [.ref b1, .ref b2, .ref b3, .int (nI bn)])), (b1, .inl (ax 0, 11, .inl lv)), (b2, .inl (ax 0, 121, .inl mo)), (b3, .inl (ax 0, 121, .inl (fun j => nI (bo j))))] s.heap.size = A at hD hN ⊢
  have hA : ∀ q : Nat, s.heap.size ≤ q → A q := fun q h => by rw [← hAe]; exact Or.inr h
  have hS : va_S A s.heap s.heap [] := va_S.rf
  have hl0 := lv_entry ([.ref f0, .int (nI j1), .ref p0]) (n := 4) (Nat.le_of_ble_eq_true rfl)
  rw [lg_entry_eq]
  generalize (lg_sl ([.ref f0, .int (nI j1), .ref p0]) ++ List.replicate (4 - (lg_sl ([.ref f0, .int (nI j1), .ref p0])).length) Slot.unset).toArray = ls at hl0 ⊢
  have hl1 : lv_has ls 4 [(0, .ref f0), (1, .int (nI j1)), (2, .ref p0)] := hl0
  refine xw_gen (fun Z9 hQe => ?_)
  refine lv_aload_n hx hb d_Findings_keep_0 rfl (lv_at hl1 0 rfl) ?_
  refine va_get (D := D) (ci := 1) (v := .ref f1) (C := R_Findings) (T := F_Findings) (N := 4) hx hb hts i_Findings hown hK.1 hP 0 rfl rfl 0 (by decide) (hts _ wd_214) (fun _ h9 => h9) rfl d_Findings_keep_1 ?_
  refine lv_iload_n hx hb d_Findings_keep_4 rfl (lv_at hl1 1 rfl) ?_
  refine lv_aload_n hx hb d_Findings_keep_5 rfl (lv_at hl1 2 rfl) ?_
  refine va_get (D := D) (ci := 6) (v := .int s_rows) (C := R_Prover) (T := F_Prover) (N := 9) hx hb hts i_Prover hown hK.1 hP 5 rfl rfl 1 (by decide) (hts _ wd_178) (fun _ h9 => h9) rfl d_Findings_keep_6 ?_
  refine lv_i2s hx hb d_Findings_keep_9 rfl ?_
  refine lv_topi (fun z_1 ez_1 => ?_)
  refine va_sast hx hb hK.1 hP hD hS 1 2 rfl rfl (vp_in_nI (by first | assumption | omega) (by decide)) d_Findings_keep_10 (fun H_2 locs hP1 hD1 hS1 => ?_)
  rw [nI_clamp (by first | exact Nat.lt_of_lt_of_le (by assumption) (by decide) | exact Nat.lt_of_le_of_lt (by assumption) (by decide) | omega)] at hP1 hD1
  clear hP hD hS
  have hS := hS1
  have hW7 : (fun w9 : va_W => va_P D classes w9 H_2 ∧ va_D A w9) [(f0, .inr (1, [.ref f1, .ref f2, .ref f3, .ref f4])), (f1, .inl (ax 2, 29, .inl (upd rw j1 (vp_nar .short z_1)))), (f2, .inl (ax 2, 29, .inl aa)), (f3, .inl (ax 2, 29, .inl ff)), (f4, .inl (ax 0, 290, .inl nb)), (p0, .inr (6, [.ref b0, .int s_rows, .int s_atoms, .int s_first, vf, vr, vd, vi, vw])), (b0, .inr (0, [.ref b1, .ref b2, .ref b3, .int (nI bn)])), (b1, .inl (ax 0, 11, .inl lv)), (b2, .inl (ax 0, 121, .inl mo)), (b3, .inl (ax 0, 121, .inl (fun j => nI (bo j))))] := ⟨hP1, hD1⟩
  obtain ⟨hP, hD⟩ := hW7
  clear hP1 hD1 hS1
  refine lv_aload_n hx hb d_Findings_keep_11 rfl (lv_at hl1 0 rfl) ?_
  refine va_get (D := D) (ci := 1) (v := .ref f2) (C := R_Findings) (T := F_Findings) (N := 4) hx hb hts i_Findings hown hK.1 hP 0 rfl rfl 1 (by decide) (hts _ wd_216) (fun _ h9 => h9) rfl d_Findings_keep_12 ?_
  refine lv_iload_n hx hb d_Findings_keep_15 rfl (lv_at hl1 1 rfl) ?_
  refine lv_aload_n hx hb d_Findings_keep_16 rfl (lv_at hl1 2 rfl) ?_
  refine va_get (D := D) (ci := 6) (v := .int s_atoms) (C := R_Prover) (T := F_Prover) (N := 9) hx hb hts i_Prover hown hK.1 hP 5 rfl rfl 2 (by decide) (hts _ wd_180) (fun _ h9 => h9) rfl d_Findings_keep_17 ?_
  refine lv_i2s hx hb d_Findings_keep_20 rfl ?_
  refine lv_topi (fun z_3 ez_3 => ?_)
  refine va_sast hx hb hK.1 hP hD hS 2 2 rfl rfl (vp_in_nI (by first | assumption | omega) (by decide)) d_Findings_keep_21 (fun H_4 locs hP1 hD1 hS1 => ?_)
  rw [nI_clamp (by first | exact Nat.lt_of_lt_of_le (by assumption) (by decide) | exact Nat.lt_of_le_of_lt (by assumption) (by decide) | omega)] at hP1 hD1
  clear hP hD hS
  have hS := hS1
  have hW7 : (fun w9 : va_W => va_P D classes w9 H_4 ∧ va_D A w9) [(f0, .inr (1, [.ref f1, .ref f2, .ref f3, .ref f4])), (f1, .inl (ax 2, 29, .inl (upd rw j1 (vp_nar .short z_1)))), (f2, .inl (ax 2, 29, .inl (upd aa j1 (vp_nar .short z_3)))), (f3, .inl (ax 2, 29, .inl ff)), (f4, .inl (ax 0, 290, .inl nb)), (p0, .inr (6, [.ref b0, .int s_rows, .int s_atoms, .int s_first, vf, vr, vd, vi, vw])), (b0, .inr (0, [.ref b1, .ref b2, .ref b3, .int (nI bn)])), (b1, .inl (ax 0, 11, .inl lv)), (b2, .inl (ax 0, 121, .inl mo)), (b3, .inl (ax 0, 121, .inl (fun j => nI (bo j))))] := ⟨hP1, hD1⟩
  obtain ⟨hP, hD⟩ := hW7
  clear hP1 hD1 hS1
  refine lv_aload_n hx hb d_Findings_keep_22 rfl (lv_at hl1 0 rfl) ?_
  refine va_get (D := D) (ci := 1) (v := .ref f3) (C := R_Findings) (T := F_Findings) (N := 4) hx hb hts i_Findings hown hK.1 hP 0 rfl rfl 2 (by decide) (hts _ wd_218) (fun _ h9 => h9) rfl d_Findings_keep_23 ?_
  refine lv_iload_n hx hb d_Findings_keep_26 rfl (lv_at hl1 1 rfl) ?_
  refine lv_aload_n hx hb d_Findings_keep_27 rfl (lv_at hl1 2 rfl) ?_
  refine va_get (D := D) (ci := 6) (v := .int s_first) (C := R_Prover) (T := F_Prover) (N := 9) hx hb hts i_Prover hown hK.1 hP 5 rfl rfl 3 (by decide) (hts _ wd_182) (fun _ h9 => h9) rfl d_Findings_keep_28 ?_
  refine lv_i2s hx hb d_Findings_keep_31 rfl ?_
  refine lv_topi (fun z_5 ez_5 => ?_)
  refine va_sast hx hb hK.1 hP hD hS 3 2 rfl rfl (vp_in_nI (by first | assumption | omega) (by decide)) d_Findings_keep_32 (fun H_6 locs hP1 hD1 hS1 => ?_)
  rw [nI_clamp (by first | exact Nat.lt_of_lt_of_le (by assumption) (by decide) | exact Nat.lt_of_le_of_lt (by assumption) (by decide) | omega)] at hP1 hD1
  clear hP hD hS
  have hS := hS1
  have hW7 : (fun w9 : va_W => va_P D classes w9 H_6 ∧ va_D A w9) [(f0, .inr (1, [.ref f1, .ref f2, .ref f3, .ref f4])), (f1, .inl (ax 2, 29, .inl (upd rw j1 (vp_nar .short z_1)))), (f2, .inl (ax 2, 29, .inl (upd aa j1 (vp_nar .short z_3)))), (f3, .inl (ax 2, 29, .inl (upd ff j1 (vp_nar .short z_5)))), (f4, .inl (ax 0, 290, .inl nb)), (p0, .inr (6, [.ref b0, .int s_rows, .int s_atoms, .int s_first, vf, vr, vd, vi, vw])), (b0, .inr (0, [.ref b1, .ref b2, .ref b3, .int (nI bn)])), (b1, .inl (ax 0, 11, .inl lv)), (b2, .inl (ax 0, 121, .inl mo)), (b3, .inl (ax 0, 121, .inl (fun j => nI (bo j))))] := ⟨hP1, hD1⟩
  obtain ⟨hP, hD⟩ := hW7
  clear hP1 hD1 hS1
  refine lv_iconst (v := 0) hx hb d_Findings_keep_33 (by decide) ?_
  refine lv_istore_n (lv' := [(3, .int 0), (0, .ref f0), (1, .int (nI j1)), (2, .ref p0)]) hx hb d_Findings_keep_34 rfl hl1 (by decide) rfl (fun ls hl2 => ?_)
  clear hl1; have hl1 := hl2; clear hl2
  suffices key_7 : ∀ (k : Nat) (i1 : Nat) (nb1 : Nat → Int32), 10 - i1 < k → i1 ≤ 10 → knI8 nb lv j1 i1 nb1 → ∀ (H : Heap) (locs : List Loc) (ls : Array Slot), va_P D classes [(f0, .inr (1, [.ref f1, .ref f2, .ref f3, .ref f4])), (f1, .inl (ax 2, 29, .inl (upd rw j1 (vp_nar .short z_1)))), (f2, .inl (ax 2, 29, .inl (upd aa j1 (vp_nar .short z_3)))), (f3, .inl (ax 2, 29, .inl (upd ff j1 (vp_nar .short z_5)))), (f4, .inl (ax 0, 290, .inl nb1)), (p0, .inr (6, [.ref b0, .int s_rows, .int s_atoms, .int s_first, vf, vr, vd, vi, vw])), (b0, .inr (0, [.ref b1, .ref b2, .ref b3, .int (nI bn)])), (b1, .inl (ax 0, 11, .inl lv)), (b2, .inl (ax 0, 121, .inl mo)), (b3, .inl (ax 0, 121, .inl (fun j => nI (bo j))))] H → va_D A [(f0, .inr (1, [.ref f1, .ref f2, .ref f3, .ref f4])), (f1, .inl (ax 2, 29, .inl (upd rw j1 (vp_nar .short z_1)))), (f2, .inl (ax 2, 29, .inl (upd aa j1 (vp_nar .short z_3)))), (f3, .inl (ax 2, 29, .inl (upd ff j1 (vp_nar .short z_5)))), (f4, .inl (ax 0, 290, .inl nb1)), (p0, .inr (6, [.ref b0, .int s_rows, .int s_atoms, .int s_first, vf, vr, vd, vi, vw])), (b0, .inr (0, [.ref b1, .ref b2, .ref b3, .int (nI bn)])), (b1, .inl (ax 0, 11, .inl lv)), (b2, .inl (ax 0, 121, .inl mo)), (b3, .inl (ax 0, 121, .inl (fun j => nI (bo j))))] → va_S A s.heap H locs → lv_has ls 4 [(0, .ref f0), (1, .int (nI j1)), (2, .ref p0), (3, .int (nI i1))] → W p l e (headSpec (xws (.code y_Findings_keep b_Findings_keep 4 none)) ({ frames := 20, cells := 0, slots := 0, locals := 800 })).room s m ([.ref f0, .int (nI j1), .ref p0] : List Value).toArray below meth c H locs 0 0 Z9 (F0 m 35 ls []) from key_7 (10 - 0 + 1) 0 nb (Nat.lt_succ_self _) (by first | assumption | omega) knI8_0 _ _ _ (hP) (hD) hS (lv_sub hl1 [1, 2, 3, 0] rfl)
  intro k_8
  induction k_8 with
  | zero =>
    intro i1 nb1 hk_10
    exact absurd hk_10 (Nat.not_lt_zero _)
  | succ k_8 ih_9 =>
    clear hP hD hS hl1
    intro i1 nb1 hk_10 hi1 hk8 H locs ls hP hD hS hl1
    refine lv_iload_n hx hb d_Findings_keep_35 rfl (lv_at hl1 3 rfl) ?_
    refine lv_bipush (v := 10) hx hb d_Findings_keep_36 (by decide) ?_
    refine lv_icmp_ge (tgt := 66) hx hb d_Findings_keep_38 (by decide) (fun c_11 => ?_) (fun c_11 => ?_)
    · replace c_11 : 10 ≤ i1 := (nI_leI (a := 10) (b := i1) (by decide) (by first | exact Nat.lt_of_lt_of_le (by assumption) (by decide) | exact Nat.lt_of_le_of_lt (by assumption) (by decide) | omega)).mp c_11
      rw [← hQe]
      obtain ⟨hP9, hD9⟩ := xw_sub2 (wc := (fun (u : Nat → Nat) (xrw : Nat → Int32) (xaa : Nat → Int32) (xff : Nat → Int32) (xnb : Nat → Int32) => [(f0, .inr (1, [.ref f1, .ref f2, .ref f3, .ref f4])), (f1, .inl (ax 2, 29, .inl xrw)), (f2, .inl (ax 2, 29, .inl xaa)), (f3, .inl (ax 2, 29, .inl xff)), (f4, .inl (ax 0, 290, .inl xnb)), (p0, .inr (6, [.ref b0, .int s_rows, .int s_atoms, .int s_first, vf, vr, vd, vi, vw])), (b0, .inr (0, [.ref b1, .ref b2, .ref b3, .int (nI bn)])), (b1, .inl (ax 0, 11, .inl lv)), (b2, .inl (ax 0, 121, .inl mo)), (b3, .inl (ax 0, 121, .inl (fun j => nI (bo j))))]) (ixn []) (upd rw j1 (vp_nar .short z_1)) (upd aa j1 (vp_nar .short z_3)) (upd ff j1 (vp_nar .short z_5)) nb1) hP hD [0, 1, 2, 3, 4, 5, 6, 7, 8, 9] (by decide) rfl
      have hex0 : up8 rw (upd rw j1 (vp_nar .short z_1)) j1 s_rows := (kp8 hs1 ez_1)
      have hex1 : up8 aa (upd aa j1 (vp_nar .short z_3)) j1 s_atoms := (kp8 hs2 ez_3)
      have hex2 : up8 ff (upd ff j1 (vp_nar .short z_5)) j1 s_first := (kp8 hs3 ez_5)
      have hex3 : knI8 nb lv j1 10 nb1 := (by have e9 : i1 = 10 := (by first | assumption | omega); subst e9; exact hk8)
      exact W.vret hx hb hr (fun t ht hW => ⟨⟨ixn [], rfl, trivial, ⟨(upd rw j1 (vp_nar .short z_1)), (upd aa j1 (vp_nar .short z_3)), (upd ff j1 (vp_nar .short z_5)), nb1, hex0, hex1, hex2, hex3, by rw [ht]; exact hP9, hD9⟩⟩, hS.F ht⟩) hS.2.2 d_Findings_keep_66
    · replace c_11 : ¬ 10 ≤ i1 := fun hq9 => c_11 ((nI_leI (a := 10) (b := i1) (by decide) (by first | exact Nat.lt_of_lt_of_le (by assumption) (by decide) | exact Nat.lt_of_le_of_lt (by assumption) (by decide) | omega)).mpr hq9)
      refine lv_aload_n hx hb d_Findings_keep_41 rfl (lv_at hl1 0 rfl) ?_
      refine va_get (D := D) (ci := 1) (v := .ref f4) (C := R_Findings) (T := F_Findings) (N := 4) hx hb hts i_Findings hown hK.1 hP 0 rfl rfl 3 (by decide) (hts _ wd_220) (fun _ h9 => h9) rfl d_Findings_keep_42 ?_
      refine lv_bipush (v := 10) hx hb d_Findings_keep_45 (by decide) ?_
      refine lv_iload_n hx hb d_Findings_keep_47 rfl (lv_at hl1 1 rfl) ?_
      refine lv_imul hx hb d_Findings_keep_48 ?_
      refine lv_topi (fun z_12 ez_12 => ?_)
      have ez_12 : z_12 = nI (10 * j1) := ez_12.trans (pk_mul 10 j1)
      subst ez_12
      refine lv_iload_n hx hb d_Findings_keep_49 rfl (lv_at hl1 3 rfl) ?_
      refine lv_iadd hx hb d_Findings_keep_50 ?_
      refine lv_topi (fun z_13 ez_13 => ?_)
      have ez_13 : z_13 = nI (10 * j1 + i1) := ez_13.trans (nI_add (10 * j1) i1)
      subst ez_13
      refine lv_aload_n hx hb d_Findings_keep_51 rfl (lv_at hl1 2 rfl) ?_
      refine va_get (D := D) (ci := 6) (v := .ref b0) (C := R_Prover) (T := F_Prover) (N := 9) hx hb hts i_Prover hown hK.1 hP 5 rfl rfl 0 (by decide) (hts _ wd_176) (fun _ h9 => h9) rfl d_Findings_keep_52 ?_
      refine lv_iload_n hx hb d_Findings_keep_55 rfl (lv_at hl1 3 rfl) ?_
      obtain ⟨hPc, hDc, hFc, hCs⟩ := xw_sub3 (wc := [(b0, .inr (0, [.ref b1, .ref b2, .ref b3, .int (nI bn)])), (b1, .inl (ax 0, 11, .inl lv)), (b2, .inl (ax 0, 121, .inl mo)), (b3, .inl (ax 0, 121, .inl (fun j => nI (bo j))))]) hP hD hS hA [6, 7, 8, 9] (by decide) rfl
      have hz := xz_of hN hS
      refine va_calli (va_runV (As := [.int (nI i1)]) (rest := [.int (nI (10 * j1 + i1)), .ref f4]) ⟨hx, hb, hml, hown, hts⟩ (c_B_number l D ax b0 b1 b2 b3 bn lv mo bo i1 H.size (by first | assumption | omega)) (xcV (n := 1) hts wd_881 wd_7 wd_878 wd_879 wd_880 rfl rfl (by decide +kernel) ⟨Nat.le_of_ble_eq_true rfl, Nat.le_of_ble_eq_true rfl⟩) (xpV (ci := 0) (q0 := 0) (As := [.int (nI i1)]) hPc hK hz hDc rfl rfl) rfl rfl hl1.1 rfl (lv_room (Nat.le_of_ble_eq_true rfl)) d_Findings_keep_56 ⟨Nat.le_of_ble_eq_true rfl, Nat.le_of_ble_eq_true rfl⟩) hS (fun q _ h => hFc q h) hFc (fun r_16 u_14 t H_15 locs ht hvm hw hB hz1 hk1 hS1 => ?_)
      try dsimp only at hw
      obtain ⟨hw, hs_17, hs_18⟩ := hw
      subst hw
      obtain ⟨hP1, hD1⟩ := hB
      rw [ht] at hP1
      have hjn := xw_join3 (wl := [(f0, .inr (1, [.ref f1, .ref f2, .ref f3, .ref f4])), (f1, .inl (ax 2, 29, .inl (upd rw j1 (vp_nar .short z_1)))), (f2, .inl (ax 2, 29, .inl (upd aa j1 (vp_nar .short z_3)))), (f3, .inl (ax 2, 29, .inl (upd ff j1 (vp_nar .short z_5)))), (f4, .inl (ax 0, 290, .inl nb1)), (p0, .inr (6, [.ref b0, .int s_rows, .int s_atoms, .int s_first, vf, vr, vd, vi, vw])), (b0, .inr (0, [.ref b1, .ref b2, .ref b3, .int (nI bn)])), (b1, .inl (ax 0, 11, .inl lv)), (b2, .inl (ax 0, 121, .inl mo)), (b3, .inl (ax 0, 121, .inl (fun j => nI (bo j))))]) hP hD [6, 7, 8, 9] [0, 1, 2, 3, 4, 5] hCs (by decide) (by decide) hk1 hFc hP1 hD1 rfl
      clear hP1 hD1
      clear hPc hDc hFc hCs hz hz1 hk1 ht hvm
      clear hP hD hS
      have hS := hS1
      obtain ⟨hP, hD⟩ := hjn
      clear hS1
      refine va_iast hx hb hK.1 hP hD hS 4 0 rfl rfl (vp_in_nI (by first | assumption | omega) (by decide)) d_Findings_keep_59 (fun H_19 locs hP1 hD1 hS1 => ?_)
      rw [nI_clamp (by first | exact Nat.lt_of_lt_of_le (by assumption) (by decide) | exact Nat.lt_of_le_of_lt (by assumption) (by decide) | omega)] at hP1 hD1
      clear hP hD hS
      have hS := hS1
      have hW7 : (fun w9 : va_W => va_P D classes w9 H_19 ∧ va_D A w9) [(f0, .inr (1, [.ref f1, .ref f2, .ref f3, .ref f4])), (f1, .inl (ax 2, 29, .inl (upd rw j1 (vp_nar .short z_1)))), (f2, .inl (ax 2, 29, .inl (upd aa j1 (vp_nar .short z_3)))), (f3, .inl (ax 2, 29, .inl (upd ff j1 (vp_nar .short z_5)))), (f4, .inl (ax 0, 290, .inl (upd nb1 (10 * j1 + i1) (nI (u_14 0))))), (p0, .inr (6, [.ref b0, .int s_rows, .int s_atoms, .int s_first, vf, vr, vd, vi, vw])), (b0, .inr (0, [.ref b1, .ref b2, .ref b3, .int (nI bn)])), (b1, .inl (ax 0, 11, .inl lv)), (b2, .inl (ax 0, 121, .inl mo)), (b3, .inl (ax 0, 121, .inl (fun j => nI (bo j))))] := ⟨hP1, hD1⟩
      obtain ⟨hP, hD⟩ := hW7
      clear hP1 hD1 hS1
      refine lv_iinc (v := nI (i1 + 1)) (lv' := [(3, .int (nI (i1 + 1))), (0, .ref f0), (1, .int (nI j1)), (2, .ref p0)]) hx hb d_Findings_keep_60 hl1 (k := 3) rfl (nI_add i1 1) (by decide) rfl (fun ls hl2 => ?_)
      clear hl1; have hl1 := hl2; clear hl2
      refine lv_goto (tgt := 35) hx hb d_Findings_keep_63 (by decide) ?_
      exact ih_9 (i1 + 1) (upd nb1 (10 * j1 + i1) (nI (u_14 0))) (by first | assumption | omega) (by first | assumption | omega) (knI8_s hk8 hs_18 (by first | assumption | omega)) _ _ _ (hP.sub [0, 1, 2, 3, 4, 5, 6, 7, 8, 9] rfl) (hD.sub [0, 1, 2, 3, 4, 5, 6, 7, 8, 9] (by decide) rfl) hS (lv_sub hl1 [1, 2, 3, 0] rfl)
