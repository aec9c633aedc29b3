theorem ps_48 : Cond.selects "TripleDesk$Runner" ⟨"TripleDesk$Runner", "amount", "(I)J"⟩ ⟨"TripleDesk$Runner", "amount", "(I)J"⟩ ∈ lw_gd := ps_in (q := (⟨"TripleDesk$Runner", "amount", "(I)J"⟩, 1)) (i := 48) (by decide +kernel)
theorem wd_11 : ((Jvm.Cond.initialized "TripleDesk$Runner")) ∈ lw_gd := lw_gd_in (i := 11) (by decide +kernel) rfl
theorem wd_106 : ((Jvm.Cond.fieldLink "TripleDesk$Runner" (72 : Nat) "TripleDesk$Nodes" "op" "[B")) ∈ lw_gd := lw_gd_in (i := 106) (by decide +kernel) rfl
theorem wd_111 : ((Jvm.Cond.fieldLink "TripleDesk$Runner" (64 : Nat) "TripleDesk$Nodes" "left" "[I")) ∈ lw_gd := lw_gd_in (i := 111) (by decide +kernel) rfl
theorem wd_116 : ((Jvm.Cond.fieldLink "TripleDesk$Runner" (69 : Nat) "TripleDesk$Nodes" "right" "[I")) ∈ lw_gd := lw_gd_in (i := 116) (by decide +kernel) rfl
theorem wd_251 : ((Jvm.Cond.fieldLink "TripleDesk$Runner" (9 : Nat) "TripleDesk$Runner" "values" "[J")) ∈ lw_gd := lw_gd_in (i := 251) (by decide +kernel) rfl
theorem wd_651 : ((Jvm.Cond.methodLink "TripleDesk$Runner" (15 : Nat) ({ cls := "java/util/Arrays", name := "fill", desc := "([JJ)V" } : Jvm.MethodName))) ∈ lw_gd := lw_gd_in (i := 651) (by decide +kernel) rfl
theorem wd_652 : ((Jvm.Cond.static ({ cls := "java/util/Arrays", name := "fill", desc := "([JJ)V" } : Jvm.MethodName))) ∈ lw_gd := lw_gd_in (i := 652) (by decide +kernel) rfl
theorem wd_653 : ((Jvm.Cond.code ({ cls := "java/util/Arrays", name := "fill", desc := "([JJ)V" } : Jvm.MethodName) prog_26_method_101_code (5 : Nat) (Option.none : Option Jvm.ClassFile.FieldType))) ∈ lw_gd := lw_gd_in (i := 653) (by decide +kernel) rfl
theorem wd_997 : ((Jvm.Cond.methodLink "TripleDesk$Runner" (38 : Nat) ({ cls := "TripleDesk$Runner", name := "amount", desc := "(I)J" } : Jvm.MethodName))) ∈ lw_gd := lw_gd_in (i := 997) (by decide +kernel) rfl
theorem wd_999 : ((Jvm.Cond.instanceMethod ({ cls := "TripleDesk$Runner", name := "amount", desc := "(I)J" } : Jvm.MethodName))) ∈ lw_gd := lw_gd_in (i := 999) (by decide +kernel) rfl
theorem wd_1000 : ((Jvm.Cond.code ({ cls := "TripleDesk$Runner", name := "amount", desc := "(I)J" } : Jvm.MethodName) prog_10_method_7_code (5 : Nat) (Option.some Jvm.ClassFile.FieldType.long))) ∈ lw_gd := lw_gd_in (i := 1000) (by decide +kernel) rfl
theorem wd_1002 : ((Jvm.Cond.methodLink "TripleDesk$Runner" (54 : Nat) ({ cls := "TripleDesk$Runner", name := "truth", desc := "(LTripleDesk$Nodes;I)Z" } : Jvm.MethodName))) ∈ lw_gd := lw_gd_in (i := 1002) (by decide +kernel) rfl
theorem wd_1003 : ((Jvm.Cond.instanceMethod ({ cls := "TripleDesk$Runner", name := "truth", desc := "(LTripleDesk$Nodes;I)Z" } : Jvm.MethodName))) ∈ lw_gd := lw_gd_in (i := 1003) (by decide +kernel) rfl
theorem wd_1004 : ((Jvm.Cond.selects "TripleDesk$Runner" ({ cls := "TripleDesk$Runner", name := "truth", desc := "(LTripleDesk$Nodes;I)Z" } : Jvm.MethodName) ({ cls := "TripleDesk$Runner", name := "truth", desc := "(LTripleDesk$Nodes;I)Z" } : Jvm.MethodName))) ∈ lw_gd := lw_gd_in (i := 1004) (by decide +kernel) rfl
theorem wd_1005 : ((Jvm.Cond.code ({ cls := "TripleDesk$Runner", name := "truth", desc := "(LTripleDesk$Nodes;I)Z" } : Jvm.MethodName) prog_10_method_5_code (5 : Nat) (Option.some Jvm.ClassFile.FieldType.boolean))) ∈ lw_gd := lw_gd_in (i := 1005) (by decide +kernel) rfl
theorem wd_1006 : ((Jvm.Cond.methodLink "TripleDesk$Runner" (75 : Nat) ({ cls := "TripleDesk$Runner", name := "compare", desc := "(IJJ)Z" } : Jvm.MethodName))) ∈ lw_gd := lw_gd_in (i := 1006) (by decide +kernel) rfl
theorem wd_1007 : ((Jvm.Cond.static ({ cls := "TripleDesk$Runner", name := "compare", desc := "(IJJ)Z" } : Jvm.MethodName))) ∈ lw_gd := lw_gd_in (i := 1007) (by decide +kernel) rfl
theorem wd_1008 : ((Jvm.Cond.code ({ cls := "TripleDesk$Runner", name := "compare", desc := "(IJJ)Z" } : Jvm.MethodName) prog_10_method_6_code (5 : Nat) (Option.some Jvm.ClassFile.FieldType.boolean))) ∈ lw_gd := lw_gd_in (i := 1008) (by decide +kernel) rfl
abbrev b_Runner_truth : ByteArray := prog_10_method_5_code
def y_Runner_truth : MethodName := ⟨R_Runner, "truth", "(LTripleDesk$Nodes;I)Z"⟩
def CTr (l : Launch) (nd : Nat) : Prop := ∀ (D : va_G) (ax : Nat → ClassId) (e0 e1 : Nat) (vs : Nat → Int64) (n0 n1 n2 n3 cp z9 : Nat) (fo fl fr : Nat → Int32) (sz : Nat) (hz9 : z9 ≤ cp) (hcp : cp ≤ 100000) (hnd : nd < z9) (hnv : ndv fo fl fr z9), Met l y_Runner_truth (xws (.code y_Runner_truth b_Runner_truth 5 (some .boolean))) ({ frames := 30 + 2 * nd, cells := 0, slots := 0, locals := 1200 + 40 * nd }) (va_Pc [.ref e0, .ref n0, .int (nI nd)] (xo D ax [(e0, .inr (8, [.ref e1])), (e1, .inl (ax 4, 6, .inr (.inl vs))), (n0, .inr (4, [.ref n1, .ref n2, .ref n3, .int (nI z9)])), (n1, .inl (ax 1, cp, .inl fo)), (n2, .inl (ax 0, cp, .inl fl)), (n3, .inl (ax 0, cp, .inl fr))] sz)) ((va_Qi (fun (r : Int32) (u : Nat → Nat) => r = nI (u 0) ∧ (u 0 ≤ 1)) (xb D (va_A [(e0, .inr (8, [.ref e1])), (e1, .inl (ax 4, 6, .inr (.inl vs))), (n0, .inr (4, [.ref n1, .ref n2, .ref n3, .int (nI z9)])), (n1, .inl (ax 1, cp, .inl fo)), (n2, .inl (ax 0, cp, .inl fl)), (n3, .inl (ax 0, cp, .inl fr))] sz) (fun u => [(e0, .inr (8, [.ref e1])), (e1, .inl (ax 4, 6, .inr (.inl vs))), (n0, .inr (4, [.ref n1, .ref n2, .ref n3, .int (nI z9)])), (n1, .inl (ax 1, cp, .inl fo)), (n2, .inl (ax 0, cp, .inl fl)), (n3, .inl (ax 0, cp, .inl fr))])) (va_A [(e0, .inr (8, [.ref e1])), (e1, .inl (ax 4, 6, .inr (.inl vs))), (n0, .inr (4, [.ref n1, .ref n2, .ref n3, .int (nI z9)])), (n1, .inl (ax 1, cp, .inl fo)), (n2, .inl (ax 0, cp, .inl fl)), (n3, .inl (ax 0, cp, .inl fr))] sz))) 0 0 (va_A [(e0, .inr (8, [.ref e1])), (e1, .inl (ax 4, 6, .inr (.inl vs))), (n0, .inr (4, [.ref n1, .ref n2, .ref n3, .int (nI z9)])), (n1, .inl (ax 1, cp, .inl fo)), (n2, .inl (ax 0, cp, .inl fl)), (n3, .inl (ax 0, cp, .inl fr))] sz)
abbrev b_Arrays_fill_AJJ : ByteArray := prog_26_method_101_code
def y_Arrays_fill_AJJ : MethodName := ⟨R_Arrays, "fill", "([JJ)V"⟩
theorem d_Arrays_fill_AJJ_0 : decode b_Arrays_fill_AJJ 0 = .ok (.iconst 0, 1) := by decide +kernel
theorem d_Arrays_fill_AJJ_1 : decode b_Arrays_fill_AJJ 1 = .ok (.istore_n 3, 1) := by decide +kernel
theorem d_Arrays_fill_AJJ_2 : decode b_Arrays_fill_AJJ 2 = .ok (.aload_n 0, 1) := by decide +kernel
theorem d_Arrays_fill_AJJ_3 : decode b_Arrays_fill_AJJ 3 = .ok (.arraylength, 1) := by decide +kernel
theorem d_Arrays_fill_AJJ_4 : decode b_Arrays_fill_AJJ 4 = .ok (.istore 4, 2) := by decide +kernel
theorem d_Arrays_fill_AJJ_6 : decode b_Arrays_fill_AJJ 6 = .ok (.iload_n 3, 1) := by decide +kernel
theorem d_Arrays_fill_AJJ_7 : decode b_Arrays_fill_AJJ 7 = .ok (.iload 4, 2) := by decide +kernel
theorem d_Arrays_fill_AJJ_9 : decode b_Arrays_fill_AJJ 9 = .ok (.if_icmp .ge 13, 3) := by decide +kernel
theorem d_Arrays_fill_AJJ_12 : decode b_Arrays_fill_AJJ 12 = .ok (.aload_n 0, 1) := by decide +kernel
theorem d_Arrays_fill_AJJ_13 : decode b_Arrays_fill_AJJ 13 = .ok (.iload_n 3, 1) := by decide +kernel
theorem d_Arrays_fill_AJJ_14 : decode b_Arrays_fill_AJJ 14 = .ok (.lload_n 1, 1) := by decide +kernel
theorem d_Arrays_fill_AJJ_15 : decode b_Arrays_fill_AJJ 15 = .ok (.lastore, 1) := by decide +kernel
theorem d_Arrays_fill_AJJ_16 : decode b_Arrays_fill_AJJ 16 = .ok (.iinc 3 1, 3) := by decide +kernel
theorem d_Arrays_fill_AJJ_19 : decode b_Arrays_fill_AJJ 19 = .ok (.goto (-13), 3) := by decide +kernel
theorem d_Arrays_fill_AJJ_22 : decode b_Arrays_fill_AJJ 22 = .ok (.return_, 1) := by decide +kernel
set_option maxHeartbeats 40000000 in
set_option maxRecDepth 100000 in
theorem c_Arrays_fill_J (l : Launch) (D : va_G) (ax : Nat → ClassId) (h0 n : Nat) (f : Nat → Int64) (v : Int64) (sz : Nat) (hn : n < 2 ^ 31) : Met l y_Arrays_fill_AJJ (xws (.code y_Arrays_fill_AJJ b_Arrays_fill_AJJ 5 none)) ({ frames := 10, cells := 0, slots := 0, locals := 400 }) (va_Pc [.ref h0, .long v] (xo D ax [(h0, .inl (ax 4, n, .inr (.inl f)))] sz)) ((va_Qv (fun (u : Nat → Nat) => True) (fun (u : Nat → Nat) (t9 : State) => ∃ xf : Nat → Int64, (True) ∧ va_P D classes [(h0, .inl (ax 4, n, .inr (.inl xf)))] t9.heap ∧ va_D (va_A [(h0, .inl (ax 4, n, .inr (.inl f)))] sz) [(h0, .inl (ax 4, n, .inr (.inl xf)))]) (va_A [(h0, .inl (ax 4, n, .inr (.inl f)))] sz))) 0 0 (va_A [(h0, .inl (ax 4, n, .inr (.inl f)))] sz) := by
  refine Met.ofW (cc := b_Arrays_fill_AJJ) (maxL := 5) (ret := none) (by decide) rfl ?_
  intro p e s m args below meth c s₁ B hml hv
  obtain ⟨rfl, hsz, hP, hK, hD0⟩ := hv
  have hx := B.exec
  have hb := B.bytes
  have hr := B.returns
  have hts := xw_hts B.pre
  have hown : s.vm.findClass R_Arrays = some m.cls := findClass_of_methodNamed B.named
  have hlocks := B.notSynchronized
  subst hsz
  have hD := hD0.self (sz := s.heap.size)
  have hN := xz_entry hP
  generalize hAe : va_A [(h0, .inl (ax 4, n, .inr (.inl f)))] s.heap.size = A at hD hN ⊢
  have hA : ∀ q : Nat, s.heap.size ≤ q → A q := fun q h => by rw [← hAe]; exact Or.inr h
  have hS : va_S A s.heap s.heap [] := va_S.rf
  have hl0 := lv_entry ([.ref h0, .long v]) (n := 5) (Nat.le_of_ble_eq_true rfl)
  rw [lg_entry_eq]
  generalize (lg_sl ([.ref h0, .long v]) ++ List.replicate (5 - (lg_sl ([.ref h0, .long v])).length) Slot.unset).toArray = ls at hl0 ⊢
  have hl1 : lv_has ls 5 [(0, .ref h0), (1, .long v)] := hl0
  refine xw_gen (fun Z9 hQe => ?_)
  refine lv_iconst (v := 0) hx hb d_Arrays_fill_AJJ_0 (by decide) ?_
  refine lv_istore_n (lv' := [(3, .int 0), (0, .ref h0), (1, .long v)]) hx hb d_Arrays_fill_AJJ_1 rfl hl1 (by decide) rfl (fun ls hl2 => ?_)
  clear hl1; have hl1 := hl2; clear hl2
  refine lv_aload_n hx hb d_Arrays_fill_AJJ_2 rfl (lv_at hl1 1 rfl) ?_
  refine va_alen hx hb hK.1 hP 0 4 rfl rfl (v := _) rfl d_Arrays_fill_AJJ_3 ?_
  refine lv_istore (lv' := [(4, .int (nI n)), (3, .int 0), (0, .ref h0), (1, .long v)]) hx hb d_Arrays_fill_AJJ_4 hl1 (by decide) rfl (fun ls hl2 => ?_)
  clear hl1; have hl1 := hl2; clear hl2
  suffices key_1 : ∀ (k : Nat) (i1 : Nat) (f1 : Nat → Int64), n - i1 < k → i1 ≤ n → ∀ (H : Heap) (locs : List Loc) (ls : Array Slot), va_P D classes [(h0, .inl (ax 4, n, .inr (.inl f1)))] H → va_D A [(h0, .inl (ax 4, n, .inr (.inl f1)))] → va_S A s.heap H locs → lv_has ls 5 [(4, .int (nI n)), (3, .int (nI i1)), (0, .ref h0), (1, .long v)] → W p l e (headSpec (xws (.code y_Arrays_fill_AJJ b_Arrays_fill_AJJ 5 none)) ({ frames := 10, cells := 0, slots := 0, locals := 400 })).room s m ([.ref h0, .long v] : List Value).toArray below meth c H locs 0 0 Z9 (F0 m 6 ls []) from key_1 (n - 0 + 1) 0 f (Nat.lt_succ_self _) (by first | assumption | omega) _ _ _ (hP) (hD) hS (lv_sub hl1 [0, 1, 2, 3] rfl)
  intro k_2
  induction k_2 with
  | zero =>
    intro i1 f1 hk_4
    exact absurd hk_4 (Nat.not_lt_zero _)
  | succ k_2 ih_3 =>
    clear hP hD hS hl1
    intro i1 f1 hk_4 hi1 H locs ls hP hD hS hl1
    refine lv_iload_n hx hb d_Arrays_fill_AJJ_6 rfl (lv_at hl1 1 rfl) ?_
    refine lv_iload hx hb d_Arrays_fill_AJJ_7 (lv_at hl1 0 rfl) ?_
    refine lv_icmp_ge (tgt := 22) hx hb d_Arrays_fill_AJJ_9 (by decide) (fun c_5 => ?_) (fun c_5 => ?_)
    · replace c_5 : n ≤ i1 := (nI_leI (a := n) (b := i1) (by first | exact Nat.lt_of_lt_of_le (by assumption) (by decide) | exact Nat.lt_of_le_of_lt (by assumption) (by decide) | omega) (by first | exact Nat.lt_of_lt_of_le (by assumption) (by decide) | exact Nat.lt_of_le_of_lt (by assumption) (by decide) | omega)).mp c_5
      rw [← hQe]
      obtain ⟨hP9, hD9⟩ := xw_sub2 (wc := (fun (u : Nat → Nat) (xf : Nat → Int64) => [(h0, .inl (ax 4, n, .inr (.inl xf)))]) (ixn []) f1) hP hD [0] (by decide) rfl
      have hex0 : True := trivial
      exact W.vret hx hb hr (fun t ht hW => ⟨⟨ixn [], rfl, trivial, ⟨f1, hex0, by rw [ht]; exact hP9, hD9⟩⟩, hS.F ht⟩) hS.2.2 d_Arrays_fill_AJJ_22
    · replace c_5 : ¬ n ≤ i1 := fun hq9 => c_5 ((nI_leI (a := n) (b := i1) (by first | exact Nat.lt_of_lt_of_le (by assumption) (by decide) | exact Nat.lt_of_le_of_lt (by assumption) (by decide) | omega) (by first | exact Nat.lt_of_lt_of_le (by assumption) (by decide) | exact Nat.lt_of_le_of_lt (by assumption) (by decide) | omega)).mpr hq9)
      refine lv_aload_n hx hb d_Arrays_fill_AJJ_12 rfl (lv_at hl1 2 rfl) ?_
      refine lv_iload_n hx hb d_Arrays_fill_AJJ_13 rfl (lv_at hl1 1 rfl) ?_
      refine lv_lload_n hx hb d_Arrays_fill_AJJ_14 rfl (lv_at hl1 3 rfl) ?_
      refine va_last hx hb hK.1 hP hD hS 0 4 rfl rfl (vp_in_nI (by first | assumption | omega) (by first | exact Nat.lt_of_lt_of_le (by assumption) (by decide) | exact Nat.lt_of_le_of_lt (by assumption) (by decide) | omega)) d_Arrays_fill_AJJ_15 (fun H_6 locs hP1 hD1 hS1 => ?_)
      rw [nI_clamp (by first | exact Nat.lt_of_lt_of_le (by assumption) (by decide) | exact Nat.lt_of_le_of_lt (by assumption) (by decide) | omega)] at hP1 hD1
      clear hP hD hS
      have hS := hS1
      have hW7 : (fun w9 : va_W => va_P D classes w9 H_6 ∧ va_D A w9) [(h0, .inl (ax 4, n, .inr (.inl (vp_updL f1 i1 v))))] := ⟨hP1, hD1⟩
      obtain ⟨hP, hD⟩ := hW7
      clear hP1 hD1 hS1
      refine lv_iinc (v := nI (i1 + 1)) (lv' := [(3, .int (nI (i1 + 1))), (4, .int (nI n)), (0, .ref h0), (1, .long v)]) hx hb d_Arrays_fill_AJJ_16 hl1 (k := 1) rfl (nI_add i1 1) (by decide) rfl (fun ls hl2 => ?_)
      clear hl1; have hl1 := hl2; clear hl2
      refine lv_goto (tgt := 6) hx hb d_Arrays_fill_AJJ_19 (by decide) ?_
      exact ih_3 (i1 + 1) (vp_updL f1 i1 v) (by first | assumption | omega) (by first | assumption | omega) _ _ _ (hP.sub [0] rfl) (hD.sub [0] (by decide) rfl) hS (lv_sub hl1 [1, 0, 2, 3] rfl)
abbrev b_Runner_clear : ByteArray := prog_10_method_2_code
def y_Runner_clear : MethodName := ⟨R_Runner, "clear", "()V"⟩
theorem d_Runner_clear_0 : decode b_Runner_clear 0 = .ok (.aload_n 0, 1) := by decide +kernel
theorem d_Runner_clear_1 : decode b_Runner_clear 1 = .ok (.getfield 9, 3) := by decide +kernel
theorem d_Runner_clear_4 : decode b_Runner_clear 4 = .ok (.lconst 0, 1) := by decide +kernel
theorem d_Runner_clear_5 : decode b_Runner_clear 5 = .ok (.invokestatic 15, 3) := by decide +kernel
theorem d_Runner_clear_8 : decode b_Runner_clear 8 = .ok (.return_, 1) := by decide +kernel
set_option maxHeartbeats 40000000 in
set_option maxRecDepth 100000 in
theorem c_E_clear (l : Launch) (D : va_G) (ax : Nat → ClassId) (e0 e1 : Nat) (vs : Nat → Int64) (sz : Nat) : Met l y_Runner_clear (xws (.code y_Runner_clear b_Runner_clear 1 none)) ({ frames := 20, cells := 0, slots := 0, locals := 800 }) (va_Pc [.ref e0] (xo D ax [(e0, .inr (8, [.ref e1])), (e1, .inl (ax 4, 6, .inr (.inl vs)))] sz)) ((va_Qv (fun (u : Nat → Nat) => True) (fun (u : Nat → Nat) (t9 : State) => ∃ xvs : Nat → Int64, (True) ∧ va_P D classes [(e0, .inr (8, [.ref e1])), (e1, .inl (ax 4, 6, .inr (.inl xvs)))] t9.heap ∧ va_D (va_A [(e0, .inr (8, [.ref e1])), (e1, .inl (ax 4, 6, .inr (.inl vs)))] sz) [(e0, .inr (8, [.ref e1])), (e1, .inl (ax 4, 6, .inr (.inl xvs)))]) (va_A [(e0, .inr (8, [.ref e1])), (e1, .inl (ax 4, 6, .inr (.inl vs)))] sz))) 0 0 (va_A [(e0, .inr (8, [.ref e1])), (e1, .inl (ax 4, 6, .inr (.inl vs)))] sz) := by
  refine Met.ofW (cc := b_Runner_clear) (maxL := 1) (ret := none) (by decide) rfl ?_
  intro p e s m args below meth c s₁ B hml hv
  obtain ⟨rfl, hsz, hP, hK, hD0⟩ := hv
  have hx := B.exec
  have hb := B.bytes
  have hr := B.returns
  have hts := xw_hts B.pre
  have hown : s.vm.findClass R_Runner = some m.cls := findClass_of_methodNamed B.named
  have hlocks := B.notSynchronized
  subst hsz
  have hD := hD0.self (sz := s.heap.size)
  have hN := xz_entry hP
  generalize hAe : va_A [(e0, .inr (8, [.ref e1])), (e1, .inl (ax 4, 6, .inr (.inl vs)))] s.heap.size = A at hD hN ⊢
  have hA : ∀ q : Nat, s.heap.size ≤ q → A q := fun q h => by rw [← hAe]; exact Or.inr h
  have hS : va_S A s.heap s.heap [] := va_S.rf
  have hl0 := lv_entry ([.ref e0]) (n := 1) (Nat.le_of_ble_eq_true rfl)
  rw [lg_entry_eq]
  generalize (lg_sl ([.ref e0]) ++ List.replicate (1 - (lg_sl ([.ref e0])).length) Slot.unset).toArray = ls at hl0 ⊢
  have hl1 : lv_has ls 1 [(0, .ref e0)] := hl0
  refine xw_gen (fun Z9 hQe => ?_)
  refine lv_aload_n hx hb d_Runner_clear_0 rfl (lv_at hl1 0 rfl) ?_
  refine va_get (D := D) (ci := 8) (v := .ref e1) (C := R_Runner) (T := F_Runner) (N := 1) hx hb hts i_Runner hown hK.1 hP 0 rfl rfl 0 (by decide) (hts _ wd_251) (fun _ h9 => h9) rfl d_Runner_clear_1 ?_
  refine lv_lconst (v := 0) hx hb d_Runner_clear_4 (by decide) ?_
  obtain ⟨hPc, hDc, hFc, hCs⟩ := xw_sub3 (wc := [(e1, .inl (ax 4, 6, .inr (.inl vs)))]) hP hD hS hA [1] (by decide) rfl
  have hz := xz_of hN hS
  refine va_callv (va_runS (As := [.ref e1, .long 0]) (rest := []) ⟨hx, hb, hml, hown, hts⟩ (c_Arrays_fill_J l D ax e1 6 vs 0 s.heap.size (by decide)) (xcS (n := 2) hts wd_653 wd_8 wd_651 wd_652 rfl rfl (by decide +kernel) ⟨Nat.le_of_ble_eq_true rfl, Nat.le_of_ble_eq_true rfl⟩) (xpS (As := [.ref e1, .long 0]) hPc hK hz hDc) rfl rfl hl1.1 rfl (lv_room (Nat.le_of_ble_eq_true rfl)) d_Runner_clear_5 ⟨Nat.le_of_ble_eq_true rfl, Nat.le_of_ble_eq_true rfl⟩) hS (fun q _ h => hFc q h) hFc (fun u_1 t H_2 locs ht hvm hw hB hz1 hk1 hS1 => ?_)
  try dsimp only at hw
  obtain ⟨x_4, hx_5, hP1, hD1⟩ := hB
  rw [ht] at hP1
  have hjn := xw_join3 (wl := [(e0, .inr (8, [.ref e1])), (e1, .inl (ax 4, 6, .inr (.inl x_4)))]) hP hD [1] [0] hCs (by decide) (by decide) hk1 hFc hP1 hD1 rfl
  clear hP1 hD1
  clear hPc hDc hFc hCs hz hz1 hk1 ht hvm
  clear hP hD hS
  have hS := hS1
  obtain ⟨hP, hD⟩ := hjn
  clear hS1
  rw [← hQe]
  obtain ⟨hP9, hD9⟩ := xw_sub2 (wc := (fun (u : Nat → Nat) (xvs : Nat → Int64) => [(e0, .inr (8, [.ref e1])), (e1, .inl (ax 4, 6, .inr (.inl xvs)))]) (ixn []) x_4) hP hD [0, 1] (by decide) rfl
  have hex0 : True := trivial
  exact W.vret hx hb hr (fun t ht hW => ⟨⟨ixn [], rfl, trivial, ⟨x_4, hex0, by rw [ht]; exact hP9, hD9⟩⟩, hS.F ht⟩) hS.2.2 d_Runner_clear_8
abbrev b_Runner_compare : ByteArray := prog_10_method_6_code
def y_Runner_compare : MethodName := ⟨R_Runner, "compare", "(IJJ)Z"⟩
theorem d_Runner_compare_0 : decode b_Runner_compare 0 = .ok (.iload_n 0, 1) := by decide +kernel
theorem d_Runner_compare_1 : decode b_Runner_compare 1 = .ok (.tableswitch 95 0 4 #[35, 47, 59, 71, 83], 35) := by decide +kernel
theorem d_Runner_compare_36 : decode b_Runner_compare 36 = .ok (.lload_n 1, 1) := by decide +kernel
theorem d_Runner_compare_37 : decode b_Runner_compare 37 = .ok (.lload_n 3, 1) := by decide +kernel
theorem d_Runner_compare_38 : decode b_Runner_compare 38 = .ok (.lcmp, 1) := by decide +kernel
theorem d_Runner_compare_39 : decode b_Runner_compare 39 = .ok (.ifCond .ge 7, 3) := by decide +kernel
theorem d_Runner_compare_42 : decode b_Runner_compare 42 = .ok (.iconst 1, 1) := by decide +kernel
theorem d_Runner_compare_43 : decode b_Runner_compare 43 = .ok (.goto 4, 3) := by decide +kernel
theorem d_Runner_compare_46 : decode b_Runner_compare 46 = .ok (.iconst 0, 1) := by decide +kernel
theorem d_Runner_compare_47 : decode b_Runner_compare 47 = .ok (.ireturn, 1) := by decide +kernel
theorem d_Runner_compare_48 : decode b_Runner_compare 48 = .ok (.lload_n 1, 1) := by decide +kernel
theorem d_Runner_compare_49 : decode b_Runner_compare 49 = .ok (.lload_n 3, 1) := by decide +kernel
theorem d_Runner_compare_50 : decode b_Runner_compare 50 = .ok (.lcmp, 1) := by decide +kernel
theorem d_Runner_compare_51 : decode b_Runner_compare 51 = .ok (.ifCond .lt 7, 3) := by decide +kernel
theorem d_Runner_compare_54 : decode b_Runner_compare 54 = .ok (.iconst 1, 1) := by decide +kernel
theorem d_Runner_compare_55 : decode b_Runner_compare 55 = .ok (.goto 4, 3) := by decide +kernel
theorem d_Runner_compare_58 : decode b_Runner_compare 58 = .ok (.iconst 0, 1) := by decide +kernel
theorem d_Runner_compare_59 : decode b_Runner_compare 59 = .ok (.ireturn, 1) := by decide +kernel
theorem d_Runner_compare_60 : decode b_Runner_compare 60 = .ok (.lload_n 1, 1) := by decide +kernel
theorem d_Runner_compare_61 : decode b_Runner_compare 61 = .ok (.lload_n 3, 1) := by decide +kernel
theorem d_Runner_compare_62 : decode b_Runner_compare 62 = .ok (.lcmp, 1) := by decide +kernel
theorem d_Runner_compare_63 : decode b_Runner_compare 63 = .ok (.ifCond .gt 7, 3) := by decide +kernel
theorem d_Runner_compare_66 : decode b_Runner_compare 66 = .ok (.iconst 1, 1) := by decide +kernel
theorem d_Runner_compare_67 : decode b_Runner_compare 67 = .ok (.goto 4, 3) := by decide +kernel
theorem d_Runner_compare_70 : decode b_Runner_compare 70 = .ok (.iconst 0, 1) := by decide +kernel
theorem d_Runner_compare_71 : decode b_Runner_compare 71 = .ok (.ireturn, 1) := by decide +kernel
theorem d_Runner_compare_72 : decode b_Runner_compare 72 = .ok (.lload_n 1, 1) := by decide +kernel
theorem d_Runner_compare_73 : decode b_Runner_compare 73 = .ok (.lload_n 3, 1) := by decide +kernel
theorem d_Runner_compare_74 : decode b_Runner_compare 74 = .ok (.lcmp, 1) := by decide +kernel
theorem d_Runner_compare_75 : decode b_Runner_compare 75 = .ok (.ifCond .le 7, 3) := by decide +kernel
theorem d_Runner_compare_78 : decode b_Runner_compare 78 = .ok (.iconst 1, 1) := by decide +kernel
theorem d_Runner_compare_79 : decode b_Runner_compare 79 = .ok (.goto 4, 3) := by decide +kernel
theorem d_Runner_compare_82 : decode b_Runner_compare 82 = .ok (.iconst 0, 1) := by decide +kernel
theorem d_Runner_compare_83 : decode b_Runner_compare 83 = .ok (.ireturn, 1) := by decide +kernel
theorem d_Runner_compare_84 : decode b_Runner_compare 84 = .ok (.lload_n 1, 1) := by decide +kernel
theorem d_Runner_compare_85 : decode b_Runner_compare 85 = .ok (.lload_n 3, 1) := by decide +kernel
theorem d_Runner_compare_86 : decode b_Runner_compare 86 = .ok (.lcmp, 1) := by decide +kernel
theorem d_Runner_compare_87 : decode b_Runner_compare 87 = .ok (.ifCond .ne 7, 3) := by decide +kernel
theorem d_Runner_compare_90 : decode b_Runner_compare 90 = .ok (.iconst 1, 1) := by decide +kernel
theorem d_Runner_compare_91 : decode b_Runner_compare 91 = .ok (.goto 4, 3) := by decide +kernel
theorem d_Runner_compare_94 : decode b_Runner_compare 94 = .ok (.iconst 0, 1) := by decide +kernel
theorem d_Runner_compare_95 : decode b_Runner_compare 95 = .ok (.ireturn, 1) := by decide +kernel
theorem d_Runner_compare_96 : decode b_Runner_compare 96 = .ok (.lload_n 1, 1) := by decide +kernel
theorem d_Runner_compare_97 : decode b_Runner_compare 97 = .ok (.lload_n 3, 1) := by decide +kernel
theorem d_Runner_compare_98 : decode b_Runner_compare 98 = .ok (.lcmp, 1) := by decide +kernel
theorem d_Runner_compare_99 : decode b_Runner_compare 99 = .ok (.ifCond .eq 7, 3) := by decide +kernel
theorem d_Runner_compare_102 : decode b_Runner_compare 102 = .ok (.iconst 1, 1) := by decide +kernel
theorem d_Runner_compare_103 : decode b_Runner_compare 103 = .ok (.goto 4, 3) := by decide +kernel
theorem d_Runner_compare_106 : decode b_Runner_compare 106 = .ok (.iconst 0, 1) := by decide +kernel
theorem d_Runner_compare_107 : decode b_Runner_compare 107 = .ok (.ireturn, 1) := by decide +kernel
set_option maxHeartbeats 40000000 in
set_option maxRecDepth 100000 in
theorem c_E_compare (l : Launch) (D : va_G) (ax : Nat → ClassId) (o9 : Nat) (w1 w2 : Int64) (sz : Nat) (ho9 : o9 ≤ 8) : Met l y_Runner_compare (xws (.code y_Runner_compare b_Runner_compare 5 (some .boolean))) ({ frames := 10, cells := 0, slots := 0, locals := 400 }) (va_Pc [.int (nI o9), .long w1, .long w2] (xo D ax [] sz)) ((va_Qi (fun (r : Int32) (u : Nat → Nat) => r = nI (u 0) ∧ (u 0 ≤ 1)) (xb D (va_A [] sz) (fun u => [])) (va_A [] sz))) 0 0 (va_A [] sz) := by
  refine Met.ofW (cc := b_Runner_compare) (maxL := 5) (ret := (some .boolean)) (by decide) rfl ?_
  intro p e s m args below meth c s₁ B hml hv
  obtain ⟨rfl, hsz, hP, hK, hD0⟩ := hv
  have hx := B.exec
  have hb := B.bytes
  have hr := B.returns
  have hts := xw_hts B.pre
  have hown : s.vm.findClass R_Runner = some m.cls := findClass_of_methodNamed B.named
  have hlocks := B.notSynchronized
  subst hsz
  have hD := hD0.self (sz := s.heap.size)
  have hN := xz_entry hP
  generalize hAe : va_A [] s.heap.size = A at hD hN ⊢
  have hA : ∀ q : Nat, s.heap.size ≤ q → A q := fun q h => by rw [← hAe]; exact Or.inr h
  have hS : va_S A s.heap s.heap [] := va_S.rf
  have hl0 := lv_entry ([.int (nI o9), .long w1, .long w2]) (n := 5) (Nat.le_of_ble_eq_true rfl)
  rw [lg_entry_eq]
  generalize (lg_sl ([.int (nI o9), .long w1, .long w2]) ++ List.replicate (5 - (lg_sl ([.int (nI o9), .long w1, .long w2])).length) Slot.unset).toArray = ls at hl0 ⊢
  have hl1 : lv_has ls 5 [(0, .int (nI o9)), (1, .long w1), (3, .long w2)] := hl0
  refine xw_gen (fun Z9 hQe => ?_)
  refine lv_iload_n hx hb d_Runner_compare_0 rfl (lv_at hl1 0 rfl) ?_
  by_cases hw_1 : o9 = 0
  · refine W.eq (g2 := F0 m 1 ls [.int 0]) (by rw [hw_1]; rfl) ?_
    refine lv_tableIn (off := 35) (tgt := 36) hx hb d_Runner_compare_1 (by decide) (by decide) (by decide) (by decide) ?_
    refine lv_lload_n hx hb d_Runner_compare_36 rfl (lv_at hl1 1 rfl) ?_
    refine lv_lload_n hx hb d_Runner_compare_37 rfl (lv_at hl1 2 rfl) ?_
    refine W.lcmp hx hb d_Runner_compare_38 ?_
    refine lv_topi (fun z_2 ez_2 => ?_)
    refine lv_if_ge (tgt := 46) hx hb d_Runner_compare_39 (by decide) (fun c_3 => ?_) (fun c_3 => ?_)
    · refine lv_iconst (v := 0) hx hb d_Runner_compare_46 (by decide) ?_
      rw [← hQe]
      obtain ⟨hP9, hD9⟩ := xw_sub2 (wc := (fun u : Nat → Nat => []) (ixn [0])) hP hD [] (by decide) rfl
      have hsp0 : 0 ≤ 1 := (by first | assumption | omega)
      exact W.zret (v := 0) hx hb hr rfl (fun t ht hW => ⟨⟨0, ixn [0], rfl, ⟨rfl, hsp0⟩, ⟨by rw [ht]; exact hP9, hD9⟩⟩, hS.F ht⟩) hS.2.2 d_Runner_compare_47
    · refine lv_iconst (v := 1) hx hb d_Runner_compare_42 (by decide) ?_
      refine lv_goto (tgt := 47) hx hb d_Runner_compare_43 (by decide) ?_
      rw [← hQe]
      obtain ⟨hP9, hD9⟩ := xw_sub2 (wc := (fun u : Nat → Nat => []) (ixn [1])) hP hD [] (by decide) rfl
      have hsp0 : 1 ≤ 1 := (by first | assumption | omega)
      exact W.zret (v := 1) hx hb hr rfl (fun t ht hW => ⟨⟨1, ixn [1], rfl, ⟨rfl, hsp0⟩, ⟨by rw [ht]; exact hP9, hD9⟩⟩, hS.F ht⟩) hS.2.2 d_Runner_compare_47
  by_cases hw_4 : o9 = 1
  · refine W.eq (g2 := F0 m 1 ls [.int 1]) (by rw [hw_4]; rfl) ?_
    refine lv_tableIn (off := 47) (tgt := 48) hx hb d_Runner_compare_1 (by decide) (by decide) (by decide) (by decide) ?_
    refine lv_lload_n hx hb d_Runner_compare_48 rfl (lv_at hl1 1 rfl) ?_
    refine lv_lload_n hx hb d_Runner_compare_49 rfl (lv_at hl1 2 rfl) ?_
    refine W.lcmp hx hb d_Runner_compare_50 ?_
    refine lv_topi (fun z_5 ez_5 => ?_)
    refine lv_if_lt (tgt := 58) hx hb d_Runner_compare_51 (by decide) (fun c_6 => ?_) (fun c_6 => ?_)
    · refine lv_iconst (v := 0) hx hb d_Runner_compare_58 (by decide) ?_
      rw [← hQe]
      obtain ⟨hP9, hD9⟩ := xw_sub2 (wc := (fun u : Nat → Nat => []) (ixn [0])) hP hD [] (by decide) rfl
      have hsp0 : 0 ≤ 1 := (by first | assumption | omega)
      exact W.zret (v := 0) hx hb hr rfl (fun t ht hW => ⟨⟨0, ixn [0], rfl, ⟨rfl, hsp0⟩, ⟨by rw [ht]; exact hP9, hD9⟩⟩, hS.F ht⟩) hS.2.2 d_Runner_compare_59
    · refine lv_iconst (v := 1) hx hb d_Runner_compare_54 (by decide) ?_
      refine lv_goto (tgt := 59) hx hb d_Runner_compare_55 (by decide) ?_
      rw [← hQe]
      obtain ⟨hP9, hD9⟩ := xw_sub2 (wc := (fun u : Nat → Nat => []) (ixn [1])) hP hD [] (by decide) rfl
      have hsp0 : 1 ≤ 1 := (by first | assumption | omega)
      exact W.zret (v := 1) hx hb hr rfl (fun t ht hW => ⟨⟨1, ixn [1], rfl, ⟨rfl, hsp0⟩, ⟨by rw [ht]; exact hP9, hD9⟩⟩, hS.F ht⟩) hS.2.2 d_Runner_compare_59
  by_cases hw_7 : o9 = 2
  · refine W.eq (g2 := F0 m 1 ls [.int 2]) (by rw [hw_7]; rfl) ?_
    refine lv_tableIn (off := 59) (tgt := 60) hx hb d_Runner_compare_1 (by decide) (by decide) (by decide) (by decide) ?_
    refine lv_lload_n hx hb d_Runner_compare_60 rfl (lv_at hl1 1 rfl) ?_
    refine lv_lload_n hx hb d_Runner_compare_61 rfl (lv_at hl1 2 rfl) ?_
    refine W.lcmp hx hb d_Runner_compare_62 ?_
    refine lv_topi (fun z_8 ez_8 => ?_)
    refine lv_if_gt (tgt := 70) hx hb d_Runner_compare_63 (by decide) (fun c_9 => ?_) (fun c_9 => ?_)
    · refine lv_iconst (v := 0) hx hb d_Runner_compare_70 (by decide) ?_
      rw [← hQe]
      obtain ⟨hP9, hD9⟩ := xw_sub2 (wc := (fun u : Nat → Nat => []) (ixn [0])) hP hD [] (by decide) rfl
      have hsp0 : 0 ≤ 1 := (by first | assumption | omega)
      exact W.zret (v := 0) hx hb hr rfl (fun t ht hW => ⟨⟨0, ixn [0], rfl, ⟨rfl, hsp0⟩, ⟨by rw [ht]; exact hP9, hD9⟩⟩, hS.F ht⟩) hS.2.2 d_Runner_compare_71
    · refine lv_iconst (v := 1) hx hb d_Runner_compare_66 (by decide) ?_
      refine lv_goto (tgt := 71) hx hb d_Runner_compare_67 (by decide) ?_
      rw [← hQe]
      obtain ⟨hP9, hD9⟩ := xw_sub2 (wc := (fun u : Nat → Nat => []) (ixn [1])) hP hD [] (by decide) rfl
      have hsp0 : 1 ≤ 1 := (by first | assumption | omega)
      exact W.zret (v := 1) hx hb hr rfl (fun t ht hW => ⟨⟨1, ixn [1], rfl, ⟨rfl, hsp0⟩, ⟨by rw [ht]; exact hP9, hD9⟩⟩, hS.F ht⟩) hS.2.2 d_Runner_compare_71
  by_cases hw_10 : o9 = 3
  · refine W.eq (g2 := F0 m 1 ls [.int 3]) (by rw [hw_10]; rfl) ?_
    refine lv_tableIn (off := 71) (tgt := 72) hx hb d_Runner_compare_1 (by decide) (by decide) (by decide) (by decide) ?_
    refine lv_lload_n hx hb d_Runner_compare_72 rfl (lv_at hl1 1 rfl) ?_
    refine lv_lload_n hx hb d_Runner_compare_73 rfl (lv_at hl1 2 rfl) ?_
    refine W.lcmp hx hb d_Runner_compare_74 ?_
    refine lv_topi (fun z_11 ez_11 => ?_)
    refine lv_if_le (tgt := 82) hx hb d_Runner_compare_75 (by decide) (fun c_12 => ?_) (fun c_12 => ?_)
    · refine lv_iconst (v := 0) hx hb d_Runner_compare_82 (by decide) ?_
      rw [← hQe]
      obtain ⟨hP9, hD9⟩ := xw_sub2 (wc := (fun u : Nat → Nat => []) (ixn [0])) hP hD [] (by decide) rfl
      have hsp0 : 0 ≤ 1 := (by first | assumption | omega)
      exact W.zret (v := 0) hx hb hr rfl (fun t ht hW => ⟨⟨0, ixn [0], rfl, ⟨rfl, hsp0⟩, ⟨by rw [ht]; exact hP9, hD9⟩⟩, hS.F ht⟩) hS.2.2 d_Runner_compare_83
    · refine lv_iconst (v := 1) hx hb d_Runner_compare_78 (by decide) ?_
      refine lv_goto (tgt := 83) hx hb d_Runner_compare_79 (by decide) ?_
      rw [← hQe]
      obtain ⟨hP9, hD9⟩ := xw_sub2 (wc := (fun u : Nat → Nat => []) (ixn [1])) hP hD [] (by decide) rfl
      have hsp0 : 1 ≤ 1 := (by first | assumption | omega)
      exact W.zret (v := 1) hx hb hr rfl (fun t ht hW => ⟨⟨1, ixn [1], rfl, ⟨rfl, hsp0⟩, ⟨by rw [ht]; exact hP9, hD9⟩⟩, hS.F ht⟩) hS.2.2 d_Runner_compare_83
  by_cases hw_13 : o9 = 4
  · refine W.eq (g2 := F0 m 1 ls [.int 4]) (by rw [hw_13]; rfl) ?_
    refine lv_tableIn (off := 83) (tgt := 84) hx hb d_Runner_compare_1 (by decide) (by decide) (by decide) (by decide) ?_
    refine lv_lload_n hx hb d_Runner_compare_84 rfl (lv_at hl1 1 rfl) ?_
    refine lv_lload_n hx hb d_Runner_compare_85 rfl (lv_at hl1 2 rfl) ?_
    refine W.lcmp hx hb d_Runner_compare_86 ?_
    refine lv_topi (fun z_14 ez_14 => ?_)
    refine lv_if_ne (tgt := 94) hx hb d_Runner_compare_87 (by decide) (fun c_15 => ?_) (fun c_15 => ?_)
    · refine lv_iconst (v := 0) hx hb d_Runner_compare_94 (by decide) ?_
      rw [← hQe]
      obtain ⟨hP9, hD9⟩ := xw_sub2 (wc := (fun u : Nat → Nat => []) (ixn [0])) hP hD [] (by decide) rfl
      have hsp0 : 0 ≤ 1 := (by first | assumption | omega)
      exact W.zret (v := 0) hx hb hr rfl (fun t ht hW => ⟨⟨0, ixn [0], rfl, ⟨rfl, hsp0⟩, ⟨by rw [ht]; exact hP9, hD9⟩⟩, hS.F ht⟩) hS.2.2 d_Runner_compare_95
    · refine lv_iconst (v := 1) hx hb d_Runner_compare_90 (by decide) ?_
      refine lv_goto (tgt := 95) hx hb d_Runner_compare_91 (by decide) ?_
      rw [← hQe]
      obtain ⟨hP9, hD9⟩ := xw_sub2 (wc := (fun u : Nat → Nat => []) (ixn [1])) hP hD [] (by decide) rfl
      have hsp0 : 1 ≤ 1 := (by first | assumption | omega)
      exact W.zret (v := 1) hx hb hr rfl (fun t ht hW => ⟨⟨1, ixn [1], rfl, ⟨rfl, hsp0⟩, ⟨by rw [ht]; exact hP9, hD9⟩⟩, hS.F ht⟩) hS.2.2 d_Runner_compare_95
  refine lv_tableOut (tgt := 96) hx hb d_Runner_compare_1 (by rw [nI_toInt (by first | assumption | omega)]; omega) (by decide) ?_
  refine lv_lload_n hx hb d_Runner_compare_96 rfl (lv_at hl1 1 rfl) ?_
  refine lv_lload_n hx hb d_Runner_compare_97 rfl (lv_at hl1 2 rfl) ?_
  refine W.lcmp hx hb d_Runner_compare_98 ?_
  refine lv_topi (fun z_16 ez_16 => ?_)
  refine lv_if_eq (tgt := 106) hx hb d_Runner_compare_99 (by decide) (fun c_17 => ?_) (fun c_17 => ?_)
  · refine lv_iconst (v := 0) hx hb d_Runner_compare_106 (by decide) ?_
    rw [← hQe]
    obtain ⟨hP9, hD9⟩ := xw_sub2 (wc := (fun u : Nat → Nat => []) (ixn [0])) hP hD [] (by decide) rfl
    have hsp0 : 0 ≤ 1 := (by first | assumption | omega)
    exact W.zret (v := 0) hx hb hr rfl (fun t ht hW => ⟨⟨0, ixn [0], rfl, ⟨rfl, hsp0⟩, ⟨by rw [ht]; exact hP9, hD9⟩⟩, hS.F ht⟩) hS.2.2 d_Runner_compare_107
  · refine lv_iconst (v := 1) hx hb d_Runner_compare_102 (by decide) ?_
    refine lv_goto (tgt := 107) hx hb d_Runner_compare_103 (by decide) ?_
    rw [← hQe]
    obtain ⟨hP9, hD9⟩ := xw_sub2 (wc := (fun u : Nat → Nat => []) (ixn [1])) hP hD [] (by decide) rfl
    have hsp0 : 1 ≤ 1 := (by first | assumption | omega)
    exact W.zret (v := 1) hx hb hr rfl (fun t ht hW => ⟨⟨1, ixn [1], rfl, ⟨rfl, hsp0⟩, ⟨by rw [ht]; exact hP9, hD9⟩⟩, hS.F ht⟩) hS.2.2 d_Runner_compare_107
abbrev b_Runner_amount : ByteArray := prog_10_method_7_code
def y_Runner_amount : MethodName := ⟨R_Runner, "amount", "(I)J"⟩
theorem d_Runner_amount_0 : decode b_Runner_amount 0 = .ok (.iload_n 1, 1) := by decide +kernel
theorem d_Runner_amount_1 : decode b_Runner_amount 1 = .ok (.bipush 15, 2) := by decide +kernel
theorem d_Runner_amount_3 : decode b_Runner_amount 3 = .ok (.iand, 1) := by decide +kernel
theorem d_Runner_amount_4 : decode b_Runner_amount 4 = .ok (.istore_n 2, 1) := by decide +kernel
theorem d_Runner_amount_5 : decode b_Runner_amount 5 = .ok (.iload_n 1, 1) := by decide +kernel
theorem d_Runner_amount_6 : decode b_Runner_amount 6 = .ok (.iconst 4, 1) := by decide +kernel
theorem d_Runner_amount_7 : decode b_Runner_amount 7 = .ok (.ishr, 1) := by decide +kernel
theorem d_Runner_amount_8 : decode b_Runner_amount 8 = .ok (.i2l, 1) := by decide +kernel
theorem d_Runner_amount_9 : decode b_Runner_amount 9 = .ok (.lstore_n 3, 1) := by decide +kernel
theorem d_Runner_amount_10 : decode b_Runner_amount 10 = .ok (.iload_n 2, 1) := by decide +kernel
theorem d_Runner_amount_11 : decode b_Runner_amount 11 = .ok (.bipush 6, 2) := by decide +kernel
theorem d_Runner_amount_13 : decode b_Runner_amount 13 = .ok (.if_icmp .ge 14, 3) := by decide +kernel
theorem d_Runner_amount_16 : decode b_Runner_amount 16 = .ok (.aload_n 0, 1) := by decide +kernel
theorem d_Runner_amount_17 : decode b_Runner_amount 17 = .ok (.getfield 9, 3) := by decide +kernel
theorem d_Runner_amount_20 : decode b_Runner_amount 20 = .ok (.iload_n 2, 1) := by decide +kernel
theorem d_Runner_amount_21 : decode b_Runner_amount 21 = .ok (.laload, 1) := by decide +kernel
theorem d_Runner_amount_22 : decode b_Runner_amount 22 = .ok (.lload_n 3, 1) := by decide +kernel
theorem d_Runner_amount_23 : decode b_Runner_amount 23 = .ok (.ladd, 1) := by decide +kernel
theorem d_Runner_amount_24 : decode b_Runner_amount 24 = .ok (.goto 4, 3) := by decide +kernel
theorem d_Runner_amount_27 : decode b_Runner_amount 27 = .ok (.lload_n 3, 1) := by decide +kernel
theorem d_Runner_amount_28 : decode b_Runner_amount 28 = .ok (.lreturn, 1) := by decide +kernel
set_option maxHeartbeats 40000000 in
set_option maxRecDepth 100000 in
theorem c_E_amount_0 (l : Launch) (D : va_G) (ax : Nat → ClassId) (e0 e1 : Nat) (vs : Nat → Int64) (x1 : Int32) (sz : Nat) (hk : i2n x1 % 16 < 6) : Met l y_Runner_amount (xws (.code y_Runner_amount b_Runner_amount 5 (some .long))) ({ frames := 10, cells := 0, slots := 0, locals := 400 }) (va_Pc [.ref e0, .int x1] (xo D ax [(e0, .inr (8, [.ref e1])), (e1, .inl (ax 4, 6, .inr (.inl vs)))] sz)) ((va_Ql (fun (r : Int64) (u : Nat → Nat) => r = vs (i2n x1 % 16) + (x1 >>> (4 &&& 31)).toInt64) (xb D (va_A [(e0, .inr (8, [.ref e1])), (e1, .inl (ax 4, 6, .inr (.inl vs)))] sz) (fun u => [(e0, .inr (8, [.ref e1])), (e1, .inl (ax 4, 6, .inr (.inl vs)))])) (va_A [(e0, .inr (8, [.ref e1])), (e1, .inl (ax 4, 6, .inr (.inl vs)))] sz))) 0 0 (va_A [(e0, .inr (8, [.ref e1])), (e1, .inl (ax 4, 6, .inr (.inl vs)))] sz) := by
  refine Met.ofW (cc := b_Runner_amount) (maxL := 5) (ret := (some .long)) (by decide) rfl ?_
  intro p e s m args below meth c s₁ B hml hv
  obtain ⟨rfl, hsz, hP, hK, hD0⟩ := hv
  have hx := B.exec
  have hb := B.bytes
  have hr := B.returns
  have hts := xw_hts B.pre
  have hown : s.vm.findClass R_Runner = some m.cls := findClass_of_methodNamed B.named
  have hlocks := B.notSynchronized
  subst hsz
  have hD := hD0.self (sz := s.heap.size)
  have hN := xz_entry hP
  generalize hAe : va_A [(e0, .inr (8, [.ref e1])), (e1, .inl (ax 4, 6, .inr (.inl vs)))] s.heap.size = A at hD hN ⊢
  have hA : ∀ q : Nat, s.heap.size ≤ q → A q := fun q h => by rw [← hAe]; exact Or.inr h
  have hS : va_S A s.heap s.heap [] := va_S.rf
  have hl0 := lv_entry ([.ref e0, .int x1]) (n := 5) (Nat.le_of_ble_eq_true rfl)
  rw [lg_entry_eq]
  generalize (lg_sl ([.ref e0, .int x1]) ++ List.replicate (5 - (lg_sl ([.ref e0, .int x1])).length) Slot.unset).toArray = ls at hl0 ⊢
  have hl1 : lv_has ls 5 [(0, .ref e0), (1, .int x1)] := hl0
  refine xw_gen (fun Z9 hQe => ?_)
  refine lv_iload_n hx hb d_Runner_amount_0 rfl (lv_at hl1 1 rfl) ?_
  refine lv_bipush (v := 15) hx hb d_Runner_amount_1 (by decide) ?_
  refine lv_iand hx hb d_Runner_amount_3 ?_
  refine lv_topi (fun z_1 ez_1 => ?_)
  have ez_1 : z_1 = nI (i2n x1 % 16) := ez_1.trans (nb_andm 4 x1)
  subst ez_1
  refine lv_istore_n (lv' := [(2, .int (nI (i2n x1 % 16))), (0, .ref e0), (1, .int x1)]) hx hb d_Runner_amount_4 rfl hl1 (by decide) rfl (fun ls hl2 => ?_)
  clear hl1; have hl1 := hl2; clear hl2
  refine lv_iload_n hx hb d_Runner_amount_5 rfl (lv_at hl1 2 rfl) ?_
  refine lv_iconst (v := 4) hx hb d_Runner_amount_6 (by decide) ?_
  refine lv_ishr hx hb d_Runner_amount_7 ?_
  refine lv_topi (fun z_2 ez_2 => ?_)
  refine lv_i2l hx hb d_Runner_amount_8 rfl ?_
  refine lv_topl (fun z_3 ez_3 => ?_)
  refine lv_lstore_n (lv' := [(3, .long z_3), (2, .int (nI (i2n x1 % 16))), (0, .ref e0), (1, .int x1)]) hx hb d_Runner_amount_9 rfl hl1 (by decide) rfl (fun ls hl2 => ?_)
  clear hl1; have hl1 := hl2; clear hl2
  refine lv_iload_n hx hb d_Runner_amount_10 rfl (lv_at hl1 1 rfl) ?_
  refine lv_bipush (v := 6) hx hb d_Runner_amount_11 (by decide) ?_
  refine lv_icmp_ge (tgt := 27) hx hb d_Runner_amount_13 (by decide) (fun c_4 => ?_) (fun c_4 => ?_)
  · exfalso
    replace c_4 : 6 ≤ i2n x1 % 16 := (nI_leI (a := 6) (b := i2n x1 % 16) (by decide) (by first | exact Nat.lt_of_lt_of_le (by assumption) (by decide) | exact Nat.lt_of_le_of_lt (by assumption) (by decide) | omega)).mp c_4
    omega
  replace c_4 : ¬ 6 ≤ i2n x1 % 16 := fun hq9 => c_4 ((nI_leI (a := 6) (b := i2n x1 % 16) (by decide) (by first | exact Nat.lt_of_lt_of_le (by assumption) (by decide) | exact Nat.lt_of_le_of_lt (by assumption) (by decide) | omega)).mpr hq9)
  refine lv_aload_n hx hb d_Runner_amount_16 rfl (lv_at hl1 2 rfl) ?_
  refine va_get (D := D) (ci := 8) (v := .ref e1) (C := R_Runner) (T := F_Runner) (N := 1) hx hb hts i_Runner hown hK.1 hP 0 rfl rfl 0 (by decide) (hts _ wd_251) (fun _ h9 => h9) rfl d_Runner_amount_17 ?_
  refine lv_iload_n hx hb d_Runner_amount_20 rfl (lv_at hl1 1 rfl) ?_
  refine va_lald hx hb hK.1 hP 1 4 rfl rfl (vp_in_nI (by first | assumption | omega) (by decide)) d_Runner_amount_21 ?_
  refine W.eq (g2 := F0 m 22 ls [.long (vs (i2n x1 % 16))]) (by rw [nI_clamp (by first | exact Nat.lt_of_lt_of_le (by assumption) (by decide) | exact Nat.lt_of_le_of_lt (by assumption) (by decide) | omega)]) ?_
  refine lv_lload_n hx hb d_Runner_amount_22 rfl (lv_at hl1 0 rfl) ?_
  refine lv_ladd hx hb d_Runner_amount_23 ?_
  refine lv_topl (fun z_5 ez_5 => ?_)
  refine lv_goto (tgt := 28) hx hb d_Runner_amount_24 (by decide) ?_
  rw [← hQe]
  obtain ⟨hP9, hD9⟩ := xw_sub2 (wc := (fun u : Nat → Nat => [(e0, .inr (8, [.ref e1])), (e1, .inl (ax 4, 6, .inr (.inl vs)))]) (ixn [])) hP hD [0, 1] (by decide) rfl
  exact W.lret (v := z_5) hx hb hr (fun t ht hW => ⟨⟨z_5, ixn [], rfl, (by simp_all), ⟨by rw [ht]; exact hP9, hD9⟩⟩, hS.F ht⟩) hS.2.2 d_Runner_amount_28
set_option maxHeartbeats 40000000 in
set_option maxRecDepth 100000 in
theorem c_E_amount_1 (l : Launch) (D : va_G) (ax : Nat → ClassId) (e0 e1 : Nat) (vs : Nat → Int64) (x1 : Int32) (sz : Nat) (hk : i2n x1 % 16 ≥ 6) : Met l y_Runner_amount (xws (.code y_Runner_amount b_Runner_amount 5 (some .long))) ({ frames := 10, cells := 0, slots := 0, locals := 400 }) (va_Pc [.ref e0, .int x1] (xo D ax [(e0, .inr (8, [.ref e1])), (e1, .inl (ax 4, 6, .inr (.inl vs)))] sz)) ((va_Ql (fun (r : Int64) (u : Nat → Nat) => r = (x1 >>> (4 &&& 31)).toInt64) (xb D (va_A [(e0, .inr (8, [.ref e1])), (e1, .inl (ax 4, 6, .inr (.inl vs)))] sz) (fun u => [(e0, .inr (8, [.ref e1])), (e1, .inl (ax 4, 6, .inr (.inl vs)))])) (va_A [(e0, .inr (8, [.ref e1])), (e1, .inl (ax 4, 6, .inr (.inl vs)))] sz))) 0 0 (va_A [(e0, .inr (8, [.ref e1])), (e1, .inl (ax 4, 6, .inr (.inl vs)))] sz) := by
  refine Met.ofW (cc := b_Runner_amount) (maxL := 5) (ret := (some .long)) (by decide) rfl ?_
  intro p e s m args below meth c s₁ B hml hv
  obtain ⟨rfl, hsz, hP, hK, hD0⟩ := hv
  have hx := B.exec
  have hb := B.bytes
  have hr := B.returns
  have hts := xw_hts B.pre
  have hown : s.vm.findClass R_Runner = some m.cls := findClass_of_methodNamed B.named
  have hlocks := B.notSynchronized
  subst hsz
  have hD := hD0.self (sz := s.heap.size)
  have hN := xz_entry hP
  generalize hAe : va_A [(e0, .inr (8, [.ref e1])), (e1, .inl (ax 4, 6, .inr (.inl vs)))] s.heap.size = A at hD hN ⊢
  have hA : ∀ q : Nat, s.heap.size ≤ q → A q := fun q h => by rw [← hAe]; exact Or.inr h
  have hS : va_S A s.heap s.heap [] := va_S.rf
  have hl0 := lv_entry ([.ref e0, .int x1]) (n := 5) (Nat.le_of_ble_eq_true rfl)
  rw [lg_entry_eq]
  generalize (lg_sl ([.ref e0, .int x1]) ++ List.replicate (5 - (lg_sl ([.ref e0, .int x1])).length) Slot.unset).toArray = ls at hl0 ⊢
  have hl1 : lv_has ls 5 [(0, .ref e0), (1, .int x1)] := hl0
  refine xw_gen (fun Z9 hQe => ?_)
  refine lv_iload_n hx hb d_Runner_amount_0 rfl (lv_at hl1 1 rfl) ?_
  refine lv_bipush (v := 15) hx hb d_Runner_amount_1 (by decide) ?_
  refine lv_iand hx hb d_Runner_amount_3 ?_
  refine lv_topi (fun z_1 ez_1 => ?_)
  have ez_1 : z_1 = nI (i2n x1 % 16) := ez_1.trans (nb_andm 4 x1)
  subst ez_1
  refine lv_istore_n (lv' := [(2, .int (nI (i2n x1 % 16))), (0, .ref e0), (1, .int x1)]) hx hb d_Runner_amount_4 rfl hl1 (by decide) rfl (fun ls hl2 => ?_)
  clear hl1; have hl1 := hl2; clear hl2
  refine lv_iload_n hx hb d_Runner_amount_5 rfl (lv_at hl1 2 rfl) ?_
  refine lv_iconst (v := 4) hx hb d_Runner_amount_6 (by decide) ?_
  refine lv_ishr hx hb d_Runner_amount_7 ?_
  refine lv_topi (fun z_2 ez_2 => ?_)
  refine lv_i2l hx hb d_Runner_amount_8 rfl ?_
  refine lv_topl (fun z_3 ez_3 => ?_)
  refine lv_lstore_n (lv' := [(3, .long z_3), (2, .int (nI (i2n x1 % 16))), (0, .ref e0), (1, .int x1)]) hx hb d_Runner_amount_9 rfl hl1 (by decide) rfl (fun ls hl2 => ?_)
  clear hl1; have hl1 := hl2; clear hl2
  refine lv_iload_n hx hb d_Runner_amount_10 rfl (lv_at hl1 1 rfl) ?_
  refine lv_bipush (v := 6) hx hb d_Runner_amount_11 (by decide) ?_
  refine lv_icmp_ge (tgt := 27) hx hb d_Runner_amount_13 (by decide) (fun c_4 => ?_) (fun c_4 => ?_)
  rotate_left
  · exfalso
    replace c_4 : ¬ 6 ≤ i2n x1 % 16 := fun hq9 => c_4 ((nI_leI (a := 6) (b := i2n x1 % 16) (by decide) (by first | exact Nat.lt_of_lt_of_le (by assumption) (by decide) | exact Nat.lt_of_le_of_lt (by assumption) (by decide) | omega)).mpr hq9)
    omega
  replace c_4 : 6 ≤ i2n x1 % 16 := (nI_leI (a := 6) (b := i2n x1 % 16) (by decide) (by first | exact Nat.lt_of_lt_of_le (by assumption) (by decide) | exact Nat.lt_of_le_of_lt (by assumption) (by decide) | omega)).mp c_4
  refine lv_lload_n hx hb d_Runner_amount_27 rfl (lv_at hl1 0 rfl) ?_
  rw [← hQe]
  obtain ⟨hP9, hD9⟩ := xw_sub2 (wc := (fun u : Nat → Nat => [(e0, .inr (8, [.ref e1])), (e1, .inl (ax 4, 6, .inr (.inl vs)))]) (ixn [])) hP hD [0, 1] (by decide) rfl
  exact W.lret (v := z_3) hx hb hr (fun t ht hW => ⟨⟨z_3, ixn [], rfl, (by simp_all), ⟨by rw [ht]; exact hP9, hD9⟩⟩, hS.F ht⟩) hS.2.2 d_Runner_amount_28
theorem d_Runner_truth_0 : decode b_Runner_truth 0 = .ok (.aload_n 1, 1) := by decide +kernel
theorem d_Runner_truth_1 : decode b_Runner_truth 1 = .ok (.getfield 64, 3) := by decide +kernel
theorem d_Runner_truth_4 : decode b_Runner_truth 4 = .ok (.iload_n 2, 1) := by decide +kernel
theorem d_Runner_truth_5 : decode b_Runner_truth 5 = .ok (.iaload, 1) := by decide +kernel
theorem d_Runner_truth_6 : decode b_Runner_truth 6 = .ok (.istore_n 3, 1) := by decide +kernel
theorem d_Runner_truth_7 : decode b_Runner_truth 7 = .ok (.aload_n 1, 1) := by decide +kernel
theorem d_Runner_truth_8 : decode b_Runner_truth 8 = .ok (.getfield 69, 3) := by decide +kernel
theorem d_Runner_truth_11 : decode b_Runner_truth 11 = .ok (.iload_n 2, 1) := by decide +kernel
theorem d_Runner_truth_12 : decode b_Runner_truth 12 = .ok (.iaload, 1) := by decide +kernel
theorem d_Runner_truth_13 : decode b_Runner_truth 13 = .ok (.istore 4, 2) := by decide +kernel
theorem d_Runner_truth_15 : decode b_Runner_truth 15 = .ok (.aload_n 1, 1) := by decide +kernel
theorem d_Runner_truth_16 : decode b_Runner_truth 16 = .ok (.getfield 72, 3) := by decide +kernel
theorem d_Runner_truth_19 : decode b_Runner_truth 19 = .ok (.iload_n 2, 1) := by decide +kernel
theorem d_Runner_truth_20 : decode b_Runner_truth 20 = .ok (.baload, 1) := by decide +kernel
theorem d_Runner_truth_21 : decode b_Runner_truth 21 = .ok (.tableswitch 92 6 8 #[27, 42, 67], 27) := by decide +kernel
theorem d_Runner_truth_48 : decode b_Runner_truth 48 = .ok (.aload_n 0, 1) := by decide +kernel
theorem d_Runner_truth_49 : decode b_Runner_truth 49 = .ok (.aload_n 1, 1) := by decide +kernel
theorem d_Runner_truth_50 : decode b_Runner_truth 50 = .ok (.iload_n 3, 1) := by decide +kernel
theorem d_Runner_truth_51 : decode b_Runner_truth 51 = .ok (.invokevirtual 54, 3) := by decide +kernel
theorem d_Runner_truth_54 : decode b_Runner_truth 54 = .ok (.ifCond .ne 7, 3) := by decide +kernel
theorem d_Runner_truth_57 : decode b_Runner_truth 57 = .ok (.iconst 1, 1) := by decide +kernel
theorem d_Runner_truth_58 : decode b_Runner_truth 58 = .ok (.goto 4, 3) := by decide +kernel
theorem d_Runner_truth_61 : decode b_Runner_truth 61 = .ok (.iconst 0, 1) := by decide +kernel
theorem d_Runner_truth_62 : decode b_Runner_truth 62 = .ok (.ireturn, 1) := by decide +kernel
theorem d_Runner_truth_63 : decode b_Runner_truth 63 = .ok (.aload_n 0, 1) := by decide +kernel
theorem d_Runner_truth_64 : decode b_Runner_truth 64 = .ok (.aload_n 1, 1) := by decide +kernel
theorem d_Runner_truth_65 : decode b_Runner_truth 65 = .ok (.iload_n 3, 1) := by decide +kernel
theorem d_Runner_truth_66 : decode b_Runner_truth 66 = .ok (.invokevirtual 54, 3) := by decide +kernel
theorem d_Runner_truth_69 : decode b_Runner_truth 69 = .ok (.ifCond .eq 17, 3) := by decide +kernel
theorem d_Runner_truth_72 : decode b_Runner_truth 72 = .ok (.aload_n 0, 1) := by decide +kernel
theorem d_Runner_truth_73 : decode b_Runner_truth 73 = .ok (.aload_n 1, 1) := by decide +kernel
theorem d_Runner_truth_74 : decode b_Runner_truth 74 = .ok (.iload 4, 2) := by decide +kernel
theorem d_Runner_truth_76 : decode b_Runner_truth 76 = .ok (.invokevirtual 54, 3) := by decide +kernel
theorem d_Runner_truth_79 : decode b_Runner_truth 79 = .ok (.ifCond .eq 7, 3) := by decide +kernel
theorem d_Runner_truth_82 : decode b_Runner_truth 82 = .ok (.iconst 1, 1) := by decide +kernel
theorem d_Runner_truth_83 : decode b_Runner_truth 83 = .ok (.goto 4, 3) := by decide +kernel
theorem d_Runner_truth_86 : decode b_Runner_truth 86 = .ok (.iconst 0, 1) := by decide +kernel
theorem d_Runner_truth_87 : decode b_Runner_truth 87 = .ok (.ireturn, 1) := by decide +kernel
theorem d_Runner_truth_88 : decode b_Runner_truth 88 = .ok (.aload_n 0, 1) := by decide +kernel
theorem d_Runner_truth_89 : decode b_Runner_truth 89 = .ok (.aload_n 1, 1) := by decide +kernel
theorem d_Runner_truth_90 : decode b_Runner_truth 90 = .ok (.iload_n 3, 1) := by decide +kernel
theorem d_Runner_truth_91 : decode b_Runner_truth 91 = .ok (.invokevirtual 54, 3) := by decide +kernel
theorem d_Runner_truth_94 : decode b_Runner_truth 94 = .ok (.ifCond .ne 13, 3) := by decide +kernel
theorem d_Runner_truth_97 : decode b_Runner_truth 97 = .ok (.aload_n 0, 1) := by decide +kernel
theorem d_Runner_truth_98 : decode b_Runner_truth 98 = .ok (.aload_n 1, 1) := by decide +kernel
theorem d_Runner_truth_99 : decode b_Runner_truth 99 = .ok (.iload 4, 2) := by decide +kernel
theorem d_Runner_truth_101 : decode b_Runner_truth 101 = .ok (.invokevirtual 54, 3) := by decide +kernel
theorem d_Runner_truth_104 : decode b_Runner_truth 104 = .ok (.ifCond .eq 7, 3) := by decide +kernel
theorem d_Runner_truth_107 : decode b_Runner_truth 107 = .ok (.iconst 1, 1) := by decide +kernel
theorem d_Runner_truth_108 : decode b_Runner_truth 108 = .ok (.goto 4, 3) := by decide +kernel
theorem d_Runner_truth_111 : decode b_Runner_truth 111 = .ok (.iconst 0, 1) := by decide +kernel
theorem d_Runner_truth_112 : decode b_Runner_truth 112 = .ok (.ireturn, 1) := by decide +kernel
theorem d_Runner_truth_113 : decode b_Runner_truth 113 = .ok (.aload_n 1, 1) := by decide +kernel
theorem d_Runner_truth_114 : decode b_Runner_truth 114 = .ok (.getfield 72, 3) := by decide +kernel
theorem d_Runner_truth_117 : decode b_Runner_truth 117 = .ok (.iload_n 2, 1) := by decide +kernel
theorem d_Runner_truth_118 : decode b_Runner_truth 118 = .ok (.baload, 1) := by decide +kernel
theorem d_Runner_truth_119 : decode b_Runner_truth 119 = .ok (.aload_n 0, 1) := by decide +kernel
theorem d_Runner_truth_120 : decode b_Runner_truth 120 = .ok (.iload_n 3, 1) := by decide +kernel
theorem d_Runner_truth_121 : decode b_Runner_truth 121 = .ok (.invokevirtual 38, 3) := by decide +kernel
theorem d_Runner_truth_124 : decode b_Runner_truth 124 = .ok (.aload_n 0, 1) := by decide +kernel
theorem d_Runner_truth_125 : decode b_Runner_truth 125 = .ok (.iload 4, 2) := by decide +kernel
theorem d_Runner_truth_127 : decode b_Runner_truth 127 = .ok (.invokevirtual 38, 3) := by decide +kernel
theorem d_Runner_truth_130 : decode b_Runner_truth 130 = .ok (.invokestatic 75, 3) := by decide +kernel
theorem d_Runner_truth_133 : decode b_Runner_truth 133 = .ok (.ireturn, 1) := by decide +kernel
set_option maxHeartbeats 40000000 in
set_option maxRecDepth 100000 in
theorem c_E_truth (l : Launch) (nd : Nat) (hrec : ∀ a, a < nd → CTr l a) (D : va_G) (ax : Nat → ClassId) (e0 e1 : Nat) (vs : Nat → Int64) (n0 n1 n2 n3 cp z9 : Nat) (fo fl fr : Nat → Int32) (sz : Nat) (hz9 : z9 ≤ cp) (hcp : cp ≤ 100000) (hnd : nd < z9) (hnv : ndv fo fl fr z9) : Met l y_Runner_truth (xws (.code y_Runner_truth b_Runner_truth 5 (some .boolean))) ({ frames := 30 + 2 * nd, cells := 0, slots := 0, locals := 1200 + 40 * nd }) (va_Pc [.ref e0, .ref n0, .int (nI nd)] (xo D ax [(e0, .inr (8, [.ref e1])), (e1, .inl (ax 4, 6, .inr (.inl vs))), (n0, .inr (4, [.ref n1, .ref n2, .ref n3, .int (nI z9)])), (n1, .inl (ax 1, cp, .inl fo)), (n2, .inl (ax 0, cp, .inl fl)), (n3, .inl (ax 0, cp, .inl fr))] sz)) ((va_Qi (fun (r : Int32) (u : Nat → Nat) => r = nI (u 0) ∧ (u 0 ≤ 1)) (xb D (va_A [(e0, .inr (8, [.ref e1])), (e1, .inl (ax 4, 6, .inr (.inl vs))), (n0, .inr (4, [.ref n1, .ref n2, .ref n3, .int (nI z9)])), (n1, .inl (ax 1, cp, .inl fo)), (n2, .inl (ax 0, cp, .inl fl)), (n3, .inl (ax 0, cp, .inl fr))] sz) (fun u => [(e0, .inr (8, [.ref e1])), (e1, .inl (ax 4, 6, .inr (.inl vs))), (n0, .inr (4, [.ref n1, .ref n2, .ref n3, .int (nI z9)])), (n1, .inl (ax 1, cp, .inl fo)), (n2, .inl (ax 0, cp, .inl fl)), (n3, .inl (ax 0, cp, .inl fr))])) (va_A [(e0, .inr (8, [.ref e1])), (e1, .inl (ax 4, 6, .inr (.inl vs))), (n0, .inr (4, [.ref n1, .ref n2, .ref n3, .int (nI z9)])), (n1, .inl (ax 1, cp, .inl fo)), (n2, .inl (ax 0, cp, .inl fl)), (n3, .inl (ax 0, cp, .inl fr))] sz))) 0 0 (va_A [(e0, .inr (8, [.ref e1])), (e1, .inl (ax 4, 6, .inr (.inl vs))), (n0, .inr (4, [.ref n1, .ref n2, .ref n3, .int (nI z9)])), (n1, .inl (ax 1, cp, .inl fo)), (n2, .inl (ax 0, cp, .inl fl)), (n3, .inl (ax 0, cp, .inl fr))] sz) := by
  refine Met.ofW (cc := b_Runner_truth) (maxL := 5) (ret := (some .boolean)) (by decide) rfl ?_
  intro p e s m args below meth c s₁ B hml hv
  obtain ⟨rfl, hsz, hP, hK, hD0⟩ := hv
  have hx := B.exec
  have hb := B.bytes
  have hr := B.returns
  have hts := xw_hts B.pre
  have hown : s.vm.findClass R_Runner = some m.cls := findClass_of_methodNamed B.named
  have hlocks := B.notSynchronized
  subst hsz
  have hD := hD0.self (sz := s.heap.size)
  have hN := xz_entry hP
  generalize hAe : va_A [(e0, .inr (8, [.ref e1])), (e1, .inl (ax 4, 6, .inr (.inl vs))), (n0, .inr (4, [.ref n1, .ref n2, .ref n3, .int (nI z9)])), (n1, .inl (ax 1, cp, .inl fo)), (n2, .inl (ax 0, cp, .inl fl)), (n3, .inl (ax 0, cp, .inl fr))] s.heap.size = A at hD hN ⊢
  have hA : ∀ q : Nat, s.heap.size ≤ q → A q := fun q h => by rw [← hAe]; exact Or.inr h
  have hS : va_S A s.heap s.heap [] := va_S.rf
  have hl0 := lv_entry ([.ref e0, .ref n0, .int (nI nd)]) (n := 5) (Nat.le_of_ble_eq_true rfl)
  rw [lg_entry_eq]
  generalize (lg_sl ([.ref e0, .ref n0, .int (nI nd)]) ++ List.replicate (5 - (lg_sl ([.ref e0, .ref n0, .int (nI nd)])).length) Slot.unset).toArray = ls at hl0 ⊢
  have hl1 : lv_has ls 5 [(0, .ref e0), (1, .ref n0), (2, .int (nI nd))] := hl0
  refine xw_gen (fun Z9 hQe => ?_)
  obtain ⟨o9, ho1, ho2, hnp⟩ := nd_p (hnv nd hnd)
  refine lv_aload_n hx hb d_Runner_truth_0 rfl (lv_at hl1 1 rfl) ?_
  refine va_get (D := D) (ci := 4) (v := .ref n2) (C := R_Nodes) (T := F_Nodes) (N := 4) hx hb hts i_Nodes hown hK.1 hP 2 rfl rfl 1 (by decide) (hts _ wd_111) (fun _ h9 => h9) rfl d_Runner_truth_1 ?_
  refine lv_iload_n hx hb d_Runner_truth_4 rfl (lv_at hl1 2 rfl) ?_
  refine va_iald hx hb hK.1 hP 4 0 rfl rfl (vp_in_nI (by first | assumption | omega) (by first | exact Nat.lt_of_lt_of_le (by assumption) (by decide) | exact Nat.lt_of_le_of_lt (by assumption) (by decide) | omega)) d_Runner_truth_5 ?_
  refine W.eq (g2 := F0 m 6 ls [.int (fl nd)]) (by rw [nI_clamp (by first | exact Nat.lt_of_lt_of_le (by assumption) (by decide) | exact Nat.lt_of_le_of_lt (by assumption) (by decide) | omega)]) ?_
  refine lv_istore_n (lv' := [(3, .int (fl nd)), (0, .ref e0), (1, .ref n0), (2, .int (nI nd))]) hx hb d_Runner_truth_6 rfl hl1 (by decide) rfl (fun ls hl2 => ?_)
  clear hl1; have hl1 := hl2; clear hl2
  refine lv_aload_n hx hb d_Runner_truth_7 rfl (lv_at hl1 2 rfl) ?_
  refine va_get (D := D) (ci := 4) (v := .ref n3) (C := R_Nodes) (T := F_Nodes) (N := 4) hx hb hts i_Nodes hown hK.1 hP 2 rfl rfl 2 (by decide) (hts _ wd_116) (fun _ h9 => h9) rfl d_Runner_truth_8 ?_
  refine lv_iload_n hx hb d_Runner_truth_11 rfl (lv_at hl1 3 rfl) ?_
  refine va_iald hx hb hK.1 hP 5 0 rfl rfl (vp_in_nI (by first | assumption | omega) (by first | exact Nat.lt_of_lt_of_le (by assumption) (by decide) | exact Nat.lt_of_le_of_lt (by assumption) (by decide) | omega)) d_Runner_truth_12 ?_
  refine W.eq (g2 := F0 m 13 ls [.int (fr nd)]) (by rw [nI_clamp (by first | exact Nat.lt_of_lt_of_le (by assumption) (by decide) | exact Nat.lt_of_le_of_lt (by assumption) (by decide) | omega)]) ?_
  refine lv_istore (lv' := [(4, .int (fr nd)), (3, .int (fl nd)), (0, .ref e0), (1, .ref n0), (2, .int (nI nd))]) hx hb d_Runner_truth_13 hl1 (by decide) rfl (fun ls hl2 => ?_)
  clear hl1; have hl1 := hl2; clear hl2
  refine lv_aload_n hx hb d_Runner_truth_15 rfl (lv_at hl1 3 rfl) ?_
  refine va_get (D := D) (ci := 4) (v := .ref n1) (C := R_Nodes) (T := F_Nodes) (N := 4) hx hb hts i_Nodes hown hK.1 hP 2 rfl rfl 0 (by decide) (hts _ wd_106) (fun _ h9 => h9) rfl d_Runner_truth_16 ?_
  refine lv_iload_n hx hb d_Runner_truth_19 rfl (lv_at hl1 4 rfl) ?_
  refine va_bald hx hb hK.1 hP 3 1 rfl rfl (vp_in_nI (by first | assumption | omega) (by first | exact Nat.lt_of_lt_of_le (by assumption) (by decide) | exact Nat.lt_of_le_of_lt (by assumption) (by decide) | omega)) d_Runner_truth_20 ?_
  refine W.eq (g2 := F0 m 21 ls [.int (fo nd)]) (by rw [nI_clamp (by first | exact Nat.lt_of_lt_of_le (by assumption) (by decide) | exact Nat.lt_of_le_of_lt (by assumption) (by decide) | omega)]) ?_
  refine W.eq (g2 := F0 m 21 ls [.int (nI o9)]) (by rw [ho2]) ?_
  by_cases hw_1 : o9 = 6
  · refine W.eq (g2 := F0 m 21 ls [.int 6]) (by rw [hw_1]; rfl) ?_
    refine lv_tableIn (off := 27) (tgt := 48) hx hb d_Runner_truth_21 (by decide) (by decide) (by decide) (by decide) ?_
    obtain ⟨a9, ha1, ha2⟩ := hnp.2.1 (by first | assumption | omega)
    rw [ha2] at hl1
    have hl1 : lv_has ls 5 [(4, .int (fr nd)), (3, .int (nI a9)), (0, .ref e0), (1, .ref n0), (2, .int (nI nd))] := hl1
    refine lv_aload_n hx hb d_Runner_truth_48 rfl (lv_at hl1 2 rfl) ?_
    refine lv_aload_n hx hb d_Runner_truth_49 rfl (lv_at hl1 3 rfl) ?_
    refine lv_iload_n hx hb d_Runner_truth_50 rfl (lv_at hl1 1 rfl) ?_
    obtain ⟨hPc, hDc, hFc, hCs⟩ := xw_sub3 (wc := [(e0, .inr (8, [.ref e1])), (e1, .inl (ax 4, 6, .inr (.inl vs))), (n0, .inr (4, [.ref n1, .ref n2, .ref n3, .int (nI z9)])), (n1, .inl (ax 1, cp, .inl fo)), (n2, .inl (ax 0, cp, .inl fl)), (n3, .inl (ax 0, cp, .inl fr))]) hP hD hS hA [0, 1, 2, 3, 4, 5] (by decide) rfl
    have hz := xz_of hN hS
    refine va_calli (va_runV (As := [.ref n0, .int (nI a9)]) (rest := []) ⟨hx, hb, hml, hown, hts⟩ ((hrec a9 ha1) D ax e0 e1 vs n0 n1 n2 n3 cp z9 fo fl fr s.heap.size hz9 hcp (by first | assumption | omega) hnv) (xcV (n := 2) hts wd_1005 wd_11 wd_1002 wd_1003 wd_1004 rfl rfl (by decide +kernel) ⟨(show (30 + 2 * a9) + 1 ≤ (30 + 2 * nd) by omega), (show 8 + (5 + 11) + (1200 + 40 * a9) ≤ (1200 + 40 * nd) by omega)⟩) (xpV (ci := 8) (q0 := 0) (As := [.ref n0, .int (nI a9)]) hPc hK hz hDc rfl rfl) rfl rfl hl1.1 rfl (lv_room (Nat.le_of_ble_eq_true rfl)) d_Runner_truth_51 ⟨Nat.le_of_ble_eq_true rfl, Nat.le_of_ble_eq_true rfl⟩) hS (fun q _ h => hFc q h) hFc (fun r_4 u_2 t H_3 locs ht hvm hw hB hz1 hk1 hS1 => ?_)
    try dsimp only at hw
    obtain ⟨hw, hs_5⟩ := hw
    subst hw
    obtain ⟨hP1, hD1⟩ := hB
    rw [ht] at hP1
    have hjn := xw_join3 (wl := [(e0, .inr (8, [.ref e1])), (e1, .inl (ax 4, 6, .inr (.inl vs))), (n0, .inr (4, [.ref n1, .ref n2, .ref n3, .int (nI z9)])), (n1, .inl (ax 1, cp, .inl fo)), (n2, .inl (ax 0, cp, .inl fl)), (n3, .inl (ax 0, cp, .inl fr))]) hP hD [0, 1, 2, 3, 4, 5] [] hCs (by decide) (by decide) hk1 hFc hP1 hD1 rfl
    clear hP1 hD1
    clear hPc hDc hFc hCs hz hz1 hk1 ht hvm
    clear hP hD hS
    have hS := hS1
    obtain ⟨hP, hD⟩ := hjn
    clear hS1
    refine lv_if_ne (tgt := 61) hx hb d_Runner_truth_54 (by decide) (fun c_6 => ?_) (fun c_6 => ?_)
    · replace c_6 : ¬ u_2 0 = 0 := fun hq9 => c_6 ((nI_eq (a := u_2 0) (b := 0) (by first | exact Nat.lt_of_lt_of_le (by assumption) (by decide) | exact Nat.lt_of_le_of_lt (by assumption) (by decide) | omega) (by decide)).mpr hq9)
      refine lv_iconst (v := 0) hx hb d_Runner_truth_61 (by decide) ?_
      rw [← hQe]
      obtain ⟨hP9, hD9⟩ := xw_sub2 (wc := (fun u : Nat → Nat => [(e0, .inr (8, [.ref e1])), (e1, .inl (ax 4, 6, .inr (.inl vs))), (n0, .inr (4, [.ref n1, .ref n2, .ref n3, .int (nI z9)])), (n1, .inl (ax 1, cp, .inl fo)), (n2, .inl (ax 0, cp, .inl fl)), (n3, .inl (ax 0, cp, .inl fr))]) (ixn [0])) hP hD [0, 1, 2, 3, 4, 5] (by decide) rfl
      have hsp0 : 0 ≤ 1 := (by first | assumption | omega)
      exact W.zret (v := 0) hx hb hr rfl (fun t ht hW => ⟨⟨0, ixn [0], rfl, ⟨rfl, hsp0⟩, ⟨by rw [ht]; exact hP9, hD9⟩⟩, hS.F ht⟩) hS.2.2 d_Runner_truth_62
    · replace c_6 : u_2 0 = 0 := (nI_eq (a := u_2 0) (b := 0) (by first | exact Nat.lt_of_lt_of_le (by assumption) (by decide) | exact Nat.lt_of_le_of_lt (by assumption) (by decide) | omega) (by decide)).mp c_6
      refine lv_iconst (v := 1) hx hb d_Runner_truth_57 (by decide) ?_
      refine lv_goto (tgt := 62) hx hb d_Runner_truth_58 (by decide) ?_
      rw [← hQe]
      obtain ⟨hP9, hD9⟩ := xw_sub2 (wc := (fun u : Nat → Nat => [(e0, .inr (8, [.ref e1])), (e1, .inl (ax 4, 6, .inr (.inl vs))), (n0, .inr (4, [.ref n1, .ref n2, .ref n3, .int (nI z9)])), (n1, .inl (ax 1, cp, .inl fo)), (n2, .inl (ax 0, cp, .inl fl)), (n3, .inl (ax 0, cp, .inl fr))]) (ixn [1])) hP hD [0, 1, 2, 3, 4, 5] (by decide) rfl
      have hsp0 : 1 ≤ 1 := (by first | assumption | omega)
      exact W.zret (v := 1) hx hb hr rfl (fun t ht hW => ⟨⟨1, ixn [1], rfl, ⟨rfl, hsp0⟩, ⟨by rw [ht]; exact hP9, hD9⟩⟩, hS.F ht⟩) hS.2.2 d_Runner_truth_62
  by_cases hw_7 : o9 = 7
  · refine W.eq (g2 := F0 m 21 ls [.int 7]) (by rw [hw_7]; rfl) ?_
    refine lv_tableIn (off := 42) (tgt := 63) hx hb d_Runner_truth_21 (by decide) (by decide) (by decide) (by decide) ?_
    obtain ⟨a9, ha1, ha2⟩ := hnp.2.1 (by first | assumption | omega)
    rw [ha2] at hl1
    have hl1 : lv_has ls 5 [(4, .int (fr nd)), (3, .int (nI a9)), (0, .ref e0), (1, .ref n0), (2, .int (nI nd))] := hl1
    obtain ⟨c9, hc1, hc2⟩ := hnp.2.2 (by first | assumption | omega)
    rw [hc2] at hl1
    have hl1 : lv_has ls 5 [(4, .int (nI c9)), (3, .int (nI a9)), (0, .ref e0), (1, .ref n0), (2, .int (nI nd))] := hl1
    refine lv_aload_n hx hb d_Runner_truth_63 rfl (lv_at hl1 2 rfl) ?_
    refine lv_aload_n hx hb d_Runner_truth_64 rfl (lv_at hl1 3 rfl) ?_
    refine lv_iload_n hx hb d_Runner_truth_65 rfl (lv_at hl1 1 rfl) ?_
    obtain ⟨hPc, hDc, hFc, hCs⟩ := xw_sub3 (wc := [(e0, .inr (8, [.ref e1])), (e1, .inl (ax 4, 6, .inr (.inl vs))), (n0, .inr (4, [.ref n1, .ref n2, .ref n3, .int (nI z9)])), (n1, .inl (ax 1, cp, .inl fo)), (n2, .inl (ax 0, cp, .inl fl)), (n3, .inl (ax 0, cp, .inl fr))]) hP hD hS hA [0, 1, 2, 3, 4, 5] (by decide) rfl
    have hz := xz_of hN hS
    refine va_calli (va_runV (As := [.ref n0, .int (nI a9)]) (rest := []) ⟨hx, hb, hml, hown, hts⟩ ((hrec a9 ha1) D ax e0 e1 vs n0 n1 n2 n3 cp z9 fo fl fr s.heap.size hz9 hcp (by first | assumption | omega) hnv) (xcV (n := 2) hts wd_1005 wd_11 wd_1002 wd_1003 wd_1004 rfl rfl (by decide +kernel) ⟨(show (30 + 2 * a9) + 1 ≤ (30 + 2 * nd) by omega), (show 8 + (5 + 11) + (1200 + 40 * a9) ≤ (1200 + 40 * nd) by omega)⟩) (xpV (ci := 8) (q0 := 0) (As := [.ref n0, .int (nI a9)]) hPc hK hz hDc rfl rfl) rfl rfl hl1.1 rfl (lv_room (Nat.le_of_ble_eq_true rfl)) d_Runner_truth_66 ⟨Nat.le_of_ble_eq_true rfl, Nat.le_of_ble_eq_true rfl⟩) hS (fun q _ h => hFc q h) hFc (fun r_10 u_8 t H_9 locs ht hvm hw hB hz1 hk1 hS1 => ?_)
    try dsimp only at hw
    obtain ⟨hw, hs_11⟩ := hw
    subst hw
    obtain ⟨hP1, hD1⟩ := hB
    rw [ht] at hP1
    have hjn := xw_join3 (wl := [(e0, .inr (8, [.ref e1])), (e1, .inl (ax 4, 6, .inr (.inl vs))), (n0, .inr (4, [.ref n1, .ref n2, .ref n3, .int (nI z9)])), (n1, .inl (ax 1, cp, .inl fo)), (n2, .inl (ax 0, cp, .inl fl)), (n3, .inl (ax 0, cp, .inl fr))]) hP hD [0, 1, 2, 3, 4, 5] [] hCs (by decide) (by decide) hk1 hFc hP1 hD1 rfl
    clear hP1 hD1
    clear hPc hDc hFc hCs hz hz1 hk1 ht hvm
    clear hP hD hS
    have hS := hS1
    obtain ⟨hP, hD⟩ := hjn
    clear hS1
    refine lv_if_eq (tgt := 86) hx hb d_Runner_truth_69 (by decide) (fun c_12 => ?_) (fun c_12 => ?_)
    · replace c_12 : u_8 0 = 0 := (nI_eq (a := u_8 0) (b := 0) (by first | exact Nat.lt_of_lt_of_le (by assumption) (by decide) | exact Nat.lt_of_le_of_lt (by assumption) (by decide) | omega) (by decide)).mp c_12
      refine lv_iconst (v := 0) hx hb d_Runner_truth_86 (by decide) ?_
      rw [← hQe]
      obtain ⟨hP9, hD9⟩ := xw_sub2 (wc := (fun u : Nat → Nat => [(e0, .inr (8, [.ref e1])), (e1, .inl (ax 4, 6, .inr (.inl vs))), (n0, .inr (4, [.ref n1, .ref n2, .ref n3, .int (nI z9)])), (n1, .inl (ax 1, cp, .inl fo)), (n2, .inl (ax 0, cp, .inl fl)), (n3, .inl (ax 0, cp, .inl fr))]) (ixn [0])) hP hD [0, 1, 2, 3, 4, 5] (by decide) rfl
      have hsp0 : 0 ≤ 1 := (by first | assumption | omega)
      exact W.zret (v := 0) hx hb hr rfl (fun t ht hW => ⟨⟨0, ixn [0], rfl, ⟨rfl, hsp0⟩, ⟨by rw [ht]; exact hP9, hD9⟩⟩, hS.F ht⟩) hS.2.2 d_Runner_truth_87
    · replace c_12 : ¬ u_8 0 = 0 := fun hq9 => c_12 ((nI_eq (a := u_8 0) (b := 0) (by first | exact Nat.lt_of_lt_of_le (by assumption) (by decide) | exact Nat.lt_of_le_of_lt (by assumption) (by decide) | omega) (by decide)).mpr hq9)
      refine lv_aload_n hx hb d_Runner_truth_72 rfl (lv_at hl1 2 rfl) ?_
      refine lv_aload_n hx hb d_Runner_truth_73 rfl (lv_at hl1 3 rfl) ?_
      refine lv_iload hx hb d_Runner_truth_74 (lv_at hl1 0 rfl) ?_
      obtain ⟨hPc, hDc, hFc, hCs⟩ := xw_sub3 (wc := [(e0, .inr (8, [.ref e1])), (e1, .inl (ax 4, 6, .inr (.inl vs))), (n0, .inr (4, [.ref n1, .ref n2, .ref n3, .int (nI z9)])), (n1, .inl (ax 1, cp, .inl fo)), (n2, .inl (ax 0, cp, .inl fl)), (n3, .inl (ax 0, cp, .inl fr))]) hP hD hS hA [0, 1, 2, 3, 4, 5] (by decide) rfl
      have hz := xz_of hN hS
      refine va_calli (va_runV (As := [.ref n0, .int (nI c9)]) (rest := []) ⟨hx, hb, hml, hown, hts⟩ ((hrec c9 hc1) D ax e0 e1 vs n0 n1 n2 n3 cp z9 fo fl fr H_9.size hz9 hcp (by first | assumption | omega) hnv) (xcV (n := 2) hts wd_1005 wd_11 wd_1002 wd_1003 wd_1004 rfl rfl (by decide +kernel) ⟨(show (30 + 2 * c9) + 1 ≤ (30 + 2 * nd) by omega), (show 8 + (5 + 11) + (1200 + 40 * c9) ≤ (1200 + 40 * nd) by omega)⟩) (xpV (ci := 8) (q0 := 0) (As := [.ref n0, .int (nI c9)]) hPc hK hz hDc rfl rfl) rfl rfl hl1.1 rfl (lv_room (Nat.le_of_ble_eq_true rfl)) d_Runner_truth_76 ⟨Nat.le_of_ble_eq_true rfl, Nat.le_of_ble_eq_true rfl⟩) hS (fun q _ h => hFc q h) hFc (fun r_15 u_13 t H_14 locs ht hvm hw hB hz1 hk1 hS1 => ?_)
      try dsimp only at hw
      obtain ⟨hw, hs_16⟩ := hw
      subst hw
      obtain ⟨hP1, hD1⟩ := hB
      rw [ht] at hP1
      have hjn := xw_join3 (wl := [(e0, .inr (8, [.ref e1])), (e1, .inl (ax 4, 6, .inr (.inl vs))), (n0, .inr (4, [.ref n1, .ref n2, .ref n3, .int (nI z9)])), (n1, .inl (ax 1, cp, .inl fo)), (n2, .inl (ax 0, cp, .inl fl)), (n3, .inl (ax 0, cp, .inl fr))]) hP hD [0, 1, 2, 3, 4, 5] [] hCs (by decide) (by decide) hk1 hFc hP1 hD1 rfl
      clear hP1 hD1
      clear hPc hDc hFc hCs hz hz1 hk1 ht hvm
      clear hP hD hS
      have hS := hS1
      obtain ⟨hP, hD⟩ := hjn
      clear hS1
      refine lv_if_eq (tgt := 86) hx hb d_Runner_truth_79 (by decide) (fun c_17 => ?_) (fun c_17 => ?_)
      · replace c_17 : u_13 0 = 0 := (nI_eq (a := u_13 0) (b := 0) (by first | exact Nat.lt_of_lt_of_le (by assumption) (by decide) | exact Nat.lt_of_le_of_lt (by assumption) (by decide) | omega) (by decide)).mp c_17
        refine lv_iconst (v := 0) hx hb d_Runner_truth_86 (by decide) ?_
        rw [← hQe]
        obtain ⟨hP9, hD9⟩ := xw_sub2 (wc := (fun u : Nat → Nat => [(e0, .inr (8, [.ref e1])), (e1, .inl (ax 4, 6, .inr (.inl vs))), (n0, .inr (4, [.ref n1, .ref n2, .ref n3, .int (nI z9)])), (n1, .inl (ax 1, cp, .inl fo)), (n2, .inl (ax 0, cp, .inl fl)), (n3, .inl (ax 0, cp, .inl fr))]) (ixn [0])) hP hD [0, 1, 2, 3, 4, 5] (by decide) rfl
        have hsp0 : 0 ≤ 1 := (by first | assumption | omega)
        exact W.zret (v := 0) hx hb hr rfl (fun t ht hW => ⟨⟨0, ixn [0], rfl, ⟨rfl, hsp0⟩, ⟨by rw [ht]; exact hP9, hD9⟩⟩, hS.F ht⟩) hS.2.2 d_Runner_truth_87
      · replace c_17 : ¬ u_13 0 = 0 := fun hq9 => c_17 ((nI_eq (a := u_13 0) (b := 0) (by first | exact Nat.lt_of_lt_of_le (by assumption) (by decide) | exact Nat.lt_of_le_of_lt (by assumption) (by decide) | omega) (by decide)).mpr hq9)
        refine lv_iconst (v := 1) hx hb d_Runner_truth_82 (by decide) ?_
        refine lv_goto (tgt := 87) hx hb d_Runner_truth_83 (by decide) ?_
        rw [← hQe]
        obtain ⟨hP9, hD9⟩ := xw_sub2 (wc := (fun u : Nat → Nat => [(e0, .inr (8, [.ref e1])), (e1, .inl (ax 4, 6, .inr (.inl vs))), (n0, .inr (4, [.ref n1, .ref n2, .ref n3, .int (nI z9)])), (n1, .inl (ax 1, cp, .inl fo)), (n2, .inl (ax 0, cp, .inl fl)), (n3, .inl (ax 0, cp, .inl fr))]) (ixn [1])) hP hD [0, 1, 2, 3, 4, 5] (by decide) rfl
        have hsp0 : 1 ≤ 1 := (by first | assumption | omega)
        exact W.zret (v := 1) hx hb hr rfl (fun t ht hW => ⟨⟨1, ixn [1], rfl, ⟨rfl, hsp0⟩, ⟨by rw [ht]; exact hP9, hD9⟩⟩, hS.F ht⟩) hS.2.2 d_Runner_truth_87
  by_cases hw_18 : o9 = 8
  · refine W.eq (g2 := F0 m 21 ls [.int 8]) (by rw [hw_18]; rfl) ?_
    refine lv_tableIn (off := 67) (tgt := 88) hx hb d_Runner_truth_21 (by decide) (by decide) (by decide) (by decide) ?_
    obtain ⟨a9, ha1, ha2⟩ := hnp.2.1 (by first | assumption | omega)
    rw [ha2] at hl1
    have hl1 : lv_has ls 5 [(4, .int (fr nd)), (3, .int (nI a9)), (0, .ref e0), (1, .ref n0), (2, .int (nI nd))] := hl1
    obtain ⟨c9, hc1, hc2⟩ := hnp.2.2 (by first | assumption | omega)
    rw [hc2] at hl1
    have hl1 : lv_has ls 5 [(4, .int (nI c9)), (3, .int (nI a9)), (0, .ref e0), (1, .ref n0), (2, .int (nI nd))] := hl1
    refine lv_aload_n hx hb d_Runner_truth_88 rfl (lv_at hl1 2 rfl) ?_
    refine lv_aload_n hx hb d_Runner_truth_89 rfl (lv_at hl1 3 rfl) ?_
    refine lv_iload_n hx hb d_Runner_truth_90 rfl (lv_at hl1 1 rfl) ?_
    obtain ⟨hPc, hDc, hFc, hCs⟩ := xw_sub3 (wc := [(e0, .inr (8, [.ref e1])), (e1, .inl (ax 4, 6, .inr (.inl vs))), (n0, .inr (4, [.ref n1, .ref n2, .ref n3, .int (nI z9)])), (n1, .inl (ax 1, cp, .inl fo)), (n2, .inl (ax 0, cp, .inl fl)), (n3, .inl (ax 0, cp, .inl fr))]) hP hD hS hA [0, 1, 2, 3, 4, 5] (by decide) rfl
    have hz := xz_of hN hS
    refine va_calli (va_runV (As := [.ref n0, .int (nI a9)]) (rest := []) ⟨hx, hb, hml, hown, hts⟩ ((hrec a9 ha1) D ax e0 e1 vs n0 n1 n2 n3 cp z9 fo fl fr s.heap.size hz9 hcp (by first | assumption | omega) hnv) (xcV (n := 2) hts wd_1005 wd_11 wd_1002 wd_1003 wd_1004 rfl rfl (by decide +kernel) ⟨(show (30 + 2 * a9) + 1 ≤ (30 + 2 * nd) by omega), (show 8 + (5 + 11) + (1200 + 40 * a9) ≤ (1200 + 40 * nd) by omega)⟩) (xpV (ci := 8) (q0 := 0) (As := [.ref n0, .int (nI a9)]) hPc hK hz hDc rfl rfl) rfl rfl hl1.1 rfl (lv_room (Nat.le_of_ble_eq_true rfl)) d_Runner_truth_91 ⟨Nat.le_of_ble_eq_true rfl, Nat.le_of_ble_eq_true rfl⟩) hS (fun q _ h => hFc q h) hFc (fun r_21 u_19 t H_20 locs ht hvm hw hB hz1 hk1 hS1 => ?_)
    try dsimp only at hw
    obtain ⟨hw, hs_22⟩ := hw
    subst hw
    obtain ⟨hP1, hD1⟩ := hB
    rw [ht] at hP1
    have hjn := xw_join3 (wl := [(e0, .inr (8, [.ref e1])), (e1, .inl (ax 4, 6, .inr (.inl vs))), (n0, .inr (4, [.ref n1, .ref n2, .ref n3, .int (nI z9)])), (n1, .inl (ax 1, cp, .inl fo)), (n2, .inl (ax 0, cp, .inl fl)), (n3, .inl (ax 0, cp, .inl fr))]) hP hD [0, 1, 2, 3, 4, 5] [] hCs (by decide) (by decide) hk1 hFc hP1 hD1 rfl
    clear hP1 hD1
    clear hPc hDc hFc hCs hz hz1 hk1 ht hvm
    clear hP hD hS
    have hS := hS1
    obtain ⟨hP, hD⟩ := hjn
    clear hS1
    refine lv_if_ne (tgt := 107) hx hb d_Runner_truth_94 (by decide) (fun c_23 => ?_) (fun c_23 => ?_)
    · replace c_23 : ¬ u_19 0 = 0 := fun hq9 => c_23 ((nI_eq (a := u_19 0) (b := 0) (by first | exact Nat.lt_of_lt_of_le (by assumption) (by decide) | exact Nat.lt_of_le_of_lt (by assumption) (by decide) | omega) (by decide)).mpr hq9)
      refine lv_iconst (v := 1) hx hb d_Runner_truth_107 (by decide) ?_
      refine lv_goto (tgt := 112) hx hb d_Runner_truth_108 (by decide) ?_
      rw [← hQe]
      obtain ⟨hP9, hD9⟩ := xw_sub2 (wc := (fun u : Nat → Nat => [(e0, .inr (8, [.ref e1])), (e1, .inl (ax 4, 6, .inr (.inl vs))), (n0, .inr (4, [.ref n1, .ref n2, .ref n3, .int (nI z9)])), (n1, .inl (ax 1, cp, .inl fo)), (n2, .inl (ax 0, cp, .inl fl)), (n3, .inl (ax 0, cp, .inl fr))]) (ixn [1])) hP hD [0, 1, 2, 3, 4, 5] (by decide) rfl
      have hsp0 : 1 ≤ 1 := (by first | assumption | omega)
      exact W.zret (v := 1) hx hb hr rfl (fun t ht hW => ⟨⟨1, ixn [1], rfl, ⟨rfl, hsp0⟩, ⟨by rw [ht]; exact hP9, hD9⟩⟩, hS.F ht⟩) hS.2.2 d_Runner_truth_112
    · replace c_23 : u_19 0 = 0 := (nI_eq (a := u_19 0) (b := 0) (by first | exact Nat.lt_of_lt_of_le (by assumption) (by decide) | exact Nat.lt_of_le_of_lt (by assumption) (by decide) | omega) (by decide)).mp c_23
      refine lv_aload_n hx hb d_Runner_truth_97 rfl (lv_at hl1 2 rfl) ?_
      refine lv_aload_n hx hb d_Runner_truth_98 rfl (lv_at hl1 3 rfl) ?_
      refine lv_iload hx hb d_Runner_truth_99 (lv_at hl1 0 rfl) ?_
      obtain ⟨hPc, hDc, hFc, hCs⟩ := xw_sub3 (wc := [(e0, .inr (8, [.ref e1])), (e1, .inl (ax 4, 6, .inr (.inl vs))), (n0, .inr (4, [.ref n1, .ref n2, .ref n3, .int (nI z9)])), (n1, .inl (ax 1, cp, .inl fo)), (n2, .inl (ax 0, cp, .inl fl)), (n3, .inl (ax 0, cp, .inl fr))]) hP hD hS hA [0, 1, 2, 3, 4, 5] (by decide) rfl
      have hz := xz_of hN hS
      refine va_calli (va_runV (As := [.ref n0, .int (nI c9)]) (rest := []) ⟨hx, hb, hml, hown, hts⟩ ((hrec c9 hc1) D ax e0 e1 vs n0 n1 n2 n3 cp z9 fo fl fr H_20.size hz9 hcp (by first | assumption | omega) hnv) (xcV (n := 2) hts wd_1005 wd_11 wd_1002 wd_1003 wd_1004 rfl rfl (by decide +kernel) ⟨(show (30 + 2 * c9) + 1 ≤ (30 + 2 * nd) by omega), (show 8 + (5 + 11) + (1200 + 40 * c9) ≤ (1200 + 40 * nd) by omega)⟩) (xpV (ci := 8) (q0 := 0) (As := [.ref n0, .int (nI c9)]) hPc hK hz hDc rfl rfl) rfl rfl hl1.1 rfl (lv_room (Nat.le_of_ble_eq_true rfl)) d_Runner_truth_101 ⟨Nat.le_of_ble_eq_true rfl, Nat.le_of_ble_eq_true rfl⟩) hS (fun q _ h => hFc q h) hFc (fun r_26 u_24 t H_25 locs ht hvm hw hB hz1 hk1 hS1 => ?_)
      try dsimp only at hw
      obtain ⟨hw, hs_27⟩ := hw
      subst hw
      obtain ⟨hP1, hD1⟩ := hB
      rw [ht] at hP1
      have hjn := xw_join3 (wl := [(e0, .inr (8, [.ref e1])), (e1, .inl (ax 4, 6, .inr (.inl vs))), (n0, .inr (4, [.ref n1, .ref n2, .ref n3, .int (nI z9)])), (n1, .inl (ax 1, cp, .inl fo)), (n2, .inl (ax 0, cp, .inl fl)), (n3, .inl (ax 0, cp, .inl fr))]) hP hD [0, 1, 2, 3, 4, 5] [] hCs (by decide) (by decide) hk1 hFc hP1 hD1 rfl
      clear hP1 hD1
      clear hPc hDc hFc hCs hz hz1 hk1 ht hvm
      clear hP hD hS
      have hS := hS1
      obtain ⟨hP, hD⟩ := hjn
      clear hS1
      refine lv_if_eq (tgt := 111) hx hb d_Runner_truth_104 (by decide) (fun c_28 => ?_) (fun c_28 => ?_)
      · replace c_28 : u_24 0 = 0 := (nI_eq (a := u_24 0) (b := 0) (by first | exact Nat.lt_of_lt_of_le (by assumption) (by decide) | exact Nat.lt_of_le_of_lt (by assumption) (by decide) | omega) (by decide)).mp c_28
        refine lv_iconst (v := 0) hx hb d_Runner_truth_111 (by decide) ?_
        rw [← hQe]
        obtain ⟨hP9, hD9⟩ := xw_sub2 (wc := (fun u : Nat → Nat => [(e0, .inr (8, [.ref e1])), (e1, .inl (ax 4, 6, .inr (.inl vs))), (n0, .inr (4, [.ref n1, .ref n2, .ref n3, .int (nI z9)])), (n1, .inl (ax 1, cp, .inl fo)), (n2, .inl (ax 0, cp, .inl fl)), (n3, .inl (ax 0, cp, .inl fr))]) (ixn [0])) hP hD [0, 1, 2, 3, 4, 5] (by decide) rfl
        have hsp0 : 0 ≤ 1 := (by first | assumption | omega)
        exact W.zret (v := 0) hx hb hr rfl (fun t ht hW => ⟨⟨0, ixn [0], rfl, ⟨rfl, hsp0⟩, ⟨by rw [ht]; exact hP9, hD9⟩⟩, hS.F ht⟩) hS.2.2 d_Runner_truth_112
      · replace c_28 : ¬ u_24 0 = 0 := fun hq9 => c_28 ((nI_eq (a := u_24 0) (b := 0) (by first | exact Nat.lt_of_lt_of_le (by assumption) (by decide) | exact Nat.lt_of_le_of_lt (by assumption) (by decide) | omega) (by decide)).mpr hq9)
        refine lv_iconst (v := 1) hx hb d_Runner_truth_107 (by decide) ?_
        refine lv_goto (tgt := 112) hx hb d_Runner_truth_108 (by decide) ?_
        rw [← hQe]
        obtain ⟨hP9, hD9⟩ := xw_sub2 (wc := (fun u : Nat → Nat => [(e0, .inr (8, [.ref e1])), (e1, .inl (ax 4, 6, .inr (.inl vs))), (n0, .inr (4, [.ref n1, .ref n2, .ref n3, .int (nI z9)])), (n1, .inl (ax 1, cp, .inl fo)), (n2, .inl (ax 0, cp, .inl fl)), (n3, .inl (ax 0, cp, .inl fr))]) (ixn [1])) hP hD [0, 1, 2, 3, 4, 5] (by decide) rfl
        have hsp0 : 1 ≤ 1 := (by first | assumption | omega)
        exact W.zret (v := 1) hx hb hr rfl (fun t ht hW => ⟨⟨1, ixn [1], rfl, ⟨rfl, hsp0⟩, ⟨by rw [ht]; exact hP9, hD9⟩⟩, hS.F ht⟩) hS.2.2 d_Runner_truth_112
  refine lv_tableOut (tgt := 113) hx hb d_Runner_truth_21 (by rw [nI_toInt (by first | assumption | omega)]; omega) (by decide) ?_
  refine lv_aload_n hx hb d_Runner_truth_113 rfl (lv_at hl1 3 rfl) ?_
  refine va_get (D := D) (ci := 4) (v := .ref n1) (C := R_Nodes) (T := F_Nodes) (N := 4) hx hb hts i_Nodes hown hK.1 hP 2 rfl rfl 0 (by decide) (hts _ wd_106) (fun _ h9 => h9) rfl d_Runner_truth_114 ?_
  refine lv_iload_n hx hb d_Runner_truth_117 rfl (lv_at hl1 4 rfl) ?_
  refine va_bald hx hb hK.1 hP 3 1 rfl rfl (vp_in_nI (by first | assumption | omega) (by first | exact Nat.lt_of_lt_of_le (by assumption) (by decide) | exact Nat.lt_of_le_of_lt (by assumption) (by decide) | omega)) d_Runner_truth_118 ?_
  refine W.eq (g2 := F0 m 119 ls [.int (fo nd)]) (by rw [nI_clamp (by first | exact Nat.lt_of_lt_of_le (by assumption) (by decide) | exact Nat.lt_of_le_of_lt (by assumption) (by decide) | omega)]) ?_
  refine W.eq (g2 := F0 m 119 ls [.int (nI o9)]) (by rw [ho2]) ?_
  refine lv_aload_n hx hb d_Runner_truth_119 rfl (lv_at hl1 2 rfl) ?_
  refine lv_iload_n hx hb d_Runner_truth_120 rfl (lv_at hl1 1 rfl) ?_
  by_cases hk_29 : i2n (fl nd) % 16 < 6
  · skip
    obtain ⟨hPc, hDc, hFc, hCs⟩ := xw_sub3 (wc := [(e0, .inr (8, [.ref e1])), (e1, .inl (ax 4, 6, .inr (.inl vs)))]) hP hD hS hA [0, 1] (by decide) rfl
    have hz := xz_of hN hS
    refine va_calll (va_runV (As := [.int (fl nd)]) (rest := [.int (nI o9)]) ⟨hx, hb, hml, hown, hts⟩ (c_E_amount_0 l D ax e0 e1 vs (fl nd) s.heap.size hk_29) (xcV (n := 1) hts wd_1000 wd_11 wd_997 wd_999 ps_48 rfl rfl (by decide +kernel) ⟨(show (10) + 1 ≤ (30 + 2 * nd) by omega), (show 8 + (5 + 11) + (400) ≤ (1200 + 40 * nd) by omega)⟩) (xpV (ci := 8) (q0 := 0) (As := [.int (fl nd)]) hPc hK hz hDc rfl rfl) rfl rfl hl1.1 rfl (lv_room (Nat.le_of_ble_eq_true rfl)) d_Runner_truth_121 ⟨Nat.le_of_ble_eq_true rfl, Nat.le_of_ble_eq_true rfl⟩) hS (fun q _ h => hFc q h) hFc (fun r_32 u_30 t H_31 locs ht hvm hw hB hz1 hk1 hS1 => ?_)
    try dsimp only at hw
    subst hw
    obtain ⟨hP1, hD1⟩ := hB
    rw [ht] at hP1
    have hjn := xw_join3 (wl := [(n0, .inr (4, [.ref n1, .ref n2, .ref n3, .int (nI z9)])), (n1, .inl (ax 1, cp, .inl fo)), (n2, .inl (ax 0, cp, .inl fl)), (n3, .inl (ax 0, cp, .inl fr)), (e0, .inr (8, [.ref e1])), (e1, .inl (ax 4, 6, .inr (.inl vs)))]) hP hD [0, 1] [2, 3, 4, 5] hCs (by decide) (by decide) hk1 hFc hP1 hD1 rfl
    clear hP1 hD1
    clear hPc hDc hFc hCs hz hz1 hk1 ht hvm
    clear hP hD hS
    have hS := hS1
    obtain ⟨hP, hD⟩ := hjn
    clear hS1
    refine lv_aload_n hx hb d_Runner_truth_124 rfl (lv_at hl1 2 rfl) ?_
    refine lv_iload hx hb d_Runner_truth_125 (lv_at hl1 0 rfl) ?_
    by_cases hk_33 : i2n (fr nd) % 16 < 6
    · skip
      obtain ⟨hPc, hDc, hFc, hCs⟩ := xw_sub3 (wc := [(e0, .inr (8, [.ref e1])), (e1, .inl (ax 4, 6, .inr (.inl vs)))]) hP hD hS hA [4, 5] (by decide) rfl
      have hz := xz_of hN hS
      refine va_calll (va_runV (As := [.int (fr nd)]) (rest := [.long (vs (i2n (fl nd) % 16) + ((fl nd) >>> (4 &&& 31)).toInt64), .int (nI o9)]) ⟨hx, hb, hml, hown, hts⟩ (c_E_amount_0 l D ax e0 e1 vs (fr nd) H_31.size hk_33) (xcV (n := 1) hts wd_1000 wd_11 wd_997 wd_999 ps_48 rfl rfl (by decide +kernel) ⟨(show (10) + 1 ≤ (30 + 2 * nd) by omega), (show 8 + (5 + 11) + (400) ≤ (1200 + 40 * nd) by omega)⟩) (xpV (ci := 8) (q0 := 0) (As := [.int (fr nd)]) hPc hK hz hDc rfl rfl) rfl rfl hl1.1 rfl (lv_room (Nat.le_of_ble_eq_true rfl)) d_Runner_truth_127 ⟨Nat.le_of_ble_eq_true rfl, Nat.le_of_ble_eq_true rfl⟩) hS (fun q _ h => hFc q h) hFc (fun r_36 u_34 t H_35 locs ht hvm hw hB hz1 hk1 hS1 => ?_)
      try dsimp only at hw
      subst hw
      obtain ⟨hP1, hD1⟩ := hB
      rw [ht] at hP1
      have hjn := xw_join3 (wl := [(n0, .inr (4, [.ref n1, .ref n2, .ref n3, .int (nI z9)])), (n1, .inl (ax 1, cp, .inl fo)), (n2, .inl (ax 0, cp, .inl fl)), (n3, .inl (ax 0, cp, .inl fr)), (e0, .inr (8, [.ref e1])), (e1, .inl (ax 4, 6, .inr (.inl vs)))]) hP hD [4, 5] [0, 1, 2, 3] hCs (by decide) (by decide) hk1 hFc hP1 hD1 rfl
      clear hP1 hD1
      clear hPc hDc hFc hCs hz hz1 hk1 ht hvm
      clear hP hD hS
      have hS := hS1
      obtain ⟨hP, hD⟩ := hjn
      clear hS1
      obtain ⟨hPc, hDc, hFc, hCs⟩ := xw_sub3 (wc := []) hP hD hS hA [] (by decide) rfl
      have hz := xz_of hN hS
      refine va_calli (va_runS (As := [.int (nI o9), .long (vs (i2n (fl nd) % 16) + ((fl nd) >>> (4 &&& 31)).toInt64), .long (vs (i2n (fr nd) % 16) + ((fr nd) >>> (4 &&& 31)).toInt64)]) (rest := []) ⟨hx, hb, hml, hown, hts⟩ (c_E_compare l D ax o9 (vs (i2n (fl nd) % 16) + ((fl nd) >>> (4 &&& 31)).toInt64) (vs (i2n (fr nd) % 16) + ((fr nd) >>> (4 &&& 31)).toInt64) H_35.size (by first | assumption | omega)) (xcS (n := 3) hts wd_1008 wd_11 wd_1006 wd_1007 rfl rfl (by decide +kernel) ⟨(show (10) + 1 ≤ (30 + 2 * nd) by omega), (show 8 + (5 + 11) + (400) ≤ (1200 + 40 * nd) by omega)⟩) (xpS (As := [.int (nI o9), .long (vs (i2n (fl nd) % 16) + ((fl nd) >>> (4 &&& 31)).toInt64), .long (vs (i2n (fr nd) % 16) + ((fr nd) >>> (4 &&& 31)).toInt64)]) hPc hK hz hDc) rfl rfl hl1.1 rfl (lv_room (Nat.le_of_ble_eq_true rfl)) d_Runner_truth_130 ⟨Nat.le_of_ble_eq_true rfl, Nat.le_of_ble_eq_true rfl⟩) hS (fun q _ h => hFc q h) hFc (fun r_39 u_37 t H_38 locs ht hvm hw hB hz1 hk1 hS1 => ?_)
      try dsimp only at hw
      obtain ⟨hw, hs_40⟩ := hw
      subst hw
      obtain ⟨hP1, hD1⟩ := hB
      rw [ht] at hP1
      have hjn := xw_join3 (wl := [(n0, .inr (4, [.ref n1, .ref n2, .ref n3, .int (nI z9)])), (n1, .inl (ax 1, cp, .inl fo)), (n2, .inl (ax 0, cp, .inl fl)), (n3, .inl (ax 0, cp, .inl fr)), (e0, .inr (8, [.ref e1])), (e1, .inl (ax 4, 6, .inr (.inl vs)))]) hP hD [] [0, 1, 2, 3, 4, 5] hCs (by decide) (by decide) hk1 hFc hP1 hD1 rfl
      clear hP1 hD1
      clear hPc hDc hFc hCs hz hz1 hk1 ht hvm
      clear hP hD hS
      have hS := hS1
      obtain ⟨hP, hD⟩ := hjn
      clear hS1
      rw [← hQe]
      obtain ⟨hP9, hD9⟩ := xw_sub2 (wc := (fun u : Nat → Nat => [(e0, .inr (8, [.ref e1])), (e1, .inl (ax 4, 6, .inr (.inl vs))), (n0, .inr (4, [.ref n1, .ref n2, .ref n3, .int (nI z9)])), (n1, .inl (ax 1, cp, .inl fo)), (n2, .inl (ax 0, cp, .inl fl)), (n3, .inl (ax 0, cp, .inl fr))]) (ixn [(u_37 0)])) hP hD [4, 5, 0, 1, 2, 3] (by decide) rfl
      have hsp0 : (u_37 0) ≤ 1 := (by first | assumption | omega)
      exact W.zret (v := nI (u_37 0)) hx hb hr (nI_bool (by first | assumption | omega)) (fun t ht hW => ⟨⟨nI (u_37 0), ixn [(u_37 0)], rfl, ⟨rfl, hsp0⟩, ⟨by rw [ht]; exact hP9, hD9⟩⟩, hS.F ht⟩) hS.2.2 d_Runner_truth_133
    · skip
      obtain ⟨hPc, hDc, hFc, hCs⟩ := xw_sub3 (wc := [(e0, .inr (8, [.ref e1])), (e1, .inl (ax 4, 6, .inr (.inl vs)))]) hP hD hS hA [4, 5] (by decide) rfl
      have hz := xz_of hN hS
      refine va_calll (va_runV (As := [.int (fr nd)]) (rest := [.long (vs (i2n (fl nd) % 16) + ((fl nd) >>> (4 &&& 31)).toInt64), .int (nI o9)]) ⟨hx, hb, hml, hown, hts⟩ (c_E_amount_1 l D ax e0 e1 vs (fr nd) H_31.size (by first | assumption | omega)) (xcV (n := 1) hts wd_1000 wd_11 wd_997 wd_999 ps_48 rfl rfl (by decide +kernel) ⟨(show (10) + 1 ≤ (30 + 2 * nd) by omega), (show 8 + (5 + 11) + (400) ≤ (1200 + 40 * nd) by omega)⟩) (xpV (ci := 8) (q0 := 0) (As := [.int (fr nd)]) hPc hK hz hDc rfl rfl) rfl rfl hl1.1 rfl (lv_room (Nat.le_of_ble_eq_true rfl)) d_Runner_truth_127 ⟨Nat.le_of_ble_eq_true rfl, Nat.le_of_ble_eq_true rfl⟩) hS (fun q _ h => hFc q h) hFc (fun r_43 u_41 t H_42 locs ht hvm hw hB hz1 hk1 hS1 => ?_)
      try dsimp only at hw
      subst hw
      obtain ⟨hP1, hD1⟩ := hB
      rw [ht] at hP1
      have hjn := xw_join3 (wl := [(n0, .inr (4, [.ref n1, .ref n2, .ref n3, .int (nI z9)])), (n1, .inl (ax 1, cp, .inl fo)), (n2, .inl (ax 0, cp, .inl fl)), (n3, .inl (ax 0, cp, .inl fr)), (e0, .inr (8, [.ref e1])), (e1, .inl (ax 4, 6, .inr (.inl vs)))]) hP hD [4, 5] [0, 1, 2, 3] hCs (by decide) (by decide) hk1 hFc hP1 hD1 rfl
      clear hP1 hD1
      clear hPc hDc hFc hCs hz hz1 hk1 ht hvm
      clear hP hD hS
      have hS := hS1
      obtain ⟨hP, hD⟩ := hjn
      clear hS1
      obtain ⟨hPc, hDc, hFc, hCs⟩ := xw_sub3 (wc := []) hP hD hS hA [] (by decide) rfl
      have hz := xz_of hN hS
      refine va_calli (va_runS (As := [.int (nI o9), .long (vs (i2n (fl nd) % 16) + ((fl nd) >>> (4 &&& 31)).toInt64), .long (((fr nd) >>> (4 &&& 31)).toInt64)]) (rest := []) ⟨hx, hb, hml, hown, hts⟩ (c_E_compare l D ax o9 (vs (i2n (fl nd) % 16) + ((fl nd) >>> (4 &&& 31)).toInt64) (((fr nd) >>> (4 &&& 31)).toInt64) H_42.size (by first | assumption | omega)) (xcS (n := 3) hts wd_1008 wd_11 wd_1006 wd_1007 rfl rfl (by decide +kernel) ⟨(show (10) + 1 ≤ (30 + 2 * nd) by omega), (show 8 + (5 + 11) + (400) ≤ (1200 + 40 * nd) by omega)⟩) (xpS (As := [.int (nI o9), .long (vs (i2n (fl nd) % 16) + ((fl nd) >>> (4 &&& 31)).toInt64), .long (((fr nd) >>> (4 &&& 31)).toInt64)]) hPc hK hz hDc) rfl rfl hl1.1 rfl (lv_room (Nat.le_of_ble_eq_true rfl)) d_Runner_truth_130 ⟨Nat.le_of_ble_eq_true rfl, Nat.le_of_ble_eq_true rfl⟩) hS (fun q _ h => hFc q h) hFc (fun r_46 u_44 t H_45 locs ht hvm hw hB hz1 hk1 hS1 => ?_)
      try dsimp only at hw
      obtain ⟨hw, hs_47⟩ := hw
      subst hw
      obtain ⟨hP1, hD1⟩ := hB
      rw [ht] at hP1
      have hjn := xw_join3 (wl := [(n0, .inr (4, [.ref n1, .ref n2, .ref n3, .int (nI z9)])), (n1, .inl (ax 1, cp, .inl fo)), (n2, .inl (ax 0, cp, .inl fl)), (n3, .inl (ax 0, cp, .inl fr)), (e0, .inr (8, [.ref e1])), (e1, .inl (ax 4, 6, .inr (.inl vs)))]) hP hD [] [0, 1, 2, 3, 4, 5] hCs (by decide) (by decide) hk1 hFc hP1 hD1 rfl
      clear hP1 hD1
      clear hPc hDc hFc hCs hz hz1 hk1 ht hvm
      clear hP hD hS
      have hS := hS1
      obtain ⟨hP, hD⟩ := hjn
      clear hS1
      rw [← hQe]
      obtain ⟨hP9, hD9⟩ := xw_sub2 (wc := (fun u : Nat → Nat => [(e0, .inr (8, [.ref e1])), (e1, .inl (ax 4, 6, .inr (.inl vs))), (n0, .inr (4, [.ref n1, .ref n2, .ref n3, .int (nI z9)])), (n1, .inl (ax 1, cp, .inl fo)), (n2, .inl (ax 0, cp, .inl fl)), (n3, .inl (ax 0, cp, .inl fr))]) (ixn [(u_44 0)])) hP hD [4, 5, 0, 1, 2, 3] (by decide) rfl
      have hsp0 : (u_44 0) ≤ 1 := (by first | assumption | omega)
      exact W.zret (v := nI (u_44 0)) hx hb hr (nI_bool (by first | assumption | omega)) (fun t ht hW => ⟨⟨nI (u_44 0), ixn [(u_44 0)], rfl, ⟨rfl, hsp0⟩, ⟨by rw [ht]; exact hP9, hD9⟩⟩, hS.F ht⟩) hS.2.2 d_Runner_truth_133
  · skip
    obtain ⟨hPc, hDc, hFc, hCs⟩ := xw_sub3 (wc := [(e0, .inr (8, [.ref e1])), (e1, .inl (ax 4, 6, .inr (.inl vs)))]) hP hD hS hA [0, 1] (by decide) rfl
    have hz := xz_of hN hS
    refine va_calll (va_runV (As := [.int (fl nd)]) (rest := [.int (nI o9)]) ⟨hx, hb, hml, hown, hts⟩ (c_E_amount_1 l D ax e0 e1 vs (fl nd) s.heap.size (by first | assumption | omega)) (xcV (n := 1) hts wd_1000 wd_11 wd_997 wd_999 ps_48 rfl rfl (by decide +kernel) ⟨(show (10) + 1 ≤ (30 + 2 * nd) by omega), (show 8 + (5 + 11) + (400) ≤ (1200 + 40 * nd) by omega)⟩) (xpV (ci := 8) (q0 := 0) (As := [.int (fl nd)]) hPc hK hz hDc rfl rfl) rfl rfl hl1.1 rfl (lv_room (Nat.le_of_ble_eq_true rfl)) d_Runner_truth_121 ⟨Nat.le_of_ble_eq_true rfl, Nat.le_of_ble_eq_true rfl⟩) hS (fun q _ h => hFc q h) hFc (fun r_50 u_48 t H_49 locs ht hvm hw hB hz1 hk1 hS1 => ?_)
    try dsimp only at hw
    subst hw
    obtain ⟨hP1, hD1⟩ := hB
    rw [ht] at hP1
    have hjn := xw_join3 (wl := [(n0, .inr (4, [.ref n1, .ref n2, .ref n3, .int (nI z9)])), (n1, .inl (ax 1, cp, .inl fo)), (n2, .inl (ax 0, cp, .inl fl)), (n3, .inl (ax 0, cp, .inl fr)), (e0, .inr (8, [.ref e1])), (e1, .inl (ax 4, 6, .inr (.inl vs)))]) hP hD [0, 1] [2, 3, 4, 5] hCs (by decide) (by decide) hk1 hFc hP1 hD1 rfl
    clear hP1 hD1
    clear hPc hDc hFc hCs hz hz1 hk1 ht hvm
    clear hP hD hS
    have hS := hS1
    obtain ⟨hP, hD⟩ := hjn
    clear hS1
    refine lv_aload_n hx hb d_Runner_truth_124 rfl (lv_at hl1 2 rfl) ?_
    refine lv_iload hx hb d_Runner_truth_125 (lv_at hl1 0 rfl) ?_
    by_cases hk_51 : i2n (fr nd) % 16 < 6
    · skip
      obtain ⟨hPc, hDc, hFc, hCs⟩ := xw_sub3 (wc := [(e0, .inr (8, [.ref e1])), (e1, .inl (ax 4, 6, .inr (.inl vs)))]) hP hD hS hA [4, 5] (by decide) rfl
      have hz := xz_of hN hS
      refine va_calll (va_runV (As := [.int (fr nd)]) (rest := [.long (((fl nd) >>> (4 &&& 31)).toInt64), .int (nI o9)]) ⟨hx, hb, hml, hown, hts⟩ (c_E_amount_0 l D ax e0 e1 vs (fr nd) H_49.size hk_51) (xcV (n := 1) hts wd_1000 wd_11 wd_997 wd_999 ps_48 rfl rfl (by decide +kernel) ⟨(show (10) + 1 ≤ (30 + 2 * nd) by omega), (show 8 + (5 + 11) + (400) ≤ (1200 + 40 * nd) by omega)⟩) (xpV (ci := 8) (q0 := 0) (As := [.int (fr nd)]) hPc hK hz hDc rfl rfl) rfl rfl hl1.1 rfl (lv_room (Nat.le_of_ble_eq_true rfl)) d_Runner_truth_127 ⟨Nat.le_of_ble_eq_true rfl, Nat.le_of_ble_eq_true rfl⟩) hS (fun q _ h => hFc q h) hFc (fun r_54 u_52 t H_53 locs ht hvm hw hB hz1 hk1 hS1 => ?_)
      try dsimp only at hw
      subst hw
      obtain ⟨hP1, hD1⟩ := hB
      rw [ht] at hP1
      have hjn := xw_join3 (wl := [(n0, .inr (4, [.ref n1, .ref n2, .ref n3, .int (nI z9)])), (n1, .inl (ax 1, cp, .inl fo)), (n2, .inl (ax 0, cp, .inl fl)), (n3, .inl (ax 0, cp, .inl fr)), (e0, .inr (8, [.ref e1])), (e1, .inl (ax 4, 6, .inr (.inl vs)))]) hP hD [4, 5] [0, 1, 2, 3] hCs (by decide) (by decide) hk1 hFc hP1 hD1 rfl
      clear hP1 hD1
      clear hPc hDc hFc hCs hz hz1 hk1 ht hvm
      clear hP hD hS
      have hS := hS1
      obtain ⟨hP, hD⟩ := hjn
      clear hS1
      obtain ⟨hPc, hDc, hFc, hCs⟩ := xw_sub3 (wc := []) hP hD hS hA [] (by decide) rfl
      have hz := xz_of hN hS
      refine va_calli (va_runS (As := [.int (nI o9), .long (((fl nd) >>> (4 &&& 31)).toInt64), .long (vs (i2n (fr nd) % 16) + ((fr nd) >>> (4 &&& 31)).toInt64)]) (rest := []) ⟨hx, hb, hml, hown, hts⟩ (c_E_compare l D ax o9 (((fl nd) >>> (4 &&& 31)).toInt64) (vs (i2n (fr nd) % 16) + ((fr nd) >>> (4 &&& 31)).toInt64) H_53.size (by first | assumption | omega)) (xcS (n := 3) hts wd_1008 wd_11 wd_1006 wd_1007 rfl rfl (by decide +kernel) ⟨(show (10) + 1 ≤ (30 + 2 * nd) by omega), (show 8 + (5 + 11) + (400) ≤ (1200 + 40 * nd) by omega)⟩) (xpS (As := [.int (nI o9), .long (((fl nd) >>> (4 &&& 31)).toInt64), .long (vs (i2n (fr nd) % 16) + ((fr nd) >>> (4 &&& 31)).toInt64)]) hPc hK hz hDc) rfl rfl hl1.1 rfl (lv_room (Nat.le_of_ble_eq_true rfl)) d_Runner_truth_130 ⟨Nat.le_of_ble_eq_true rfl, Nat.le_of_ble_eq_true rfl⟩) hS (fun q _ h => hFc q h) hFc (fun r_57 u_55 t H_56 locs ht hvm hw hB hz1 hk1 hS1 => ?_)
      try dsimp only at hw
      obtain ⟨hw, hs_58⟩ := hw
      subst hw
      obtain ⟨hP1, hD1⟩ := hB
      rw [ht] at hP1
      have hjn := xw_join3 (wl := [(n0, .inr (4, [.ref n1, .ref n2, .ref n3, .int (nI z9)])), (n1, .inl (ax 1, cp, .inl fo)), (n2, .inl (ax 0, cp, .inl fl)), (n3, .inl (ax 0, cp, .inl fr)), (e0, .inr (8, [.ref e1])), (e1, .inl (ax 4, 6, .inr (.inl vs)))]) hP hD [] [0, 1, 2, 3, 4, 5] hCs (by decide) (by decide) hk1 hFc hP1 hD1 rfl
      clear hP1 hD1
      clear hPc hDc hFc hCs hz hz1 hk1 ht hvm
      clear hP hD hS
      have hS := hS1
      obtain ⟨hP, hD⟩ := hjn
      clear hS1
      rw [← hQe]
      obtain ⟨hP9, hD9⟩ := xw_sub2 (wc := (fun u : Nat → Nat => [(e0, .inr (8, [.ref e1])), (e1, .inl (ax 4, 6, .inr (.inl vs))), (n0, .inr (4, [.ref n1, .ref n2, .ref n3, .int (nI z9)])), (n1, .inl (ax 1, cp, .inl fo)), (n2, .inl (ax 0, cp, .inl fl)), (n3, .inl (ax 0, cp, .inl fr))]) (ixn [(u_55 0)])) hP hD [4, 5, 0, 1, 2, 3] (by decide) rfl
      have hsp0 : (u_55 0) ≤ 1 := (by first | assumption | omega)
      exact W.zret (v := nI (u_55 0)) hx hb hr (nI_bool (by first | assumption | omega)) (fun t ht hW => ⟨⟨nI (u_55 0), ixn [(u_55 0)], rfl, ⟨rfl, hsp0⟩, ⟨by rw [ht]; exact hP9, hD9⟩⟩, hS.F ht⟩) hS.2.2 d_Runner_truth_133
    · skip
      obtain ⟨hPc, hDc, hFc, hCs⟩ := xw_sub3 (wc := [(e0, .inr (8, [.ref e1])), (e1, .inl (ax 4, 6, .inr (.inl vs)))]) hP hD hS hA [4, 5] (by decide) rfl
      have hz := xz_of hN hS
      refine va_calll (va_runV (As := [.int (fr nd)]) (rest := [.long (((fl nd) >>> (4 &&& 31)).toInt64), .int (nI o9)]) ⟨hx, hb, hml, hown, hts⟩ (c_E_amount_1 l D ax e0 e1 vs (fr nd) H_49.size (by first | assumption | omega)) (xcV (n := 1) hts wd_1000 wd_11 wd_997 wd_999 ps_48 rfl rfl (by decide +kernel) ⟨(show (10) + 1 ≤ (30 + 2 * nd) by omega), (show 8 + (5 + 11) + (400) ≤ (1200 + 40 * nd) by omega)⟩) (xpV (ci := 8) (q0 := 0) (As := [.int (fr nd)]) hPc hK hz hDc rfl rfl) rfl rfl hl1.1 rfl (lv_room (Nat.le_of_ble_eq_true rfl)) d_Runner_truth_127 ⟨Nat.le_of_ble_eq_true rfl, Nat.le_of_ble_eq_true rfl⟩) hS (fun q _ h => hFc q h) hFc (fun r_61 u_59 t H_60 locs ht hvm hw hB hz1 hk1 hS1 => ?_)
      try dsimp only at hw
      subst hw
      obtain ⟨hP1, hD1⟩ := hB
      rw [ht] at hP1
      have hjn := xw_join3 (wl := [(n0, .inr (4, [.ref n1, .ref n2, .ref n3, .int (nI z9)])), (n1, .inl (ax 1, cp, .inl fo)), (n2, .inl (ax 0, cp, .inl fl)), (n3, .inl (ax 0, cp, .inl fr)), (e0, .inr (8, [.ref e1])), (e1, .inl (ax 4, 6, .inr (.inl vs)))]) hP hD [4, 5] [0, 1, 2, 3] hCs (by decide) (by decide) hk1 hFc hP1 hD1 rfl
      clear hP1 hD1
      clear hPc hDc hFc hCs hz hz1 hk1 ht hvm
      clear hP hD hS
      have hS := hS1
      obtain ⟨hP, hD⟩ := hjn
      clear hS1
      obtain ⟨hPc, hDc, hFc, hCs⟩ := xw_sub3 (wc := []) hP hD hS hA [] (by decide) rfl
      have hz := xz_of hN hS
      refine va_calli (va_runS (As := [.int (nI o9), .long (((fl nd) >>> (4 &&& 31)).toInt64), .long (((fr nd) >>> (4 &&& 31)).toInt64)]) (rest := []) ⟨hx, hb, hml, hown, hts⟩ (c_E_compare l D ax o9 (((fl nd) >>> (4 &&& 31)).toInt64) (((fr nd) >>> (4 &&& 31)).toInt64) H_60.size (by first | assumption | omega)) (xcS (n := 3) hts wd_1008 wd_11 wd_1006 wd_1007 rfl rfl (by decide +kernel) ⟨(show (10) + 1 ≤ (30 + 2 * nd) by omega), (show 8 + (5 + 11) + (400) ≤ (1200 + 40 * nd) by omega)⟩) (xpS (As := [.int (nI o9), .long (((fl nd) >>> (4 &&& 31)).toInt64), .long (((fr nd) >>> (4 &&& 31)).toInt64)]) hPc hK hz hDc) rfl rfl hl1.1 rfl (lv_room (Nat.le_of_ble_eq_true rfl)) d_Runner_truth_130 ⟨Nat.le_of_ble_eq_true rfl, Nat.le_of_ble_eq_true rfl⟩) hS (fun q _ h => hFc q h) hFc (fun r_64 u_62 t H_63 locs ht hvm hw hB hz1 hk1 hS1 => ?_)
      try dsimp only at hw
      obtain ⟨hw, hs_65⟩ := hw
      subst hw
      obtain ⟨hP1, hD1⟩ := hB
      rw [ht] at hP1
      have hjn := xw_join3 (wl := [(n0, .inr (4, [.ref n1, .ref n2, .ref n3, .int (nI z9)])), (n1, .inl (ax 1, cp, .inl fo)), (n2, .inl (ax 0, cp, .inl fl)), (n3, .inl (ax 0, cp, .inl fr)), (e0, .inr (8, [.ref e1])), (e1, .inl (ax 4, 6, .inr (.inl vs)))]) hP hD [] [0, 1, 2, 3, 4, 5] hCs (by decide) (by decide) hk1 hFc hP1 hD1 rfl
      clear hP1 hD1
      clear hPc hDc hFc hCs hz hz1 hk1 ht hvm
      clear hP hD hS
      have hS := hS1
      obtain ⟨hP, hD⟩ := hjn
      clear hS1
      rw [← hQe]
      obtain ⟨hP9, hD9⟩ := xw_sub2 (wc := (fun u : Nat → Nat => [(e0, .inr (8, [.ref e1])), (e1, .inl (ax 4, 6, .inr (.inl vs))), (n0, .inr (4, [.ref n1, .ref n2, .ref n3, .int (nI z9)])), (n1, .inl (ax 1, cp, .inl fo)), (n2, .inl (ax 0, cp, .inl fl)), (n3, .inl (ax 0, cp, .inl fr))]) (ixn [(u_62 0)])) hP hD [4, 5, 0, 1, 2, 3] (by decide) rfl
      have hsp0 : (u_62 0) ≤ 1 := (by first | assumption | omega)
      exact W.zret (v := nI (u_62 0)) hx hb hr (nI_bool (by first | assumption | omega)) (fun t ht hW => ⟨⟨nI (u_62 0), ixn [(u_62 0)], rfl, ⟨rfl, hsp0⟩, ⟨by rw [ht]; exact hP9, hD9⟩⟩, hS.F ht⟩) hS.2.2 d_Runner_truth_133
theorem E_truth_all (l : Launch) (nd : Nat) : CTr l nd := by
  induction nd using Nat.strongRecOn with
  | ind nd ih => exact fun D ax => c_E_truth l nd ih D ax
