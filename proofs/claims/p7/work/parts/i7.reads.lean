theorem wd_455 : ((Jvm.Cond.methodLink "TripleDesk$Tokens" (94 : Nat) ({ cls := "java/lang/String", name := "length", desc := "()I" } : Jvm.MethodName))) ∈ lw_gd := lw_gd_in (i := 455) (by decide +kernel) rfl
theorem wd_456 : ((Jvm.Cond.instanceMethod ({ cls := "java/lang/String", name := "length", desc := "()I" } : Jvm.MethodName))) ∈ lw_gd := lw_gd_in (i := 456) (by decide +kernel) rfl
theorem wd_457 : ((Jvm.Cond.selects "java/lang/String" ({ cls := "java/lang/String", name := "length", desc := "()I" } : Jvm.MethodName) ({ cls := "java/lang/String", name := "length", desc := "()I" } : Jvm.MethodName))) ∈ lw_gd := lw_gd_in (i := 457) (by decide +kernel) rfl
theorem wd_458 : ((Jvm.Cond.code ({ cls := "java/lang/String", name := "length", desc := "()I" } : Jvm.MethodName) prog_21_method_54_code (1 : Nat) (Option.some Jvm.ClassFile.FieldType.int))) ∈ lw_gd := lw_gd_in (i := 458) (by decide +kernel) rfl
theorem wd_465 : ((Jvm.Cond.methodLink "TripleDesk$Tokens" (99 : Nat) ({ cls := "java/lang/String", name := "charAt", desc := "(I)C" } : Jvm.MethodName))) ∈ lw_gd := lw_gd_in (i := 465) (by decide +kernel) rfl
theorem wd_466 : ((Jvm.Cond.instanceMethod ({ cls := "java/lang/String", name := "charAt", desc := "(I)C" } : Jvm.MethodName))) ∈ lw_gd := lw_gd_in (i := 466) (by decide +kernel) rfl
theorem wd_467 : ((Jvm.Cond.selects "java/lang/String" ({ cls := "java/lang/String", name := "charAt", desc := "(I)C" } : Jvm.MethodName) ({ cls := "java/lang/String", name := "charAt", desc := "(I)C" } : Jvm.MethodName))) ∈ lw_gd := lw_gd_in (i := 467) (by decide +kernel) rfl
theorem wd_468 : ((Jvm.Cond.code ({ cls := "java/lang/String", name := "charAt", desc := "(I)C" } : Jvm.MethodName) prog_21_method_56_code (2 : Nat) (Option.some Jvm.ClassFile.FieldType.char))) ∈ lw_gd := lw_gd_in (i := 468) (by decide +kernel) rfl
abbrev b_Tokens_reads : ByteArray := prog_11_method_11_code
def y_Tokens_reads : MethodName := ⟨R_Tokens, "reads", "(Ljava/lang/String;I)Z"⟩
theorem d_Tokens_reads_0 : decode b_Tokens_reads 0 = .ok (.aload_n 1, 1) := by decide +kernel
theorem d_Tokens_reads_1 : decode b_Tokens_reads 1 = .ok (.invokevirtual 94, 3) := by decide +kernel
theorem d_Tokens_reads_4 : decode b_Tokens_reads 4 = .ok (.aload_n 0, 1) := by decide +kernel
theorem d_Tokens_reads_5 : decode b_Tokens_reads 5 = .ok (.getfield 26, 3) := by decide +kernel
theorem d_Tokens_reads_8 : decode b_Tokens_reads 8 = .ok (.iload_n 2, 1) := by decide +kernel
theorem d_Tokens_reads_9 : decode b_Tokens_reads 9 = .ok (.isub, 1) := by decide +kernel
theorem d_Tokens_reads_10 : decode b_Tokens_reads 10 = .ok (.if_icmp .ne 7, 3) := by decide +kernel
theorem d_Tokens_reads_13 : decode b_Tokens_reads 13 = .ok (.iconst 1, 1) := by decide +kernel
theorem d_Tokens_reads_14 : decode b_Tokens_reads 14 = .ok (.goto 4, 3) := by decide +kernel
theorem d_Tokens_reads_17 : decode b_Tokens_reads 17 = .ok (.iconst 0, 1) := by decide +kernel
theorem d_Tokens_reads_18 : decode b_Tokens_reads 18 = .ok (.istore_n 3, 1) := by decide +kernel
theorem d_Tokens_reads_19 : decode b_Tokens_reads 19 = .ok (.iconst 0, 1) := by decide +kernel
theorem d_Tokens_reads_20 : decode b_Tokens_reads 20 = .ok (.istore 4, 2) := by decide +kernel
theorem d_Tokens_reads_22 : decode b_Tokens_reads 22 = .ok (.iload_n 3, 1) := by decide +kernel
theorem d_Tokens_reads_23 : decode b_Tokens_reads 23 = .ok (.ifCond .eq 42, 3) := by decide +kernel
theorem d_Tokens_reads_26 : decode b_Tokens_reads 26 = .ok (.iload 4, 2) := by decide +kernel
theorem d_Tokens_reads_28 : decode b_Tokens_reads 28 = .ok (.aload_n 1, 1) := by decide +kernel
theorem d_Tokens_reads_29 : decode b_Tokens_reads 29 = .ok (.invokevirtual 94, 3) := by decide +kernel
theorem d_Tokens_reads_32 : decode b_Tokens_reads 32 = .ok (.if_icmp .ge 33, 3) := by decide +kernel
theorem d_Tokens_reads_35 : decode b_Tokens_reads 35 = .ok (.aload_n 0, 1) := by decide +kernel
theorem d_Tokens_reads_36 : decode b_Tokens_reads 36 = .ok (.getfield 9, 3) := by decide +kernel
theorem d_Tokens_reads_39 : decode b_Tokens_reads 39 = .ok (.iload_n 2, 1) := by decide +kernel
theorem d_Tokens_reads_40 : decode b_Tokens_reads 40 = .ok (.iload 4, 2) := by decide +kernel
theorem d_Tokens_reads_42 : decode b_Tokens_reads 42 = .ok (.iadd, 1) := by decide +kernel
theorem d_Tokens_reads_43 : decode b_Tokens_reads 43 = .ok (.baload, 1) := by decide +kernel
theorem d_Tokens_reads_44 : decode b_Tokens_reads 44 = .ok (.aload_n 1, 1) := by decide +kernel
theorem d_Tokens_reads_45 : decode b_Tokens_reads 45 = .ok (.iload 4, 2) := by decide +kernel
theorem d_Tokens_reads_47 : decode b_Tokens_reads 47 = .ok (.invokevirtual 99, 3) := by decide +kernel
theorem d_Tokens_reads_50 : decode b_Tokens_reads 50 = .ok (.if_icmp .ne 7, 3) := by decide +kernel
theorem d_Tokens_reads_53 : decode b_Tokens_reads 53 = .ok (.iconst 1, 1) := by decide +kernel
theorem d_Tokens_reads_54 : decode b_Tokens_reads 54 = .ok (.goto 4, 3) := by decide +kernel
theorem d_Tokens_reads_57 : decode b_Tokens_reads 57 = .ok (.iconst 0, 1) := by decide +kernel
theorem d_Tokens_reads_58 : decode b_Tokens_reads 58 = .ok (.istore_n 3, 1) := by decide +kernel
theorem d_Tokens_reads_59 : decode b_Tokens_reads 59 = .ok (.iinc 4 1, 3) := by decide +kernel
theorem d_Tokens_reads_62 : decode b_Tokens_reads 62 = .ok (.goto (-40), 3) := by decide +kernel
theorem d_Tokens_reads_65 : decode b_Tokens_reads 65 = .ok (.iload_n 3, 1) := by decide +kernel
theorem d_Tokens_reads_66 : decode b_Tokens_reads 66 = .ok (.ireturn, 1) := by decide +kernel
set_option maxHeartbeats 40000000 in
set_option maxRecDepth 100000 in
theorem c_T_reads (l : Launch) (D : va_G) (ax : Nat → ClassId) (ad av : Nat → Nat) (fm : Nat) (k0 k1 k2 ts th : Nat) (s_at s_fault s_next s_amount : Int32) (tb : Nat → Int32) (tk : Nat → Nat) (i9 p9 : Nat) (sz tz : Nat) (hts : ts ≤ 400) (hth : th ≤ ts) (hp9 : p9 ≤ th) (hi9 : i9 < 11) (hbt : bts tb 400) : Met l y_Tokens_reads (xws (.code y_Tokens_reads b_Tokens_reads 5 (some .boolean))) ({ frames := 50, cells := 0, slots := 0, locals := 2000 }) (va_Pc [.ref k0, .ref (ad i9), .int (nI p9)] (xo4 D ax ad av fm [(k0, .inr (9, [.ref k1, .ref k2, .int (nI ts), .int (nI th), .int s_at, .int s_fault, .int s_next, .int s_amount])), (k1, .inl (ax 1, 400, .inl tb)), (k2, .inl (ax 0, 401, .inl (fun j => nI (tk j))))] sz tz)) ((va_Qi (fun (r : Int32) (u : Nat → Nat) => r = nI (u 0) ∧ (u 0 ≤ 1 ∧ rdq (u 0) (wmt (gtb tb) p9 th i9))) (fun (u : Nat → Nat) (t9 : State) => (t9.heap.size ≤ sz + (0)) ∧ (tsl t9.heap ≤ tz + (0)) ∧ va_P D classes [(k0, .inr (9, [.ref k1, .ref k2, .int (nI ts), .int (nI th), .int s_at, .int s_fault, .int s_next, .int s_amount])), (k1, .inl (ax 1, 400, .inl tb)), (k2, .inl (ax 0, 401, .inl (fun j => nI (tk j))))] t9.heap ∧ va_D (va_A [(k0, .inr (9, [.ref k1, .ref k2, .int (nI ts), .int (nI th), .int s_at, .int s_fault, .int s_next, .int s_amount])), (k1, .inl (ax 1, 400, .inl tb)), (k2, .inl (ax 0, 401, .inl (fun j => nI (tk j))))] sz) [(k0, .inr (9, [.ref k1, .ref k2, .int (nI ts), .int (nI th), .int s_at, .int s_fault, .int s_next, .int s_amount])), (k1, .inl (ax 1, 400, .inl tb)), (k2, .inl (ax 0, 401, .inl (fun j => nI (tk j))))]) (va_A [(k0, .inr (9, [.ref k1, .ref k2, .int (nI ts), .int (nI th), .int s_at, .int s_fault, .int s_next, .int s_amount])), (k1, .inl (ax 1, 400, .inl tb)), (k2, .inl (ax 0, 401, .inl (fun j => nI (tk j))))] sz))) 0 0 (va_A [(k0, .inr (9, [.ref k1, .ref k2, .int (nI ts), .int (nI th), .int s_at, .int s_fault, .int s_next, .int s_amount])), (k1, .inl (ax 1, 400, .inl tb)), (k2, .inl (ax 0, 401, .inl (fun j => nI (tk j))))] sz) := by
  refine Met.ofW (cc := b_Tokens_reads) (maxL := 5) (ret := (some .boolean)) (by decide) rfl ?_
  intro p e s m args below meth c s₁ B hml hv
  obtain ⟨rfl, ⟨⟨hsz, hP, hK, hD0⟩, htz⟩, hX⟩ := hv
  have hx := B.exec
  have hb := B.bytes
  have hr := B.returns
  have hts := xw_hts B.pre
  have hown : s.vm.findClass R_Tokens = some m.cls := findClass_of_methodNamed B.named
  have hlocks := B.notSynchronized
  subst hsz
  subst htz
  have hD := hD0.self (sz := s.heap.size)
  have hN := xz_entry hP
  generalize hAe : va_A [(k0, .inr (9, [.ref k1, .ref k2, .int (nI ts), .int (nI th), .int s_at, .int s_fault, .int s_next, .int s_amount])), (k1, .inl (ax 1, 400, .inl tb)), (k2, .inl (ax 0, 401, .inl (fun j => nI (tk j))))] s.heap.size = A at hD hN hX ⊢
  have hA : ∀ q : Nat, s.heap.size ≤ q → A q := fun q h => by rw [← hAe]; exact Or.inr h
  have hS : va_S A s.heap s.heap [] := va_S.rf
  have hl0 := lv_entry ([.ref k0, .ref (ad i9), .int (nI p9)]) (n := 5) (Nat.le_of_ble_eq_true rfl)
  rw [lg_entry_eq]
  generalize (lg_sl ([.ref k0, .ref (ad i9), .int (nI p9)]) ++ List.replicate (5 - (lg_sl ([.ref k0, .ref (ad i9), .int (nI p9)])).length) Slot.unset).toArray = ls at hl0 ⊢
  have hl1 : lv_has ls 5 [(0, .ref k0), (1, .ref (ad i9)), (2, .int (nI p9))] := hl0
  refine xw_gen (fun Z9 hQe => ?_)
  have hx6 := xsl_le hi9
  refine lv_aload_n hx hb d_Tokens_reads_0 rfl (lv_at hl1 1 rfl) ?_
  obtain ⟨hPc, hDc, hFc, hCs⟩ := xw_sub3 (wc := []) hP hD hS hA [] (by decide) rfl
  have hz := xz_of hN hS
  refine wk_know (fun hk8 hk9 => ?_)
  refine va_calli (va_runV (As := []) (rest := []) ⟨hx, hb, hml, hown, hts⟩ (c_Z_length l D ax ad av fm i9 s.heap.size (tsl s.heap) (by first | assumption | omega)) (xcV (n := 0) hts wd_458 wd_16 wd_455 wd_456 wd_457 rfl rfl (by decide +kernel) ⟨Nat.le_of_ble_eq_true rfl, Nat.le_of_ble_eq_true rfl⟩) (xpK4 (i := i9) (As := []) (by first | assumption | omega) hX hS hFc hPc hK hz hDc) rfl rfl hl1.1 rfl (lv_room (Nat.le_of_ble_eq_true rfl)) d_Tokens_reads_1 ⟨Nat.le_of_ble_eq_true rfl, Nat.le_of_ble_eq_true rfl⟩) hS (fun q _ h => hFc q h) hFc (fun r_3 u_1 t H_2 locs ht hvm hw hB hz1 hk1 hS1 => ?_)
  try dsimp only at hw
  obtain ⟨hw, hs_4⟩ := hw
  subst hw
  obtain ⟨hg8, hg9, hP1, hD1⟩ := hB
  rw [ht] at hg8 hg9 hP1
  have hjn := xw_join3 (wl := [(k0, .inr (9, [.ref k1, .ref k2, .int (nI ts), .int (nI th), .int s_at, .int s_fault, .int s_next, .int s_amount])), (k1, .inl (ax 1, 400, .inl tb)), (k2, .inl (ax 0, 401, .inl (fun j => nI (tk j))))]) hP hD [] [0, 1, 2] hCs (by decide) (by decide) hk1 hFc hP1 hD1 rfl
  clear hP1 hD1
  clear hPc hDc hFc hCs hz hz1 hk1 ht hvm
  clear hP hD hS
  have hS := hS1
  obtain ⟨hP, hD⟩ := hjn
  clear hS1
  refine wk_narrow (k := 0) (n := 0) (by first | assumption | omega) (by first | assumption | omega) ?_
  clear hk8 hk9 hg8 hg9
  refine lv_aload_n hx hb d_Tokens_reads_4 rfl (lv_at hl1 0 rfl) ?_
  refine va_get (D := D) (ci := 9) (v := .int (nI th)) (C := R_Tokens) (T := F_Tokens) (N := 8) hx hb hts i_Tokens hown hK.1 hP 0 rfl rfl 3 (by decide) (hts _ wd_43) (fun _ h9 => h9) rfl d_Tokens_reads_5 ?_
  refine lv_iload_n hx hb d_Tokens_reads_8 rfl (lv_at hl1 2 rfl) ?_
  refine lv_isub hx hb d_Tokens_reads_9 ?_
  refine lv_topi (fun z_5 ez_5 => ?_)
  have ez_5 : z_5 = nI (th - p9) := ez_5.trans (pk_sub (a := th) (b := p9) (by first | assumption | omega))
  subst ez_5
  refine lv_icmp_ne (tgt := 17) hx hb d_Tokens_reads_10 (by decide) (fun c_6 => ?_) (fun c_6 => ?_)
  · replace c_6 : ¬ u_1 0 = th - p9 := fun hq9 => c_6 ((nI_eq (a := u_1 0) (b := th - p9) (by first | exact Nat.lt_of_lt_of_le (by assumption) (by decide) | exact Nat.lt_of_le_of_lt (by assumption) (by decide) | omega) (by first | exact Nat.lt_of_lt_of_le (by assumption) (by decide) | exact Nat.lt_of_le_of_lt (by assumption) (by decide) | omega)).mpr hq9)
    refine lv_iconst (v := 0) hx hb d_Tokens_reads_17 (by decide) ?_
    refine lv_istore_n (lv' := [(3, .int 0), (0, .ref k0), (1, .ref (ad i9)), (2, .int (nI p9))]) hx hb d_Tokens_reads_18 rfl hl1 (by decide) rfl (fun ls hl2 => ?_)
    clear hl1; have hl1 := hl2; clear hl2
    refine lv_iconst (v := 0) hx hb d_Tokens_reads_19 (by decide) ?_
    refine lv_istore (lv' := [(4, .int 0), (3, .int 0), (0, .ref k0), (1, .ref (ad i9)), (2, .int (nI p9))]) hx hb d_Tokens_reads_20 hl1 (by decide) rfl (fun ls hl2 => ?_)
    clear hl1; have hl1 := hl2; clear hl2
    suffices key_7 : ∀ (k : Nat) (sm1 i1 : Nat), 7 - i1 < k → sm1 ≤ 1 → i1 ≤ 6 → (sm1 = 0 ∨ th = p9 + xsl.getD i9 0) → rdv (gtb tb) p9 th i9 i1 sm1 → ∀ (H : Heap) (locs : List Loc) (ls : Array Slot), va_P D classes [(k0, .inr (9, [.ref k1, .ref k2, .int (nI ts), .int (nI th), .int s_at, .int s_fault, .int s_next, .int s_amount])), (k1, .inl (ax 1, 400, .inl tb)), (k2, .inl (ax 0, 401, .inl (fun j => nI (tk j))))] H → va_D A [(k0, .inr (9, [.ref k1, .ref k2, .int (nI ts), .int (nI th), .int s_at, .int s_fault, .int s_next, .int s_amount])), (k1, .inl (ax 1, 400, .inl tb)), (k2, .inl (ax 0, 401, .inl (fun j => nI (tk j))))] → va_S A s.heap H locs → lv_has ls 5 [(0, .ref k0), (1, .ref (ad i9)), (2, .int (nI p9)), (3, .int (nI sm1)), (4, .int (nI i1))] → W p l e (headSpec (xws (.code y_Tokens_reads b_Tokens_reads 5 (some .boolean))) ({ frames := 50, cells := 0, slots := 0, locals := 2000 })).room s m ([.ref k0, .ref (ad i9), .int (nI p9)] : List Value).toArray below meth c H locs (0) (0) Z9 (F0 m 22 ls []) from key_7 (7 - 0 + 1) 0 0 (Nat.lt_succ_self _) (by first | assumption | omega) (by first | assumption | omega) (by first | assumption | omega) (rdv_j (by first | assumption | omega)) _ _ _ (hP) (hD) hS (lv_sub hl1 [2, 3, 4, 1, 0] rfl)
    intro k_8
    induction k_8 with
    | zero =>
      intro sm1 i1 hk_10
      exact absurd hk_10 (Nat.not_lt_zero _)
    | succ k_8 ih_9 =>
      clear hP hD hS hl1
      intro sm1 i1 hk_10 h1a h1b h1c h1e H locs ls hP hD hS hl1
      refine lv_iload_n hx hb d_Tokens_reads_22 rfl (lv_at hl1 3 rfl) ?_
      refine lv_if_eq (tgt := 65) hx hb d_Tokens_reads_23 (by decide) (fun c_11 => ?_) (fun c_11 => ?_)
      · replace c_11 : sm1 = 0 := (nI_eq (a := sm1) (b := 0) (by first | exact Nat.lt_of_lt_of_le (by assumption) (by decide) | exact Nat.lt_of_le_of_lt (by assumption) (by decide) | omega) (by decide)).mp c_11
        refine lv_iload_n hx hb d_Tokens_reads_65 rfl (lv_at hl1 3 rfl) ?_
        rw [← hQe]
        refine wk_know (fun hk8 hk9 => ?_)
        refine W.widen (k := 0) (n := 0) (Nat.le_of_ble_eq_true rfl) (Nat.le_of_ble_eq_true rfl) ?_
        obtain ⟨hP9, hD9⟩ := xw_sub2 (wc := (fun (u : Nat → Nat)  => [(k0, .inr (9, [.ref k1, .ref k2, .int (nI ts), .int (nI th), .int s_at, .int s_fault, .int s_next, .int s_amount])), (k1, .inl (ax 1, 400, .inl tb)), (k2, .inl (ax 0, 401, .inl (fun j => nI (tk j))))]) (ixn [sm1]) ) hP hD [0, 1, 2] (by decide) rfl
        have hg8 : H.size ≤ s.heap.size + (0) := by omega
        have hg9 : tsl H ≤ tsl s.heap + (0) := by omega
        have hsp0 : sm1 ≤ 1 := (by first | assumption | omega)
        have hsp1 : rdq (sm1) (wmt (gtb tb) p9 th i9) := (rdv_e h1e (by first | assumption | omega))
        exact W.zret (v := nI sm1) hx hb hr (nI_bool (by first | assumption | omega)) (fun t ht hW => ⟨⟨nI sm1, ixn [sm1], rfl, ⟨rfl, ⟨hsp0, hsp1⟩⟩, ⟨by rw [ht]; exact hg8, by rw [ht]; exact hg9, by rw [ht]; exact hP9, hD9⟩⟩, hS.F ht⟩) hS.2.2 d_Tokens_reads_66
      · replace c_11 : ¬ sm1 = 0 := fun hq9 => c_11 ((nI_eq (a := sm1) (b := 0) (by first | exact Nat.lt_of_lt_of_le (by assumption) (by decide) | exact Nat.lt_of_le_of_lt (by assumption) (by decide) | omega) (by decide)).mpr hq9)
        refine lv_iload hx hb d_Tokens_reads_26 (lv_at hl1 4 rfl) ?_
        refine lv_aload_n hx hb d_Tokens_reads_28 rfl (lv_at hl1 1 rfl) ?_
        obtain ⟨hPc, hDc, hFc, hCs⟩ := xw_sub3 (wc := []) hP hD hS hA [] (by decide) rfl
        have hz := xz_of hN hS
        refine wk_know (fun hk8 hk9 => ?_)
        refine va_calli (va_runV (As := []) (rest := [.int (nI i1)]) ⟨hx, hb, hml, hown, hts⟩ (c_Z_length l D ax ad av fm i9 H.size (tsl H) (by first | assumption | omega)) (xcV (n := 0) hts wd_458 wd_16 wd_455 wd_456 wd_457 rfl rfl (by decide +kernel) ⟨Nat.le_of_ble_eq_true rfl, Nat.le_of_ble_eq_true rfl⟩) (xpK4 (i := i9) (As := []) (by first | assumption | omega) hX hS hFc hPc hK hz hDc) rfl rfl hl1.1 rfl (lv_room (Nat.le_of_ble_eq_true rfl)) d_Tokens_reads_29 ⟨(show (0) + (0) ≤ (0) by omega), (show (0) + (0) ≤ (0) by omega)⟩) hS (fun q _ h => hFc q h) hFc (fun r_14 u_12 t H_13 locs ht hvm hw hB hz1 hk1 hS1 => ?_)
        try dsimp only at hw
        obtain ⟨hw, hs_15⟩ := hw
        subst hw
        obtain ⟨hg8, hg9, hP1, hD1⟩ := hB
        rw [ht] at hg8 hg9 hP1
        have hjn := xw_join3 (wl := [(k0, .inr (9, [.ref k1, .ref k2, .int (nI ts), .int (nI th), .int s_at, .int s_fault, .int s_next, .int s_amount])), (k1, .inl (ax 1, 400, .inl tb)), (k2, .inl (ax 0, 401, .inl (fun j => nI (tk j))))]) hP hD [] [0, 1, 2] hCs (by decide) (by decide) hk1 hFc hP1 hD1 rfl
        clear hP1 hD1
        clear hPc hDc hFc hCs hz hz1 hk1 ht hvm
        clear hP hD hS
        have hS := hS1
        obtain ⟨hP, hD⟩ := hjn
        clear hS1
        refine wk_narrow (k := 0 + (0)) (n := 0 + (0)) (by first | assumption | omega) (by first | assumption | omega) ?_
        clear hk8 hk9 hg8 hg9
        refine lv_icmp_ge (tgt := 65) hx hb d_Tokens_reads_32 (by decide) (fun c_16 => ?_) (fun c_16 => ?_)
        · replace c_16 : u_12 0 ≤ i1 := (nI_leI (a := u_12 0) (b := i1) (by first | exact Nat.lt_of_lt_of_le (by assumption) (by decide) | exact Nat.lt_of_le_of_lt (by assumption) (by decide) | omega) (by first | exact Nat.lt_of_lt_of_le (by assumption) (by decide) | exact Nat.lt_of_le_of_lt (by assumption) (by decide) | omega)).mp c_16
          refine lv_iload_n hx hb d_Tokens_reads_65 rfl (lv_at hl1 3 rfl) ?_
          rw [← hQe]
          refine wk_know (fun hk8 hk9 => ?_)
          refine W.widen (k := 0) (n := 0) (Nat.le_of_ble_eq_true rfl) (Nat.le_of_ble_eq_true rfl) ?_
          obtain ⟨hP9, hD9⟩ := xw_sub2 (wc := (fun (u : Nat → Nat)  => [(k0, .inr (9, [.ref k1, .ref k2, .int (nI ts), .int (nI th), .int s_at, .int s_fault, .int s_next, .int s_amount])), (k1, .inl (ax 1, 400, .inl tb)), (k2, .inl (ax 0, 401, .inl (fun j => nI (tk j))))]) (ixn [sm1]) ) hP hD [0, 1, 2] (by decide) rfl
          have hg8 : H_13.size ≤ s.heap.size + (0) := by omega
          have hg9 : tsl H_13 ≤ tsl s.heap + (0) := by omega
          have hsp0 : sm1 ≤ 1 := (by first | assumption | omega)
          have hsp1 : rdq (sm1) (wmt (gtb tb) p9 th i9) := (rdv_e h1e (by first | assumption | omega))
          exact W.zret (v := nI sm1) hx hb hr (nI_bool (by first | assumption | omega)) (fun t ht hW => ⟨⟨nI sm1, ixn [sm1], rfl, ⟨rfl, ⟨hsp0, hsp1⟩⟩, ⟨by rw [ht]; exact hg8, by rw [ht]; exact hg9, by rw [ht]; exact hP9, hD9⟩⟩, hS.F ht⟩) hS.2.2 d_Tokens_reads_66
        · replace c_16 : ¬ u_12 0 ≤ i1 := fun hq9 => c_16 ((nI_leI (a := u_12 0) (b := i1) (by first | exact Nat.lt_of_lt_of_le (by assumption) (by decide) | exact Nat.lt_of_le_of_lt (by assumption) (by decide) | omega) (by first | exact Nat.lt_of_lt_of_le (by assumption) (by decide) | exact Nat.lt_of_le_of_lt (by assumption) (by decide) | omega)).mpr hq9)
          refine lv_aload_n hx hb d_Tokens_reads_35 rfl (lv_at hl1 0 rfl) ?_
          refine va_get (D := D) (ci := 9) (v := .ref k1) (C := R_Tokens) (T := F_Tokens) (N := 8) hx hb hts i_Tokens hown hK.1 hP 0 rfl rfl 0 (by decide) (hts _ wd_40) (fun _ h9 => h9) rfl d_Tokens_reads_36 ?_
          refine lv_iload_n hx hb d_Tokens_reads_39 rfl (lv_at hl1 2 rfl) ?_
          refine lv_iload hx hb d_Tokens_reads_40 (lv_at hl1 4 rfl) ?_
          refine lv_iadd hx hb d_Tokens_reads_42 ?_
          refine lv_topi (fun z_17 ez_17 => ?_)
          have ez_17 : z_17 = nI (p9 + i1) := ez_17.trans (nI_add p9 i1)
          subst ez_17
          refine va_bald hx hb hK.1 hP 1 1 rfl rfl (vp_in_nI (by first | assumption | omega) (by decide)) d_Tokens_reads_43 ?_
          refine W.eq (g2 := F0 m 44 ls [.int (tb (p9 + i1))]) (by rw [nI_clamp (by first | exact Nat.lt_of_lt_of_le (by assumption) (by decide) | exact Nat.lt_of_le_of_lt (by assumption) (by decide) | omega)]) ?_
          refine lv_aload_n hx hb d_Tokens_reads_44 rfl (lv_at hl1 1 rfl) ?_
          refine lv_iload hx hb d_Tokens_reads_45 (lv_at hl1 4 rfl) ?_
          obtain ⟨hPc, hDc, hFc, hCs⟩ := xw_sub3 (wc := []) hP hD hS hA [] (by decide) rfl
          have hz := xz_of hN hS
          refine wk_know (fun hk8 hk9 => ?_)
          refine va_calli (va_runV (As := [.int (nI i1)]) (rest := [.int (tb (p9 + i1))]) ⟨hx, hb, hml, hown, hts⟩ (c_Z_charAt l D ax ad av fm i9 i1 H_13.size (tsl H_13) (by first | assumption | omega) (by first | assumption | omega)) (xcV (n := 1) hts wd_468 wd_16 wd_465 wd_466 wd_467 rfl rfl (by decide +kernel) ⟨Nat.le_of_ble_eq_true rfl, Nat.le_of_ble_eq_true rfl⟩) (xpK4 (i := i9) (As := [.int (nI i1)]) (by first | assumption | omega) hX hS hFc hPc hK hz hDc) rfl rfl hl1.1 rfl (lv_room (Nat.le_of_ble_eq_true rfl)) d_Tokens_reads_47 ⟨(show (0 + (0)) + (0) ≤ (0) by omega), (show (0 + (0)) + (0) ≤ (0) by omega)⟩) hS (fun q _ h => hFc q h) hFc (fun r_20 u_18 t H_19 locs ht hvm hw hB hz1 hk1 hS1 => ?_)
          try dsimp only at hw
          obtain ⟨hw, hs_21, hs_22⟩ := hw
          subst hw
          obtain ⟨hg8, hg9, hP1, hD1⟩ := hB
          rw [ht] at hg8 hg9 hP1
          have hjn := xw_join3 (wl := [(k0, .inr (9, [.ref k1, .ref k2, .int (nI ts), .int (nI th), .int s_at, .int s_fault, .int s_next, .int s_amount])), (k1, .inl (ax 1, 400, .inl tb)), (k2, .inl (ax 0, 401, .inl (fun j => nI (tk j))))]) hP hD [] [0, 1, 2] hCs (by decide) (by decide) hk1 hFc hP1 hD1 rfl
          clear hP1 hD1
          clear hPc hDc hFc hCs hz hz1 hk1 ht hvm
          clear hP hD hS
          have hS := hS1
          obtain ⟨hP, hD⟩ := hjn
          clear hS1
          refine wk_narrow (k := 0 + (0) + (0)) (n := 0 + (0) + (0)) (by first | assumption | omega) (by first | assumption | omega) ?_
          clear hk8 hk9 hg8 hg9
          refine lv_icmp_ne (tgt := 57) hx hb d_Tokens_reads_50 (by decide) (fun c_23 => ?_) (fun c_23 => ?_)
          · refine lv_iconst (v := 0) hx hb d_Tokens_reads_57 (by decide) ?_
            refine lv_istore_n (lv' := [(3, .int 0), (0, .ref k0), (1, .ref (ad i9)), (2, .int (nI p9)), (4, .int (nI i1))]) hx hb d_Tokens_reads_58 rfl hl1 (by decide) rfl (fun ls hl2 => ?_)
            clear hl1; have hl1 := hl2; clear hl2
            refine lv_iinc (v := nI (i1 + 1)) (lv' := [(4, .int (nI (i1 + 1))), (3, .int 0), (0, .ref k0), (1, .ref (ad i9)), (2, .int (nI p9))]) hx hb d_Tokens_reads_59 hl1 (k := 4) rfl (nI_add i1 1) (by decide) rfl (fun ls hl2 => ?_)
            clear hl1; have hl1 := hl2; clear hl2
            refine lv_goto (tgt := 22) hx hb d_Tokens_reads_62 (by decide) ?_
            exact ih_9 0 (i1 + 1) (by first | assumption | omega) (by first | assumption | omega) (by first | assumption | omega) (by first | assumption | omega) (rdv_n hi9 (by first | assumption | omega) hbt (by first | assumption | omega) hs_22 (by assumption)) _ _ _ (hP.sub [0, 1, 2] rfl) (hD.sub [0, 1, 2] (by decide) rfl) hS (lv_sub hl1 [2, 3, 4, 1, 0] rfl)
          · refine lv_iconst (v := 1) hx hb d_Tokens_reads_53 (by decide) ?_
            refine lv_goto (tgt := 58) hx hb d_Tokens_reads_54 (by decide) ?_
            refine lv_istore_n (lv' := [(3, .int 1), (0, .ref k0), (1, .ref (ad i9)), (2, .int (nI p9)), (4, .int (nI i1))]) hx hb d_Tokens_reads_58 rfl hl1 (by decide) rfl (fun ls hl2 => ?_)
            clear hl1; have hl1 := hl2; clear hl2
            refine lv_iinc (v := nI (i1 + 1)) (lv' := [(4, .int (nI (i1 + 1))), (3, .int 1), (0, .ref k0), (1, .ref (ad i9)), (2, .int (nI p9))]) hx hb d_Tokens_reads_59 hl1 (k := 4) rfl (nI_add i1 1) (by decide) rfl (fun ls hl2 => ?_)
            clear hl1; have hl1 := hl2; clear hl2
            refine lv_goto (tgt := 22) hx hb d_Tokens_reads_62 (by decide) ?_
            exact ih_9 1 (i1 + 1) (by first | assumption | omega) (by first | assumption | omega) (by first | assumption | omega) (by first | assumption | omega) (rdv_y hi9 h1e (by first | assumption | omega) (by first | assumption | omega) hs_22 (by assumption)) _ _ _ (hP.sub [0, 1, 2] rfl) (hD.sub [0, 1, 2] (by decide) rfl) hS (lv_sub hl1 [2, 3, 4, 1, 0] rfl)
  · replace c_6 : u_1 0 = th - p9 := (nI_eq (a := u_1 0) (b := th - p9) (by first | exact Nat.lt_of_lt_of_le (by assumption) (by decide) | exact Nat.lt_of_le_of_lt (by assumption) (by decide) | omega) (by first | exact Nat.lt_of_lt_of_le (by assumption) (by decide) | exact Nat.lt_of_le_of_lt (by assumption) (by decide) | omega)).mp c_6
    refine lv_iconst (v := 1) hx hb d_Tokens_reads_13 (by decide) ?_
    refine lv_goto (tgt := 18) hx hb d_Tokens_reads_14 (by decide) ?_
    refine lv_istore_n (lv' := [(3, .int 1), (0, .ref k0), (1, .ref (ad i9)), (2, .int (nI p9))]) hx hb d_Tokens_reads_18 rfl hl1 (by decide) rfl (fun ls hl2 => ?_)
    clear hl1; have hl1 := hl2; clear hl2
    refine lv_iconst (v := 0) hx hb d_Tokens_reads_19 (by decide) ?_
    refine lv_istore (lv' := [(4, .int 0), (3, .int 1), (0, .ref k0), (1, .ref (ad i9)), (2, .int (nI p9))]) hx hb d_Tokens_reads_20 hl1 (by decide) rfl (fun ls hl2 => ?_)
    clear hl1; have hl1 := hl2; clear hl2
    suffices key_24 : ∀ (k : Nat) (sm1 i1 : Nat), 7 - i1 < k → sm1 ≤ 1 → i1 ≤ 6 → (sm1 = 0 ∨ th = p9 + xsl.getD i9 0) → rdv (gtb tb) p9 th i9 i1 sm1 → ∀ (H : Heap) (locs : List Loc) (ls : Array Slot), va_P D classes [(k0, .inr (9, [.ref k1, .ref k2, .int (nI ts), .int (nI th), .int s_at, .int s_fault, .int s_next, .int s_amount])), (k1, .inl (ax 1, 400, .inl tb)), (k2, .inl (ax 0, 401, .inl (fun j => nI (tk j))))] H → va_D A [(k0, .inr (9, [.ref k1, .ref k2, .int (nI ts), .int (nI th), .int s_at, .int s_fault, .int s_next, .int s_amount])), (k1, .inl (ax 1, 400, .inl tb)), (k2, .inl (ax 0, 401, .inl (fun j => nI (tk j))))] → va_S A s.heap H locs → lv_has ls 5 [(0, .ref k0), (1, .ref (ad i9)), (2, .int (nI p9)), (3, .int (nI sm1)), (4, .int (nI i1))] → W p l e (headSpec (xws (.code y_Tokens_reads b_Tokens_reads 5 (some .boolean))) ({ frames := 50, cells := 0, slots := 0, locals := 2000 })).room s m ([.ref k0, .ref (ad i9), .int (nI p9)] : List Value).toArray below meth c H locs (0) (0) Z9 (F0 m 22 ls []) from key_24 (7 - 0 + 1) 1 0 (Nat.lt_succ_self _) (by first | assumption | omega) (by first | assumption | omega) (by first | assumption | omega) (rdv_i (by first | assumption | omega)) _ _ _ (hP) (hD) hS (lv_sub hl1 [2, 3, 4, 1, 0] rfl)
    intro k_25
    induction k_25 with
    | zero =>
      intro sm1 i1 hk_27
      exact absurd hk_27 (Nat.not_lt_zero _)
    | succ k_25 ih_26 =>
      clear hP hD hS hl1
      intro sm1 i1 hk_27 h1a h1b h1c h1e H locs ls hP hD hS hl1
      refine lv_iload_n hx hb d_Tokens_reads_22 rfl (lv_at hl1 3 rfl) ?_
      refine lv_if_eq (tgt := 65) hx hb d_Tokens_reads_23 (by decide) (fun c_28 => ?_) (fun c_28 => ?_)
      · replace c_28 : sm1 = 0 := (nI_eq (a := sm1) (b := 0) (by first | exact Nat.lt_of_lt_of_le (by assumption) (by decide) | exact Nat.lt_of_le_of_lt (by assumption) (by decide) | omega) (by decide)).mp c_28
        refine lv_iload_n hx hb d_Tokens_reads_65 rfl (lv_at hl1 3 rfl) ?_
        rw [← hQe]
        refine wk_know (fun hk8 hk9 => ?_)
        refine W.widen (k := 0) (n := 0) (Nat.le_of_ble_eq_true rfl) (Nat.le_of_ble_eq_true rfl) ?_
        obtain ⟨hP9, hD9⟩ := xw_sub2 (wc := (fun (u : Nat → Nat)  => [(k0, .inr (9, [.ref k1, .ref k2, .int (nI ts), .int (nI th), .int s_at, .int s_fault, .int s_next, .int s_amount])), (k1, .inl (ax 1, 400, .inl tb)), (k2, .inl (ax 0, 401, .inl (fun j => nI (tk j))))]) (ixn [sm1]) ) hP hD [0, 1, 2] (by decide) rfl
        have hg8 : H.size ≤ s.heap.size + (0) := by omega
        have hg9 : tsl H ≤ tsl s.heap + (0) := by omega
        have hsp0 : sm1 ≤ 1 := (by first | assumption | omega)
        have hsp1 : rdq (sm1) (wmt (gtb tb) p9 th i9) := (rdv_e h1e (by first | assumption | omega))
        exact W.zret (v := nI sm1) hx hb hr (nI_bool (by first | assumption | omega)) (fun t ht hW => ⟨⟨nI sm1, ixn [sm1], rfl, ⟨rfl, ⟨hsp0, hsp1⟩⟩, ⟨by rw [ht]; exact hg8, by rw [ht]; exact hg9, by rw [ht]; exact hP9, hD9⟩⟩, hS.F ht⟩) hS.2.2 d_Tokens_reads_66
      · replace c_28 : ¬ sm1 = 0 := fun hq9 => c_28 ((nI_eq (a := sm1) (b := 0) (by first | exact Nat.lt_of_lt_of_le (by assumption) (by decide) | exact Nat.lt_of_le_of_lt (by assumption) (by decide) | omega) (by decide)).mpr hq9)
        refine lv_iload hx hb d_Tokens_reads_26 (lv_at hl1 4 rfl) ?_
        refine lv_aload_n hx hb d_Tokens_reads_28 rfl (lv_at hl1 1 rfl) ?_
        obtain ⟨hPc, hDc, hFc, hCs⟩ := xw_sub3 (wc := []) hP hD hS hA [] (by decide) rfl
        have hz := xz_of hN hS
        refine wk_know (fun hk8 hk9 => ?_)
        refine va_calli (va_runV (As := []) (rest := [.int (nI i1)]) ⟨hx, hb, hml, hown, hts⟩ (c_Z_length l D ax ad av fm i9 H.size (tsl H) (by first | assumption | omega)) (xcV (n := 0) hts wd_458 wd_16 wd_455 wd_456 wd_457 rfl rfl (by decide +kernel) ⟨Nat.le_of_ble_eq_true rfl, Nat.le_of_ble_eq_true rfl⟩) (xpK4 (i := i9) (As := []) (by first | assumption | omega) hX hS hFc hPc hK hz hDc) rfl rfl hl1.1 rfl (lv_room (Nat.le_of_ble_eq_true rfl)) d_Tokens_reads_29 ⟨(show (0) + (0) ≤ (0) by omega), (show (0) + (0) ≤ (0) by omega)⟩) hS (fun q _ h => hFc q h) hFc (fun r_31 u_29 t H_30 locs ht hvm hw hB hz1 hk1 hS1 => ?_)
        try dsimp only at hw
        obtain ⟨hw, hs_32⟩ := hw
        subst hw
        obtain ⟨hg8, hg9, hP1, hD1⟩ := hB
        rw [ht] at hg8 hg9 hP1
        have hjn := xw_join3 (wl := [(k0, .inr (9, [.ref k1, .ref k2, .int (nI ts), .int (nI th), .int s_at, .int s_fault, .int s_next, .int s_amount])), (k1, .inl (ax 1, 400, .inl tb)), (k2, .inl (ax 0, 401, .inl (fun j => nI (tk j))))]) hP hD [] [0, 1, 2] hCs (by decide) (by decide) hk1 hFc hP1 hD1 rfl
        clear hP1 hD1
        clear hPc hDc hFc hCs hz hz1 hk1 ht hvm
        clear hP hD hS
        have hS := hS1
        obtain ⟨hP, hD⟩ := hjn
        clear hS1
        refine wk_narrow (k := 0 + (0)) (n := 0 + (0)) (by first | assumption | omega) (by first | assumption | omega) ?_
        clear hk8 hk9 hg8 hg9
        refine lv_icmp_ge (tgt := 65) hx hb d_Tokens_reads_32 (by decide) (fun c_33 => ?_) (fun c_33 => ?_)
        · replace c_33 : u_29 0 ≤ i1 := (nI_leI (a := u_29 0) (b := i1) (by first | exact Nat.lt_of_lt_of_le (by assumption) (by decide) | exact Nat.lt_of_le_of_lt (by assumption) (by decide) | omega) (by first | exact Nat.lt_of_lt_of_le (by assumption) (by decide) | exact Nat.lt_of_le_of_lt (by assumption) (by decide) | omega)).mp c_33
          refine lv_iload_n hx hb d_Tokens_reads_65 rfl (lv_at hl1 3 rfl) ?_
          rw [← hQe]
          refine wk_know (fun hk8 hk9 => ?_)
          refine W.widen (k := 0) (n := 0) (Nat.le_of_ble_eq_true rfl) (Nat.le_of_ble_eq_true rfl) ?_
          obtain ⟨hP9, hD9⟩ := xw_sub2 (wc := (fun (u : Nat → Nat)  => [(k0, .inr (9, [.ref k1, .ref k2, .int (nI ts), .int (nI th), .int s_at, .int s_fault, .int s_next, .int s_amount])), (k1, .inl (ax 1, 400, .inl tb)), (k2, .inl (ax 0, 401, .inl (fun j => nI (tk j))))]) (ixn [sm1]) ) hP hD [0, 1, 2] (by decide) rfl
          have hg8 : H_30.size ≤ s.heap.size + (0) := by omega
          have hg9 : tsl H_30 ≤ tsl s.heap + (0) := by omega
          have hsp0 : sm1 ≤ 1 := (by first | assumption | omega)
          have hsp1 : rdq (sm1) (wmt (gtb tb) p9 th i9) := (rdv_e h1e (by first | assumption | omega))
          exact W.zret (v := nI sm1) hx hb hr (nI_bool (by first | assumption | omega)) (fun t ht hW => ⟨⟨nI sm1, ixn [sm1], rfl, ⟨rfl, ⟨hsp0, hsp1⟩⟩, ⟨by rw [ht]; exact hg8, by rw [ht]; exact hg9, by rw [ht]; exact hP9, hD9⟩⟩, hS.F ht⟩) hS.2.2 d_Tokens_reads_66
        · replace c_33 : ¬ u_29 0 ≤ i1 := fun hq9 => c_33 ((nI_leI (a := u_29 0) (b := i1) (by first | exact Nat.lt_of_lt_of_le (by assumption) (by decide) | exact Nat.lt_of_le_of_lt (by assumption) (by decide) | omega) (by first | exact Nat.lt_of_lt_of_le (by assumption) (by decide) | exact Nat.lt_of_le_of_lt (by assumption) (by decide) | omega)).mpr hq9)
          refine lv_aload_n hx hb d_Tokens_reads_35 rfl (lv_at hl1 0 rfl) ?_
          refine va_get (D := D) (ci := 9) (v := .ref k1) (C := R_Tokens) (T := F_Tokens) (N := 8) hx hb hts i_Tokens hown hK.1 hP 0 rfl rfl 0 (by decide) (hts _ wd_40) (fun _ h9 => h9) rfl d_Tokens_reads_36 ?_
          refine lv_iload_n hx hb d_Tokens_reads_39 rfl (lv_at hl1 2 rfl) ?_
          refine lv_iload hx hb d_Tokens_reads_40 (lv_at hl1 4 rfl) ?_
          refine lv_iadd hx hb d_Tokens_reads_42 ?_
          refine lv_topi (fun z_34 ez_34 => ?_)
          have ez_34 : z_34 = nI (p9 + i1) := ez_34.trans (nI_add p9 i1)
          subst ez_34
          refine va_bald hx hb hK.1 hP 1 1 rfl rfl (vp_in_nI (by first | assumption | omega) (by decide)) d_Tokens_reads_43 ?_
          refine W.eq (g2 := F0 m 44 ls [.int (tb (p9 + i1))]) (by rw [nI_clamp (by first | exact Nat.lt_of_lt_of_le (by assumption) (by decide) | exact Nat.lt_of_le_of_lt (by assumption) (by decide) | omega)]) ?_
          refine lv_aload_n hx hb d_Tokens_reads_44 rfl (lv_at hl1 1 rfl) ?_
          refine lv_iload hx hb d_Tokens_reads_45 (lv_at hl1 4 rfl) ?_
          obtain ⟨hPc, hDc, hFc, hCs⟩ := xw_sub3 (wc := []) hP hD hS hA [] (by decide) rfl
          have hz := xz_of hN hS
          refine wk_know (fun hk8 hk9 => ?_)
          refine va_calli (va_runV (As := [.int (nI i1)]) (rest := [.int (tb (p9 + i1))]) ⟨hx, hb, hml, hown, hts⟩ (c_Z_charAt l D ax ad av fm i9 i1 H_30.size (tsl H_30) (by first | assumption | omega) (by first | assumption | omega)) (xcV (n := 1) hts wd_468 wd_16 wd_465 wd_466 wd_467 rfl rfl (by decide +kernel) ⟨Nat.le_of_ble_eq_true rfl, Nat.le_of_ble_eq_true rfl⟩) (xpK4 (i := i9) (As := [.int (nI i1)]) (by first | assumption | omega) hX hS hFc hPc hK hz hDc) rfl rfl hl1.1 rfl (lv_room (Nat.le_of_ble_eq_true rfl)) d_Tokens_reads_47 ⟨(show (0 + (0)) + (0) ≤ (0) by omega), (show (0 + (0)) + (0) ≤ (0) by omega)⟩) hS (fun q _ h => hFc q h) hFc (fun r_37 u_35 t H_36 locs ht hvm hw hB hz1 hk1 hS1 => ?_)
          try dsimp only at hw
          obtain ⟨hw, hs_38, hs_39⟩ := hw
          subst hw
          obtain ⟨hg8, hg9, hP1, hD1⟩ := hB
          rw [ht] at hg8 hg9 hP1
          have hjn := xw_join3 (wl := [(k0, .inr (9, [.ref k1, .ref k2, .int (nI ts), .int (nI th), .int s_at, .int s_fault, .int s_next, .int s_amount])), (k1, .inl (ax 1, 400, .inl tb)), (k2, .inl (ax 0, 401, .inl (fun j => nI (tk j))))]) hP hD [] [0, 1, 2] hCs (by decide) (by decide) hk1 hFc hP1 hD1 rfl
          clear hP1 hD1
          clear hPc hDc hFc hCs hz hz1 hk1 ht hvm
          clear hP hD hS
          have hS := hS1
          obtain ⟨hP, hD⟩ := hjn
          clear hS1
          refine wk_narrow (k := 0 + (0) + (0)) (n := 0 + (0) + (0)) (by first | assumption | omega) (by first | assumption | omega) ?_
          clear hk8 hk9 hg8 hg9
          refine lv_icmp_ne (tgt := 57) hx hb d_Tokens_reads_50 (by decide) (fun c_40 => ?_) (fun c_40 => ?_)
          · refine lv_iconst (v := 0) hx hb d_Tokens_reads_57 (by decide) ?_
            refine lv_istore_n (lv' := [(3, .int 0), (0, .ref k0), (1, .ref (ad i9)), (2, .int (nI p9)), (4, .int (nI i1))]) hx hb d_Tokens_reads_58 rfl hl1 (by decide) rfl (fun ls hl2 => ?_)
            clear hl1; have hl1 := hl2; clear hl2
            refine lv_iinc (v := nI (i1 + 1)) (lv' := [(4, .int (nI (i1 + 1))), (3, .int 0), (0, .ref k0), (1, .ref (ad i9)), (2, .int (nI p9))]) hx hb d_Tokens_reads_59 hl1 (k := 4) rfl (nI_add i1 1) (by decide) rfl (fun ls hl2 => ?_)
            clear hl1; have hl1 := hl2; clear hl2
            refine lv_goto (tgt := 22) hx hb d_Tokens_reads_62 (by decide) ?_
            exact ih_26 0 (i1 + 1) (by first | assumption | omega) (by first | assumption | omega) (by first | assumption | omega) (by first | assumption | omega) (rdv_n hi9 (by first | assumption | omega) hbt (by first | assumption | omega) hs_39 (by assumption)) _ _ _ (hP.sub [0, 1, 2] rfl) (hD.sub [0, 1, 2] (by decide) rfl) hS (lv_sub hl1 [2, 3, 4, 1, 0] rfl)
          · refine lv_iconst (v := 1) hx hb d_Tokens_reads_53 (by decide) ?_
            refine lv_goto (tgt := 58) hx hb d_Tokens_reads_54 (by decide) ?_
            refine lv_istore_n (lv' := [(3, .int 1), (0, .ref k0), (1, .ref (ad i9)), (2, .int (nI p9)), (4, .int (nI i1))]) hx hb d_Tokens_reads_58 rfl hl1 (by decide) rfl (fun ls hl2 => ?_)
            clear hl1; have hl1 := hl2; clear hl2
            refine lv_iinc (v := nI (i1 + 1)) (lv' := [(4, .int (nI (i1 + 1))), (3, .int 1), (0, .ref k0), (1, .ref (ad i9)), (2, .int (nI p9))]) hx hb d_Tokens_reads_59 hl1 (k := 4) rfl (nI_add i1 1) (by decide) rfl (fun ls hl2 => ?_)
            clear hl1; have hl1 := hl2; clear hl2
            refine lv_goto (tgt := 22) hx hb d_Tokens_reads_62 (by decide) ?_
            exact ih_26 1 (i1 + 1) (by first | assumption | omega) (by first | assumption | omega) (by first | assumption | omega) (by first | assumption | omega) (rdv_y hi9 h1e (by first | assumption | omega) (by first | assumption | omega) hs_39 (by assumption)) _ _ _ (hP.sub [0, 1, 2] rfl) (hD.sub [0, 1, 2] (by decide) rfl) hS (lv_sub hl1 [2, 3, 4, 1, 0] rfl)
