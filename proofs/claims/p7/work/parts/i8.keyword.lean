theorem ps_3 : Cond.selects "TripleDesk$Tokens" ⟨"TripleDesk$Tokens", "reads", "(Ljava/lang/String;I)Z"⟩ ⟨"TripleDesk$Tokens", "reads", "(Ljava/lang/String;I)Z"⟩ ∈ lw_gd := ps_in (q := (⟨"TripleDesk$Tokens", "reads", "(Ljava/lang/String;I)Z"⟩, 8)) (i := 3) (by decide +kernel)
theorem wd_451 : ((Jvm.Cond.methodLink "TripleDesk$Tokens" (70 : Nat) ({ cls := "TripleDesk$Tokens", name := "reads", desc := "(Ljava/lang/String;I)Z" } : Jvm.MethodName))) ∈ lw_gd := lw_gd_in (i := 451) (by decide +kernel) rfl
theorem wd_453 : ((Jvm.Cond.instanceMethod ({ cls := "TripleDesk$Tokens", name := "reads", desc := "(Ljava/lang/String;I)Z" } : Jvm.MethodName))) ∈ lw_gd := lw_gd_in (i := 453) (by decide +kernel) rfl
theorem wd_454 : ((Jvm.Cond.code ({ cls := "TripleDesk$Tokens", name := "reads", desc := "(Ljava/lang/String;I)Z" } : Jvm.MethodName) prog_11_method_11_code (5 : Nat) (Option.some Jvm.ClassFile.FieldType.boolean))) ∈ lw_gd := lw_gd_in (i := 454) (by decide +kernel) rfl
abbrev b_Tokens_keyword : ByteArray := prog_11_method_10_code
def y_Tokens_keyword : MethodName := ⟨R_Tokens, "keyword", "(I)I"⟩
theorem d_Tokens_keyword_0 : decode b_Tokens_keyword 0 = .ok (.aload_n 0, 1) := by decide +kernel
theorem d_Tokens_keyword_1 : decode b_Tokens_keyword 1 = .ok (.ldc 68, 2) := by decide +kernel
theorem d_Tokens_keyword_3 : decode b_Tokens_keyword 3 = .ok (.iload_n 1, 1) := by decide +kernel
theorem d_Tokens_keyword_4 : decode b_Tokens_keyword 4 = .ok (.invokevirtual 70, 3) := by decide +kernel
theorem d_Tokens_keyword_7 : decode b_Tokens_keyword 7 = .ok (.ifCond .eq 6, 3) := by decide +kernel
theorem d_Tokens_keyword_10 : decode b_Tokens_keyword 10 = .ok (.bipush 7, 2) := by decide +kernel
theorem d_Tokens_keyword_12 : decode b_Tokens_keyword 12 = .ok (.ireturn, 1) := by decide +kernel
theorem d_Tokens_keyword_13 : decode b_Tokens_keyword 13 = .ok (.aload_n 0, 1) := by decide +kernel
theorem d_Tokens_keyword_14 : decode b_Tokens_keyword 14 = .ok (.ldc 74, 2) := by decide +kernel
theorem d_Tokens_keyword_16 : decode b_Tokens_keyword 16 = .ok (.iload_n 1, 1) := by decide +kernel
theorem d_Tokens_keyword_17 : decode b_Tokens_keyword 17 = .ok (.invokevirtual 70, 3) := by decide +kernel
theorem d_Tokens_keyword_20 : decode b_Tokens_keyword 20 = .ok (.ifCond .eq 6, 3) := by decide +kernel
theorem d_Tokens_keyword_23 : decode b_Tokens_keyword 23 = .ok (.bipush 8, 2) := by decide +kernel
theorem d_Tokens_keyword_25 : decode b_Tokens_keyword 25 = .ok (.ireturn, 1) := by decide +kernel
theorem d_Tokens_keyword_26 : decode b_Tokens_keyword 26 = .ok (.aload_n 0, 1) := by decide +kernel
theorem d_Tokens_keyword_27 : decode b_Tokens_keyword 27 = .ok (.ldc 76, 2) := by decide +kernel
theorem d_Tokens_keyword_29 : decode b_Tokens_keyword 29 = .ok (.iload_n 1, 1) := by decide +kernel
theorem d_Tokens_keyword_30 : decode b_Tokens_keyword 30 = .ok (.invokevirtual 70, 3) := by decide +kernel
theorem d_Tokens_keyword_33 : decode b_Tokens_keyword 33 = .ok (.ifCond .eq 6, 3) := by decide +kernel
theorem d_Tokens_keyword_36 : decode b_Tokens_keyword 36 = .ok (.bipush 9, 2) := by decide +kernel
theorem d_Tokens_keyword_38 : decode b_Tokens_keyword 38 = .ok (.ireturn, 1) := by decide +kernel
theorem d_Tokens_keyword_39 : decode b_Tokens_keyword 39 = .ok (.aload_n 0, 1) := by decide +kernel
theorem d_Tokens_keyword_40 : decode b_Tokens_keyword 40 = .ok (.ldc 78, 2) := by decide +kernel
theorem d_Tokens_keyword_42 : decode b_Tokens_keyword 42 = .ok (.iload_n 1, 1) := by decide +kernel
theorem d_Tokens_keyword_43 : decode b_Tokens_keyword 43 = .ok (.invokevirtual 70, 3) := by decide +kernel
theorem d_Tokens_keyword_46 : decode b_Tokens_keyword 46 = .ok (.ifCond .eq 6, 3) := by decide +kernel
theorem d_Tokens_keyword_49 : decode b_Tokens_keyword 49 = .ok (.bipush 10, 2) := by decide +kernel
theorem d_Tokens_keyword_51 : decode b_Tokens_keyword 51 = .ok (.ireturn, 1) := by decide +kernel
theorem d_Tokens_keyword_52 : decode b_Tokens_keyword 52 = .ok (.aload_n 0, 1) := by decide +kernel
theorem d_Tokens_keyword_53 : decode b_Tokens_keyword 53 = .ok (.ldc 80, 2) := by decide +kernel
theorem d_Tokens_keyword_55 : decode b_Tokens_keyword 55 = .ok (.iload_n 1, 1) := by decide +kernel
theorem d_Tokens_keyword_56 : decode b_Tokens_keyword 56 = .ok (.invokevirtual 70, 3) := by decide +kernel
theorem d_Tokens_keyword_59 : decode b_Tokens_keyword 59 = .ok (.ifCond .eq 6, 3) := by decide +kernel
theorem d_Tokens_keyword_62 : decode b_Tokens_keyword 62 = .ok (.bipush 11, 2) := by decide +kernel
theorem d_Tokens_keyword_64 : decode b_Tokens_keyword 64 = .ok (.ireturn, 1) := by decide +kernel
theorem d_Tokens_keyword_65 : decode b_Tokens_keyword 65 = .ok (.aload_n 0, 1) := by decide +kernel
theorem d_Tokens_keyword_66 : decode b_Tokens_keyword 66 = .ok (.ldc 82, 2) := by decide +kernel
theorem d_Tokens_keyword_68 : decode b_Tokens_keyword 68 = .ok (.iload_n 1, 1) := by decide +kernel
theorem d_Tokens_keyword_69 : decode b_Tokens_keyword 69 = .ok (.invokevirtual 70, 3) := by decide +kernel
theorem d_Tokens_keyword_72 : decode b_Tokens_keyword 72 = .ok (.ifCond .eq 6, 3) := by decide +kernel
theorem d_Tokens_keyword_75 : decode b_Tokens_keyword 75 = .ok (.bipush 12, 2) := by decide +kernel
theorem d_Tokens_keyword_77 : decode b_Tokens_keyword 77 = .ok (.ireturn, 1) := by decide +kernel
theorem d_Tokens_keyword_78 : decode b_Tokens_keyword 78 = .ok (.aload_n 0, 1) := by decide +kernel
theorem d_Tokens_keyword_79 : decode b_Tokens_keyword 79 = .ok (.ldc 84, 2) := by decide +kernel
theorem d_Tokens_keyword_81 : decode b_Tokens_keyword 81 = .ok (.iload_n 1, 1) := by decide +kernel
theorem d_Tokens_keyword_82 : decode b_Tokens_keyword 82 = .ok (.invokevirtual 70, 3) := by decide +kernel
theorem d_Tokens_keyword_85 : decode b_Tokens_keyword 85 = .ok (.ifCond .eq 6, 3) := by decide +kernel
theorem d_Tokens_keyword_88 : decode b_Tokens_keyword 88 = .ok (.bipush 13, 2) := by decide +kernel
theorem d_Tokens_keyword_90 : decode b_Tokens_keyword 90 = .ok (.ireturn, 1) := by decide +kernel
theorem d_Tokens_keyword_91 : decode b_Tokens_keyword 91 = .ok (.aload_n 0, 1) := by decide +kernel
theorem d_Tokens_keyword_92 : decode b_Tokens_keyword 92 = .ok (.ldc 86, 2) := by decide +kernel
theorem d_Tokens_keyword_94 : decode b_Tokens_keyword 94 = .ok (.iload_n 1, 1) := by decide +kernel
theorem d_Tokens_keyword_95 : decode b_Tokens_keyword 95 = .ok (.invokevirtual 70, 3) := by decide +kernel
theorem d_Tokens_keyword_98 : decode b_Tokens_keyword 98 = .ok (.ifCond .eq 6, 3) := by decide +kernel
theorem d_Tokens_keyword_101 : decode b_Tokens_keyword 101 = .ok (.bipush 14, 2) := by decide +kernel
theorem d_Tokens_keyword_103 : decode b_Tokens_keyword 103 = .ok (.ireturn, 1) := by decide +kernel
theorem d_Tokens_keyword_104 : decode b_Tokens_keyword 104 = .ok (.aload_n 0, 1) := by decide +kernel
theorem d_Tokens_keyword_105 : decode b_Tokens_keyword 105 = .ok (.ldc 88, 2) := by decide +kernel
theorem d_Tokens_keyword_107 : decode b_Tokens_keyword 107 = .ok (.iload_n 1, 1) := by decide +kernel
theorem d_Tokens_keyword_108 : decode b_Tokens_keyword 108 = .ok (.invokevirtual 70, 3) := by decide +kernel
theorem d_Tokens_keyword_111 : decode b_Tokens_keyword 111 = .ok (.ifCond .eq 6, 3) := by decide +kernel
theorem d_Tokens_keyword_114 : decode b_Tokens_keyword 114 = .ok (.bipush 15, 2) := by decide +kernel
theorem d_Tokens_keyword_116 : decode b_Tokens_keyword 116 = .ok (.ireturn, 1) := by decide +kernel
theorem d_Tokens_keyword_117 : decode b_Tokens_keyword 117 = .ok (.aload_n 0, 1) := by decide +kernel
theorem d_Tokens_keyword_118 : decode b_Tokens_keyword 118 = .ok (.ldc 90, 2) := by decide +kernel
theorem d_Tokens_keyword_120 : decode b_Tokens_keyword 120 = .ok (.iload_n 1, 1) := by decide +kernel
theorem d_Tokens_keyword_121 : decode b_Tokens_keyword 121 = .ok (.invokevirtual 70, 3) := by decide +kernel
theorem d_Tokens_keyword_124 : decode b_Tokens_keyword 124 = .ok (.ifCond .eq 6, 3) := by decide +kernel
theorem d_Tokens_keyword_127 : decode b_Tokens_keyword 127 = .ok (.bipush 16, 2) := by decide +kernel
theorem d_Tokens_keyword_129 : decode b_Tokens_keyword 129 = .ok (.ireturn, 1) := by decide +kernel
theorem d_Tokens_keyword_130 : decode b_Tokens_keyword 130 = .ok (.aload_n 0, 1) := by decide +kernel
theorem d_Tokens_keyword_131 : decode b_Tokens_keyword 131 = .ok (.ldc 92, 2) := by decide +kernel
theorem d_Tokens_keyword_133 : decode b_Tokens_keyword 133 = .ok (.iload_n 1, 1) := by decide +kernel
theorem d_Tokens_keyword_134 : decode b_Tokens_keyword 134 = .ok (.invokevirtual 70, 3) := by decide +kernel
theorem d_Tokens_keyword_137 : decode b_Tokens_keyword 137 = .ok (.ifCond .eq 8, 3) := by decide +kernel
theorem d_Tokens_keyword_140 : decode b_Tokens_keyword 140 = .ok (.bipush 17, 2) := by decide +kernel
theorem d_Tokens_keyword_142 : decode b_Tokens_keyword 142 = .ok (.goto 4, 3) := by decide +kernel
theorem d_Tokens_keyword_145 : decode b_Tokens_keyword 145 = .ok (.iconst 1, 1) := by decide +kernel
theorem d_Tokens_keyword_146 : decode b_Tokens_keyword 146 = .ok (.ireturn, 1) := by decide +kernel
set_option maxHeartbeats 40000000 in
set_option maxRecDepth 100000 in
theorem c_T_keyword (l : Launch) (D : va_G) (ax : Nat → ClassId) (ad av : Nat → Nat) (fm : Nat) (k0 k1 k2 ts th : Nat) (s_at s_fault s_next s_amount : Int32) (tb : Nat → Int32) (tk : Nat → Nat) (p9 : Nat) (sz tz : Nat) (hts : ts ≤ 400) (hth : th ≤ ts) (hp9 : p9 ≤ th) (hbt : bts tb 400) (hpt : p9 < th) (hlt : ∀ j, p9 ≤ j → j < th → 97 ≤ gtb tb j ∧ gtb tb j ≤ 122) : Met l y_Tokens_keyword (xws (.code y_Tokens_keyword b_Tokens_keyword 2 (some .int))) ({ frames := 60, cells := 0, slots := 0, locals := 2400 }) (va_Pc [.ref k0, .int (nI p9)] (xo4 D ax ad av fm [(k0, .inr (9, [.ref k1, .ref k2, .int (nI ts), .int (nI th), .int s_at, .int s_fault, .int s_next, .int s_amount])), (k1, .inl (ax 1, 400, .inl tb)), (k2, .inl (ax 0, 401, .inl (fun j => nI (tk j))))] sz tz)) ((va_Qi (fun (r : Int32) (u : Nat → Nat) => r = nI (u 0) ∧ (u 0 ≤ 17 ∧ u 0 ≠ 0 ∧ u 0 ≠ 2 ∧ u 0 ≠ 3 ∧ u 0 ≠ 5 ∧ u 0 = kwS (gtb tb) p9 th)) (fun (u : Nat → Nat) (t9 : State) => (t9.heap.size ≤ sz + (0)) ∧ (tsl t9.heap ≤ tz + (0)) ∧ va_P D classes [(k0, .inr (9, [.ref k1, .ref k2, .int (nI ts), .int (nI th), .int s_at, .int s_fault, .int s_next, .int s_amount])), (k1, .inl (ax 1, 400, .inl tb)), (k2, .inl (ax 0, 401, .inl (fun j => nI (tk j))))] t9.heap ∧ va_D (va_A [(k0, .inr (9, [.ref k1, .ref k2, .int (nI ts), .int (nI th), .int s_at, .int s_fault, .int s_next, .int s_amount])), (k1, .inl (ax 1, 400, .inl tb)), (k2, .inl (ax 0, 401, .inl (fun j => nI (tk j))))] sz) [(k0, .inr (9, [.ref k1, .ref k2, .int (nI ts), .int (nI th), .int s_at, .int s_fault, .int s_next, .int s_amount])), (k1, .inl (ax 1, 400, .inl tb)), (k2, .inl (ax 0, 401, .inl (fun j => nI (tk j))))]) (va_A [(k0, .inr (9, [.ref k1, .ref k2, .int (nI ts), .int (nI th), .int s_at, .int s_fault, .int s_next, .int s_amount])), (k1, .inl (ax 1, 400, .inl tb)), (k2, .inl (ax 0, 401, .inl (fun j => nI (tk j))))] sz))) 0 0 (va_A [(k0, .inr (9, [.ref k1, .ref k2, .int (nI ts), .int (nI th), .int s_at, .int s_fault, .int s_next, .int s_amount])), (k1, .inl (ax 1, 400, .inl tb)), (k2, .inl (ax 0, 401, .inl (fun j => nI (tk j))))] sz) := by
  refine Met.ofW (cc := b_Tokens_keyword) (maxL := 2) (ret := (some .int)) (by decide) rfl ?_
  intro p e s m args below meth c s₁ B hml hv
  obtain ⟨rfl, ⟨⟨hsz, hP, hK, hD0⟩, htz⟩, hX⟩ := hv
  have hx := B.exec
  have hb := B.bytes
  have hr := B.returns
  have hts := xw_hts B.pre
  have hown : s.vm.findClass R_Tokens = some m.cls := findClass_of_methodNamed B.named
  have hlocks := B.notSynchronized
  subst hsz
  subst htz
  have hD := hD0.self (sz := s.heap.size)
  have hN := xz_entry hP
  generalize hAe : va_A [(k0, .inr (9, [.ref k1, .ref k2, .int (nI ts), .int (nI th), .int s_at, .int s_fault, .int s_next, .int s_amount])), (k1, .inl (ax 1, 400, .inl tb)), (k2, .inl (ax 0, 401, .inl (fun j => nI (tk j))))] s.heap.size = A at hD hN hX ⊢
  have hA : ∀ q : Nat, s.heap.size ≤ q → A q := fun q h => by rw [← hAe]; exact Or.inr h
  have hS : va_S A s.heap s.heap [] := va_S.rf
  have hl0 := lv_entry ([.ref k0, .int (nI p9)]) (n := 2) (Nat.le_of_ble_eq_true rfl)
  rw [lg_entry_eq]
  generalize (lg_sl ([.ref k0, .int (nI p9)]) ++ List.replicate (2 - (lg_sl ([.ref k0, .int (nI p9)])).length) Slot.unset).toArray = ls at hl0 ⊢
  have hl1 : lv_has ls 2 [(0, .ref k0), (1, .int (nI p9))] := hl0
  refine xw_gen (fun Z9 hQe => ?_)
  refine lv_aload_n hx hb d_Tokens_keyword_0 rfl (lv_at hl1 0 rfl) ?_
  refine va_ldcS (index := 68) (tx := "skip") (q := ad 0) hx hb hown (hX.2.1 0 (by decide)) d_Tokens_keyword_1 ?_
  refine lv_iload_n hx hb d_Tokens_keyword_3 rfl (lv_at hl1 1 rfl) ?_
  obtain ⟨hPc, hDc, hFc, hCs⟩ := xw_sub3 (wc := [(k0, .inr (9, [.ref k1, .ref k2, .int (nI ts), .int (nI th), .int s_at, .int s_fault, .int s_next, .int s_amount])), (k1, .inl (ax 1, 400, .inl tb)), (k2, .inl (ax 0, 401, .inl (fun j => nI (tk j))))]) hP hD hS hA [0, 1, 2] (by decide) rfl
  have hz := xz_of hN hS
  refine wk_know (fun hk8 hk9 => ?_)
  refine va_calli (va_runV (As := [.ref (ad 0), .int (nI p9)]) (rest := []) ⟨hx, hb, hml, hown, hts⟩ (c_T_reads l D ax ad av fm k0 k1 k2 ts th s_at s_fault s_next s_amount tb tk 0 p9 s.heap.size (tsl s.heap) (by first | assumption | omega) (by first | assumption | omega) (by first | assumption | omega) (by first | assumption | omega) hbt) (xcV (n := 2) hts wd_454 wd_2 wd_451 wd_453 ps_3 rfl rfl (by decide +kernel) ⟨Nat.le_of_ble_eq_true rfl, Nat.le_of_ble_eq_true rfl⟩) (xpV4 (ci := 9) (q0 := 0) (As := [.ref (ad 0), .int (nI p9)]) hX hS hFc hPc hK hz hDc rfl rfl) rfl rfl hl1.1 rfl (lv_room (Nat.le_of_ble_eq_true rfl)) d_Tokens_keyword_4 ⟨Nat.le_of_ble_eq_true rfl, Nat.le_of_ble_eq_true rfl⟩) hS (fun q _ h => hFc q h) hFc (fun r_3 u_1 t H_2 locs ht hvm hw hB hz1 hk1 hS1 => ?_)
  try dsimp only at hw
  obtain ⟨hw, hs_4, hs_5⟩ := hw
  subst hw
  obtain ⟨hg8, hg9, hP1, hD1⟩ := hB
  rw [ht] at hg8 hg9 hP1
  have hjn := xw_join3 (wl := [(k0, .inr (9, [.ref k1, .ref k2, .int (nI ts), .int (nI th), .int s_at, .int s_fault, .int s_next, .int s_amount])), (k1, .inl (ax 1, 400, .inl tb)), (k2, .inl (ax 0, 401, .inl (fun j => nI (tk j))))]) hP hD [0, 1, 2] [] hCs (by decide) (by decide) hk1 hFc hP1 hD1 rfl
  clear hP1 hD1
  clear hPc hDc hFc hCs hz hz1 hk1 ht hvm
  clear hP hD hS
  have hS := hS1
  obtain ⟨hP, hD⟩ := hjn
  clear hS1
  refine wk_narrow (k := 0) (n := 0) (by first | assumption | omega) (by first | assumption | omega) ?_
  clear hk8 hk9 hg8 hg9
  refine lv_if_eq (tgt := 13) hx hb d_Tokens_keyword_7 (by decide) (fun c_6 => ?_) (fun c_6 => ?_)
  · replace c_6 : u_1 0 = 0 := (nI_eq (a := u_1 0) (b := 0) (by first | exact Nat.lt_of_lt_of_le (by assumption) (by decide) | exact Nat.lt_of_le_of_lt (by assumption) (by decide) | omega) (by decide)).mp c_6
    refine lv_aload_n hx hb d_Tokens_keyword_13 rfl (lv_at hl1 0 rfl) ?_
    refine va_ldcS (index := 74) (tx := "if") (q := ad 1) hx hb hown (hX.2.1 1 (by decide)) d_Tokens_keyword_14 ?_
    refine lv_iload_n hx hb d_Tokens_keyword_16 rfl (lv_at hl1 1 rfl) ?_
    obtain ⟨hPc, hDc, hFc, hCs⟩ := xw_sub3 (wc := [(k0, .inr (9, [.ref k1, .ref k2, .int (nI ts), .int (nI th), .int s_at, .int s_fault, .int s_next, .int s_amount])), (k1, .inl (ax 1, 400, .inl tb)), (k2, .inl (ax 0, 401, .inl (fun j => nI (tk j))))]) hP hD hS hA [0, 1, 2] (by decide) rfl
    have hz := xz_of hN hS
    refine wk_know (fun hk8 hk9 => ?_)
    refine va_calli (va_runV (As := [.ref (ad 1), .int (nI p9)]) (rest := []) ⟨hx, hb, hml, hown, hts⟩ (c_T_reads l D ax ad av fm k0 k1 k2 ts th s_at s_fault s_next s_amount tb tk 1 p9 H_2.size (tsl H_2) (by first | assumption | omega) (by first | assumption | omega) (by first | assumption | omega) (by first | assumption | omega) hbt) (xcV (n := 2) hts wd_454 wd_2 wd_451 wd_453 ps_3 rfl rfl (by decide +kernel) ⟨Nat.le_of_ble_eq_true rfl, Nat.le_of_ble_eq_true rfl⟩) (xpV4 (ci := 9) (q0 := 0) (As := [.ref (ad 1), .int (nI p9)]) hX hS hFc hPc hK hz hDc rfl rfl) rfl rfl hl1.1 rfl (lv_room (Nat.le_of_ble_eq_true rfl)) d_Tokens_keyword_17 ⟨(show (0) + (0) ≤ (0) by omega), (show (0) + (0) ≤ (0) by omega)⟩) hS (fun q _ h => hFc q h) hFc (fun r_9 u_7 t H_8 locs ht hvm hw hB hz1 hk1 hS1 => ?_)
    try dsimp only at hw
    obtain ⟨hw, hs_10, hs_11⟩ := hw
    subst hw
    obtain ⟨hg8, hg9, hP1, hD1⟩ := hB
    rw [ht] at hg8 hg9 hP1
    have hjn := xw_join3 (wl := [(k0, .inr (9, [.ref k1, .ref k2, .int (nI ts), .int (nI th), .int s_at, .int s_fault, .int s_next, .int s_amount])), (k1, .inl (ax 1, 400, .inl tb)), (k2, .inl (ax 0, 401, .inl (fun j => nI (tk j))))]) hP hD [0, 1, 2] [] hCs (by decide) (by decide) hk1 hFc hP1 hD1 rfl
    clear hP1 hD1
    clear hPc hDc hFc hCs hz hz1 hk1 ht hvm
    clear hP hD hS
    have hS := hS1
    obtain ⟨hP, hD⟩ := hjn
    clear hS1
    refine wk_narrow (k := 0 + (0)) (n := 0 + (0)) (by first | assumption | omega) (by first | assumption | omega) ?_
    clear hk8 hk9 hg8 hg9
    refine lv_if_eq (tgt := 26) hx hb d_Tokens_keyword_20 (by decide) (fun c_12 => ?_) (fun c_12 => ?_)
    · replace c_12 : u_7 0 = 0 := (nI_eq (a := u_7 0) (b := 0) (by first | exact Nat.lt_of_lt_of_le (by assumption) (by decide) | exact Nat.lt_of_le_of_lt (by assumption) (by decide) | omega) (by decide)).mp c_12
      refine lv_aload_n hx hb d_Tokens_keyword_26 rfl (lv_at hl1 0 rfl) ?_
      refine va_ldcS (index := 76) (tx := "then") (q := ad 2) hx hb hown (hX.2.1 2 (by decide)) d_Tokens_keyword_27 ?_
      refine lv_iload_n hx hb d_Tokens_keyword_29 rfl (lv_at hl1 1 rfl) ?_
      obtain ⟨hPc, hDc, hFc, hCs⟩ := xw_sub3 (wc := [(k0, .inr (9, [.ref k1, .ref k2, .int (nI ts), .int (nI th), .int s_at, .int s_fault, .int s_next, .int s_amount])), (k1, .inl (ax 1, 400, .inl tb)), (k2, .inl (ax 0, 401, .inl (fun j => nI (tk j))))]) hP hD hS hA [0, 1, 2] (by decide) rfl
      have hz := xz_of hN hS
      refine wk_know (fun hk8 hk9 => ?_)
      refine va_calli (va_runV (As := [.ref (ad 2), .int (nI p9)]) (rest := []) ⟨hx, hb, hml, hown, hts⟩ (c_T_reads l D ax ad av fm k0 k1 k2 ts th s_at s_fault s_next s_amount tb tk 2 p9 H_8.size (tsl H_8) (by first | assumption | omega) (by first | assumption | omega) (by first | assumption | omega) (by first | assumption | omega) hbt) (xcV (n := 2) hts wd_454 wd_2 wd_451 wd_453 ps_3 rfl rfl (by decide +kernel) ⟨Nat.le_of_ble_eq_true rfl, Nat.le_of_ble_eq_true rfl⟩) (xpV4 (ci := 9) (q0 := 0) (As := [.ref (ad 2), .int (nI p9)]) hX hS hFc hPc hK hz hDc rfl rfl) rfl rfl hl1.1 rfl (lv_room (Nat.le_of_ble_eq_true rfl)) d_Tokens_keyword_30 ⟨(show (0 + (0)) + (0) ≤ (0) by omega), (show (0 + (0)) + (0) ≤ (0) by omega)⟩) hS (fun q _ h => hFc q h) hFc (fun r_15 u_13 t H_14 locs ht hvm hw hB hz1 hk1 hS1 => ?_)
      try dsimp only at hw
      obtain ⟨hw, hs_16, hs_17⟩ := hw
      subst hw
      obtain ⟨hg8, hg9, hP1, hD1⟩ := hB
      rw [ht] at hg8 hg9 hP1
      have hjn := xw_join3 (wl := [(k0, .inr (9, [.ref k1, .ref k2, .int (nI ts), .int (nI th), .int s_at, .int s_fault, .int s_next, .int s_amount])), (k1, .inl (ax 1, 400, .inl tb)), (k2, .inl (ax 0, 401, .inl (fun j => nI (tk j))))]) hP hD [0, 1, 2] [] hCs (by decide) (by decide) hk1 hFc hP1 hD1 rfl
      clear hP1 hD1
      clear hPc hDc hFc hCs hz hz1 hk1 ht hvm
      clear hP hD hS
      have hS := hS1
      obtain ⟨hP, hD⟩ := hjn
      clear hS1
      refine wk_narrow (k := 0 + (0) + (0)) (n := 0 + (0) + (0)) (by first | assumption | omega) (by first | assumption | omega) ?_
      clear hk8 hk9 hg8 hg9
      refine lv_if_eq (tgt := 39) hx hb d_Tokens_keyword_33 (by decide) (fun c_18 => ?_) (fun c_18 => ?_)
      · replace c_18 : u_13 0 = 0 := (nI_eq (a := u_13 0) (b := 0) (by first | exact Nat.lt_of_lt_of_le (by assumption) (by decide) | exact Nat.lt_of_le_of_lt (by assumption) (by decide) | omega) (by decide)).mp c_18
        refine lv_aload_n hx hb d_Tokens_keyword_39 rfl (lv_at hl1 0 rfl) ?_
        refine va_ldcS (index := 78) (tx := "else") (q := ad 3) hx hb hown (hX.2.1 3 (by decide)) d_Tokens_keyword_40 ?_
        refine lv_iload_n hx hb d_Tokens_keyword_42 rfl (lv_at hl1 1 rfl) ?_
        obtain ⟨hPc, hDc, hFc, hCs⟩ := xw_sub3 (wc := [(k0, .inr (9, [.ref k1, .ref k2, .int (nI ts), .int (nI th), .int s_at, .int s_fault, .int s_next, .int s_amount])), (k1, .inl (ax 1, 400, .inl tb)), (k2, .inl (ax 0, 401, .inl (fun j => nI (tk j))))]) hP hD hS hA [0, 1, 2] (by decide) rfl
        have hz := xz_of hN hS
        refine wk_know (fun hk8 hk9 => ?_)
        refine va_calli (va_runV (As := [.ref (ad 3), .int (nI p9)]) (rest := []) ⟨hx, hb, hml, hown, hts⟩ (c_T_reads l D ax ad av fm k0 k1 k2 ts th s_at s_fault s_next s_amount tb tk 3 p9 H_14.size (tsl H_14) (by first | assumption | omega) (by first | assumption | omega) (by first | assumption | omega) (by first | assumption | omega) hbt) (xcV (n := 2) hts wd_454 wd_2 wd_451 wd_453 ps_3 rfl rfl (by decide +kernel) ⟨Nat.le_of_ble_eq_true rfl, Nat.le_of_ble_eq_true rfl⟩) (xpV4 (ci := 9) (q0 := 0) (As := [.ref (ad 3), .int (nI p9)]) hX hS hFc hPc hK hz hDc rfl rfl) rfl rfl hl1.1 rfl (lv_room (Nat.le_of_ble_eq_true rfl)) d_Tokens_keyword_43 ⟨(show (0 + (0) + (0)) + (0) ≤ (0) by omega), (show (0 + (0) + (0)) + (0) ≤ (0) by omega)⟩) hS (fun q _ h => hFc q h) hFc (fun r_21 u_19 t H_20 locs ht hvm hw hB hz1 hk1 hS1 => ?_)
        try dsimp only at hw
        obtain ⟨hw, hs_22, hs_23⟩ := hw
        subst hw
        obtain ⟨hg8, hg9, hP1, hD1⟩ := hB
        rw [ht] at hg8 hg9 hP1
        have hjn := xw_join3 (wl := [(k0, .inr (9, [.ref k1, .ref k2, .int (nI ts), .int (nI th), .int s_at, .int s_fault, .int s_next, .int s_amount])), (k1, .inl (ax 1, 400, .inl tb)), (k2, .inl (ax 0, 401, .inl (fun j => nI (tk j))))]) hP hD [0, 1, 2] [] hCs (by decide) (by decide) hk1 hFc hP1 hD1 rfl
        clear hP1 hD1
        clear hPc hDc hFc hCs hz hz1 hk1 ht hvm
        clear hP hD hS
        have hS := hS1
        obtain ⟨hP, hD⟩ := hjn
        clear hS1
        refine wk_narrow (k := 0 + (0) + (0) + (0)) (n := 0 + (0) + (0) + (0)) (by first | assumption | omega) (by first | assumption | omega) ?_
        clear hk8 hk9 hg8 hg9
        refine lv_if_eq (tgt := 52) hx hb d_Tokens_keyword_46 (by decide) (fun c_24 => ?_) (fun c_24 => ?_)
        · replace c_24 : u_19 0 = 0 := (nI_eq (a := u_19 0) (b := 0) (by first | exact Nat.lt_of_lt_of_le (by assumption) (by decide) | exact Nat.lt_of_le_of_lt (by assumption) (by decide) | omega) (by decide)).mp c_24
          refine lv_aload_n hx hb d_Tokens_keyword_52 rfl (lv_at hl1 0 rfl) ?_
          refine va_ldcS (index := 80) (tx := "fi") (q := ad 4) hx hb hown (hX.2.1 4 (by decide)) d_Tokens_keyword_53 ?_
          refine lv_iload_n hx hb d_Tokens_keyword_55 rfl (lv_at hl1 1 rfl) ?_
          obtain ⟨hPc, hDc, hFc, hCs⟩ := xw_sub3 (wc := [(k0, .inr (9, [.ref k1, .ref k2, .int (nI ts), .int (nI th), .int s_at, .int s_fault, .int s_next, .int s_amount])), (k1, .inl (ax 1, 400, .inl tb)), (k2, .inl (ax 0, 401, .inl (fun j => nI (tk j))))]) hP hD hS hA [0, 1, 2] (by decide) rfl
          have hz := xz_of hN hS
          refine wk_know (fun hk8 hk9 => ?_)
          refine va_calli (va_runV (As := [.ref (ad 4), .int (nI p9)]) (rest := []) ⟨hx, hb, hml, hown, hts⟩ (c_T_reads l D ax ad av fm k0 k1 k2 ts th s_at s_fault s_next s_amount tb tk 4 p9 H_20.size (tsl H_20) (by first | assumption | omega) (by first | assumption | omega) (by first | assumption | omega) (by first | assumption | omega) hbt) (xcV (n := 2) hts wd_454 wd_2 wd_451 wd_453 ps_3 rfl rfl (by decide +kernel) ⟨Nat.le_of_ble_eq_true rfl, Nat.le_of_ble_eq_true rfl⟩) (xpV4 (ci := 9) (q0 := 0) (As := [.ref (ad 4), .int (nI p9)]) hX hS hFc hPc hK hz hDc rfl rfl) rfl rfl hl1.1 rfl (lv_room (Nat.le_of_ble_eq_true rfl)) d_Tokens_keyword_56 ⟨(show (0 + (0) + (0) + (0)) + (0) ≤ (0) by omega), (show (0 + (0) + (0) + (0)) + (0) ≤ (0) by omega)⟩) hS (fun q _ h => hFc q h) hFc (fun r_27 u_25 t H_26 locs ht hvm hw hB hz1 hk1 hS1 => ?_)
          try dsimp only at hw
          obtain ⟨hw, hs_28, hs_29⟩ := hw
          subst hw
          obtain ⟨hg8, hg9, hP1, hD1⟩ := hB
          rw [ht] at hg8 hg9 hP1
          have hjn := xw_join3 (wl := [(k0, .inr (9, [.ref k1, .ref k2, .int (nI ts), .int (nI th), .int s_at, .int s_fault, .int s_next, .int s_amount])), (k1, .inl (ax 1, 400, .inl tb)), (k2, .inl (ax 0, 401, .inl (fun j => nI (tk j))))]) hP hD [0, 1, 2] [] hCs (by decide) (by decide) hk1 hFc hP1 hD1 rfl
          clear hP1 hD1
          clear hPc hDc hFc hCs hz hz1 hk1 ht hvm
          clear hP hD hS
          have hS := hS1
          obtain ⟨hP, hD⟩ := hjn
          clear hS1
          refine wk_narrow (k := 0 + (0) + (0) + (0) + (0)) (n := 0 + (0) + (0) + (0) + (0)) (by first | assumption | omega) (by first | assumption | omega) ?_
          clear hk8 hk9 hg8 hg9
          refine lv_if_eq (tgt := 65) hx hb d_Tokens_keyword_59 (by decide) (fun c_30 => ?_) (fun c_30 => ?_)
          · replace c_30 : u_25 0 = 0 := (nI_eq (a := u_25 0) (b := 0) (by first | exact Nat.lt_of_lt_of_le (by assumption) (by decide) | exact Nat.lt_of_le_of_lt (by assumption) (by decide) | omega) (by decide)).mp c_30
            refine lv_aload_n hx hb d_Tokens_keyword_65 rfl (lv_at hl1 0 rfl) ?_
            refine va_ldcS (index := 82) (tx := "while") (q := ad 5) hx hb hown (hX.2.1 5 (by decide)) d_Tokens_keyword_66 ?_
            refine lv_iload_n hx hb d_Tokens_keyword_68 rfl (lv_at hl1 1 rfl) ?_
            obtain ⟨hPc, hDc, hFc, hCs⟩ := xw_sub3 (wc := [(k0, .inr (9, [.ref k1, .ref k2, .int (nI ts), .int (nI th), .int s_at, .int s_fault, .int s_next, .int s_amount])), (k1, .inl (ax 1, 400, .inl tb)), (k2, .inl (ax 0, 401, .inl (fun j => nI (tk j))))]) hP hD hS hA [0, 1, 2] (by decide) rfl
            have hz := xz_of hN hS
            refine wk_know (fun hk8 hk9 => ?_)
            refine va_calli (va_runV (As := [.ref (ad 5), .int (nI p9)]) (rest := []) ⟨hx, hb, hml, hown, hts⟩ (c_T_reads l D ax ad av fm k0 k1 k2 ts th s_at s_fault s_next s_amount tb tk 5 p9 H_26.size (tsl H_26) (by first | assumption | omega) (by first | assumption | omega) (by first | assumption | omega) (by first | assumption | omega) hbt) (xcV (n := 2) hts wd_454 wd_2 wd_451 wd_453 ps_3 rfl rfl (by decide +kernel) ⟨Nat.le_of_ble_eq_true rfl, Nat.le_of_ble_eq_true rfl⟩) (xpV4 (ci := 9) (q0 := 0) (As := [.ref (ad 5), .int (nI p9)]) hX hS hFc hPc hK hz hDc rfl rfl) rfl rfl hl1.1 rfl (lv_room (Nat.le_of_ble_eq_true rfl)) d_Tokens_keyword_69 ⟨(show (0 + (0) + (0) + (0) + (0)) + (0) ≤ (0) by omega), (show (0 + (0) + (0) + (0) + (0)) + (0) ≤ (0) by omega)⟩) hS (fun q _ h => hFc q h) hFc (fun r_33 u_31 t H_32 locs ht hvm hw hB hz1 hk1 hS1 => ?_)
            try dsimp only at hw
            obtain ⟨hw, hs_34, hs_35⟩ := hw
            subst hw
            obtain ⟨hg8, hg9, hP1, hD1⟩ := hB
            rw [ht] at hg8 hg9 hP1
            have hjn := xw_join3 (wl := [(k0, .inr (9, [.ref k1, .ref k2, .int (nI ts), .int (nI th), .int s_at, .int s_fault, .int s_next, .int s_amount])), (k1, .inl (ax 1, 400, .inl tb)), (k2, .inl (ax 0, 401, .inl (fun j => nI (tk j))))]) hP hD [0, 1, 2] [] hCs (by decide) (by decide) hk1 hFc hP1 hD1 rfl
            clear hP1 hD1
            clear hPc hDc hFc hCs hz hz1 hk1 ht hvm
            clear hP hD hS
            have hS := hS1
            obtain ⟨hP, hD⟩ := hjn
            clear hS1
            refine wk_narrow (k := 0 + (0) + (0) + (0) + (0) + (0)) (n := 0 + (0) + (0) + (0) + (0) + (0)) (by first | assumption | omega) (by first | assumption | omega) ?_
            clear hk8 hk9 hg8 hg9
            refine lv_if_eq (tgt := 78) hx hb d_Tokens_keyword_72 (by decide) (fun c_36 => ?_) (fun c_36 => ?_)
            · replace c_36 : u_31 0 = 0 := (nI_eq (a := u_31 0) (b := 0) (by first | exact Nat.lt_of_lt_of_le (by assumption) (by decide) | exact Nat.lt_of_le_of_lt (by assumption) (by decide) | omega) (by decide)).mp c_36
              refine lv_aload_n hx hb d_Tokens_keyword_78 rfl (lv_at hl1 0 rfl) ?_
              refine va_ldcS (index := 84) (tx := "inv") (q := ad 6) hx hb hown (hX.2.1 6 (by decide)) d_Tokens_keyword_79 ?_
              refine lv_iload_n hx hb d_Tokens_keyword_81 rfl (lv_at hl1 1 rfl) ?_
              obtain ⟨hPc, hDc, hFc, hCs⟩ := xw_sub3 (wc := [(k0, .inr (9, [.ref k1, .ref k2, .int (nI ts), .int (nI th), .int s_at, .int s_fault, .int s_next, .int s_amount])), (k1, .inl (ax 1, 400, .inl tb)), (k2, .inl (ax 0, 401, .inl (fun j => nI (tk j))))]) hP hD hS hA [0, 1, 2] (by decide) rfl
              have hz := xz_of hN hS
              refine wk_know (fun hk8 hk9 => ?_)
              refine va_calli (va_runV (As := [.ref (ad 6), .int (nI p9)]) (rest := []) ⟨hx, hb, hml, hown, hts⟩ (c_T_reads l D ax ad av fm k0 k1 k2 ts th s_at s_fault s_next s_amount tb tk 6 p9 H_32.size (tsl H_32) (by first | assumption | omega) (by first | assumption | omega) (by first | assumption | omega) (by first | assumption | omega) hbt) (xcV (n := 2) hts wd_454 wd_2 wd_451 wd_453 ps_3 rfl rfl (by decide +kernel) ⟨Nat.le_of_ble_eq_true rfl, Nat.le_of_ble_eq_true rfl⟩) (xpV4 (ci := 9) (q0 := 0) (As := [.ref (ad 6), .int (nI p9)]) hX hS hFc hPc hK hz hDc rfl rfl) rfl rfl hl1.1 rfl (lv_room (Nat.le_of_ble_eq_true rfl)) d_Tokens_keyword_82 ⟨(show (0 + (0) + (0) + (0) + (0) + (0)) + (0) ≤ (0) by omega), (show (0 + (0) + (0) + (0) + (0) + (0)) + (0) ≤ (0) by omega)⟩) hS (fun q _ h => hFc q h) hFc (fun r_39 u_37 t H_38 locs ht hvm hw hB hz1 hk1 hS1 => ?_)
              try dsimp only at hw
              obtain ⟨hw, hs_40, hs_41⟩ := hw
              subst hw
              obtain ⟨hg8, hg9, hP1, hD1⟩ := hB
              rw [ht] at hg8 hg9 hP1
              have hjn := xw_join3 (wl := [(k0, .inr (9, [.ref k1, .ref k2, .int (nI ts), .int (nI th), .int s_at, .int s_fault, .int s_next, .int s_amount])), (k1, .inl (ax 1, 400, .inl tb)), (k2, .inl (ax 0, 401, .inl (fun j => nI (tk j))))]) hP hD [0, 1, 2] [] hCs (by decide) (by decide) hk1 hFc hP1 hD1 rfl
              clear hP1 hD1
              clear hPc hDc hFc hCs hz hz1 hk1 ht hvm
              clear hP hD hS
              have hS := hS1
              obtain ⟨hP, hD⟩ := hjn
              clear hS1
              refine wk_narrow (k := 0 + (0) + (0) + (0) + (0) + (0) + (0)) (n := 0 + (0) + (0) + (0) + (0) + (0) + (0)) (by first | assumption | omega) (by first | assumption | omega) ?_
              clear hk8 hk9 hg8 hg9
              refine lv_if_eq (tgt := 91) hx hb d_Tokens_keyword_85 (by decide) (fun c_42 => ?_) (fun c_42 => ?_)
              · replace c_42 : u_37 0 = 0 := (nI_eq (a := u_37 0) (b := 0) (by first | exact Nat.lt_of_lt_of_le (by assumption) (by decide) | exact Nat.lt_of_le_of_lt (by assumption) (by decide) | omega) (by decide)).mp c_42
                refine lv_aload_n hx hb d_Tokens_keyword_91 rfl (lv_at hl1 0 rfl) ?_
                refine va_ldcS (index := 86) (tx := "var") (q := ad 7) hx hb hown (hX.2.1 7 (by decide)) d_Tokens_keyword_92 ?_
                refine lv_iload_n hx hb d_Tokens_keyword_94 rfl (lv_at hl1 1 rfl) ?_
                obtain ⟨hPc, hDc, hFc, hCs⟩ := xw_sub3 (wc := [(k0, .inr (9, [.ref k1, .ref k2, .int (nI ts), .int (nI th), .int s_at, .int s_fault, .int s_next, .int s_amount])), (k1, .inl (ax 1, 400, .inl tb)), (k2, .inl (ax 0, 401, .inl (fun j => nI (tk j))))]) hP hD hS hA [0, 1, 2] (by decide) rfl
                have hz := xz_of hN hS
                refine wk_know (fun hk8 hk9 => ?_)
                refine va_calli (va_runV (As := [.ref (ad 7), .int (nI p9)]) (rest := []) ⟨hx, hb, hml, hown, hts⟩ (c_T_reads l D ax ad av fm k0 k1 k2 ts th s_at s_fault s_next s_amount tb tk 7 p9 H_38.size (tsl H_38) (by first | assumption | omega) (by first | assumption | omega) (by first | assumption | omega) (by first | assumption | omega) hbt) (xcV (n := 2) hts wd_454 wd_2 wd_451 wd_453 ps_3 rfl rfl (by decide +kernel) ⟨Nat.le_of_ble_eq_true rfl, Nat.le_of_ble_eq_true rfl⟩) (xpV4 (ci := 9) (q0 := 0) (As := [.ref (ad 7), .int (nI p9)]) hX hS hFc hPc hK hz hDc rfl rfl) rfl rfl hl1.1 rfl (lv_room (Nat.le_of_ble_eq_true rfl)) d_Tokens_keyword_95 ⟨(show (0 + (0) + (0) + (0) + (0) + (0) + (0)) + (0) ≤ (0) by omega), (show (0 + (0) + (0) + (0) + (0) + (0) + (0)) + (0) ≤ (0) by omega)⟩) hS (fun q _ h => hFc q h) hFc (fun r_45 u_43 t H_44 locs ht hvm hw hB hz1 hk1 hS1 => ?_)
                try dsimp only at hw
                obtain ⟨hw, hs_46, hs_47⟩ := hw
                subst hw
                obtain ⟨hg8, hg9, hP1, hD1⟩ := hB
                rw [ht] at hg8 hg9 hP1
                have hjn := xw_join3 (wl := [(k0, .inr (9, [.ref k1, .ref k2, .int (nI ts), .int (nI th), .int s_at, .int s_fault, .int s_next, .int s_amount])), (k1, .inl (ax 1, 400, .inl tb)), (k2, .inl (ax 0, 401, .inl (fun j => nI (tk j))))]) hP hD [0, 1, 2] [] hCs (by decide) (by decide) hk1 hFc hP1 hD1 rfl
                clear hP1 hD1
                clear hPc hDc hFc hCs hz hz1 hk1 ht hvm
                clear hP hD hS
                have hS := hS1
                obtain ⟨hP, hD⟩ := hjn
                clear hS1
                refine wk_narrow (k := 0 + (0) + (0) + (0) + (0) + (0) + (0) + (0)) (n := 0 + (0) + (0) + (0) + (0) + (0) + (0) + (0)) (by first | assumption | omega) (by first | assumption | omega) ?_
                clear hk8 hk9 hg8 hg9
                refine lv_if_eq (tgt := 104) hx hb d_Tokens_keyword_98 (by decide) (fun c_48 => ?_) (fun c_48 => ?_)
                · replace c_48 : u_43 0 = 0 := (nI_eq (a := u_43 0) (b := 0) (by first | exact Nat.lt_of_lt_of_le (by assumption) (by decide) | exact Nat.lt_of_le_of_lt (by assumption) (by decide) | omega) (by decide)).mp c_48
                  refine lv_aload_n hx hb d_Tokens_keyword_104 rfl (lv_at hl1 0 rfl) ?_
                  refine va_ldcS (index := 88) (tx := "do") (q := ad 8) hx hb hown (hX.2.1 8 (by decide)) d_Tokens_keyword_105 ?_
                  refine lv_iload_n hx hb d_Tokens_keyword_107 rfl (lv_at hl1 1 rfl) ?_
                  obtain ⟨hPc, hDc, hFc, hCs⟩ := xw_sub3 (wc := [(k0, .inr (9, [.ref k1, .ref k2, .int (nI ts), .int (nI th), .int s_at, .int s_fault, .int s_next, .int s_amount])), (k1, .inl (ax 1, 400, .inl tb)), (k2, .inl (ax 0, 401, .inl (fun j => nI (tk j))))]) hP hD hS hA [0, 1, 2] (by decide) rfl
                  have hz := xz_of hN hS
                  refine wk_know (fun hk8 hk9 => ?_)
                  refine va_calli (va_runV (As := [.ref (ad 8), .int (nI p9)]) (rest := []) ⟨hx, hb, hml, hown, hts⟩ (c_T_reads l D ax ad av fm k0 k1 k2 ts th s_at s_fault s_next s_amount tb tk 8 p9 H_44.size (tsl H_44) (by first | assumption | omega) (by first | assumption | omega) (by first | assumption | omega) (by first | assumption | omega) hbt) (xcV (n := 2) hts wd_454 wd_2 wd_451 wd_453 ps_3 rfl rfl (by decide +kernel) ⟨Nat.le_of_ble_eq_true rfl, Nat.le_of_ble_eq_true rfl⟩) (xpV4 (ci := 9) (q0 := 0) (As := [.ref (ad 8), .int (nI p9)]) hX hS hFc hPc hK hz hDc rfl rfl) rfl rfl hl1.1 rfl (lv_room (Nat.le_of_ble_eq_true rfl)) d_Tokens_keyword_108 ⟨(show (0 + (0) + (0) + (0) + (0) + (0) + (0) + (0)) + (0) ≤ (0) by omega), (show (0 + (0) + (0) + (0) + (0) + (0) + (0) + (0)) + (0) ≤ (0) by omega)⟩) hS (fun q _ h => hFc q h) hFc (fun r_51 u_49 t H_50 locs ht hvm hw hB hz1 hk1 hS1 => ?_)
                  try dsimp only at hw
                  obtain ⟨hw, hs_52, hs_53⟩ := hw
                  subst hw
                  obtain ⟨hg8, hg9, hP1, hD1⟩ := hB
                  rw [ht] at hg8 hg9 hP1
                  have hjn := xw_join3 (wl := [(k0, .inr (9, [.ref k1, .ref k2, .int (nI ts), .int (nI th), .int s_at, .int s_fault, .int s_next, .int s_amount])), (k1, .inl (ax 1, 400, .inl tb)), (k2, .inl (ax 0, 401, .inl (fun j => nI (tk j))))]) hP hD [0, 1, 2] [] hCs (by decide) (by decide) hk1 hFc hP1 hD1 rfl
                  clear hP1 hD1
                  clear hPc hDc hFc hCs hz hz1 hk1 ht hvm
                  clear hP hD hS
                  have hS := hS1
                  obtain ⟨hP, hD⟩ := hjn
                  clear hS1
                  refine wk_narrow (k := 0 + (0) + (0) + (0) + (0) + (0) + (0) + (0) + (0)) (n := 0 + (0) + (0) + (0) + (0) + (0) + (0) + (0) + (0)) (by first | assumption | omega) (by first | assumption | omega) ?_
                  clear hk8 hk9 hg8 hg9
                  refine lv_if_eq (tgt := 117) hx hb d_Tokens_keyword_111 (by decide) (fun c_54 => ?_) (fun c_54 => ?_)
                  · replace c_54 : u_49 0 = 0 := (nI_eq (a := u_49 0) (b := 0) (by first | exact Nat.lt_of_lt_of_le (by assumption) (by decide) | exact Nat.lt_of_le_of_lt (by assumption) (by decide) | omega) (by decide)).mp c_54
                    refine lv_aload_n hx hb d_Tokens_keyword_117 rfl (lv_at hl1 0 rfl) ?_
                    refine va_ldcS (index := 90) (tx := "od") (q := ad 9) hx hb hown (hX.2.1 9 (by decide)) d_Tokens_keyword_118 ?_
                    refine lv_iload_n hx hb d_Tokens_keyword_120 rfl (lv_at hl1 1 rfl) ?_
                    obtain ⟨hPc, hDc, hFc, hCs⟩ := xw_sub3 (wc := [(k0, .inr (9, [.ref k1, .ref k2, .int (nI ts), .int (nI th), .int s_at, .int s_fault, .int s_next, .int s_amount])), (k1, .inl (ax 1, 400, .inl tb)), (k2, .inl (ax 0, 401, .inl (fun j => nI (tk j))))]) hP hD hS hA [0, 1, 2] (by decide) rfl
                    have hz := xz_of hN hS
                    refine wk_know (fun hk8 hk9 => ?_)
                    refine va_calli (va_runV (As := [.ref (ad 9), .int (nI p9)]) (rest := []) ⟨hx, hb, hml, hown, hts⟩ (c_T_reads l D ax ad av fm k0 k1 k2 ts th s_at s_fault s_next s_amount tb tk 9 p9 H_50.size (tsl H_50) (by first | assumption | omega) (by first | assumption | omega) (by first | assumption | omega) (by first | assumption | omega) hbt) (xcV (n := 2) hts wd_454 wd_2 wd_451 wd_453 ps_3 rfl rfl (by decide +kernel) ⟨Nat.le_of_ble_eq_true rfl, Nat.le_of_ble_eq_true rfl⟩) (xpV4 (ci := 9) (q0 := 0) (As := [.ref (ad 9), .int (nI p9)]) hX hS hFc hPc hK hz hDc rfl rfl) rfl rfl hl1.1 rfl (lv_room (Nat.le_of_ble_eq_true rfl)) d_Tokens_keyword_121 ⟨(show (0 + (0) + (0) + (0) + (0) + (0) + (0) + (0) + (0)) + (0) ≤ (0) by omega), (show (0 + (0) + (0) + (0) + (0) + (0) + (0) + (0) + (0)) + (0) ≤ (0) by omega)⟩) hS (fun q _ h => hFc q h) hFc (fun r_57 u_55 t H_56 locs ht hvm hw hB hz1 hk1 hS1 => ?_)
                    try dsimp only at hw
                    obtain ⟨hw, hs_58, hs_59⟩ := hw
                    subst hw
                    obtain ⟨hg8, hg9, hP1, hD1⟩ := hB
                    rw [ht] at hg8 hg9 hP1
                    have hjn := xw_join3 (wl := [(k0, .inr (9, [.ref k1, .ref k2, .int (nI ts), .int (nI th), .int s_at, .int s_fault, .int s_next, .int s_amount])), (k1, .inl (ax 1, 400, .inl tb)), (k2, .inl (ax 0, 401, .inl (fun j => nI (tk j))))]) hP hD [0, 1, 2] [] hCs (by decide) (by decide) hk1 hFc hP1 hD1 rfl
                    clear hP1 hD1
                    clear hPc hDc hFc hCs hz hz1 hk1 ht hvm
                    clear hP hD hS
                    have hS := hS1
                    obtain ⟨hP, hD⟩ := hjn
                    clear hS1
                    refine wk_narrow (k := 0 + (0) + (0) + (0) + (0) + (0) + (0) + (0) + (0) + (0)) (n := 0 + (0) + (0) + (0) + (0) + (0) + (0) + (0) + (0) + (0)) (by first | assumption | omega) (by first | assumption | omega) ?_
                    clear hk8 hk9 hg8 hg9
                    refine lv_if_eq (tgt := 130) hx hb d_Tokens_keyword_124 (by decide) (fun c_60 => ?_) (fun c_60 => ?_)
                    · replace c_60 : u_55 0 = 0 := (nI_eq (a := u_55 0) (b := 0) (by first | exact Nat.lt_of_lt_of_le (by assumption) (by decide) | exact Nat.lt_of_le_of_lt (by assumption) (by decide) | omega) (by decide)).mp c_60
                      refine lv_aload_n hx hb d_Tokens_keyword_130 rfl (lv_at hl1 0 rfl) ?_
                      refine va_ldcS (index := 92) (tx := "assert") (q := ad 10) hx hb hown (hX.2.1 10 (by decide)) d_Tokens_keyword_131 ?_
                      refine lv_iload_n hx hb d_Tokens_keyword_133 rfl (lv_at hl1 1 rfl) ?_
                      obtain ⟨hPc, hDc, hFc, hCs⟩ := xw_sub3 (wc := [(k0, .inr (9, [.ref k1, .ref k2, .int (nI ts), .int (nI th), .int s_at, .int s_fault, .int s_next, .int s_amount])), (k1, .inl (ax 1, 400, .inl tb)), (k2, .inl (ax 0, 401, .inl (fun j => nI (tk j))))]) hP hD hS hA [0, 1, 2] (by decide) rfl
                      have hz := xz_of hN hS
                      refine wk_know (fun hk8 hk9 => ?_)
                      refine va_calli (va_runV (As := [.ref (ad 10), .int (nI p9)]) (rest := []) ⟨hx, hb, hml, hown, hts⟩ (c_T_reads l D ax ad av fm k0 k1 k2 ts th s_at s_fault s_next s_amount tb tk 10 p9 H_56.size (tsl H_56) (by first | assumption | omega) (by first | assumption | omega) (by first | assumption | omega) (by first | assumption | omega) hbt) (xcV (n := 2) hts wd_454 wd_2 wd_451 wd_453 ps_3 rfl rfl (by decide +kernel) ⟨Nat.le_of_ble_eq_true rfl, Nat.le_of_ble_eq_true rfl⟩) (xpV4 (ci := 9) (q0 := 0) (As := [.ref (ad 10), .int (nI p9)]) hX hS hFc hPc hK hz hDc rfl rfl) rfl rfl hl1.1 rfl (lv_room (Nat.le_of_ble_eq_true rfl)) d_Tokens_keyword_134 ⟨(show (0 + (0) + (0) + (0) + (0) + (0) + (0) + (0) + (0) + (0)) + (0) ≤ (0) by omega), (show (0 + (0) + (0) + (0) + (0) + (0) + (0) + (0) + (0) + (0)) + (0) ≤ (0) by omega)⟩) hS (fun q _ h => hFc q h) hFc (fun r_63 u_61 t H_62 locs ht hvm hw hB hz1 hk1 hS1 => ?_)
                      try dsimp only at hw
                      obtain ⟨hw, hs_64, hs_65⟩ := hw
                      subst hw
                      obtain ⟨hg8, hg9, hP1, hD1⟩ := hB
                      rw [ht] at hg8 hg9 hP1
                      have hjn := xw_join3 (wl := [(k0, .inr (9, [.ref k1, .ref k2, .int (nI ts), .int (nI th), .int s_at, .int s_fault, .int s_next, .int s_amount])), (k1, .inl (ax 1, 400, .inl tb)), (k2, .inl (ax 0, 401, .inl (fun j => nI (tk j))))]) hP hD [0, 1, 2] [] hCs (by decide) (by decide) hk1 hFc hP1 hD1 rfl
                      clear hP1 hD1
                      clear hPc hDc hFc hCs hz hz1 hk1 ht hvm
                      clear hP hD hS
                      have hS := hS1
                      obtain ⟨hP, hD⟩ := hjn
                      clear hS1
                      refine wk_narrow (k := 0 + (0) + (0) + (0) + (0) + (0) + (0) + (0) + (0) + (0) + (0)) (n := 0 + (0) + (0) + (0) + (0) + (0) + (0) + (0) + (0) + (0) + (0)) (by first | assumption | omega) (by first | assumption | omega) ?_
                      clear hk8 hk9 hg8 hg9
                      refine lv_if_eq (tgt := 145) hx hb d_Tokens_keyword_137 (by decide) (fun c_66 => ?_) (fun c_66 => ?_)
                      · replace c_66 : u_61 0 = 0 := (nI_eq (a := u_61 0) (b := 0) (by first | exact Nat.lt_of_lt_of_le (by assumption) (by decide) | exact Nat.lt_of_le_of_lt (by assumption) (by decide) | omega) (by decide)).mp c_66
                        refine lv_iconst (v := 1) hx hb d_Tokens_keyword_145 (by decide) ?_
                        rw [← hQe]
                        refine wk_know (fun hk8 hk9 => ?_)
                        refine W.widen (k := 0) (n := 0) (Nat.le_of_ble_eq_true rfl) (Nat.le_of_ble_eq_true rfl) ?_
                        obtain ⟨hP9, hD9⟩ := xw_sub2 (wc := (fun (u : Nat → Nat)  => [(k0, .inr (9, [.ref k1, .ref k2, .int (nI ts), .int (nI th), .int s_at, .int s_fault, .int s_next, .int s_amount])), (k1, .inl (ax 1, 400, .inl tb)), (k2, .inl (ax 0, 401, .inl (fun j => nI (tk j))))]) (ixn [1]) ) hP hD [0, 1, 2] (by decide) rfl
                        have hg8 : H_62.size ≤ s.heap.size + (0) := by omega
                        have hg9 : tsl H_62 ≤ tsl s.heap + (0) := by omega
                        have hsp0 : 1 ≤ 17 := (by first | assumption | omega)
                        have hsp1 : 1 ≠ 0 := (by first | assumption | omega)
                        have hsp2 : 1 ≠ 2 := (by first | assumption | omega)
                        have hsp3 : 1 ≠ 3 := (by first | assumption | omega)
                        have hsp4 : 1 ≠ 5 := (by first | assumption | omega)
                        have hsp5 : 1 = kwS (gtb tb) p9 th := (kw_n hpt hlt (fun i hi => by rcases (show i = 0 ∨ i = 1 ∨ i = 2 ∨ i = 3 ∨ i = 4 ∨ i = 5 ∨ i = 6 ∨ i = 7 ∨ i = 8 ∨ i = 9 ∨ i = 10 by omega) with rfl | rfl | rfl | rfl | rfl | rfl | rfl | rfl | rfl | rfl | rfl; (exact hs_5.n (by first | assumption | omega)); (exact hs_11.n (by first | assumption | omega)); (exact hs_17.n (by first | assumption | omega)); (exact hs_23.n (by first | assumption | omega)); (exact hs_29.n (by first | assumption | omega)); (exact hs_35.n (by first | assumption | omega)); (exact hs_41.n (by first | assumption | omega)); (exact hs_47.n (by first | assumption | omega)); (exact hs_53.n (by first | assumption | omega)); (exact hs_59.n (by first | assumption | omega)); (exact hs_65.n (by first | assumption | omega)))).symm
                        exact W.iret (v := 1) hx hb hr (fun t ht hW => ⟨⟨1, ixn [1], rfl, ⟨rfl, ⟨hsp0, hsp1, hsp2, hsp3, hsp4, hsp5⟩⟩, ⟨by rw [ht]; exact hg8, by rw [ht]; exact hg9, by rw [ht]; exact hP9, hD9⟩⟩, hS.F ht⟩) hS.2.2 d_Tokens_keyword_146
                      · replace c_66 : ¬ u_61 0 = 0 := fun hq9 => c_66 ((nI_eq (a := u_61 0) (b := 0) (by first | exact Nat.lt_of_lt_of_le (by assumption) (by decide) | exact Nat.lt_of_le_of_lt (by assumption) (by decide) | omega) (by decide)).mpr hq9)
                        refine lv_bipush (v := 17) hx hb d_Tokens_keyword_140 (by decide) ?_
                        refine lv_goto (tgt := 146) hx hb d_Tokens_keyword_142 (by decide) ?_
                        rw [← hQe]
                        refine wk_know (fun hk8 hk9 => ?_)
                        refine W.widen (k := 0) (n := 0) (Nat.le_of_ble_eq_true rfl) (Nat.le_of_ble_eq_true rfl) ?_
                        obtain ⟨hP9, hD9⟩ := xw_sub2 (wc := (fun (u : Nat → Nat)  => [(k0, .inr (9, [.ref k1, .ref k2, .int (nI ts), .int (nI th), .int s_at, .int s_fault, .int s_next, .int s_amount])), (k1, .inl (ax 1, 400, .inl tb)), (k2, .inl (ax 0, 401, .inl (fun j => nI (tk j))))]) (ixn [17]) ) hP hD [0, 1, 2] (by decide) rfl
                        have hg8 : H_62.size ≤ s.heap.size + (0) := by omega
                        have hg9 : tsl H_62 ≤ tsl s.heap + (0) := by omega
                        have hsp0 : 17 ≤ 17 := (by first | assumption | omega)
                        have hsp1 : 17 ≠ 0 := (by first | assumption | omega)
                        have hsp2 : 17 ≠ 2 := (by first | assumption | omega)
                        have hsp3 : 17 ≠ 3 := (by first | assumption | omega)
                        have hsp4 : 17 ≠ 5 := (by first | assumption | omega)
                        have hsp5 : 17 = kwS (gtb tb) p9 th := (kw_y (i := 10) (by decide) (hs_65.y (by first | assumption | omega))).symm
                        exact W.iret (v := 17) hx hb hr (fun t ht hW => ⟨⟨17, ixn [17], rfl, ⟨rfl, ⟨hsp0, hsp1, hsp2, hsp3, hsp4, hsp5⟩⟩, ⟨by rw [ht]; exact hg8, by rw [ht]; exact hg9, by rw [ht]; exact hP9, hD9⟩⟩, hS.F ht⟩) hS.2.2 d_Tokens_keyword_146
                    · replace c_60 : ¬ u_55 0 = 0 := fun hq9 => c_60 ((nI_eq (a := u_55 0) (b := 0) (by first | exact Nat.lt_of_lt_of_le (by assumption) (by decide) | exact Nat.lt_of_le_of_lt (by assumption) (by decide) | omega) (by decide)).mpr hq9)
                      refine lv_bipush (v := 16) hx hb d_Tokens_keyword_127 (by decide) ?_
                      rw [← hQe]
                      refine wk_know (fun hk8 hk9 => ?_)
                      refine W.widen (k := 0) (n := 0) (Nat.le_of_ble_eq_true rfl) (Nat.le_of_ble_eq_true rfl) ?_
                      obtain ⟨hP9, hD9⟩ := xw_sub2 (wc := (fun (u : Nat → Nat)  => [(k0, .inr (9, [.ref k1, .ref k2, .int (nI ts), .int (nI th), .int s_at, .int s_fault, .int s_next, .int s_amount])), (k1, .inl (ax 1, 400, .inl tb)), (k2, .inl (ax 0, 401, .inl (fun j => nI (tk j))))]) (ixn [16]) ) hP hD [0, 1, 2] (by decide) rfl
                      have hg8 : H_56.size ≤ s.heap.size + (0) := by omega
                      have hg9 : tsl H_56 ≤ tsl s.heap + (0) := by omega
                      have hsp0 : 16 ≤ 17 := (by first | assumption | omega)
                      have hsp1 : 16 ≠ 0 := (by first | assumption | omega)
                      have hsp2 : 16 ≠ 2 := (by first | assumption | omega)
                      have hsp3 : 16 ≠ 3 := (by first | assumption | omega)
                      have hsp4 : 16 ≠ 5 := (by first | assumption | omega)
                      have hsp5 : 16 = kwS (gtb tb) p9 th := (kw_y (i := 9) (by decide) (hs_59.y (by first | assumption | omega))).symm
                      exact W.iret (v := 16) hx hb hr (fun t ht hW => ⟨⟨16, ixn [16], rfl, ⟨rfl, ⟨hsp0, hsp1, hsp2, hsp3, hsp4, hsp5⟩⟩, ⟨by rw [ht]; exact hg8, by rw [ht]; exact hg9, by rw [ht]; exact hP9, hD9⟩⟩, hS.F ht⟩) hS.2.2 d_Tokens_keyword_129
                  · replace c_54 : ¬ u_49 0 = 0 := fun hq9 => c_54 ((nI_eq (a := u_49 0) (b := 0) (by first | exact Nat.lt_of_lt_of_le (by assumption) (by decide) | exact Nat.lt_of_le_of_lt (by assumption) (by decide) | omega) (by decide)).mpr hq9)
                    refine lv_bipush (v := 15) hx hb d_Tokens_keyword_114 (by decide) ?_
                    rw [← hQe]
                    refine wk_know (fun hk8 hk9 => ?_)
                    refine W.widen (k := 0) (n := 0) (Nat.le_of_ble_eq_true rfl) (Nat.le_of_ble_eq_true rfl) ?_
                    obtain ⟨hP9, hD9⟩ := xw_sub2 (wc := (fun (u : Nat → Nat)  => [(k0, .inr (9, [.ref k1, .ref k2, .int (nI ts), .int (nI th), .int s_at, .int s_fault, .int s_next, .int s_amount])), (k1, .inl (ax 1, 400, .inl tb)), (k2, .inl (ax 0, 401, .inl (fun j => nI (tk j))))]) (ixn [15]) ) hP hD [0, 1, 2] (by decide) rfl
                    have hg8 : H_50.size ≤ s.heap.size + (0) := by omega
                    have hg9 : tsl H_50 ≤ tsl s.heap + (0) := by omega
                    have hsp0 : 15 ≤ 17 := (by first | assumption | omega)
                    have hsp1 : 15 ≠ 0 := (by first | assumption | omega)
                    have hsp2 : 15 ≠ 2 := (by first | assumption | omega)
                    have hsp3 : 15 ≠ 3 := (by first | assumption | omega)
                    have hsp4 : 15 ≠ 5 := (by first | assumption | omega)
                    have hsp5 : 15 = kwS (gtb tb) p9 th := (kw_y (i := 8) (by decide) (hs_53.y (by first | assumption | omega))).symm
                    exact W.iret (v := 15) hx hb hr (fun t ht hW => ⟨⟨15, ixn [15], rfl, ⟨rfl, ⟨hsp0, hsp1, hsp2, hsp3, hsp4, hsp5⟩⟩, ⟨by rw [ht]; exact hg8, by rw [ht]; exact hg9, by rw [ht]; exact hP9, hD9⟩⟩, hS.F ht⟩) hS.2.2 d_Tokens_keyword_116
                · replace c_48 : ¬ u_43 0 = 0 := fun hq9 => c_48 ((nI_eq (a := u_43 0) (b := 0) (by first | exact Nat.lt_of_lt_of_le (by assumption) (by decide) | exact Nat.lt_of_le_of_lt (by assumption) (by decide) | omega) (by decide)).mpr hq9)
                  refine lv_bipush (v := 14) hx hb d_Tokens_keyword_101 (by decide) ?_
                  rw [← hQe]
                  refine wk_know (fun hk8 hk9 => ?_)
                  refine W.widen (k := 0) (n := 0) (Nat.le_of_ble_eq_true rfl) (Nat.le_of_ble_eq_true rfl) ?_
                  obtain ⟨hP9, hD9⟩ := xw_sub2 (wc := (fun (u : Nat → Nat)  => [(k0, .inr (9, [.ref k1, .ref k2, .int (nI ts), .int (nI th), .int s_at, .int s_fault, .int s_next, .int s_amount])), (k1, .inl (ax 1, 400, .inl tb)), (k2, .inl (ax 0, 401, .inl (fun j => nI (tk j))))]) (ixn [14]) ) hP hD [0, 1, 2] (by decide) rfl
                  have hg8 : H_44.size ≤ s.heap.size + (0) := by omega
                  have hg9 : tsl H_44 ≤ tsl s.heap + (0) := by omega
                  have hsp0 : 14 ≤ 17 := (by first | assumption | omega)
                  have hsp1 : 14 ≠ 0 := (by first | assumption | omega)
                  have hsp2 : 14 ≠ 2 := (by first | assumption | omega)
                  have hsp3 : 14 ≠ 3 := (by first | assumption | omega)
                  have hsp4 : 14 ≠ 5 := (by first | assumption | omega)
                  have hsp5 : 14 = kwS (gtb tb) p9 th := (kw_y (i := 7) (by decide) (hs_47.y (by first | assumption | omega))).symm
                  exact W.iret (v := 14) hx hb hr (fun t ht hW => ⟨⟨14, ixn [14], rfl, ⟨rfl, ⟨hsp0, hsp1, hsp2, hsp3, hsp4, hsp5⟩⟩, ⟨by rw [ht]; exact hg8, by rw [ht]; exact hg9, by rw [ht]; exact hP9, hD9⟩⟩, hS.F ht⟩) hS.2.2 d_Tokens_keyword_103
              · replace c_42 : ¬ u_37 0 = 0 := fun hq9 => c_42 ((nI_eq (a := u_37 0) (b := 0) (by first | exact Nat.lt_of_lt_of_le (by assumption) (by decide) | exact Nat.lt_of_le_of_lt (by assumption) (by decide) | omega) (by decide)).mpr hq9)
                refine lv_bipush (v := 13) hx hb d_Tokens_keyword_88 (by decide) ?_
                rw [← hQe]
                refine wk_know (fun hk8 hk9 => ?_)
                refine W.widen (k := 0) (n := 0) (Nat.le_of_ble_eq_true rfl) (Nat.le_of_ble_eq_true rfl) ?_
                obtain ⟨hP9, hD9⟩ := xw_sub2 (wc := (fun (u : Nat → Nat)  => [(k0, .inr (9, [.ref k1, .ref k2, .int (nI ts), .int (nI th), .int s_at, .int s_fault, .int s_next, .int s_amount])), (k1, .inl (ax 1, 400, .inl tb)), (k2, .inl (ax 0, 401, .inl (fun j => nI (tk j))))]) (ixn [13]) ) hP hD [0, 1, 2] (by decide) rfl
                have hg8 : H_38.size ≤ s.heap.size + (0) := by omega
                have hg9 : tsl H_38 ≤ tsl s.heap + (0) := by omega
                have hsp0 : 13 ≤ 17 := (by first | assumption | omega)
                have hsp1 : 13 ≠ 0 := (by first | assumption | omega)
                have hsp2 : 13 ≠ 2 := (by first | assumption | omega)
                have hsp3 : 13 ≠ 3 := (by first | assumption | omega)
                have hsp4 : 13 ≠ 5 := (by first | assumption | omega)
                have hsp5 : 13 = kwS (gtb tb) p9 th := (kw_y (i := 6) (by decide) (hs_41.y (by first | assumption | omega))).symm
                exact W.iret (v := 13) hx hb hr (fun t ht hW => ⟨⟨13, ixn [13], rfl, ⟨rfl, ⟨hsp0, hsp1, hsp2, hsp3, hsp4, hsp5⟩⟩, ⟨by rw [ht]; exact hg8, by rw [ht]; exact hg9, by rw [ht]; exact hP9, hD9⟩⟩, hS.F ht⟩) hS.2.2 d_Tokens_keyword_90
            · replace c_36 : ¬ u_31 0 = 0 := fun hq9 => c_36 ((nI_eq (a := u_31 0) (b := 0) (by first | exact Nat.lt_of_lt_of_le (by assumption) (by decide) | exact Nat.lt_of_le_of_lt (by assumption) (by decide) | omega) (by decide)).mpr hq9)
              refine lv_bipush (v := 12) hx hb d_Tokens_keyword_75 (by decide) ?_
              rw [← hQe]
              refine wk_know (fun hk8 hk9 => ?_)
              refine W.widen (k := 0) (n := 0) (Nat.le_of_ble_eq_true rfl) (Nat.le_of_ble_eq_true rfl) ?_
              obtain ⟨hP9, hD9⟩ := xw_sub2 (wc := (fun (u : Nat → Nat)  => [(k0, .inr (9, [.ref k1, .ref k2, .int (nI ts), .int (nI th), .int s_at, .int s_fault, .int s_next, .int s_amount])), (k1, .inl (ax 1, 400, .inl tb)), (k2, .inl (ax 0, 401, .inl (fun j => nI (tk j))))]) (ixn [12]) ) hP hD [0, 1, 2] (by decide) rfl
              have hg8 : H_32.size ≤ s.heap.size + (0) := by omega
              have hg9 : tsl H_32 ≤ tsl s.heap + (0) := by omega
              have hsp0 : 12 ≤ 17 := (by first | assumption | omega)
              have hsp1 : 12 ≠ 0 := (by first | assumption | omega)
              have hsp2 : 12 ≠ 2 := (by first | assumption | omega)
              have hsp3 : 12 ≠ 3 := (by first | assumption | omega)
              have hsp4 : 12 ≠ 5 := (by first | assumption | omega)
              have hsp5 : 12 = kwS (gtb tb) p9 th := (kw_y (i := 5) (by decide) (hs_35.y (by first | assumption | omega))).symm
              exact W.iret (v := 12) hx hb hr (fun t ht hW => ⟨⟨12, ixn [12], rfl, ⟨rfl, ⟨hsp0, hsp1, hsp2, hsp3, hsp4, hsp5⟩⟩, ⟨by rw [ht]; exact hg8, by rw [ht]; exact hg9, by rw [ht]; exact hP9, hD9⟩⟩, hS.F ht⟩) hS.2.2 d_Tokens_keyword_77
          · replace c_30 : ¬ u_25 0 = 0 := fun hq9 => c_30 ((nI_eq (a := u_25 0) (b := 0) (by first | exact Nat.lt_of_lt_of_le (by assumption) (by decide) | exact Nat.lt_of_le_of_lt (by assumption) (by decide) | omega) (by decide)).mpr hq9)
            refine lv_bipush (v := 11) hx hb d_Tokens_keyword_62 (by decide) ?_
            rw [← hQe]
            refine wk_know (fun hk8 hk9 => ?_)
            refine W.widen (k := 0) (n := 0) (Nat.le_of_ble_eq_true rfl) (Nat.le_of_ble_eq_true rfl) ?_
            obtain ⟨hP9, hD9⟩ := xw_sub2 (wc := (fun (u : Nat → Nat)  => [(k0, .inr (9, [.ref k1, .ref k2, .int (nI ts), .int (nI th), .int s_at, .int s_fault, .int s_next, .int s_amount])), (k1, .inl (ax 1, 400, .inl tb)), (k2, .inl (ax 0, 401, .inl (fun j => nI (tk j))))]) (ixn [11]) ) hP hD [0, 1, 2] (by decide) rfl
            have hg8 : H_26.size ≤ s.heap.size + (0) := by omega
            have hg9 : tsl H_26 ≤ tsl s.heap + (0) := by omega
            have hsp0 : 11 ≤ 17 := (by first | assumption | omega)
            have hsp1 : 11 ≠ 0 := (by first | assumption | omega)
            have hsp2 : 11 ≠ 2 := (by first | assumption | omega)
            have hsp3 : 11 ≠ 3 := (by first | assumption | omega)
            have hsp4 : 11 ≠ 5 := (by first | assumption | omega)
            have hsp5 : 11 = kwS (gtb tb) p9 th := (kw_y (i := 4) (by decide) (hs_29.y (by first | assumption | omega))).symm
            exact W.iret (v := 11) hx hb hr (fun t ht hW => ⟨⟨11, ixn [11], rfl, ⟨rfl, ⟨hsp0, hsp1, hsp2, hsp3, hsp4, hsp5⟩⟩, ⟨by rw [ht]; exact hg8, by rw [ht]; exact hg9, by rw [ht]; exact hP9, hD9⟩⟩, hS.F ht⟩) hS.2.2 d_Tokens_keyword_64
        · replace c_24 : ¬ u_19 0 = 0 := fun hq9 => c_24 ((nI_eq (a := u_19 0) (b := 0) (by first | exact Nat.lt_of_lt_of_le (by assumption) (by decide) | exact Nat.lt_of_le_of_lt (by assumption) (by decide) | omega) (by decide)).mpr hq9)
          refine lv_bipush (v := 10) hx hb d_Tokens_keyword_49 (by decide) ?_
          rw [← hQe]
          refine wk_know (fun hk8 hk9 => ?_)
          refine W.widen (k := 0) (n := 0) (Nat.le_of_ble_eq_true rfl) (Nat.le_of_ble_eq_true rfl) ?_
          obtain ⟨hP9, hD9⟩ := xw_sub2 (wc := (fun (u : Nat → Nat)  => [(k0, .inr (9, [.ref k1, .ref k2, .int (nI ts), .int (nI th), .int s_at, .int s_fault, .int s_next, .int s_amount])), (k1, .inl (ax 1, 400, .inl tb)), (k2, .inl (ax 0, 401, .inl (fun j => nI (tk j))))]) (ixn [10]) ) hP hD [0, 1, 2] (by decide) rfl
          have hg8 : H_20.size ≤ s.heap.size + (0) := by omega
          have hg9 : tsl H_20 ≤ tsl s.heap + (0) := by omega
          have hsp0 : 10 ≤ 17 := (by first | assumption | omega)
          have hsp1 : 10 ≠ 0 := (by first | assumption | omega)
          have hsp2 : 10 ≠ 2 := (by first | assumption | omega)
          have hsp3 : 10 ≠ 3 := (by first | assumption | omega)
          have hsp4 : 10 ≠ 5 := (by first | assumption | omega)
          have hsp5 : 10 = kwS (gtb tb) p9 th := (kw_y (i := 3) (by decide) (hs_23.y (by first | assumption | omega))).symm
          exact W.iret (v := 10) hx hb hr (fun t ht hW => ⟨⟨10, ixn [10], rfl, ⟨rfl, ⟨hsp0, hsp1, hsp2, hsp3, hsp4, hsp5⟩⟩, ⟨by rw [ht]; exact hg8, by rw [ht]; exact hg9, by rw [ht]; exact hP9, hD9⟩⟩, hS.F ht⟩) hS.2.2 d_Tokens_keyword_51
      · replace c_18 : ¬ u_13 0 = 0 := fun hq9 => c_18 ((nI_eq (a := u_13 0) (b := 0) (by first | exact Nat.lt_of_lt_of_le (by assumption) (by decide) | exact Nat.lt_of_le_of_lt (by assumption) (by decide) | omega) (by decide)).mpr hq9)
        refine lv_bipush (v := 9) hx hb d_Tokens_keyword_36 (by decide) ?_
        rw [← hQe]
        refine wk_know (fun hk8 hk9 => ?_)
        refine W.widen (k := 0) (n := 0) (Nat.le_of_ble_eq_true rfl) (Nat.le_of_ble_eq_true rfl) ?_
        obtain ⟨hP9, hD9⟩ := xw_sub2 (wc := (fun (u : Nat → Nat)  => [(k0, .inr (9, [.ref k1, .ref k2, .int (nI ts), .int (nI th), .int s_at, .int s_fault, .int s_next, .int s_amount])), (k1, .inl (ax 1, 400, .inl tb)), (k2, .inl (ax 0, 401, .inl (fun j => nI (tk j))))]) (ixn [9]) ) hP hD [0, 1, 2] (by decide) rfl
        have hg8 : H_14.size ≤ s.heap.size + (0) := by omega
        have hg9 : tsl H_14 ≤ tsl s.heap + (0) := by omega
        have hsp0 : 9 ≤ 17 := (by first | assumption | omega)
        have hsp1 : 9 ≠ 0 := (by first | assumption | omega)
        have hsp2 : 9 ≠ 2 := (by first | assumption | omega)
        have hsp3 : 9 ≠ 3 := (by first | assumption | omega)
        have hsp4 : 9 ≠ 5 := (by first | assumption | omega)
        have hsp5 : 9 = kwS (gtb tb) p9 th := (kw_y (i := 2) (by decide) (hs_17.y (by first | assumption | omega))).symm
        exact W.iret (v := 9) hx hb hr (fun t ht hW => ⟨⟨9, ixn [9], rfl, ⟨rfl, ⟨hsp0, hsp1, hsp2, hsp3, hsp4, hsp5⟩⟩, ⟨by rw [ht]; exact hg8, by rw [ht]; exact hg9, by rw [ht]; exact hP9, hD9⟩⟩, hS.F ht⟩) hS.2.2 d_Tokens_keyword_38
    · replace c_12 : ¬ u_7 0 = 0 := fun hq9 => c_12 ((nI_eq (a := u_7 0) (b := 0) (by first | exact Nat.lt_of_lt_of_le (by assumption) (by decide) | exact Nat.lt_of_le_of_lt (by assumption) (by decide) | omega) (by decide)).mpr hq9)
      refine lv_bipush (v := 8) hx hb d_Tokens_keyword_23 (by decide) ?_
      rw [← hQe]
      refine wk_know (fun hk8 hk9 => ?_)
      refine W.widen (k := 0) (n := 0) (Nat.le_of_ble_eq_true rfl) (Nat.le_of_ble_eq_true rfl) ?_
      obtain ⟨hP9, hD9⟩ := xw_sub2 (wc := (fun (u : Nat → Nat)  => [(k0, .inr (9, [.ref k1, .ref k2, .int (nI ts), .int (nI th), .int s_at, .int s_fault, .int s_next, .int s_amount])), (k1, .inl (ax 1, 400, .inl tb)), (k2, .inl (ax 0, 401, .inl (fun j => nI (tk j))))]) (ixn [8]) ) hP hD [0, 1, 2] (by decide) rfl
      have hg8 : H_8.size ≤ s.heap.size + (0) := by omega
      have hg9 : tsl H_8 ≤ tsl s.heap + (0) := by omega
      have hsp0 : 8 ≤ 17 := (by first | assumption | omega)
      have hsp1 : 8 ≠ 0 := (by first | assumption | omega)
      have hsp2 : 8 ≠ 2 := (by first | assumption | omega)
      have hsp3 : 8 ≠ 3 := (by first | assumption | omega)
      have hsp4 : 8 ≠ 5 := (by first | assumption | omega)
      have hsp5 : 8 = kwS (gtb tb) p9 th := (kw_y (i := 1) (by decide) (hs_11.y (by first | assumption | omega))).symm
      exact W.iret (v := 8) hx hb hr (fun t ht hW => ⟨⟨8, ixn [8], rfl, ⟨rfl, ⟨hsp0, hsp1, hsp2, hsp3, hsp4, hsp5⟩⟩, ⟨by rw [ht]; exact hg8, by rw [ht]; exact hg9, by rw [ht]; exact hP9, hD9⟩⟩, hS.F ht⟩) hS.2.2 d_Tokens_keyword_25
  · replace c_6 : ¬ u_1 0 = 0 := fun hq9 => c_6 ((nI_eq (a := u_1 0) (b := 0) (by first | exact Nat.lt_of_lt_of_le (by assumption) (by decide) | exact Nat.lt_of_le_of_lt (by assumption) (by decide) | omega) (by decide)).mpr hq9)
    refine lv_bipush (v := 7) hx hb d_Tokens_keyword_10 (by decide) ?_
    rw [← hQe]
    refine wk_know (fun hk8 hk9 => ?_)
    refine W.widen (k := 0) (n := 0) (Nat.le_of_ble_eq_true rfl) (Nat.le_of_ble_eq_true rfl) ?_
    obtain ⟨hP9, hD9⟩ := xw_sub2 (wc := (fun (u : Nat → Nat)  => [(k0, .inr (9, [.ref k1, .ref k2, .int (nI ts), .int (nI th), .int s_at, .int s_fault, .int s_next, .int s_amount])), (k1, .inl (ax 1, 400, .inl tb)), (k2, .inl (ax 0, 401, .inl (fun j => nI (tk j))))]) (ixn [7]) ) hP hD [0, 1, 2] (by decide) rfl
    have hg8 : H_2.size ≤ s.heap.size + (0) := by omega
    have hg9 : tsl H_2 ≤ tsl s.heap + (0) := by omega
    have hsp0 : 7 ≤ 17 := (by first | assumption | omega)
    have hsp1 : 7 ≠ 0 := (by first | assumption | omega)
    have hsp2 : 7 ≠ 2 := (by first | assumption | omega)
    have hsp3 : 7 ≠ 3 := (by first | assumption | omega)
    have hsp4 : 7 ≠ 5 := (by first | assumption | omega)
    have hsp5 : 7 = kwS (gtb tb) p9 th := (kw_y (i := 0) (by decide) (hs_5.y (by first | assumption | omega))).symm
    exact W.iret (v := 7) hx hb hr (fun t ht hW => ⟨⟨7, ixn [7], rfl, ⟨rfl, ⟨hsp0, hsp1, hsp2, hsp3, hsp4, hsp5⟩⟩, ⟨by rw [ht]; exact hg8, by rw [ht]; exact hg9, by rw [ht]; exact hP9, hD9⟩⟩, hS.F ht⟩) hS.2.2 d_Tokens_keyword_12
