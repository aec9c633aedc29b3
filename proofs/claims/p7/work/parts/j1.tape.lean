theorem ps_0 : Cond.selects "TripleDesk$Tokens" ⟨"TripleDesk$Tokens", "scan", "(I)I"⟩ ⟨"TripleDesk$Tokens", "scan", "(I)I"⟩ ∈ lw_gd := ps_in (q := (⟨"TripleDesk$Tokens", "scan", "(I)I"⟩, 8)) (i := 0) (by decide +kernel)
theorem wd_435 : ((Jvm.Cond.methodLink "TripleDesk$Tokens" (32 : Nat) ({ cls := "TripleDesk$Tokens", name := "scan", desc := "(I)I" } : Jvm.MethodName))) ∈ lw_gd := lw_gd_in (i := 435) (by decide +kernel) rfl
theorem wd_437 : ((Jvm.Cond.instanceMethod ({ cls := "TripleDesk$Tokens", name := "scan", desc := "(I)I" } : Jvm.MethodName))) ∈ lw_gd := lw_gd_in (i := 437) (by decide +kernel) rfl
theorem wd_438 : ((Jvm.Cond.code ({ cls := "TripleDesk$Tokens", name := "scan", desc := "(I)I" } : Jvm.MethodName) prog_11_method_8_code (2 : Nat) (Option.some Jvm.ClassFile.FieldType.int))) ∈ lw_gd := lw_gd_in (i := 438) (by decide +kernel) rfl
theorem tkw_of {a s : Nat} {am : Int32} (h : sco s am) (ha : a ≤ 400) : tkw (a * 131072 + i2n am % 1024 * 128 + s) := by
  obtain ⟨h1, h2, h3, h4⟩ := h
  have e1 : (a * 131072 + i2n am % 1024 * 128 + s) % 128 = s := by omega
  have e2 : (a * 131072 + i2n am % 1024 * 128 + s) / 128 % 1024 = i2n am % 1024 := by omega
  unfold tkw
  rw [e1, e2]
  exact ⟨by omega, fun q => by have := h2 q; omega, fun q => by have := h3 q; omega, fun q => by have := h4 q; omega⟩
theorem tkw_end {a : Nat} (ha : a ≤ 400) : tkw (a * 131072 + 0) ∧ (a * 131072 + 0) % 128 = 0 := by
  unfold tkw
  exact ⟨⟨by omega, fun q => by omega, fun q => by omega, fun q => by omega⟩, by omega⟩
theorem tkz_of {tk : Nat → Nat} {n a : Nat} (h : ∀ j, j < n → tkw (tk j)) (hn : n ≤ 400) (ha : a ≤ 400) : tkz (sup tk n (a * 131072 + 0)) n := by
  refine ⟨hn, by rw [sup_eq]; exact (tkw_end ha).2, fun j hj => ?_⟩
  by_cases e : j = n
  · subst e; rw [sup_eq]; exact (tkw_end ha).1
  · rw [sup_ne e]; exact h j (by omega)
set_option maxHeartbeats 40000000 in
set_option maxRecDepth 100000 in
theorem c_K_pass_first (l : Launch) (D : va_G) (ax : Nat → ClassId) (k0 k1 k2 : Nat) (s_size : Int32) (s_ahead : Int32) (s_next : Int32) (s_amount : Int32) (tb : Nat → Int32) (tk : Nat → Nat) (sz : Nat) (hv9 : tk 0 < 2 ^ 31) : Met l y_Tokens_pass (xws (.code y_Tokens_pass b_Tokens_pass 1 none)) ({ frames := 10, cells := 0, slots := 0, locals := 400 }) (va_Pc [.ref k0] (xo D ax [(k0, .inr (9, [.ref k1, .ref k2, .int s_size, .int s_ahead, .int (-1), .int (-1), .int s_next, .int s_amount])), (k1, .inl (ax 1, 400, .inl tb)), (k2, .inl (ax 0, 401, .inl (fun j => nI (tk j))))] sz)) ((va_Qv (fun (u : Nat → Nat) => True) (xb D (va_A [(k0, .inr (9, [.ref k1, .ref k2, .int s_size, .int s_ahead, .int (-1), .int (-1), .int s_next, .int s_amount])), (k1, .inl (ax 1, 400, .inl tb)), (k2, .inl (ax 0, 401, .inl (fun j => nI (tk j))))] sz) (fun u => [(k0, .inr (9, [.ref k1, .ref k2, .int s_size, .int s_ahead, .int 0, .int (-1), .int (nI (tk 0 % 128)), .int (nI (tk 0 / 128 % 1024))])), (k1, .inl (ax 1, 400, .inl tb)), (k2, .inl (ax 0, 401, .inl (fun j => nI (tk j))))])) (va_A [(k0, .inr (9, [.ref k1, .ref k2, .int s_size, .int s_ahead, .int (-1), .int (-1), .int s_next, .int s_amount])), (k1, .inl (ax 1, 400, .inl tb)), (k2, .inl (ax 0, 401, .inl (fun j => nI (tk j))))] sz))) 0 0 (va_A [(k0, .inr (9, [.ref k1, .ref k2, .int s_size, .int s_ahead, .int (-1), .int (-1), .int s_next, .int s_amount])), (k1, .inl (ax 1, 400, .inl tb)), (k2, .inl (ax 0, 401, .inl (fun j => nI (tk j))))] sz) := by
  refine Met.ofW (cc := b_Tokens_pass) (maxL := 1) (ret := none) (by decide) rfl ?_
  intro p e s m args below meth c s₁ B hml hv
  obtain ⟨rfl, hsz, hP, hK, hD0⟩ := hv
  have hx := B.exec
  have hb := B.bytes
  have hr := B.returns
  have hts := xw_hts B.pre
  have hown : s.vm.findClass R_Tokens = some m.cls := findClass_of_methodNamed B.named
  have hlocks := B.notSynchronized
  subst hsz
  have hD := hD0.self (sz := s.heap.size)
  have hN := xz_entry hP
  generalize hAe : va_A [(k0, .inr (9, [.ref k1, .ref k2, .int s_size, .int s_ahead, .int (-1), .int (-1), .int s_next, .int s_amount])), (k1, .inl (ax 1, 400, .inl tb)), (k2, .inl (ax 0, 401, .inl (fun j => nI (tk j))))] s.heap.size = A at hD hN ⊢
  have hA : ∀ q : Nat, s.heap.size ≤ q → A q := fun q h => by rw [← hAe]; exact Or.inr h
  have hS : va_S A s.heap s.heap [] := va_S.rf
  have hl0 := lv_entry ([.ref k0]) (n := 1) (Nat.le_of_ble_eq_true rfl)
  rw [lg_entry_eq]
  generalize (lg_sl ([.ref k0]) ++ List.replicate (1 - (lg_sl ([.ref k0])).length) Slot.unset).toArray = ls at hl0 ⊢
  have hl1 : lv_has ls 1 [(0, .ref k0)] := hl0
  refine xw_gen (fun Z9 hQe => ?_)
  refine lv_aload_n hx hb d_Tokens_pass_0 rfl (lv_at hl1 0 rfl) ?_
  refine va_get (D := D) (ci := 9) (v := .int (-1)) (C := R_Tokens) (T := F_Tokens) (N := 8) hx hb hts i_Tokens hown hK.1 hP 0 rfl rfl 5 (by decide) (hts _ wd_45) (fun _ h9 => h9) rfl d_Tokens_pass_1 ?_
  refine lv_iconst (v := (-1)) hx hb d_Tokens_pass_4 (by decide) ?_
  refine lv_icmp_ne (tgt := 64) hx hb d_Tokens_pass_5 (by decide) (fun c_1 => ?_) (fun c_1 => ?_)
  · first | exact absurd c_1 (by decide) | exact absurd (by decide) c_1
  refine lv_aload_n hx hb d_Tokens_pass_8 rfl (lv_at hl1 0 rfl) ?_
  refine va_get (D := D) (ci := 9) (v := .int (-1)) (C := R_Tokens) (T := F_Tokens) (N := 8) hx hb hts i_Tokens hown hK.1 hP 0 rfl rfl 4 (by decide) (hts _ wd_44) (fun _ h9 => h9) rfl d_Tokens_pass_9 ?_
  refine lv_sipush (v := 400) hx hb d_Tokens_pass_12 (by decide) ?_
  refine lv_icmp_ge (tgt := 64) hx hb d_Tokens_pass_15 (by decide) (fun c_2 => ?_) (fun c_2 => ?_)
  · first | exact absurd c_2 (by decide) | exact absurd (by decide) c_2
  refine lv_aload_n hx hb d_Tokens_pass_18 rfl (lv_at hl1 0 rfl) ?_
  refine lv_dup hx hb d_Tokens_pass_19 rfl ?_
  refine va_get (D := D) (ci := 9) (v := .int (-1)) (C := R_Tokens) (T := F_Tokens) (N := 8) hx hb hts i_Tokens hown hK.1 hP 0 rfl rfl 4 (by decide) (hts _ wd_44) (fun _ h9 => h9) rfl d_Tokens_pass_20 ?_
  refine lv_iconst (v := 1) hx hb d_Tokens_pass_23 (by decide) ?_
  refine lv_iadd hx hb d_Tokens_pass_24 ?_
  refine lv_topi (fun z_3 ez_3 => ?_)
  have ez_3 : z_3 = 0 := ez_3.trans (by first | rfl | decide)
  subst ez_3
  refine va_put (D := D) (ci := 9) (v := .int 0) (ty := .int) (C := R_Tokens) (T := F_Tokens) (N := 8) hx hb hts i_Tokens t_Tokens t_Tokens_ok n_Tokens hown hK.1 hP hD hS 0 rfl rfl 4 (by decide) (hts _ wd_44) (fun _ h9 => h9) rfl (by decide +kernel) rfl rfl (Nat.le_of_ble_eq_true rfl) d_Tokens_pass_25 (fun H_4 locs hP1 hD1 hS1 => ?_)
  clear hP hD hS
  have hS := hS1
  have hW7 : (fun w9 : va_W => va_P D classes w9 H_4 ∧ va_D A w9) [(k0, .inr (9, [.ref k1, .ref k2, .int s_size, .int s_ahead, .int 0, .int (-1), .int s_next, .int s_amount])), (k1, .inl (ax 1, 400, .inl tb)), (k2, .inl (ax 0, 401, .inl (fun j => nI (tk j))))] := ⟨hP1, hD1⟩
  obtain ⟨hP, hD⟩ := hW7
  clear hP1 hD1 hS1
  refine lv_aload_n hx hb d_Tokens_pass_28 rfl (lv_at hl1 0 rfl) ?_
  refine lv_aload_n hx hb d_Tokens_pass_29 rfl (lv_at hl1 0 rfl) ?_
  refine va_get (D := D) (ci := 9) (v := .ref k2) (C := R_Tokens) (T := F_Tokens) (N := 8) hx hb hts i_Tokens hown hK.1 hP 0 rfl rfl 1 (by decide) (hts _ wd_41) (fun _ h9 => h9) rfl d_Tokens_pass_30 ?_
  refine lv_aload_n hx hb d_Tokens_pass_33 rfl (lv_at hl1 0 rfl) ?_
  refine va_get (D := D) (ci := 9) (v := .int 0) (C := R_Tokens) (T := F_Tokens) (N := 8) hx hb hts i_Tokens hown hK.1 hP 0 rfl rfl 4 (by decide) (hts _ wd_44) (fun _ h9 => h9) rfl d_Tokens_pass_34 ?_
  refine va_iald hx hb hK.1 hP 2 0 rfl rfl (by unfold vp_in; decide) d_Tokens_pass_37 ?_
  refine W.eq (g2 := F0 m 38 ls [.int (nI (tk 0)), .ref k0]) (by rfl) ?_
  refine lv_bipush (v := 127) hx hb d_Tokens_pass_38 (by decide) ?_
  refine lv_iand hx hb d_Tokens_pass_40 ?_
  refine lv_topi (fun z_5 ez_5 => ?_)
  have ez_5 : z_5 = nI ((tk 0) % 128) := ez_5.trans (nb_and 7 (tk 0))
  subst ez_5
  refine va_put (D := D) (ci := 9) (v := .int (nI ((tk 0) % 128))) (ty := .int) (C := R_Tokens) (T := F_Tokens) (N := 8) hx hb hts i_Tokens t_Tokens t_Tokens_ok n_Tokens hown hK.1 hP hD hS 0 rfl rfl 6 (by decide) (hts _ wd_46) (fun _ h9 => h9) rfl (by decide +kernel) rfl rfl (Nat.le_of_ble_eq_true rfl) d_Tokens_pass_41 (fun H_6 locs hP1 hD1 hS1 => ?_)
  clear hP hD hS
  have hS := hS1
  have hW7 : (fun w9 : va_W => va_P D classes w9 H_6 ∧ va_D A w9) [(k0, .inr (9, [.ref k1, .ref k2, .int s_size, .int s_ahead, .int 0, .int (-1), .int (nI ((tk 0) % 128)), .int s_amount])), (k1, .inl (ax 1, 400, .inl tb)), (k2, .inl (ax 0, 401, .inl (fun j => nI (tk j))))] := ⟨hP1, hD1⟩
  obtain ⟨hP, hD⟩ := hW7
  clear hP1 hD1 hS1
  refine lv_aload_n hx hb d_Tokens_pass_44 rfl (lv_at hl1 0 rfl) ?_
  refine lv_aload_n hx hb d_Tokens_pass_45 rfl (lv_at hl1 0 rfl) ?_
  refine va_get (D := D) (ci := 9) (v := .ref k2) (C := R_Tokens) (T := F_Tokens) (N := 8) hx hb hts i_Tokens hown hK.1 hP 0 rfl rfl 1 (by decide) (hts _ wd_41) (fun _ h9 => h9) rfl d_Tokens_pass_46 ?_
  refine lv_aload_n hx hb d_Tokens_pass_49 rfl (lv_at hl1 0 rfl) ?_
  refine va_get (D := D) (ci := 9) (v := .int 0) (C := R_Tokens) (T := F_Tokens) (N := 8) hx hb hts i_Tokens hown hK.1 hP 0 rfl rfl 4 (by decide) (hts _ wd_44) (fun _ h9 => h9) rfl d_Tokens_pass_50 ?_
  refine va_iald hx hb hK.1 hP 2 0 rfl rfl (by unfold vp_in; decide) d_Tokens_pass_53 ?_
  refine W.eq (g2 := F0 m 54 ls [.int (nI (tk 0)), .ref k0]) (by rfl) ?_
  refine lv_bipush (v := 7) hx hb d_Tokens_pass_54 (by decide) ?_
  refine lv_ishr hx hb d_Tokens_pass_56 ?_
  refine lv_topi (fun z_7 ez_7 => ?_)
  have ez_7 : z_7 = nI ((tk 0) / 128) := ez_7.trans (nb_shr (k := 7) (a := tk 0) (by decide) (by first | assumption | omega))
  subst ez_7
  refine lv_sipush (v := 1023) hx hb d_Tokens_pass_57 (by decide) ?_
  refine lv_iand hx hb d_Tokens_pass_60 ?_
  refine lv_topi (fun z_8 ez_8 => ?_)
  have ez_8 : z_8 = nI (((tk 0) / 128) % 1024) := ez_8.trans (nb_and 10 ((tk 0) / 128))
  subst ez_8
  refine va_put (D := D) (ci := 9) (v := .int (nI (((tk 0) / 128) % 1024))) (ty := .int) (C := R_Tokens) (T := F_Tokens) (N := 8) hx hb hts i_Tokens t_Tokens t_Tokens_ok n_Tokens hown hK.1 hP hD hS 0 rfl rfl 7 (by decide) (hts _ wd_48) (fun _ h9 => h9) rfl (by decide +kernel) rfl rfl (Nat.le_of_ble_eq_true rfl) d_Tokens_pass_61 (fun H_9 locs hP1 hD1 hS1 => ?_)
  clear hP hD hS
  have hS := hS1
  have hW7 : (fun w9 : va_W => va_P D classes w9 H_9 ∧ va_D A w9) [(k0, .inr (9, [.ref k1, .ref k2, .int s_size, .int s_ahead, .int 0, .int (-1), .int (nI ((tk 0) % 128)), .int (nI (((tk 0) / 128) % 1024))])), (k1, .inl (ax 1, 400, .inl tb)), (k2, .inl (ax 0, 401, .inl (fun j => nI (tk j))))] := ⟨hP1, hD1⟩
  obtain ⟨hP, hD⟩ := hW7
  clear hP1 hD1 hS1
  rw [← hQe]
  obtain ⟨hP9, hD9⟩ := xw_sub2 (wc := (fun u : Nat → Nat => [(k0, .inr (9, [.ref k1, .ref k2, .int s_size, .int s_ahead, .int 0, .int (-1), .int (nI (tk 0 % 128)), .int (nI (tk 0 / 128 % 1024))])), (k1, .inl (ax 1, 400, .inl tb)), (k2, .inl (ax 0, 401, .inl (fun j => nI (tk j))))]) (ixn [])) hP hD [0, 1, 2] (by decide) rfl
  exact W.vret hx hb hr (fun t ht hW => ⟨⟨ixn [], rfl, trivial, ⟨by rw [ht]; exact hP9, hD9⟩⟩, hS.F ht⟩) hS.2.2 d_Tokens_pass_64
abbrev b_Tokens_takeTape : ByteArray := prog_11_method_3_code
def y_Tokens_takeTape : MethodName := ⟨R_Tokens, "takeTape", "()V"⟩
theorem d_Tokens_takeTape_0 : decode b_Tokens_takeTape 0 = .ok (.iconst 0, 1) := by decide +kernel
theorem d_Tokens_takeTape_1 : decode b_Tokens_takeTape 1 = .ok (.istore_n 1, 1) := by decide +kernel
theorem d_Tokens_takeTape_2 : decode b_Tokens_takeTape 2 = .ok (.aload_n 0, 1) := by decide +kernel
theorem d_Tokens_takeTape_3 : decode b_Tokens_takeTape 3 = .ok (.iconst 0, 1) := by decide +kernel
theorem d_Tokens_takeTape_4 : decode b_Tokens_takeTape 4 = .ok (.putfield 26, 3) := by decide +kernel
theorem d_Tokens_takeTape_7 : decode b_Tokens_takeTape 7 = .ok (.iconst 0, 1) := by decide +kernel
theorem d_Tokens_takeTape_8 : decode b_Tokens_takeTape 8 = .ok (.istore_n 2, 1) := by decide +kernel
theorem d_Tokens_takeTape_9 : decode b_Tokens_takeTape 9 = .ok (.iload_n 2, 1) := by decide +kernel
theorem d_Tokens_takeTape_10 : decode b_Tokens_takeTape 10 = .ok (.sipush 400, 3) := by decide +kernel
theorem d_Tokens_takeTape_13 : decode b_Tokens_takeTape 13 = .ok (.if_icmp .ge 77, 3) := by decide +kernel
theorem d_Tokens_takeTape_16 : decode b_Tokens_takeTape 16 = .ok (.aload_n 0, 1) := by decide +kernel
theorem d_Tokens_takeTape_17 : decode b_Tokens_takeTape 17 = .ok (.getfield 26, 3) := by decide +kernel
theorem d_Tokens_takeTape_20 : decode b_Tokens_takeTape 20 = .ok (.aload_n 0, 1) := by decide +kernel
theorem d_Tokens_takeTape_21 : decode b_Tokens_takeTape 21 = .ok (.getfield 23, 3) := by decide +kernel
theorem d_Tokens_takeTape_24 : decode b_Tokens_takeTape 24 = .ok (.if_icmp .ge 66, 3) := by decide +kernel
theorem d_Tokens_takeTape_27 : decode b_Tokens_takeTape 27 = .ok (.aload_n 0, 1) := by decide +kernel
theorem d_Tokens_takeTape_28 : decode b_Tokens_takeTape 28 = .ok (.getfield 26, 3) := by decide +kernel
theorem d_Tokens_takeTape_31 : decode b_Tokens_takeTape 31 = .ok (.istore_n 3, 1) := by decide +kernel
theorem d_Tokens_takeTape_32 : decode b_Tokens_takeTape 32 = .ok (.aload_n 0, 1) := by decide +kernel
theorem d_Tokens_takeTape_33 : decode b_Tokens_takeTape 33 = .ok (.iconst 0, 1) := by decide +kernel
theorem d_Tokens_takeTape_34 : decode b_Tokens_takeTape 34 = .ok (.putfield 29, 3) := by decide +kernel
theorem d_Tokens_takeTape_37 : decode b_Tokens_takeTape 37 = .ok (.aload_n 0, 1) := by decide +kernel
theorem d_Tokens_takeTape_38 : decode b_Tokens_takeTape 38 = .ok (.aload_n 0, 1) := by decide +kernel
theorem d_Tokens_takeTape_39 : decode b_Tokens_takeTape 39 = .ok (.getfield 9, 3) := by decide +kernel
theorem d_Tokens_takeTape_42 : decode b_Tokens_takeTape 42 = .ok (.iload_n 3, 1) := by decide +kernel
theorem d_Tokens_takeTape_43 : decode b_Tokens_takeTape 43 = .ok (.baload, 1) := by decide +kernel
theorem d_Tokens_takeTape_44 : decode b_Tokens_takeTape 44 = .ok (.invokevirtual 32, 3) := by decide +kernel
theorem d_Tokens_takeTape_47 : decode b_Tokens_takeTape 47 = .ok (.istore 4, 2) := by decide +kernel
theorem d_Tokens_takeTape_49 : decode b_Tokens_takeTape 49 = .ok (.iload 4, 2) := by decide +kernel
theorem d_Tokens_takeTape_51 : decode b_Tokens_takeTape 51 = .ok (.bipush 32, 2) := by decide +kernel
theorem d_Tokens_takeTape_53 : decode b_Tokens_takeTape 53 = .ok (.if_icmp .eq 31, 3) := by decide +kernel
theorem d_Tokens_takeTape_56 : decode b_Tokens_takeTape 56 = .ok (.aload_n 0, 1) := by decide +kernel
theorem d_Tokens_takeTape_57 : decode b_Tokens_takeTape 57 = .ok (.getfield 15, 3) := by decide +kernel
theorem d_Tokens_takeTape_60 : decode b_Tokens_takeTape 60 = .ok (.iload_n 1, 1) := by decide +kernel
theorem d_Tokens_takeTape_61 : decode b_Tokens_takeTape 61 = .ok (.iload_n 3, 1) := by decide +kernel
theorem d_Tokens_takeTape_62 : decode b_Tokens_takeTape 62 = .ok (.bipush 17, 2) := by decide +kernel
theorem d_Tokens_takeTape_64 : decode b_Tokens_takeTape 64 = .ok (.ishl, 1) := by decide +kernel
theorem d_Tokens_takeTape_65 : decode b_Tokens_takeTape 65 = .ok (.aload_n 0, 1) := by decide +kernel
theorem d_Tokens_takeTape_66 : decode b_Tokens_takeTape 66 = .ok (.getfield 29, 3) := by decide +kernel
theorem d_Tokens_takeTape_69 : decode b_Tokens_takeTape 69 = .ok (.sipush 1023, 3) := by decide +kernel
theorem d_Tokens_takeTape_72 : decode b_Tokens_takeTape 72 = .ok (.iand, 1) := by decide +kernel
theorem d_Tokens_takeTape_73 : decode b_Tokens_takeTape 73 = .ok (.bipush 7, 2) := by decide +kernel
theorem d_Tokens_takeTape_75 : decode b_Tokens_takeTape 75 = .ok (.ishl, 1) := by decide +kernel
theorem d_Tokens_takeTape_76 : decode b_Tokens_takeTape 76 = .ok (.ior, 1) := by decide +kernel
theorem d_Tokens_takeTape_77 : decode b_Tokens_takeTape 77 = .ok (.iload 4, 2) := by decide +kernel
theorem d_Tokens_takeTape_79 : decode b_Tokens_takeTape 79 = .ok (.ior, 1) := by decide +kernel
theorem d_Tokens_takeTape_80 : decode b_Tokens_takeTape 80 = .ok (.iastore, 1) := by decide +kernel
theorem d_Tokens_takeTape_81 : decode b_Tokens_takeTape 81 = .ok (.iinc 1 1, 3) := by decide +kernel
theorem d_Tokens_takeTape_84 : decode b_Tokens_takeTape 84 = .ok (.iinc 2 1, 3) := by decide +kernel
theorem d_Tokens_takeTape_87 : decode b_Tokens_takeTape 87 = .ok (.goto (-78), 3) := by decide +kernel
theorem d_Tokens_takeTape_90 : decode b_Tokens_takeTape 90 = .ok (.aload_n 0, 1) := by decide +kernel
theorem d_Tokens_takeTape_91 : decode b_Tokens_takeTape 91 = .ok (.getfield 15, 3) := by decide +kernel
theorem d_Tokens_takeTape_94 : decode b_Tokens_takeTape 94 = .ok (.iload_n 1, 1) := by decide +kernel
theorem d_Tokens_takeTape_95 : decode b_Tokens_takeTape 95 = .ok (.aload_n 0, 1) := by decide +kernel
theorem d_Tokens_takeTape_96 : decode b_Tokens_takeTape 96 = .ok (.getfield 23, 3) := by decide +kernel
theorem d_Tokens_takeTape_99 : decode b_Tokens_takeTape 99 = .ok (.bipush 17, 2) := by decide +kernel
theorem d_Tokens_takeTape_101 : decode b_Tokens_takeTape 101 = .ok (.ishl, 1) := by decide +kernel
theorem d_Tokens_takeTape_102 : decode b_Tokens_takeTape 102 = .ok (.iconst 0, 1) := by decide +kernel
theorem d_Tokens_takeTape_103 : decode b_Tokens_takeTape 103 = .ok (.ior, 1) := by decide +kernel
theorem d_Tokens_takeTape_104 : decode b_Tokens_takeTape 104 = .ok (.iastore, 1) := by decide +kernel
theorem d_Tokens_takeTape_105 : decode b_Tokens_takeTape 105 = .ok (.aload_n 0, 1) := by decide +kernel
theorem d_Tokens_takeTape_106 : decode b_Tokens_takeTape 106 = .ok (.iconst 0, 1) := by decide +kernel
theorem d_Tokens_takeTape_107 : decode b_Tokens_takeTape 107 = .ok (.putfield 23, 3) := by decide +kernel
theorem d_Tokens_takeTape_110 : decode b_Tokens_takeTape 110 = .ok (.aload_n 0, 1) := by decide +kernel
theorem d_Tokens_takeTape_111 : decode b_Tokens_takeTape 111 = .ok (.iconst (-1), 1) := by decide +kernel
theorem d_Tokens_takeTape_112 : decode b_Tokens_takeTape 112 = .ok (.putfield 19, 3) := by decide +kernel
theorem d_Tokens_takeTape_115 : decode b_Tokens_takeTape 115 = .ok (.aload_n 0, 1) := by decide +kernel
theorem d_Tokens_takeTape_116 : decode b_Tokens_takeTape 116 = .ok (.iconst (-1), 1) := by decide +kernel
theorem d_Tokens_takeTape_117 : decode b_Tokens_takeTape 117 = .ok (.putfield 36, 3) := by decide +kernel
theorem d_Tokens_takeTape_120 : decode b_Tokens_takeTape 120 = .ok (.aload_n 0, 1) := by decide +kernel
theorem d_Tokens_takeTape_121 : decode b_Tokens_takeTape 121 = .ok (.invokevirtual 39, 3) := by decide +kernel
theorem d_Tokens_takeTape_124 : decode b_Tokens_takeTape 124 = .ok (.return_, 1) := by decide +kernel
set_option maxHeartbeats 40000000 in
set_option maxRecDepth 100000 in
theorem c_T_takeTape (l : Launch) (D : va_G) (ax : Nat → ClassId) (ad av : Nat → Nat) (fm : Nat) (k0 k1 k2 : Nat) (s_ahead : Int32) (s_at : Int32) (s_fault : Int32) (s_next : Int32) (s_amount : Int32) (tb : Nat → Int32) (tk : Nat → Nat) (ts : Nat) (sz tz : Nat) (hts : ts ≤ 400) (hbt : bts tb 400) : Met l y_Tokens_takeTape (xws (.code y_Tokens_takeTape b_Tokens_takeTape 5 none)) ({ frames := 90, cells := 0, slots := 0, locals := 3600 }) (va_Pc [.ref k0] (xo4 D ax ad av fm [(k0, .inr (9, [.ref k1, .ref k2, .int (nI ts), .int s_ahead, .int s_at, .int s_fault, .int s_next, .int s_amount])), (k1, .inl (ax 1, 400, .inl tb)), (k2, .inl (ax 0, 401, .inl (fun j => nI (tk j))))] sz tz)) ((va_Qv (fun (u : Nat → Nat) => (u 0 ≤ ts)) (fun (u : Nat → Nat) (t9 : State) => ∃ xtk : Nat → Nat, (t9.heap.size ≤ sz + (0)) ∧ (tsl t9.heap ≤ tz + (0)) ∧ (∃ cn, tkz xtk cn ∧ tkr (gtb tb) ts xtk cn) ∧ va_P D classes [(k0, .inr (9, [.ref k1, .ref k2, .int 0, .int (nI (u 0)), .int 0, .int (-1), .int (nI (xtk 0 % 128)), .int (nI (xtk 0 / 128 % 1024))])), (k1, .inl (ax 1, 400, .inl tb)), (k2, .inl (ax 0, 401, .inl (fun j => nI (xtk j))))] t9.heap ∧ va_D (va_A [(k0, .inr (9, [.ref k1, .ref k2, .int (nI ts), .int s_ahead, .int s_at, .int s_fault, .int s_next, .int s_amount])), (k1, .inl (ax 1, 400, .inl tb)), (k2, .inl (ax 0, 401, .inl (fun j => nI (tk j))))] sz) [(k0, .inr (9, [.ref k1, .ref k2, .int 0, .int (nI (u 0)), .int 0, .int (-1), .int (nI (xtk 0 % 128)), .int (nI (xtk 0 / 128 % 1024))])), (k1, .inl (ax 1, 400, .inl tb)), (k2, .inl (ax 0, 401, .inl (fun j => nI (xtk j))))]) (va_A [(k0, .inr (9, [.ref k1, .ref k2, .int (nI ts), .int s_ahead, .int s_at, .int s_fault, .int s_next, .int s_amount])), (k1, .inl (ax 1, 400, .inl tb)), (k2, .inl (ax 0, 401, .inl (fun j => nI (tk j))))] sz))) 0 0 (va_A [(k0, .inr (9, [.ref k1, .ref k2, .int (nI ts), .int s_ahead, .int s_at, .int s_fault, .int s_next, .int s_amount])), (k1, .inl (ax 1, 400, .inl tb)), (k2, .inl (ax 0, 401, .inl (fun j => nI (tk j))))] sz) := by
  refine Met.ofW (cc := b_Tokens_takeTape) (maxL := 5) (ret := none) (by decide) rfl ?_
  intro p e s m args below meth c s₁ B hml hv
  obtain ⟨rfl, ⟨⟨hsz, hP, hK, hD0⟩, htz⟩, hX⟩ := hv
  have hx := B.exec
  have hb := B.bytes
  have hr := B.returns
  have hts := xw_hts B.pre
  have hown : s.vm.findClass R_Tokens = some m.cls := findClass_of_methodNamed B.named
  have hlocks := B.notSynchronized
  subst hsz
  subst htz
  have hD := hD0.self (sz := s.heap.size)
  have hN := xz_entry hP
  generalize hAe : va_A [(k0, .inr (9, [.ref k1, .ref k2, .int (nI ts), .int s_ahead, .int s_at, .int s_fault, .int s_next, .int s_amount])), (k1, .inl (ax 1, 400, .inl tb)), (k2, .inl (ax 0, 401, .inl (fun j => nI (tk j))))] s.heap.size = A at hD hN hX ⊢
  have hA : ∀ q : Nat, s.heap.size ≤ q → A q := fun q h => by rw [← hAe]; exact Or.inr h
  have hS : va_S A s.heap s.heap [] := va_S.rf
  have hl0 := lv_entry ([.ref k0]) (n := 5) (Nat.le_of_ble_eq_true rfl)
  rw [lg_entry_eq]
  generalize (lg_sl ([.ref k0]) ++ List.replicate (5 - (lg_sl ([.ref k0])).length) Slot.unset).toArray = ls at hl0 ⊢
  have hl1 : lv_has ls 5 [(0, .ref k0)] := hl0
  refine xw_gen (fun Z9 hQe => ?_)
  refine lv_iconst (v := 0) hx hb d_Tokens_takeTape_0 (by decide) ?_
  refine lv_istore_n (lv' := [(1, .int 0), (0, .ref k0)]) hx hb d_Tokens_takeTape_1 rfl hl1 (by decide) rfl (fun ls hl2 => ?_)
  clear hl1; have hl1 := hl2; clear hl2
  refine lv_aload_n hx hb d_Tokens_takeTape_2 rfl (lv_at hl1 1 rfl) ?_
  refine lv_iconst (v := 0) hx hb d_Tokens_takeTape_3 (by decide) ?_
  refine va_put (D := D) (ci := 9) (v := .int 0) (ty := .int) (C := R_Tokens) (T := F_Tokens) (N := 8) hx hb hts i_Tokens t_Tokens t_Tokens_ok n_Tokens hown hK.1 hP hD hS 0 rfl rfl 3 (by decide) (hts _ wd_43) (fun _ h9 => h9) rfl (by decide +kernel) rfl rfl (Nat.le_of_ble_eq_true rfl) d_Tokens_takeTape_4 (fun H_1 locs hP1 hD1 hS1 => ?_)
  clear hP hD hS
  have hS := hS1
  have hW7 : (fun w9 : va_W => va_P D classes w9 H_1 ∧ va_D A w9) [(k0, .inr (9, [.ref k1, .ref k2, .int (nI ts), .int 0, .int s_at, .int s_fault, .int s_next, .int s_amount])), (k1, .inl (ax 1, 400, .inl tb)), (k2, .inl (ax 0, 401, .inl (fun j => nI (tk j))))] := ⟨hP1, hD1⟩
  obtain ⟨hP, hD⟩ := hW7
  clear hP1 hD1 hS1
  refine lv_iconst (v := 0) hx hb d_Tokens_takeTape_7 (by decide) ?_
  refine lv_istore_n (lv' := [(2, .int 0), (1, .int 0), (0, .ref k0)]) hx hb d_Tokens_takeTape_8 rfl hl1 (by decide) rfl (fun ls hl2 => ?_)
  clear hl1; have hl1 := hl2; clear hl2
  suffices key_2 : ∀ (k : Nat) (cn1 tn1 th1 : Nat) (am1 : Int32) (tk1 : Nat → Nat), 400 - tn1 < k → cn1 ≤ tn1 → tn1 ≤ 400 → th1 ≤ ts → (∀ j, j < cn1 → tkw (tk1 j)) → nxB (gtb tb) ts th1 = tpo (gtb tb) ts cn1 → (∀ j, j < cn1 → tkc (gtb tb) ts (tk1 j) j) → tn1 ≤ th1 → ∀ (H : Heap) (locs : List Loc) (ls : Array Slot), va_P D classes [(k0, .inr (9, [.ref k1, .ref k2, .int (nI ts), .int (nI th1), .int s_at, .int s_fault, .int s_next, .int am1])), (k1, .inl (ax 1, 400, .inl tb)), (k2, .inl (ax 0, 401, .inl (fun j => nI (tk1 j))))] H → va_D A [(k0, .inr (9, [.ref k1, .ref k2, .int (nI ts), .int (nI th1), .int s_at, .int s_fault, .int s_next, .int am1])), (k1, .inl (ax 1, 400, .inl tb)), (k2, .inl (ax 0, 401, .inl (fun j => nI (tk1 j))))] → va_S A s.heap H locs → lv_has ls 5 [(0, .ref k0), (1, .int (nI cn1)), (2, .int (nI tn1))] → W p l e (headSpec (xws (.code y_Tokens_takeTape b_Tokens_takeTape 5 none)) ({ frames := 90, cells := 0, slots := 0, locals := 3600 })).room s m ([.ref k0] : List Value).toArray below meth c H locs 0 0 Z9 (F0 m 9 ls []) from key_2 (400 - 0 + 1) 0 0 0 s_amount tk (Nat.lt_succ_self _) (by first | assumption | omega) (by first | assumption | omega) (by first | assumption | omega) (fun j hj => absurd hj (by first | assumption | omega)) rfl (fun j hj => absurd hj (by first | assumption | omega)) (by first | assumption | omega) _ _ _ (hP) (hD) hS (lv_sub hl1 [2, 1, 0] rfl)
  intro k_3
  induction k_3 with
  | zero =>
    intro cn1 tn1 th1 am1 tk1 hk_5
    exact absurd hk_5 (Nat.not_lt_zero _)
  | succ k_3 ih_4 =>
    clear hP hD hS hl1
    intro cn1 tn1 th1 am1 tk1 hk_5 h1a h1b h1c h1d h1e h1f h1g H locs ls hP hD hS hl1
    refine lv_iload_n hx hb d_Tokens_takeTape_9 rfl (lv_at hl1 2 rfl) ?_
    refine lv_sipush (v := 400) hx hb d_Tokens_takeTape_10 (by decide) ?_
    refine lv_icmp_ge (tgt := 90) hx hb d_Tokens_takeTape_13 (by decide) (fun c_6 => ?_) (fun c_6 => ?_)
    · replace c_6 : 400 ≤ tn1 := (nI_leI (a := 400) (b := tn1) (by decide) (by first | exact Nat.lt_of_lt_of_le (by assumption) (by decide) | exact Nat.lt_of_le_of_lt (by assumption) (by decide) | omega)).mp c_6
      refine lv_aload_n hx hb d_Tokens_takeTape_90 rfl (lv_at hl1 0 rfl) ?_
      refine va_get (D := D) (ci := 9) (v := .ref k2) (C := R_Tokens) (T := F_Tokens) (N := 8) hx hb hts i_Tokens hown hK.1 hP 0 rfl rfl 1 (by decide) (hts _ wd_41) (fun _ h9 => h9) rfl d_Tokens_takeTape_91 ?_
      refine lv_iload_n hx hb d_Tokens_takeTape_94 rfl (lv_at hl1 1 rfl) ?_
      refine lv_aload_n hx hb d_Tokens_takeTape_95 rfl (lv_at hl1 0 rfl) ?_
      refine va_get (D := D) (ci := 9) (v := .int (nI ts)) (C := R_Tokens) (T := F_Tokens) (N := 8) hx hb hts i_Tokens hown hK.1 hP 0 rfl rfl 2 (by decide) (hts _ wd_42) (fun _ h9 => h9) rfl d_Tokens_takeTape_96 ?_
      refine lv_bipush (v := 17) hx hb d_Tokens_takeTape_99 (by decide) ?_
      refine lv_ishl hx hb d_Tokens_takeTape_101 ?_
      refine lv_topi (fun z_7 ez_7 => ?_)
      have ez_7 : z_7 = nI (ts * 131072) := ez_7.trans (nb_shl (k := 17) (by decide) ts)
      subst ez_7
      refine lv_iconst (v := 0) hx hb d_Tokens_takeTape_102 (by decide) ?_
      refine W.eq (g2 := F0 m 103 ls [.int (nI 0), .int (nI (ts * 131072)), .int (nI cn1), .ref k2]) rfl ?_
      refine lv_ior hx hb d_Tokens_takeTape_103 ?_
      refine lv_topi (fun z_8 ez_8 => ?_)
      have ez_8 : z_8 = nI ((ts * 131072) + 0) := ez_8.trans (nb_or3 (k := 17) (a := ts * 131072) (b := 0) (by first | assumption | omega) (by first | assumption | omega))
      subst ez_8
      refine va_iast hx hb hK.1 hP hD hS 2 0 rfl rfl (vp_in_nI (by first | assumption | omega) (by decide)) d_Tokens_takeTape_104 (fun H_9 locs hP1 hD1 hS1 => ?_)
      rw [nI_clamp (by first | exact Nat.lt_of_lt_of_le (by assumption) (by decide) | exact Nat.lt_of_le_of_lt (by assumption) (by decide) | omega)] at hP1 hD1
      rw [xf_sup tk1 cn1 ((ts * 131072) + 0)] at hP1 hD1
      clear hP hD hS
      have hS := hS1
      have hW7 : (fun w9 : va_W => va_P D classes w9 H_9 ∧ va_D A w9) [(k0, .inr (9, [.ref k1, .ref k2, .int (nI ts), .int (nI th1), .int s_at, .int s_fault, .int s_next, .int am1])), (k1, .inl (ax 1, 400, .inl tb)), (k2, .inl (ax 0, 401, .inl (fun j => nI (sup tk1 cn1 ((ts * 131072) + 0) j))))] := ⟨hP1, hD1⟩
      obtain ⟨hP, hD⟩ := hW7
      clear hP1 hD1 hS1
      refine lv_aload_n hx hb d_Tokens_takeTape_105 rfl (lv_at hl1 0 rfl) ?_
      refine lv_iconst (v := 0) hx hb d_Tokens_takeTape_106 (by decide) ?_
      refine va_put (D := D) (ci := 9) (v := .int 0) (ty := .int) (C := R_Tokens) (T := F_Tokens) (N := 8) hx hb hts i_Tokens t_Tokens t_Tokens_ok n_Tokens hown hK.1 hP hD hS 0 rfl rfl 2 (by decide) (hts _ wd_42) (fun _ h9 => h9) rfl (by decide +kernel) rfl rfl (Nat.le_of_ble_eq_true rfl) d_Tokens_takeTape_107 (fun H_10 locs hP1 hD1 hS1 => ?_)
      clear hP hD hS
      have hS := hS1
      have hW7 : (fun w9 : va_W => va_P D classes w9 H_10 ∧ va_D A w9) [(k0, .inr (9, [.ref k1, .ref k2, .int 0, .int (nI th1), .int s_at, .int s_fault, .int s_next, .int am1])), (k1, .inl (ax 1, 400, .inl tb)), (k2, .inl (ax 0, 401, .inl (fun j => nI (sup tk1 cn1 ((ts * 131072) + 0) j))))] := ⟨hP1, hD1⟩
      obtain ⟨hP, hD⟩ := hW7
      clear hP1 hD1 hS1
      refine lv_aload_n hx hb d_Tokens_takeTape_110 rfl (lv_at hl1 0 rfl) ?_
      refine lv_iconst (v := (-1)) hx hb d_Tokens_takeTape_111 (by decide) ?_
      refine va_put (D := D) (ci := 9) (v := .int (-1)) (ty := .int) (C := R_Tokens) (T := F_Tokens) (N := 8) hx hb hts i_Tokens t_Tokens t_Tokens_ok n_Tokens hown hK.1 hP hD hS 0 rfl rfl 5 (by decide) (hts _ wd_45) (fun _ h9 => h9) rfl (by decide +kernel) rfl rfl (Nat.le_of_ble_eq_true rfl) d_Tokens_takeTape_112 (fun H_11 locs hP1 hD1 hS1 => ?_)
      clear hP hD hS
      have hS := hS1
      have hW7 : (fun w9 : va_W => va_P D classes w9 H_11 ∧ va_D A w9) [(k0, .inr (9, [.ref k1, .ref k2, .int 0, .int (nI th1), .int s_at, .int (-1), .int s_next, .int am1])), (k1, .inl (ax 1, 400, .inl tb)), (k2, .inl (ax 0, 401, .inl (fun j => nI (sup tk1 cn1 ((ts * 131072) + 0) j))))] := ⟨hP1, hD1⟩
      obtain ⟨hP, hD⟩ := hW7
      clear hP1 hD1 hS1
      refine lv_aload_n hx hb d_Tokens_takeTape_115 rfl (lv_at hl1 0 rfl) ?_
      refine lv_iconst (v := (-1)) hx hb d_Tokens_takeTape_116 (by decide) ?_
      refine va_put (D := D) (ci := 9) (v := .int (-1)) (ty := .int) (C := R_Tokens) (T := F_Tokens) (N := 8) hx hb hts i_Tokens t_Tokens t_Tokens_ok n_Tokens hown hK.1 hP hD hS 0 rfl rfl 4 (by decide) (hts _ wd_44) (fun _ h9 => h9) rfl (by decide +kernel) rfl rfl (Nat.le_of_ble_eq_true rfl) d_Tokens_takeTape_117 (fun H_12 locs hP1 hD1 hS1 => ?_)
      clear hP hD hS
      have hS := hS1
      have hW7 : (fun w9 : va_W => va_P D classes w9 H_12 ∧ va_D A w9) [(k0, .inr (9, [.ref k1, .ref k2, .int 0, .int (nI th1), .int (-1), .int (-1), .int s_next, .int am1])), (k1, .inl (ax 1, 400, .inl tb)), (k2, .inl (ax 0, 401, .inl (fun j => nI (sup tk1 cn1 ((ts * 131072) + 0) j))))] := ⟨hP1, hD1⟩
      obtain ⟨hP, hD⟩ := hW7
      clear hP1 hD1 hS1
      have hz9 := tkz_of (a := ts) h1d (by first | assumption | omega) (by first | assumption | omega)
      have hr9 := tkr_of (n := ts) h1f (tt_e (by rw [show th1 = ts by omega] at h1e; exact h1e))
      have hv9 := (hz9.2.2 0 (by first | assumption | omega)).1
      refine lv_aload_n hx hb d_Tokens_takeTape_120 rfl (lv_at hl1 0 rfl) ?_
      obtain ⟨hPc, hDc, hFc, hCs⟩ := xw_sub3 (wc := [(k0, .inr (9, [.ref k1, .ref k2, .int 0, .int (nI th1), .int (-1), .int (-1), .int s_next, .int am1])), (k1, .inl (ax 1, 400, .inl tb)), (k2, .inl (ax 0, 401, .inl (fun j => nI ((sup tk1 cn1 ((ts * 131072) + 0)) j))))]) hP hD hS hA [0, 1, 2] (by decide) rfl
      have hz := xz_of hN hS
      refine va_callv (va_runV (As := []) (rest := []) ⟨hx, hb, hml, hown, hts⟩ (c_K_pass_first l D ax k0 k1 k2 0 (nI th1) s_next am1 tb (sup tk1 cn1 ((ts * 131072) + 0)) H_12.size (by assumption)) (xcV (n := 0) hts wd_531 wd_2 wd_528 wd_529 wd_530 rfl rfl (by decide +kernel) ⟨Nat.le_of_ble_eq_true rfl, Nat.le_of_ble_eq_true rfl⟩) (xpV (ci := 9) (q0 := 0) (As := []) hPc hK hz hDc rfl rfl) rfl rfl hl1.1 rfl (lv_room (Nat.le_of_ble_eq_true rfl)) d_Tokens_takeTape_121 ⟨Nat.le_of_ble_eq_true rfl, Nat.le_of_ble_eq_true rfl⟩) hS (fun q _ h => hFc q h) hFc (fun u_13 t H_14 locs ht hvm hw hB hz1 hk1 hS1 => ?_)
      try dsimp only at hw
      obtain ⟨hP1, hD1⟩ := hB
      rw [ht] at hP1
      have hjn := xw_join3 (wl := [(k0, .inr (9, [.ref k1, .ref k2, .int 0, .int (nI th1), .int 0, .int (-1), .int (nI ((sup tk1 cn1 ((ts * 131072) + 0)) 0 % 128)), .int (nI ((sup tk1 cn1 ((ts * 131072) + 0)) 0 / 128 % 1024))])), (k1, .inl (ax 1, 400, .inl tb)), (k2, .inl (ax 0, 401, .inl (fun j => nI ((sup tk1 cn1 ((ts * 131072) + 0)) j))))]) hP hD [0, 1, 2] [] hCs (by decide) (by decide) hk1 hFc hP1 hD1 rfl
      clear hP1 hD1
      clear hPc hDc hFc hCs hz hz1 hk1 ht hvm
      clear hP hD hS
      have hS := hS1
      obtain ⟨hP, hD⟩ := hjn
      clear hS1
      rw [← hQe]
      refine wk_know (fun hk8 hk9 => ?_)
      obtain ⟨hP9, hD9⟩ := xw_sub2 (wc := (fun (u : Nat → Nat) (xtk : Nat → Nat) => [(k0, .inr (9, [.ref k1, .ref k2, .int 0, .int (nI (u 0)), .int 0, .int (-1), .int (nI (xtk 0 % 128)), .int (nI (xtk 0 / 128 % 1024))])), (k1, .inl (ax 1, 400, .inl tb)), (k2, .inl (ax 0, 401, .inl (fun j => nI (xtk j))))]) (ixn [th1]) (sup tk1 cn1 ((ts * 131072) + 0))) hP hD [0, 1, 2] (by decide) rfl
      have hex0 : ∃ cn, tkz (sup tk1 cn1 ((ts * 131072) + 0)) cn ∧ tkr (gtb tb) ts (sup tk1 cn1 ((ts * 131072) + 0)) cn := ⟨_, hz9, hr9⟩
      have hg8 : H_14.size ≤ s.heap.size + (0) := by omega
      have hg9 : tsl H_14 ≤ tsl s.heap + (0) := by omega
      have hsp0 : th1 ≤ ts := (by first | assumption | omega)
      exact W.vret hx hb hr (fun t ht hW => ⟨⟨ixn [th1], rfl, hsp0, ⟨sup tk1 cn1 ((ts * 131072) + 0), by rw [ht]; exact hg8, by rw [ht]; exact hg9, hex0, by rw [ht]; exact hP9, hD9⟩⟩, hS.F ht⟩) hS.2.2 d_Tokens_takeTape_124
    · replace c_6 : ¬ 400 ≤ tn1 := fun hq9 => c_6 ((nI_leI (a := 400) (b := tn1) (by decide) (by first | exact Nat.lt_of_lt_of_le (by assumption) (by decide) | exact Nat.lt_of_le_of_lt (by assumption) (by decide) | omega)).mpr hq9)
      refine lv_aload_n hx hb d_Tokens_takeTape_16 rfl (lv_at hl1 0 rfl) ?_
      refine va_get (D := D) (ci := 9) (v := .int (nI th1)) (C := R_Tokens) (T := F_Tokens) (N := 8) hx hb hts i_Tokens hown hK.1 hP 0 rfl rfl 3 (by decide) (hts _ wd_43) (fun _ h9 => h9) rfl d_Tokens_takeTape_17 ?_
      refine lv_aload_n hx hb d_Tokens_takeTape_20 rfl (lv_at hl1 0 rfl) ?_
      refine va_get (D := D) (ci := 9) (v := .int (nI ts)) (C := R_Tokens) (T := F_Tokens) (N := 8) hx hb hts i_Tokens hown hK.1 hP 0 rfl rfl 2 (by decide) (hts _ wd_42) (fun _ h9 => h9) rfl d_Tokens_takeTape_21 ?_
      refine lv_icmp_ge (tgt := 90) hx hb d_Tokens_takeTape_24 (by decide) (fun c_16 => ?_) (fun c_16 => ?_)
      · replace c_16 : ts ≤ th1 := (nI_leI (a := ts) (b := th1) (by first | exact Nat.lt_of_lt_of_le (by assumption) (by decide) | exact Nat.lt_of_le_of_lt (by assumption) (by decide) | omega) (by first | exact Nat.lt_of_lt_of_le (by assumption) (by decide) | exact Nat.lt_of_le_of_lt (by assumption) (by decide) | omega)).mp c_16
        refine lv_aload_n hx hb d_Tokens_takeTape_90 rfl (lv_at hl1 0 rfl) ?_
        refine va_get (D := D) (ci := 9) (v := .ref k2) (C := R_Tokens) (T := F_Tokens) (N := 8) hx hb hts i_Tokens hown hK.1 hP 0 rfl rfl 1 (by decide) (hts _ wd_41) (fun _ h9 => h9) rfl d_Tokens_takeTape_91 ?_
        refine lv_iload_n hx hb d_Tokens_takeTape_94 rfl (lv_at hl1 1 rfl) ?_
        refine lv_aload_n hx hb d_Tokens_takeTape_95 rfl (lv_at hl1 0 rfl) ?_
        refine va_get (D := D) (ci := 9) (v := .int (nI ts)) (C := R_Tokens) (T := F_Tokens) (N := 8) hx hb hts i_Tokens hown hK.1 hP 0 rfl rfl 2 (by decide) (hts _ wd_42) (fun _ h9 => h9) rfl d_Tokens_takeTape_96 ?_
        refine lv_bipush (v := 17) hx hb d_Tokens_takeTape_99 (by decide) ?_
        refine lv_ishl hx hb d_Tokens_takeTape_101 ?_
        refine lv_topi (fun z_17 ez_17 => ?_)
        have ez_17 : z_17 = nI (ts * 131072) := ez_17.trans (nb_shl (k := 17) (by decide) ts)
        subst ez_17
        refine lv_iconst (v := 0) hx hb d_Tokens_takeTape_102 (by decide) ?_
        refine W.eq (g2 := F0 m 103 ls [.int (nI 0), .int (nI (ts * 131072)), .int (nI cn1), .ref k2]) rfl ?_
        refine lv_ior hx hb d_Tokens_takeTape_103 ?_
        refine lv_topi (fun z_18 ez_18 => ?_)
        have ez_18 : z_18 = nI ((ts * 131072) + 0) := ez_18.trans (nb_or3 (k := 17) (a := ts * 131072) (b := 0) (by first | assumption | omega) (by first | assumption | omega))
        subst ez_18
        refine va_iast hx hb hK.1 hP hD hS 2 0 rfl rfl (vp_in_nI (by first | assumption | omega) (by decide)) d_Tokens_takeTape_104 (fun H_19 locs hP1 hD1 hS1 => ?_)
        rw [nI_clamp (by first | exact Nat.lt_of_lt_of_le (by assumption) (by decide) | exact Nat.lt_of_le_of_lt (by assumption) (by decide) | omega)] at hP1 hD1
        rw [xf_sup tk1 cn1 ((ts * 131072) + 0)] at hP1 hD1
        clear hP hD hS
        have hS := hS1
        have hW7 : (fun w9 : va_W => va_P D classes w9 H_19 ∧ va_D A w9) [(k0, .inr (9, [.ref k1, .ref k2, .int (nI ts), .int (nI th1), .int s_at, .int s_fault, .int s_next, .int am1])), (k1, .inl (ax 1, 400, .inl tb)), (k2, .inl (ax 0, 401, .inl (fun j => nI (sup tk1 cn1 ((ts * 131072) + 0) j))))] := ⟨hP1, hD1⟩
        obtain ⟨hP, hD⟩ := hW7
        clear hP1 hD1 hS1
        refine lv_aload_n hx hb d_Tokens_takeTape_105 rfl (lv_at hl1 0 rfl) ?_
        refine lv_iconst (v := 0) hx hb d_Tokens_takeTape_106 (by decide) ?_
        refine va_put (D := D) (ci := 9) (v := .int 0) (ty := .int) (C := R_Tokens) (T := F_Tokens) (N := 8) hx hb hts i_Tokens t_Tokens t_Tokens_ok n_Tokens hown hK.1 hP hD hS 0 rfl rfl 2 (by decide) (hts _ wd_42) (fun _ h9 => h9) rfl (by decide +kernel) rfl rfl (Nat.le_of_ble_eq_true rfl) d_Tokens_takeTape_107 (fun H_20 locs hP1 hD1 hS1 => ?_)
        clear hP hD hS
        have hS := hS1
        have hW7 : (fun w9 : va_W => va_P D classes w9 H_20 ∧ va_D A w9) [(k0, .inr (9, [.ref k1, .ref k2, .int 0, .int (nI th1), .int s_at, .int s_fault, .int s_next, .int am1])), (k1, .inl (ax 1, 400, .inl tb)), (k2, .inl (ax 0, 401, .inl (fun j => nI (sup tk1 cn1 ((ts * 131072) + 0) j))))] := ⟨hP1, hD1⟩
        obtain ⟨hP, hD⟩ := hW7
        clear hP1 hD1 hS1
        refine lv_aload_n hx hb d_Tokens_takeTape_110 rfl (lv_at hl1 0 rfl) ?_
        refine lv_iconst (v := (-1)) hx hb d_Tokens_takeTape_111 (by decide) ?_
        refine va_put (D := D) (ci := 9) (v := .int (-1)) (ty := .int) (C := R_Tokens) (T := F_Tokens) (N := 8) hx hb hts i_Tokens t_Tokens t_Tokens_ok n_Tokens hown hK.1 hP hD hS 0 rfl rfl 5 (by decide) (hts _ wd_45) (fun _ h9 => h9) rfl (by decide +kernel) rfl rfl (Nat.le_of_ble_eq_true rfl) d_Tokens_takeTape_112 (fun H_21 locs hP1 hD1 hS1 => ?_)
        clear hP hD hS
        have hS := hS1
        have hW7 : (fun w9 : va_W => va_P D classes w9 H_21 ∧ va_D A w9) [(k0, .inr (9, [.ref k1, .ref k2, .int 0, .int (nI th1), .int s_at, .int (-1), .int s_next, .int am1])), (k1, .inl (ax 1, 400, .inl tb)), (k2, .inl (ax 0, 401, .inl (fun j => nI (sup tk1 cn1 ((ts * 131072) + 0) j))))] := ⟨hP1, hD1⟩
        obtain ⟨hP, hD⟩ := hW7
        clear hP1 hD1 hS1
        refine lv_aload_n hx hb d_Tokens_takeTape_115 rfl (lv_at hl1 0 rfl) ?_
        refine lv_iconst (v := (-1)) hx hb d_Tokens_takeTape_116 (by decide) ?_
        refine va_put (D := D) (ci := 9) (v := .int (-1)) (ty := .int) (C := R_Tokens) (T := F_Tokens) (N := 8) hx hb hts i_Tokens t_Tokens t_Tokens_ok n_Tokens hown hK.1 hP hD hS 0 rfl rfl 4 (by decide) (hts _ wd_44) (fun _ h9 => h9) rfl (by decide +kernel) rfl rfl (Nat.le_of_ble_eq_true rfl) d_Tokens_takeTape_117 (fun H_22 locs hP1 hD1 hS1 => ?_)
        clear hP hD hS
        have hS := hS1
        have hW7 : (fun w9 : va_W => va_P D classes w9 H_22 ∧ va_D A w9) [(k0, .inr (9, [.ref k1, .ref k2, .int 0, .int (nI th1), .int (-1), .int (-1), .int s_next, .int am1])), (k1, .inl (ax 1, 400, .inl tb)), (k2, .inl (ax 0, 401, .inl (fun j => nI (sup tk1 cn1 ((ts * 131072) + 0) j))))] := ⟨hP1, hD1⟩
        obtain ⟨hP, hD⟩ := hW7
        clear hP1 hD1 hS1
        have hz9 := tkz_of (a := ts) h1d (by first | assumption | omega) (by first | assumption | omega)
        have hr9 := tkr_of (n := ts) h1f (tt_e (by rw [show th1 = ts by omega] at h1e; exact h1e))
        have hv9 := (hz9.2.2 0 (by first | assumption | omega)).1
        refine lv_aload_n hx hb d_Tokens_takeTape_120 rfl (lv_at hl1 0 rfl) ?_
        obtain ⟨hPc, hDc, hFc, hCs⟩ := xw_sub3 (wc := [(k0, .inr (9, [.ref k1, .ref k2, .int 0, .int (nI th1), .int (-1), .int (-1), .int s_next, .int am1])), (k1, .inl (ax 1, 400, .inl tb)), (k2, .inl (ax 0, 401, .inl (fun j => nI ((sup tk1 cn1 ((ts * 131072) + 0)) j))))]) hP hD hS hA [0, 1, 2] (by decide) rfl
        have hz := xz_of hN hS
        refine va_callv (va_runV (As := []) (rest := []) ⟨hx, hb, hml, hown, hts⟩ (c_K_pass_first l D ax k0 k1 k2 0 (nI th1) s_next am1 tb (sup tk1 cn1 ((ts * 131072) + 0)) H_22.size (by assumption)) (xcV (n := 0) hts wd_531 wd_2 wd_528 wd_529 wd_530 rfl rfl (by decide +kernel) ⟨Nat.le_of_ble_eq_true rfl, Nat.le_of_ble_eq_true rfl⟩) (xpV (ci := 9) (q0 := 0) (As := []) hPc hK hz hDc rfl rfl) rfl rfl hl1.1 rfl (lv_room (Nat.le_of_ble_eq_true rfl)) d_Tokens_takeTape_121 ⟨Nat.le_of_ble_eq_true rfl, Nat.le_of_ble_eq_true rfl⟩) hS (fun q _ h => hFc q h) hFc (fun u_23 t H_24 locs ht hvm hw hB hz1 hk1 hS1 => ?_)
        try dsimp only at hw
        obtain ⟨hP1, hD1⟩ := hB
        rw [ht] at hP1
        have hjn := xw_join3 (wl := [(k0, .inr (9, [.ref k1, .ref k2, .int 0, .int (nI th1), .int 0, .int (-1), .int (nI ((sup tk1 cn1 ((ts * 131072) + 0)) 0 % 128)), .int (nI ((sup tk1 cn1 ((ts * 131072) + 0)) 0 / 128 % 1024))])), (k1, .inl (ax 1, 400, .inl tb)), (k2, .inl (ax 0, 401, .inl (fun j => nI ((sup tk1 cn1 ((ts * 131072) + 0)) j))))]) hP hD [0, 1, 2] [] hCs (by decide) (by decide) hk1 hFc hP1 hD1 rfl
        clear hP1 hD1
        clear hPc hDc hFc hCs hz hz1 hk1 ht hvm
        clear hP hD hS
        have hS := hS1
        obtain ⟨hP, hD⟩ := hjn
        clear hS1
        rw [← hQe]
        refine wk_know (fun hk8 hk9 => ?_)
        obtain ⟨hP9, hD9⟩ := xw_sub2 (wc := (fun (u : Nat → Nat) (xtk : Nat → Nat) => [(k0, .inr (9, [.ref k1, .ref k2, .int 0, .int (nI (u 0)), .int 0, .int (-1), .int (nI (xtk 0 % 128)), .int (nI (xtk 0 / 128 % 1024))])), (k1, .inl (ax 1, 400, .inl tb)), (k2, .inl (ax 0, 401, .inl (fun j => nI (xtk j))))]) (ixn [th1]) (sup tk1 cn1 ((ts * 131072) + 0))) hP hD [0, 1, 2] (by decide) rfl
        have hex0 : ∃ cn, tkz (sup tk1 cn1 ((ts * 131072) + 0)) cn ∧ tkr (gtb tb) ts (sup tk1 cn1 ((ts * 131072) + 0)) cn := ⟨_, hz9, hr9⟩
        have hg8 : H_24.size ≤ s.heap.size + (0) := by omega
        have hg9 : tsl H_24 ≤ tsl s.heap + (0) := by omega
        have hsp0 : th1 ≤ ts := (by first | assumption | omega)
        exact W.vret hx hb hr (fun t ht hW => ⟨⟨ixn [th1], rfl, hsp0, ⟨sup tk1 cn1 ((ts * 131072) + 0), by rw [ht]; exact hg8, by rw [ht]; exact hg9, hex0, by rw [ht]; exact hP9, hD9⟩⟩, hS.F ht⟩) hS.2.2 d_Tokens_takeTape_124
      · replace c_16 : ¬ ts ≤ th1 := fun hq9 => c_16 ((nI_leI (a := ts) (b := th1) (by first | exact Nat.lt_of_lt_of_le (by assumption) (by decide) | exact Nat.lt_of_le_of_lt (by assumption) (by decide) | omega) (by first | exact Nat.lt_of_lt_of_le (by assumption) (by decide) | exact Nat.lt_of_le_of_lt (by assumption) (by decide) | omega)).mpr hq9)
        refine lv_aload_n hx hb d_Tokens_takeTape_27 rfl (lv_at hl1 0 rfl) ?_
        refine va_get (D := D) (ci := 9) (v := .int (nI th1)) (C := R_Tokens) (T := F_Tokens) (N := 8) hx hb hts i_Tokens hown hK.1 hP 0 rfl rfl 3 (by decide) (hts _ wd_43) (fun _ h9 => h9) rfl d_Tokens_takeTape_28 ?_
        refine lv_istore_n (lv' := [(3, .int (nI th1)), (0, .ref k0), (1, .int (nI cn1)), (2, .int (nI tn1))]) hx hb d_Tokens_takeTape_31 rfl hl1 (by decide) rfl (fun ls hl2 => ?_)
        clear hl1; have hl1 := hl2; clear hl2
        refine lv_aload_n hx hb d_Tokens_takeTape_32 rfl (lv_at hl1 1 rfl) ?_
        refine lv_iconst (v := 0) hx hb d_Tokens_takeTape_33 (by decide) ?_
        refine va_put (D := D) (ci := 9) (v := .int 0) (ty := .int) (C := R_Tokens) (T := F_Tokens) (N := 8) hx hb hts i_Tokens t_Tokens t_Tokens_ok n_Tokens hown hK.1 hP hD hS 0 rfl rfl 7 (by decide) (hts _ wd_48) (fun _ h9 => h9) rfl (by decide +kernel) rfl rfl (Nat.le_of_ble_eq_true rfl) d_Tokens_takeTape_34 (fun H_26 locs hP1 hD1 hS1 => ?_)
        clear hP hD hS
        have hS := hS1
        have hW7 : (fun w9 : va_W => va_P D classes w9 H_26 ∧ va_D A w9) [(k0, .inr (9, [.ref k1, .ref k2, .int (nI ts), .int (nI th1), .int s_at, .int s_fault, .int s_next, .int 0])), (k1, .inl (ax 1, 400, .inl tb)), (k2, .inl (ax 0, 401, .inl (fun j => nI (tk1 j))))] := ⟨hP1, hD1⟩
        obtain ⟨hP, hD⟩ := hW7
        clear hP1 hD1 hS1
        refine lv_aload_n hx hb d_Tokens_takeTape_37 rfl (lv_at hl1 1 rfl) ?_
        refine lv_aload_n hx hb d_Tokens_takeTape_38 rfl (lv_at hl1 1 rfl) ?_
        refine va_get (D := D) (ci := 9) (v := .ref k1) (C := R_Tokens) (T := F_Tokens) (N := 8) hx hb hts i_Tokens hown hK.1 hP 0 rfl rfl 0 (by decide) (hts _ wd_40) (fun _ h9 => h9) rfl d_Tokens_takeTape_39 ?_
        refine lv_iload_n hx hb d_Tokens_takeTape_42 rfl (lv_at hl1 0 rfl) ?_
        refine va_bald hx hb hK.1 hP 1 1 rfl rfl (vp_in_nI (by first | assumption | omega) (by decide)) d_Tokens_takeTape_43 ?_
        refine W.eq (g2 := F0 m 44 ls [.int (tb th1), .ref k0]) (by rw [nI_clamp (by first | exact Nat.lt_of_lt_of_le (by assumption) (by decide) | exact Nat.lt_of_le_of_lt (by assumption) (by decide) | omega)]) ?_
        obtain ⟨hPc, hDc, hFc, hCs⟩ := xw_sub3 (wc := [(k0, .inr (9, [.ref k1, .ref k2, .int (nI ts), .int (nI th1), .int s_at, .int s_fault, .int s_next, .int 0])), (k1, .inl (ax 1, 400, .inl tb)), (k2, .inl (ax 0, 401, .inl (fun j => nI (tk1 j))))]) hP hD hS hA [0, 1, 2] (by decide) rfl
        have hz := xz_of hN hS
        refine wk_know (fun hk8 hk9 => ?_)
        refine va_calli (va_runV (As := [.int (tb th1)]) (rest := []) ⟨hx, hb, hml, hown, hts⟩ (c_T_scan l D ax ad av fm k0 k1 k2 ts th1 s_at s_fault s_next 0 tb tk1 (tb th1) H_26.size (tsl H_26) (by first | assumption | omega) (by first | assumption | omega) hbt rfl rfl) (xcV (n := 1) hts wd_438 wd_2 wd_435 wd_437 ps_0 rfl rfl (by decide +kernel) ⟨Nat.le_of_ble_eq_true rfl, Nat.le_of_ble_eq_true rfl⟩) (xpV4 (ci := 9) (q0 := 0) (As := [.int (tb th1)]) hX hS hFc hPc hK hz hDc rfl rfl) rfl rfl hl1.1 rfl (lv_room (Nat.le_of_ble_eq_true rfl)) d_Tokens_takeTape_44 ⟨Nat.le_of_ble_eq_true rfl, Nat.le_of_ble_eq_true rfl⟩) hS (fun q _ h => hFc q h) hFc (fun r_29 u_27 t H_28 locs ht hvm hw hB hz1 hk1 hS1 => ?_)
        try dsimp only at hw
        obtain ⟨hw, hs_30, hs_31, hs_32, hs_33, hs_34⟩ := hw
        subst hw
        obtain ⟨x_35, hg8, hg9, hx_36, hx_37, hP1, hD1⟩ := hB
        rw [ht] at hg8 hg9 hP1
        have hjn := xw_join3 (wl := [(k0, .inr (9, [.ref k1, .ref k2, .int (nI ts), .int (nI (u_27 0)), .int s_at, .int s_fault, .int s_next, .int x_35])), (k1, .inl (ax 1, 400, .inl tb)), (k2, .inl (ax 0, 401, .inl (fun j => nI (tk1 j))))]) hP hD [0, 1, 2] [] hCs (by decide) (by decide) hk1 hFc hP1 hD1 rfl
        clear hP1 hD1
        clear hPc hDc hFc hCs hz hz1 hk1 ht hvm
        clear hP hD hS
        have hS := hS1
        obtain ⟨hP, hD⟩ := hjn
        clear hS1
        refine wk_narrow (k := 0) (n := 0) (by first | assumption | omega) (by first | assumption | omega) ?_
        clear hk8 hk9 hg8 hg9
        refine lv_istore (lv' := [(4, .int (nI (u_27 1))), (3, .int (nI th1)), (0, .ref k0), (1, .int (nI cn1)), (2, .int (nI tn1))]) hx hb d_Tokens_takeTape_47 hl1 (by decide) rfl (fun ls hl2 => ?_)
        clear hl1; have hl1 := hl2; clear hl2
        refine lv_iload hx hb d_Tokens_takeTape_49 (lv_at hl1 0 rfl) ?_
        refine lv_bipush (v := 32) hx hb d_Tokens_takeTape_51 (by decide) ?_
        refine lv_icmp_eq (tgt := 84) hx hb d_Tokens_takeTape_53 (by decide) (fun c_38 => ?_) (fun c_38 => ?_)
        · replace c_38 : u_27 1 = 32 := (nI_eq (a := u_27 1) (b := 32) (by first | exact Nat.lt_of_lt_of_le (by assumption) (by decide) | exact Nat.lt_of_le_of_lt (by assumption) (by decide) | omega) (by decide)).mp c_38
          refine lv_iinc (v := nI (tn1 + 1)) (lv' := [(2, .int (nI (tn1 + 1))), (4, .int (nI (u_27 1))), (3, .int (nI th1)), (0, .ref k0), (1, .int (nI cn1))]) hx hb d_Tokens_takeTape_84 hl1 (k := 4) rfl (nI_add tn1 1) (by decide) rfl (fun ls hl2 => ?_)
          clear hl1; have hl1 := hl2; clear hl2
          refine lv_goto (tgt := 9) hx hb d_Tokens_takeTape_87 (by decide) ?_
          exact ih_4 cn1 (tn1 + 1) (u_27 0) x_35 tk1 (by first | assumption | omega) (by first | assumption | omega) (by first | assumption | omega) (by first | assumption | omega) h1d (tt_b (show th1 < ts by omega) h1e ((sc_32 (show th1 < ts by omega) hs_34).mp (by first | assumption | omega)) hs_33) h1f (by have h9 := sc_gt (show th1 < ts by omega) hs_33; omega) _ _ _ (hP.sub [0, 1, 2] rfl) (hD.sub [0, 1, 2] (by decide) rfl) hS (lv_sub hl1 [3, 4, 0] rfl)
        · replace c_38 : ¬ u_27 1 = 32 := fun hq9 => c_38 ((nI_eq (a := u_27 1) (b := 32) (by first | exact Nat.lt_of_lt_of_le (by assumption) (by decide) | exact Nat.lt_of_le_of_lt (by assumption) (by decide) | omega) (by decide)).mpr hq9)
          refine lv_aload_n hx hb d_Tokens_takeTape_56 rfl (lv_at hl1 2 rfl) ?_
          refine va_get (D := D) (ci := 9) (v := .ref k2) (C := R_Tokens) (T := F_Tokens) (N := 8) hx hb hts i_Tokens hown hK.1 hP 0 rfl rfl 1 (by decide) (hts _ wd_41) (fun _ h9 => h9) rfl d_Tokens_takeTape_57 ?_
          refine lv_iload_n hx hb d_Tokens_takeTape_60 rfl (lv_at hl1 3 rfl) ?_
          refine lv_iload_n hx hb d_Tokens_takeTape_61 rfl (lv_at hl1 1 rfl) ?_
          refine lv_bipush (v := 17) hx hb d_Tokens_takeTape_62 (by decide) ?_
          refine lv_ishl hx hb d_Tokens_takeTape_64 ?_
          refine lv_topi (fun z_39 ez_39 => ?_)
          have ez_39 : z_39 = nI (th1 * 131072) := ez_39.trans (nb_shl (k := 17) (by decide) th1)
          subst ez_39
          refine lv_aload_n hx hb d_Tokens_takeTape_65 rfl (lv_at hl1 2 rfl) ?_
          refine va_get (D := D) (ci := 9) (v := .int x_35) (C := R_Tokens) (T := F_Tokens) (N := 8) hx hb hts i_Tokens hown hK.1 hP 0 rfl rfl 7 (by decide) (hts _ wd_48) (fun _ h9 => h9) rfl d_Tokens_takeTape_66 ?_
          refine lv_sipush (v := 1023) hx hb d_Tokens_takeTape_69 (by decide) ?_
          refine lv_iand hx hb d_Tokens_takeTape_72 ?_
          refine lv_topi (fun z_40 ez_40 => ?_)
          have ez_40 : z_40 = nI (i2n x_35 % 1024) := ez_40.trans (nb_andm 10 x_35)
          subst ez_40
          refine lv_bipush (v := 7) hx hb d_Tokens_takeTape_73 (by decide) ?_
          refine lv_ishl hx hb d_Tokens_takeTape_75 ?_
          refine lv_topi (fun z_41 ez_41 => ?_)
          have ez_41 : z_41 = nI ((i2n x_35 % 1024) * 128) := ez_41.trans (nb_shl (k := 7) (by decide) (i2n x_35 % 1024))
          subst ez_41
          refine lv_ior hx hb d_Tokens_takeTape_76 ?_
          refine lv_topi (fun z_42 ez_42 => ?_)
          have ez_42 : z_42 = nI ((th1 * 131072) + ((i2n x_35 % 1024) * 128)) := ez_42.trans (nb_or3 (k := 17) (a := th1 * 131072) (b := (i2n x_35 % 1024) * 128) (by first | assumption | omega) (by first | assumption | omega))
          subst ez_42
          refine lv_iload hx hb d_Tokens_takeTape_77 (lv_at hl1 0 rfl) ?_
          refine lv_ior hx hb d_Tokens_takeTape_79 ?_
          refine lv_topi (fun z_43 ez_43 => ?_)
          have ez_43 : z_43 = nI (((th1 * 131072) + ((i2n x_35 % 1024) * 128)) + (u_27 1)) := ez_43.trans (nb_or3 (k := 7) (a := (th1 * 131072) + ((i2n x_35 % 1024) * 128)) (b := u_27 1) (by first | assumption | omega) (by first | assumption | omega))
          subst ez_43
          refine va_iast hx hb hK.1 hP hD hS 2 0 rfl rfl (vp_in_nI (by first | assumption | omega) (by decide)) d_Tokens_takeTape_80 (fun H_44 locs hP1 hD1 hS1 => ?_)
          rw [nI_clamp (by first | exact Nat.lt_of_lt_of_le (by assumption) (by decide) | exact Nat.lt_of_le_of_lt (by assumption) (by decide) | omega)] at hP1 hD1
          rw [xf_sup tk1 cn1 (((th1 * 131072) + ((i2n x_35 % 1024) * 128)) + (u_27 1))] at hP1 hD1
          clear hP hD hS
          have hS := hS1
          have hW7 : (fun w9 : va_W => va_P D classes w9 H_44 ∧ va_D A w9) [(k0, .inr (9, [.ref k1, .ref k2, .int (nI ts), .int (nI (u_27 0)), .int s_at, .int s_fault, .int s_next, .int x_35])), (k1, .inl (ax 1, 400, .inl tb)), (k2, .inl (ax 0, 401, .inl (fun j => nI (sup tk1 cn1 (((th1 * 131072) + ((i2n x_35 % 1024) * 128)) + (u_27 1)) j))))] := ⟨hP1, hD1⟩
          obtain ⟨hP, hD⟩ := hW7
          clear hP1 hD1 hS1
          refine lv_iinc (v := nI (cn1 + 1)) (lv' := [(1, .int (nI (cn1 + 1))), (4, .int (nI (u_27 1))), (3, .int (nI th1)), (0, .ref k0), (2, .int (nI tn1))]) hx hb d_Tokens_takeTape_81 hl1 (k := 3) rfl (nI_add cn1 1) (by decide) rfl (fun ls hl2 => ?_)
          clear hl1; have hl1 := hl2; clear hl2
          refine lv_iinc (v := nI (tn1 + 1)) (lv' := [(2, .int (nI (tn1 + 1))), (1, .int (nI (cn1 + 1))), (4, .int (nI (u_27 1))), (3, .int (nI th1)), (0, .ref k0)]) hx hb d_Tokens_takeTape_84 hl1 (k := 4) rfl (nI_add tn1 1) (by decide) rfl (fun ls hl2 => ?_)
          clear hl1; have hl1 := hl2; clear hl2
          refine lv_goto (tgt := 9) hx hb d_Tokens_takeTape_87 (by decide) ?_
          exact ih_4 (cn1 + 1) (tn1 + 1) (u_27 0) x_35 (sup tk1 cn1 (((th1 * 131072) + ((i2n x_35 % 1024) * 128)) + (u_27 1))) (by first | assumption | omega) (by first | assumption | omega) (by first | assumption | omega) (by first | assumption | omega) (fun j hj => by by_cases e9 : j = cn1; (subst e9; rw [sup_eq]; exact tkw_of hx_36 (by first | assumption | omega)); (rw [sup_ne e9]; exact h1d j (by first | assumption | omega))) (tt_t (am := i2n x_35) (show th1 < ts by omega) h1e (fun q9 => absurd ((sc_32 (show th1 < ts by omega) hs_34).mpr q9) (by first | assumption | omega)) hs_33 hs_34 hs_32 (hx_37 (fun q9 => absurd ((sc_32 (show th1 < ts by omega) hs_34).mpr q9) (by first | assumption | omega)))).1 (fun j hj => by by_cases e9 : j = cn1; (subst e9; rw [sup_eq]; exact (tt_t (am := i2n x_35) (show th1 < ts by omega) h1e (fun q9 => absurd ((sc_32 (show th1 < ts by omega) hs_34).mpr q9) (by first | assumption | omega)) hs_33 hs_34 hs_32 (hx_37 (fun q9 => absurd ((sc_32 (show th1 < ts by omega) hs_34).mpr q9) (by first | assumption | omega)))).2); (rw [sup_ne e9]; exact h1f j (by first | assumption | omega))) (by have h9 := sc_gt (show th1 < ts by omega) hs_33; omega) _ _ _ (hP.sub [0, 1, 2] rfl) (hD.sub [0, 1, 2] (by decide) rfl) hS (lv_sub hl1 [4, 1, 0] rfl)
