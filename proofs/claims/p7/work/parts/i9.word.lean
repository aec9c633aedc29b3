theorem ps_1 : Cond.selects "TripleDesk$Tokens" ⟨"TripleDesk$Tokens", "word", "(I)I"⟩ ⟨"TripleDesk$Tokens", "word", "(I)I"⟩ ∈ lw_gd := ps_in (q := (⟨"TripleDesk$Tokens", "word", "(I)I"⟩, 8)) (i := 1) (by decide +kernel)
theorem ps_2 : Cond.selects "TripleDesk$Tokens" ⟨"TripleDesk$Tokens", "keyword", "(I)I"⟩ ⟨"TripleDesk$Tokens", "keyword", "(I)I"⟩ ∈ lw_gd := ps_in (q := (⟨"TripleDesk$Tokens", "keyword", "(I)I"⟩, 8)) (i := 2) (by decide +kernel)
theorem ps_4 : Cond.selects "TripleDesk$Tokens" ⟨"TripleDesk$Tokens", "digits", "()I"⟩ ⟨"TripleDesk$Tokens", "digits", "()I"⟩ ∈ lw_gd := ps_in (q := (⟨"TripleDesk$Tokens", "digits", "()I"⟩, 8)) (i := 4) (by decide +kernel)
theorem ps_5 : Cond.selects "TripleDesk$Tokens" ⟨"TripleDesk$Tokens", "sign", "(I)I"⟩ ⟨"TripleDesk$Tokens", "sign", "(I)I"⟩ ∈ lw_gd := ps_in (q := (⟨"TripleDesk$Tokens", "sign", "(I)I"⟩, 8)) (i := 5) (by decide +kernel)
theorem wd_439 : ((Jvm.Cond.methodLink "TripleDesk$Tokens" (48 : Nat) ({ cls := "TripleDesk$Tokens", name := "isLetter", desc := "(I)Z" } : Jvm.MethodName))) ∈ lw_gd := lw_gd_in (i := 439) (by decide +kernel) rfl
theorem wd_440 : ((Jvm.Cond.static ({ cls := "TripleDesk$Tokens", name := "isLetter", desc := "(I)Z" } : Jvm.MethodName))) ∈ lw_gd := lw_gd_in (i := 440) (by decide +kernel) rfl
theorem wd_441 : ((Jvm.Cond.code ({ cls := "TripleDesk$Tokens", name := "isLetter", desc := "(I)Z" } : Jvm.MethodName) prog_11_method_15_code (1 : Nat) (Option.some Jvm.ClassFile.FieldType.boolean))) ∈ lw_gd := lw_gd_in (i := 441) (by decide +kernel) rfl
theorem wd_442 : ((Jvm.Cond.methodLink "TripleDesk$Tokens" (52 : Nat) ({ cls := "TripleDesk$Tokens", name := "word", desc := "(I)I" } : Jvm.MethodName))) ∈ lw_gd := lw_gd_in (i := 442) (by decide +kernel) rfl
theorem wd_444 : ((Jvm.Cond.instanceMethod ({ cls := "TripleDesk$Tokens", name := "word", desc := "(I)I" } : Jvm.MethodName))) ∈ lw_gd := lw_gd_in (i := 444) (by decide +kernel) rfl
theorem wd_445 : ((Jvm.Cond.code ({ cls := "TripleDesk$Tokens", name := "word", desc := "(I)I" } : Jvm.MethodName) prog_11_method_9_code (3 : Nat) (Option.some Jvm.ClassFile.FieldType.int))) ∈ lw_gd := lw_gd_in (i := 445) (by decide +kernel) rfl
theorem wd_446 : ((Jvm.Cond.methodLink "TripleDesk$Tokens" (65 : Nat) ({ cls := "TripleDesk$Tokens", name := "keyword", desc := "(I)I" } : Jvm.MethodName))) ∈ lw_gd := lw_gd_in (i := 446) (by decide +kernel) rfl
theorem wd_448 : ((Jvm.Cond.instanceMethod ({ cls := "TripleDesk$Tokens", name := "keyword", desc := "(I)I" } : Jvm.MethodName))) ∈ lw_gd := lw_gd_in (i := 448) (by decide +kernel) rfl
theorem wd_449 : ((Jvm.Cond.code ({ cls := "TripleDesk$Tokens", name := "keyword", desc := "(I)I" } : Jvm.MethodName) prog_11_method_10_code (2 : Nat) (Option.some Jvm.ClassFile.FieldType.int))) ∈ lw_gd := lw_gd_in (i := 449) (by decide +kernel) rfl
theorem wd_516 : ((Jvm.Cond.methodLink "TripleDesk$Tokens" (58 : Nat) ({ cls := "TripleDesk$Tokens", name := "digits", desc := "()I" } : Jvm.MethodName))) ∈ lw_gd := lw_gd_in (i := 516) (by decide +kernel) rfl
theorem wd_518 : ((Jvm.Cond.instanceMethod ({ cls := "TripleDesk$Tokens", name := "digits", desc := "()I" } : Jvm.MethodName))) ∈ lw_gd := lw_gd_in (i := 518) (by decide +kernel) rfl
theorem wd_519 : ((Jvm.Cond.code ({ cls := "TripleDesk$Tokens", name := "digits", desc := "()I" } : Jvm.MethodName) prog_11_method_12_code (2 : Nat) (Option.some Jvm.ClassFile.FieldType.int))) ∈ lw_gd := lw_gd_in (i := 519) (by decide +kernel) rfl
theorem wd_520 : ((Jvm.Cond.methodLink "TripleDesk$Tokens" (62 : Nat) ({ cls := "TripleDesk$Tokens", name := "sign", desc := "(I)I" } : Jvm.MethodName))) ∈ lw_gd := lw_gd_in (i := 520) (by decide +kernel) rfl
theorem wd_522 : ((Jvm.Cond.instanceMethod ({ cls := "TripleDesk$Tokens", name := "sign", desc := "(I)I" } : Jvm.MethodName))) ∈ lw_gd := lw_gd_in (i := 522) (by decide +kernel) rfl
theorem wd_523 : ((Jvm.Cond.code ({ cls := "TripleDesk$Tokens", name := "sign", desc := "(I)I" } : Jvm.MethodName) prog_11_method_13_code (3 : Nat) (Option.some Jvm.ClassFile.FieldType.int))) ∈ lw_gd := lw_gd_in (i := 523) (by decide +kernel) rfl
theorem kw_4 {g : Nat → Nat} {p th s : Nat} (hp : p < th) (hl : ∀ j, p ≤ j → j < th → 97 ≤ g j ∧ g j ≤ 122) (hs : s = kwS g p th) : ¬ s = 4 := by
  by_cases h : ∃ i, i < 11 ∧ wmt g p th i
  · obtain ⟨i, h1, h2⟩ := h
    rw [hs, kw_y h1 h2]; omega
  · rw [hs, kw_n hp hl (fun i hi q => h ⟨i, hi, q⟩)]; decide
theorem sco_v {q : Nat} (h : q < 6) : sco 2 (nI q) := ⟨by decide, fun _ => by rw [i2n_nI (by omega)]; exact h, fun q => by omega, fun q => by omega⟩
theorem sco_g {q : Nat} (h : q < 10) : sco 3 (nI q) := ⟨by decide, fun q => by omega, fun _ => by rw [i2n_nI (by omega)]; exact h, fun q => by omega⟩
abbrev b_Tokens_word : ByteArray := prog_11_method_9_code
def y_Tokens_word : MethodName := ⟨R_Tokens, "word", "(I)I"⟩
theorem d_Tokens_word_0 : decode b_Tokens_word 0 = .ok (.aload_n 0, 1) := by decide +kernel
theorem d_Tokens_word_1 : decode b_Tokens_word 1 = .ok (.getfield 26, 3) := by decide +kernel
theorem d_Tokens_word_4 : decode b_Tokens_word 4 = .ok (.istore_n 2, 1) := by decide +kernel
theorem d_Tokens_word_5 : decode b_Tokens_word 5 = .ok (.aload_n 0, 1) := by decide +kernel
theorem d_Tokens_word_6 : decode b_Tokens_word 6 = .ok (.getfield 26, 3) := by decide +kernel
theorem d_Tokens_word_9 : decode b_Tokens_word 9 = .ok (.aload_n 0, 1) := by decide +kernel
theorem d_Tokens_word_10 : decode b_Tokens_word 10 = .ok (.getfield 23, 3) := by decide +kernel
theorem d_Tokens_word_13 : decode b_Tokens_word 13 = .ok (.if_icmp .ge 31, 3) := by decide +kernel
theorem d_Tokens_word_16 : decode b_Tokens_word 16 = .ok (.aload_n 0, 1) := by decide +kernel
theorem d_Tokens_word_17 : decode b_Tokens_word 17 = .ok (.getfield 9, 3) := by decide +kernel
theorem d_Tokens_word_20 : decode b_Tokens_word 20 = .ok (.aload_n 0, 1) := by decide +kernel
theorem d_Tokens_word_21 : decode b_Tokens_word 21 = .ok (.getfield 26, 3) := by decide +kernel
theorem d_Tokens_word_24 : decode b_Tokens_word 24 = .ok (.baload, 1) := by decide +kernel
theorem d_Tokens_word_25 : decode b_Tokens_word 25 = .ok (.invokestatic 48, 3) := by decide +kernel
theorem d_Tokens_word_28 : decode b_Tokens_word 28 = .ok (.ifCond .eq 16, 3) := by decide +kernel
theorem d_Tokens_word_31 : decode b_Tokens_word 31 = .ok (.aload_n 0, 1) := by decide +kernel
theorem d_Tokens_word_32 : decode b_Tokens_word 32 = .ok (.dup, 1) := by decide +kernel
theorem d_Tokens_word_33 : decode b_Tokens_word 33 = .ok (.getfield 26, 3) := by decide +kernel
theorem d_Tokens_word_36 : decode b_Tokens_word 36 = .ok (.iconst 1, 1) := by decide +kernel
theorem d_Tokens_word_37 : decode b_Tokens_word 37 = .ok (.iadd, 1) := by decide +kernel
theorem d_Tokens_word_38 : decode b_Tokens_word 38 = .ok (.putfield 26, 3) := by decide +kernel
theorem d_Tokens_word_41 : decode b_Tokens_word 41 = .ok (.goto (-36), 3) := by decide +kernel
theorem d_Tokens_word_44 : decode b_Tokens_word 44 = .ok (.aload_n 0, 1) := by decide +kernel
theorem d_Tokens_word_45 : decode b_Tokens_word 45 = .ok (.getfield 26, 3) := by decide +kernel
theorem d_Tokens_word_48 : decode b_Tokens_word 48 = .ok (.iload_n 2, 1) := by decide +kernel
theorem d_Tokens_word_49 : decode b_Tokens_word 49 = .ok (.isub, 1) := by decide +kernel
theorem d_Tokens_word_50 : decode b_Tokens_word 50 = .ok (.iconst 1, 1) := by decide +kernel
theorem d_Tokens_word_51 : decode b_Tokens_word 51 = .ok (.if_icmp .le 9, 3) := by decide +kernel
theorem d_Tokens_word_54 : decode b_Tokens_word 54 = .ok (.aload_n 0, 1) := by decide +kernel
theorem d_Tokens_word_55 : decode b_Tokens_word 55 = .ok (.iload_n 2, 1) := by decide +kernel
theorem d_Tokens_word_56 : decode b_Tokens_word 56 = .ok (.invokevirtual 65, 3) := by decide +kernel
theorem d_Tokens_word_59 : decode b_Tokens_word 59 = .ok (.ireturn, 1) := by decide +kernel
theorem d_Tokens_word_60 : decode b_Tokens_word 60 = .ok (.iload_n 1, 1) := by decide +kernel
theorem d_Tokens_word_61 : decode b_Tokens_word 61 = .ok (.bipush 102, 2) := by decide +kernel
theorem d_Tokens_word_63 : decode b_Tokens_word 63 = .ok (.if_icmp .gt 13, 3) := by decide +kernel
theorem d_Tokens_word_66 : decode b_Tokens_word 66 = .ok (.aload_n 0, 1) := by decide +kernel
theorem d_Tokens_word_67 : decode b_Tokens_word 67 = .ok (.iload_n 1, 1) := by decide +kernel
theorem d_Tokens_word_68 : decode b_Tokens_word 68 = .ok (.bipush 97, 2) := by decide +kernel
theorem d_Tokens_word_70 : decode b_Tokens_word 70 = .ok (.isub, 1) := by decide +kernel
theorem d_Tokens_word_71 : decode b_Tokens_word 71 = .ok (.putfield 29, 3) := by decide +kernel
theorem d_Tokens_word_74 : decode b_Tokens_word 74 = .ok (.iconst 2, 1) := by decide +kernel
theorem d_Tokens_word_75 : decode b_Tokens_word 75 = .ok (.ireturn, 1) := by decide +kernel
theorem d_Tokens_word_76 : decode b_Tokens_word 76 = .ok (.iload_n 1, 1) := by decide +kernel
theorem d_Tokens_word_77 : decode b_Tokens_word 77 = .ok (.bipush 119, 2) := by decide +kernel
theorem d_Tokens_word_79 : decode b_Tokens_word 79 = .ok (.if_icmp .lt 16, 3) := by decide +kernel
theorem d_Tokens_word_82 : decode b_Tokens_word 82 = .ok (.aload_n 0, 1) := by decide +kernel
theorem d_Tokens_word_83 : decode b_Tokens_word 83 = .ok (.iload_n 1, 1) := by decide +kernel
theorem d_Tokens_word_84 : decode b_Tokens_word 84 = .ok (.bipush 119, 2) := by decide +kernel
theorem d_Tokens_word_86 : decode b_Tokens_word 86 = .ok (.isub, 1) := by decide +kernel
theorem d_Tokens_word_87 : decode b_Tokens_word 87 = .ok (.bipush 6, 2) := by decide +kernel
theorem d_Tokens_word_89 : decode b_Tokens_word 89 = .ok (.iadd, 1) := by decide +kernel
theorem d_Tokens_word_90 : decode b_Tokens_word 90 = .ok (.putfield 29, 3) := by decide +kernel
theorem d_Tokens_word_93 : decode b_Tokens_word 93 = .ok (.iconst 3, 1) := by decide +kernel
theorem d_Tokens_word_94 : decode b_Tokens_word 94 = .ok (.ireturn, 1) := by decide +kernel
theorem d_Tokens_word_95 : decode b_Tokens_word 95 = .ok (.iconst 1, 1) := by decide +kernel
theorem d_Tokens_word_96 : decode b_Tokens_word 96 = .ok (.ireturn, 1) := by decide +kernel
set_option maxHeartbeats 40000000 in
set_option maxRecDepth 100000 in
theorem c_T_word (l : Launch) (D : va_G) (ax : Nat → ClassId) (ad av : Nat → Nat) (fm : Nat) (k0 k1 k2 ts th : Nat) (s_at s_fault s_next s_amount : Int32) (tb : Nat → Int32) (tk : Nat → Nat) (q1 : Nat) (sz tz : Nat) (hts : ts ≤ 400) (hth : th ≤ ts) (hqa : 97 ≤ q1) (hqb : q1 ≤ 122) (hbt : bts tb 400) (hth2 : th < ts) (hq1 : tb th = nI q1) : Met l y_Tokens_word (xws (.code y_Tokens_word b_Tokens_word 3 (some .int))) ({ frames := 70, cells := 0, slots := 0, locals := 2800 }) (va_Pc [.ref k0, .int (nI q1)] (xo4 D ax ad av fm [(k0, .inr (9, [.ref k1, .ref k2, .int (nI ts), .int (nI th), .int s_at, .int s_fault, .int s_next, .int s_amount])), (k1, .inl (ax 1, 400, .inl tb)), (k2, .inl (ax 0, 401, .inl (fun j => nI (tk j))))] sz tz)) ((va_Qi (fun (r : Int32) (u : Nat → Nat) => r = nI (u 1) ∧ (th ≤ u 0 ∧ u 0 ≤ ts ∧ u 1 < 128 ∧ u 0 = ltE (gtb tb) ts (ts - th) th ∧ u 1 = cso (rwK (gtb tb) ts th) (rwV (gtb tb) ts th 0))) (fun (u : Nat → Nat) (t9 : State) => ∃ xam : Int32, (t9.heap.size ≤ sz + (0)) ∧ (tsl t9.heap ≤ tz + (0)) ∧ (sco (u 1) xam) ∧ (scV (gtb tb) ts th xam) ∧ va_P D classes [(k0, .inr (9, [.ref k1, .ref k2, .int (nI ts), .int (nI (u 0)), .int s_at, .int s_fault, .int s_next, .int xam])), (k1, .inl (ax 1, 400, .inl tb)), (k2, .inl (ax 0, 401, .inl (fun j => nI (tk j))))] t9.heap ∧ va_D (va_A [(k0, .inr (9, [.ref k1, .ref k2, .int (nI ts), .int (nI th), .int s_at, .int s_fault, .int s_next, .int s_amount])), (k1, .inl (ax 1, 400, .inl tb)), (k2, .inl (ax 0, 401, .inl (fun j => nI (tk j))))] sz) [(k0, .inr (9, [.ref k1, .ref k2, .int (nI ts), .int (nI (u 0)), .int s_at, .int s_fault, .int s_next, .int xam])), (k1, .inl (ax 1, 400, .inl tb)), (k2, .inl (ax 0, 401, .inl (fun j => nI (tk j))))]) (va_A [(k0, .inr (9, [.ref k1, .ref k2, .int (nI ts), .int (nI th), .int s_at, .int s_fault, .int s_next, .int s_amount])), (k1, .inl (ax 1, 400, .inl tb)), (k2, .inl (ax 0, 401, .inl (fun j => nI (tk j))))] sz))) 0 0 (va_A [(k0, .inr (9, [.ref k1, .ref k2, .int (nI ts), .int (nI th), .int s_at, .int s_fault, .int s_next, .int s_amount])), (k1, .inl (ax 1, 400, .inl tb)), (k2, .inl (ax 0, 401, .inl (fun j => nI (tk j))))] sz) := by
  refine Met.ofW (cc := b_Tokens_word) (maxL := 3) (ret := (some .int)) (by decide) rfl ?_
  intro p e s m args below meth c s₁ B hml hv
  obtain ⟨rfl, ⟨⟨hsz, hP, hK, hD0⟩, htz⟩, hX⟩ := hv
  have hx := B.exec
  have hb := B.bytes
  have hr := B.returns
  have hts := xw_hts B.pre
  have hown : s.vm.findClass R_Tokens = some m.cls := findClass_of_methodNamed B.named
  have hlocks := B.notSynchronized
  subst hsz
  subst htz
  have hD := hD0.self (sz := s.heap.size)
  have hN := xz_entry hP
  generalize hAe : va_A [(k0, .inr (9, [.ref k1, .ref k2, .int (nI ts), .int (nI th), .int s_at, .int s_fault, .int s_next, .int s_amount])), (k1, .inl (ax 1, 400, .inl tb)), (k2, .inl (ax 0, 401, .inl (fun j => nI (tk j))))] s.heap.size = A at hD hN hX ⊢
  have hA : ∀ q : Nat, s.heap.size ≤ q → A q := fun q h => by rw [← hAe]; exact Or.inr h
  have hS : va_S A s.heap s.heap [] := va_S.rf
  have hl0 := lv_entry ([.ref k0, .int (nI q1)]) (n := 3) (Nat.le_of_ble_eq_true rfl)
  rw [lg_entry_eq]
  generalize (lg_sl ([.ref k0, .int (nI q1)]) ++ List.replicate (3 - (lg_sl ([.ref k0, .int (nI q1)])).length) Slot.unset).toArray = ls at hl0 ⊢
  have hl1 : lv_has ls 3 [(0, .ref k0), (1, .int (nI q1))] := hl0
  refine xw_gen (fun Z9 hQe => ?_)
  refine lv_aload_n hx hb d_Tokens_word_0 rfl (lv_at hl1 0 rfl) ?_
  refine va_get (D := D) (ci := 9) (v := .int (nI th)) (C := R_Tokens) (T := F_Tokens) (N := 8) hx hb hts i_Tokens hown hK.1 hP 0 rfl rfl 3 (by decide) (hts _ wd_43) (fun _ h9 => h9) rfl d_Tokens_word_1 ?_
  refine lv_istore_n (lv' := [(2, .int (nI th)), (0, .ref k0), (1, .int (nI q1))]) hx hb d_Tokens_word_4 rfl hl1 (by decide) rfl (fun ls hl2 => ?_)
  clear hl1; have hl1 := hl2; clear hl2
  suffices key_1 : ∀ (k : Nat) (th1 : Nat), ts - th1 < k → th ≤ th1 → th1 ≤ ts → ltE (gtb tb) ts (ts - th1) th1 = ltE (gtb tb) ts (ts - th) th → ∀ (H : Heap) (locs : List Loc) (ls : Array Slot), va_P D classes [(k0, .inr (9, [.ref k1, .ref k2, .int (nI ts), .int (nI th1), .int s_at, .int s_fault, .int s_next, .int s_amount])), (k1, .inl (ax 1, 400, .inl tb)), (k2, .inl (ax 0, 401, .inl (fun j => nI (tk j))))] H → va_D A [(k0, .inr (9, [.ref k1, .ref k2, .int (nI ts), .int (nI th1), .int s_at, .int s_fault, .int s_next, .int s_amount])), (k1, .inl (ax 1, 400, .inl tb)), (k2, .inl (ax 0, 401, .inl (fun j => nI (tk j))))] → va_S A s.heap H locs → lv_has ls 3 [(0, .ref k0), (1, .int (nI q1)), (2, .int (nI th))] → W p l e (headSpec (xws (.code y_Tokens_word b_Tokens_word 3 (some .int))) ({ frames := 70, cells := 0, slots := 0, locals := 2800 })).room s m ([.ref k0, .int (nI q1)] : List Value).toArray below meth c H locs 0 0 Z9 (F0 m 5 ls []) from key_1 (ts - th + 1) th (Nat.lt_succ_self _) (by first | assumption | omega) (by first | assumption | omega) rfl _ _ _ (hP) (hD) hS (lv_sub hl1 [1, 2, 0] rfl)
  intro k_2
  induction k_2 with
  | zero =>
    intro th1 hk_4
    exact absurd hk_4 (Nat.not_lt_zero _)
  | succ k_2 ih_3 =>
    clear hP hD hS hl1
    intro th1 hk_4 h1a h1b h1e H locs ls hP hD hS hl1
    refine lv_aload_n hx hb d_Tokens_word_5 rfl (lv_at hl1 0 rfl) ?_
    refine va_get (D := D) (ci := 9) (v := .int (nI th1)) (C := R_Tokens) (T := F_Tokens) (N := 8) hx hb hts i_Tokens hown hK.1 hP 0 rfl rfl 3 (by decide) (hts _ wd_43) (fun _ h9 => h9) rfl d_Tokens_word_6 ?_
    refine lv_aload_n hx hb d_Tokens_word_9 rfl (lv_at hl1 0 rfl) ?_
    refine va_get (D := D) (ci := 9) (v := .int (nI ts)) (C := R_Tokens) (T := F_Tokens) (N := 8) hx hb hts i_Tokens hown hK.1 hP 0 rfl rfl 2 (by decide) (hts _ wd_42) (fun _ h9 => h9) rfl d_Tokens_word_10 ?_
    refine lv_icmp_ge (tgt := 44) hx hb d_Tokens_word_13 (by decide) (fun c_5 => ?_) (fun c_5 => ?_)
    · replace c_5 : ts ≤ th1 := (nI_leI (a := ts) (b := th1) (by first | exact Nat.lt_of_lt_of_le (by assumption) (by decide) | exact Nat.lt_of_le_of_lt (by assumption) (by decide) | omega) (by first | exact Nat.lt_of_lt_of_le (by assumption) (by decide) | exact Nat.lt_of_le_of_lt (by assumption) (by decide) | omega)).mp c_5
      have hE9 : th1 = ltE (gtb tb) ts (ts - th) th := (by first | exact (ltE_stop (gb_end (by decide) (by first | assumption | omega)) _).symm | exact (ltE_stop (gb_no hbt (by first | assumption | omega) (by decide) (by decide) hnnd9) _).symm : th1 = ltE (gtb tb) ts (ts - th1) th1).trans h1e
      have hgl9 := gb_in (tb := tb) (lo := 97) (hi := 122) hq1 (by first | assumption | omega) hth2 hqa hqb
      obtain ⟨hE1, hE2, hE3⟩ := ltE_le (g := gtb tb) (n := ts) (ts - (th + 1)) (th + 1) (by first | assumption | omega)
      rw [← ltE_step hgl9, ← hE9] at hE1 hE2 hE3
      have hlt9 : ∀ j, th ≤ j → j < th1 → 97 ≤ gtb tb j ∧ gtb tb j ≤ 122 := fun j a b => by rcases Nat.eq_or_lt_of_le a with e | e; (rw [← e, gb_nI hq1 (by first | assumption | omega)]; exact ⟨hqa, hqb⟩); (exact hE3 j (by first | assumption | omega) b)
      refine lv_aload_n hx hb d_Tokens_word_44 rfl (lv_at hl1 0 rfl) ?_
      refine va_get (D := D) (ci := 9) (v := .int (nI th1)) (C := R_Tokens) (T := F_Tokens) (N := 8) hx hb hts i_Tokens hown hK.1 hP 0 rfl rfl 3 (by decide) (hts _ wd_43) (fun _ h9 => h9) rfl d_Tokens_word_45 ?_
      refine lv_iload_n hx hb d_Tokens_word_48 rfl (lv_at hl1 2 rfl) ?_
      refine lv_isub hx hb d_Tokens_word_49 ?_
      refine lv_topi (fun z_6 ez_6 => ?_)
      have ez_6 : z_6 = nI (th1 - th) := ez_6.trans (pk_sub (a := th1) (b := th) (by first | assumption | omega))
      subst ez_6
      refine lv_iconst (v := 1) hx hb d_Tokens_word_50 (by decide) ?_
      refine lv_icmp_le (tgt := 60) hx hb d_Tokens_word_51 (by decide) (fun c_7 => ?_) (fun c_7 => ?_)
      · replace c_7 : th1 - th ≤ 1 := (nI_leI (a := th1 - th) (b := 1) (by first | exact Nat.lt_of_lt_of_le (by assumption) (by decide) | exact Nat.lt_of_le_of_lt (by assumption) (by decide) | omega) (by decide)).mp c_7
        refine lv_iload_n hx hb d_Tokens_word_60 rfl (lv_at hl1 1 rfl) ?_
        refine lv_bipush (v := 102) hx hb d_Tokens_word_61 (by decide) ?_
        refine lv_icmp_gt (tgt := 76) hx hb d_Tokens_word_63 (by decide) (fun c_8 => ?_) (fun c_8 => ?_)
        · replace c_8 : 102 < q1 := (nI_ltI (a := 102) (b := q1) (by decide) (by first | exact Nat.lt_of_lt_of_le (by assumption) (by decide) | exact Nat.lt_of_le_of_lt (by assumption) (by decide) | omega)).mp c_8
          refine lv_iload_n hx hb d_Tokens_word_76 rfl (lv_at hl1 1 rfl) ?_
          refine lv_bipush (v := 119) hx hb d_Tokens_word_77 (by decide) ?_
          refine lv_icmp_lt (tgt := 95) hx hb d_Tokens_word_79 (by decide) (fun c_9 => ?_) (fun c_9 => ?_)
          · replace c_9 : q1 < 119 := (nI_ltI (a := q1) (b := 119) (by first | exact Nat.lt_of_lt_of_le (by assumption) (by decide) | exact Nat.lt_of_le_of_lt (by assumption) (by decide) | omega) (by decide)).mp c_9
            refine lv_iconst (v := 1) hx hb d_Tokens_word_95 (by decide) ?_
            rw [← hQe]
            refine wk_know (fun hk8 hk9 => ?_)
            obtain ⟨hP9, hD9⟩ := xw_sub2 (wc := (fun (u : Nat → Nat) (xam : Int32) => [(k0, .inr (9, [.ref k1, .ref k2, .int (nI ts), .int (nI (u 0)), .int s_at, .int s_fault, .int s_next, .int xam])), (k1, .inl (ax 1, 400, .inl tb)), (k2, .inl (ax 0, 401, .inl (fun j => nI (tk j))))]) (ixn [th1, 1]) s_amount) hP hD [0, 1, 2] (by decide) rfl
            have hex0 : sco (1) s_amount := (sco_o (by first | assumption | omega) (by first | assumption | omega) (by first | assumption | omega) (by first | assumption | omega))
            have hex1 : scV (gtb tb) ts th s_amount := (scV_o (sc_w hth2 (by rw [(gb_nI hq1 (by first | assumption | omega))]; omega) hE9 (wor_1 hE9 (by first | assumption | omega) (gb_nI hq1 (by first | assumption | omega)) hqa hqb (by first | rw [if_pos (by first | assumption | omega)] | rw [if_neg (by first | assumption | omega), if_pos (by first | assumption | omega)] | rw [if_neg (by first | assumption | omega), if_neg (by first | assumption | omega)]))).2 (by first | assumption | omega))
            have hg8 : H.size ≤ s.heap.size + (0) := by omega
            have hg9 : tsl H ≤ tsl s.heap + (0) := by omega
            have hsp0 : th ≤ th1 := (by first | assumption | omega)
            have hsp1 : th1 ≤ ts := (by first | assumption | omega)
            have hsp2 : 1 < 128 := (by first | assumption | omega)
            have hsp3 : th1 = ltE (gtb tb) ts (ts - th) th := hE9
            have hsp4 : 1 = cso (rwK (gtb tb) ts th) (rwV (gtb tb) ts th 0) := (wor_1 hE9 (by first | assumption | omega) (gb_nI hq1 (by first | assumption | omega)) hqa hqb (by first | rw [if_pos (by first | assumption | omega)] | rw [if_neg (by first | assumption | omega), if_pos (by first | assumption | omega)] | rw [if_neg (by first | assumption | omega), if_neg (by first | assumption | omega)]))
            exact W.iret (v := 1) hx hb hr (fun t ht hW => ⟨⟨1, ixn [th1, 1], rfl, ⟨rfl, ⟨hsp0, hsp1, hsp2, hsp3, hsp4⟩⟩, ⟨s_amount, by rw [ht]; exact hg8, by rw [ht]; exact hg9, hex0, hex1, by rw [ht]; exact hP9, hD9⟩⟩, hS.F ht⟩) hS.2.2 d_Tokens_word_96
          · replace c_9 : ¬ q1 < 119 := fun hq9 => c_9 ((nI_ltI (a := q1) (b := 119) (by first | exact Nat.lt_of_lt_of_le (by assumption) (by decide) | exact Nat.lt_of_le_of_lt (by assumption) (by decide) | omega) (by decide)).mpr hq9)
            refine lv_aload_n hx hb d_Tokens_word_82 rfl (lv_at hl1 0 rfl) ?_
            refine lv_iload_n hx hb d_Tokens_word_83 rfl (lv_at hl1 1 rfl) ?_
            refine lv_bipush (v := 119) hx hb d_Tokens_word_84 (by decide) ?_
            refine lv_isub hx hb d_Tokens_word_86 ?_
            refine lv_topi (fun z_10 ez_10 => ?_)
            have ez_10 : z_10 = nI (q1 - 119) := ez_10.trans (pk_sub (a := q1) (b := 119) (by first | assumption | omega))
            subst ez_10
            refine lv_bipush (v := 6) hx hb d_Tokens_word_87 (by decide) ?_
            refine lv_iadd hx hb d_Tokens_word_89 ?_
            refine lv_topi (fun z_11 ez_11 => ?_)
            have ez_11 : z_11 = nI (q1 - 119 + 6) := ez_11.trans (nI_add (q1 - 119) 6)
            subst ez_11
            refine va_put (D := D) (ci := 9) (v := .int (nI (q1 - 119 + 6))) (ty := .int) (C := R_Tokens) (T := F_Tokens) (N := 8) hx hb hts i_Tokens t_Tokens t_Tokens_ok n_Tokens hown hK.1 hP hD hS 0 rfl rfl 7 (by decide) (hts _ wd_48) (fun _ h9 => h9) rfl (by decide +kernel) rfl rfl (Nat.le_of_ble_eq_true rfl) d_Tokens_word_90 (fun H_12 locs hP1 hD1 hS1 => ?_)
            clear hP hD hS
            have hS := hS1
            have hW7 : (fun w9 : va_W => va_P D classes w9 H_12 ∧ va_D A w9) [(k0, .inr (9, [.ref k1, .ref k2, .int (nI ts), .int (nI th1), .int s_at, .int s_fault, .int s_next, .int (nI (q1 - 119 + 6))])), (k1, .inl (ax 1, 400, .inl tb)), (k2, .inl (ax 0, 401, .inl (fun j => nI (tk j))))] := ⟨hP1, hD1⟩
            obtain ⟨hP, hD⟩ := hW7
            clear hP1 hD1 hS1
            refine lv_iconst (v := 3) hx hb d_Tokens_word_93 (by decide) ?_
            rw [← hQe]
            refine wk_know (fun hk8 hk9 => ?_)
            obtain ⟨hP9, hD9⟩ := xw_sub2 (wc := (fun (u : Nat → Nat) (xam : Int32) => [(k0, .inr (9, [.ref k1, .ref k2, .int (nI ts), .int (nI (u 0)), .int s_at, .int s_fault, .int s_next, .int xam])), (k1, .inl (ax 1, 400, .inl tb)), (k2, .inl (ax 0, 401, .inl (fun j => nI (tk j))))]) (ixn [th1, 3]) (nI (q1 - 119 + 6))) hP hD [0, 1, 2] (by decide) rfl
            have hex0 : sco (3) (nI (q1 - 119 + 6)) := (sco_g (by first | assumption | omega))
            have hex1 : scV (gtb tb) ts th (nI (q1 - 119 + 6)) := (scv_w hth2 (by rw [(gb_nI hq1 (by first | assumption | omega))]; omega) (by first | assumption | omega) (gb_nI hq1 (by first | assumption | omega)) (by rw [i2n_nI (by first | assumption | omega)]; omega))
            have hg8 : H_12.size ≤ s.heap.size + (0) := by omega
            have hg9 : tsl H_12 ≤ tsl s.heap + (0) := by omega
            have hsp0 : th ≤ th1 := (by first | assumption | omega)
            have hsp1 : th1 ≤ ts := (by first | assumption | omega)
            have hsp2 : 3 < 128 := (by first | assumption | omega)
            have hsp3 : th1 = ltE (gtb tb) ts (ts - th) th := hE9
            have hsp4 : 3 = cso (rwK (gtb tb) ts th) (rwV (gtb tb) ts th 0) := (wor_1 hE9 (by first | assumption | omega) (gb_nI hq1 (by first | assumption | omega)) hqa hqb (by first | rw [if_pos (by first | assumption | omega)] | rw [if_neg (by first | assumption | omega), if_pos (by first | assumption | omega)] | rw [if_neg (by first | assumption | omega), if_neg (by first | assumption | omega)]))
            exact W.iret (v := 3) hx hb hr (fun t ht hW => ⟨⟨3, ixn [th1, 3], rfl, ⟨rfl, ⟨hsp0, hsp1, hsp2, hsp3, hsp4⟩⟩, ⟨nI (q1 - 119 + 6), by rw [ht]; exact hg8, by rw [ht]; exact hg9, hex0, hex1, by rw [ht]; exact hP9, hD9⟩⟩, hS.F ht⟩) hS.2.2 d_Tokens_word_94
        · replace c_8 : ¬ 102 < q1 := fun hq9 => c_8 ((nI_ltI (a := 102) (b := q1) (by decide) (by first | exact Nat.lt_of_lt_of_le (by assumption) (by decide) | exact Nat.lt_of_le_of_lt (by assumption) (by decide) | omega)).mpr hq9)
          refine lv_aload_n hx hb d_Tokens_word_66 rfl (lv_at hl1 0 rfl) ?_
          refine lv_iload_n hx hb d_Tokens_word_67 rfl (lv_at hl1 1 rfl) ?_
          refine lv_bipush (v := 97) hx hb d_Tokens_word_68 (by decide) ?_
          refine lv_isub hx hb d_Tokens_word_70 ?_
          refine lv_topi (fun z_13 ez_13 => ?_)
          have ez_13 : z_13 = nI (q1 - 97) := ez_13.trans (pk_sub (a := q1) (b := 97) (by first | assumption | omega))
          subst ez_13
          refine va_put (D := D) (ci := 9) (v := .int (nI (q1 - 97))) (ty := .int) (C := R_Tokens) (T := F_Tokens) (N := 8) hx hb hts i_Tokens t_Tokens t_Tokens_ok n_Tokens hown hK.1 hP hD hS 0 rfl rfl 7 (by decide) (hts _ wd_48) (fun _ h9 => h9) rfl (by decide +kernel) rfl rfl (Nat.le_of_ble_eq_true rfl) d_Tokens_word_71 (fun H_14 locs hP1 hD1 hS1 => ?_)
          clear hP hD hS
          have hS := hS1
          have hW7 : (fun w9 : va_W => va_P D classes w9 H_14 ∧ va_D A w9) [(k0, .inr (9, [.ref k1, .ref k2, .int (nI ts), .int (nI th1), .int s_at, .int s_fault, .int s_next, .int (nI (q1 - 97))])), (k1, .inl (ax 1, 400, .inl tb)), (k2, .inl (ax 0, 401, .inl (fun j => nI (tk j))))] := ⟨hP1, hD1⟩
          obtain ⟨hP, hD⟩ := hW7
          clear hP1 hD1 hS1
          refine lv_iconst (v := 2) hx hb d_Tokens_word_74 (by decide) ?_
          rw [← hQe]
          refine wk_know (fun hk8 hk9 => ?_)
          obtain ⟨hP9, hD9⟩ := xw_sub2 (wc := (fun (u : Nat → Nat) (xam : Int32) => [(k0, .inr (9, [.ref k1, .ref k2, .int (nI ts), .int (nI (u 0)), .int s_at, .int s_fault, .int s_next, .int xam])), (k1, .inl (ax 1, 400, .inl tb)), (k2, .inl (ax 0, 401, .inl (fun j => nI (tk j))))]) (ixn [th1, 2]) (nI (q1 - 97))) hP hD [0, 1, 2] (by decide) rfl
          have hex0 : sco (2) (nI (q1 - 97)) := (sco_v (by first | assumption | omega))
          have hex1 : scV (gtb tb) ts th (nI (q1 - 97)) := (scv_w hth2 (by rw [(gb_nI hq1 (by first | assumption | omega))]; omega) (by first | assumption | omega) (gb_nI hq1 (by first | assumption | omega)) (by rw [i2n_nI (by first | assumption | omega)]; omega))
          have hg8 : H_14.size ≤ s.heap.size + (0) := by omega
          have hg9 : tsl H_14 ≤ tsl s.heap + (0) := by omega
          have hsp0 : th ≤ th1 := (by first | assumption | omega)
          have hsp1 : th1 ≤ ts := (by first | assumption | omega)
          have hsp2 : 2 < 128 := (by first | assumption | omega)
          have hsp3 : th1 = ltE (gtb tb) ts (ts - th) th := hE9
          have hsp4 : 2 = cso (rwK (gtb tb) ts th) (rwV (gtb tb) ts th 0) := (wor_1 hE9 (by first | assumption | omega) (gb_nI hq1 (by first | assumption | omega)) hqa hqb (by first | rw [if_pos (by first | assumption | omega)] | rw [if_neg (by first | assumption | omega), if_pos (by first | assumption | omega)] | rw [if_neg (by first | assumption | omega), if_neg (by first | assumption | omega)]))
          exact W.iret (v := 2) hx hb hr (fun t ht hW => ⟨⟨2, ixn [th1, 2], rfl, ⟨rfl, ⟨hsp0, hsp1, hsp2, hsp3, hsp4⟩⟩, ⟨nI (q1 - 97), by rw [ht]; exact hg8, by rw [ht]; exact hg9, hex0, hex1, by rw [ht]; exact hP9, hD9⟩⟩, hS.F ht⟩) hS.2.2 d_Tokens_word_75
      · replace c_7 : ¬ th1 - th ≤ 1 := fun hq9 => c_7 ((nI_leI (a := th1 - th) (b := 1) (by first | exact Nat.lt_of_lt_of_le (by assumption) (by decide) | exact Nat.lt_of_le_of_lt (by assumption) (by decide) | omega) (by decide)).mpr hq9)
        refine lv_aload_n hx hb d_Tokens_word_54 rfl (lv_at hl1 0 rfl) ?_
        refine lv_iload_n hx hb d_Tokens_word_55 rfl (lv_at hl1 2 rfl) ?_
        obtain ⟨hPc, hDc, hFc, hCs⟩ := xw_sub3 (wc := [(k0, .inr (9, [.ref k1, .ref k2, .int (nI ts), .int (nI th1), .int s_at, .int s_fault, .int s_next, .int s_amount])), (k1, .inl (ax 1, 400, .inl tb)), (k2, .inl (ax 0, 401, .inl (fun j => nI (tk j))))]) hP hD hS hA [0, 1, 2] (by decide) rfl
        have hz := xz_of hN hS
        refine wk_know (fun hk8 hk9 => ?_)
        refine va_calli (va_runV (As := [.int (nI th)]) (rest := []) ⟨hx, hb, hml, hown, hts⟩ (c_T_keyword l D ax ad av fm k0 k1 k2 ts th1 s_at s_fault s_next s_amount tb tk th H.size (tsl H) (by first | assumption | omega) (by first | assumption | omega) (by first | assumption | omega) hbt (by first | assumption | omega) hlt9) (xcV (n := 1) hts wd_449 wd_2 wd_446 wd_448 ps_2 rfl rfl (by decide +kernel) ⟨Nat.le_of_ble_eq_true rfl, Nat.le_of_ble_eq_true rfl⟩) (xpV4 (ci := 9) (q0 := 0) (As := [.int (nI th)]) hX hS hFc hPc hK hz hDc rfl rfl) rfl rfl hl1.1 rfl (lv_room (Nat.le_of_ble_eq_true rfl)) d_Tokens_word_56 ⟨Nat.le_of_ble_eq_true rfl, Nat.le_of_ble_eq_true rfl⟩) hS (fun q _ h => hFc q h) hFc (fun r_17 u_15 t H_16 locs ht hvm hw hB hz1 hk1 hS1 => ?_)
        try dsimp only at hw
        obtain ⟨hw, hs_18, hs_19, hs_20, hs_21, hs_22, hs_23⟩ := hw
        subst hw
        obtain ⟨hg8, hg9, hP1, hD1⟩ := hB
        rw [ht] at hg8 hg9 hP1
        have hjn := xw_join3 (wl := [(k0, .inr (9, [.ref k1, .ref k2, .int (nI ts), .int (nI th1), .int s_at, .int s_fault, .int s_next, .int s_amount])), (k1, .inl (ax 1, 400, .inl tb)), (k2, .inl (ax 0, 401, .inl (fun j => nI (tk j))))]) hP hD [0, 1, 2] [] hCs (by decide) (by decide) hk1 hFc hP1 hD1 rfl
        clear hP1 hD1
        clear hPc hDc hFc hCs hz hz1 hk1 ht hvm
        clear hP hD hS
        have hS := hS1
        obtain ⟨hP, hD⟩ := hjn
        clear hS1
        refine wk_narrow (k := 0) (n := 0) (by first | assumption | omega) (by first | assumption | omega) ?_
        clear hk8 hk9 hg8 hg9
        rw [← hQe]
        refine wk_know (fun hk8 hk9 => ?_)
        refine W.widen (k := 0) (n := 0) (Nat.le_of_ble_eq_true rfl) (Nat.le_of_ble_eq_true rfl) ?_
        obtain ⟨hP9, hD9⟩ := xw_sub2 (wc := (fun (u : Nat → Nat) (xam : Int32) => [(k0, .inr (9, [.ref k1, .ref k2, .int (nI ts), .int (nI (u 0)), .int s_at, .int s_fault, .int s_next, .int xam])), (k1, .inl (ax 1, 400, .inl tb)), (k2, .inl (ax 0, 401, .inl (fun j => nI (tk j))))]) (ixn [th1, (u_15 0)]) s_amount) hP hD [0, 1, 2] (by decide) rfl
        have hex0 : sco ((u_15 0)) s_amount := (sco_o (by first | assumption | omega) (by first | assumption | omega) (by first | assumption | omega) (by first | assumption | omega))
        have hex1 : scV (gtb tb) ts th s_amount := (scV_o (sc_w hth2 (by rw [(gb_nI hq1 (by first | assumption | omega))]; omega) hE9 (wor_m hE9 (by first | assumption | omega) hs_23)).2 (by have h4 := kw_4 (by first | assumption | omega) hlt9 hs_23; omega))
        have hg8 : H_16.size ≤ s.heap.size + (0) := by omega
        have hg9 : tsl H_16 ≤ tsl s.heap + (0) := by omega
        have hsp0 : th ≤ th1 := (by first | assumption | omega)
        have hsp1 : th1 ≤ ts := (by first | assumption | omega)
        have hsp2 : (u_15 0) < 128 := (by first | assumption | omega)
        have hsp3 : th1 = ltE (gtb tb) ts (ts - th) th := hE9
        have hsp4 : (u_15 0) = cso (rwK (gtb tb) ts th) (rwV (gtb tb) ts th 0) := (wor_m hE9 (by first | assumption | omega) hs_23)
        exact W.iret (v := nI (u_15 0)) hx hb hr (fun t ht hW => ⟨⟨nI (u_15 0), ixn [th1, (u_15 0)], rfl, ⟨rfl, ⟨hsp0, hsp1, hsp2, hsp3, hsp4⟩⟩, ⟨s_amount, by rw [ht]; exact hg8, by rw [ht]; exact hg9, hex0, hex1, by rw [ht]; exact hP9, hD9⟩⟩, hS.F ht⟩) hS.2.2 d_Tokens_word_59
    · replace c_5 : ¬ ts ≤ th1 := fun hq9 => c_5 ((nI_leI (a := ts) (b := th1) (by first | exact Nat.lt_of_lt_of_le (by assumption) (by decide) | exact Nat.lt_of_le_of_lt (by assumption) (by decide) | omega) (by first | exact Nat.lt_of_lt_of_le (by assumption) (by decide) | exact Nat.lt_of_le_of_lt (by assumption) (by decide) | omega)).mpr hq9)
      refine lv_aload_n hx hb d_Tokens_word_16 rfl (lv_at hl1 0 rfl) ?_
      refine va_get (D := D) (ci := 9) (v := .ref k1) (C := R_Tokens) (T := F_Tokens) (N := 8) hx hb hts i_Tokens hown hK.1 hP 0 rfl rfl 0 (by decide) (hts _ wd_40) (fun _ h9 => h9) rfl d_Tokens_word_17 ?_
      refine lv_aload_n hx hb d_Tokens_word_20 rfl (lv_at hl1 0 rfl) ?_
      refine va_get (D := D) (ci := 9) (v := .int (nI th1)) (C := R_Tokens) (T := F_Tokens) (N := 8) hx hb hts i_Tokens hown hK.1 hP 0 rfl rfl 3 (by decide) (hts _ wd_43) (fun _ h9 => h9) rfl d_Tokens_word_21 ?_
      refine va_bald hx hb hK.1 hP 1 1 rfl rfl (vp_in_nI (by first | assumption | omega) (by decide)) d_Tokens_word_24 ?_
      refine W.eq (g2 := F0 m 25 ls [.int (tb th1)]) (by rw [nI_clamp (by first | exact Nat.lt_of_lt_of_le (by assumption) (by decide) | exact Nat.lt_of_le_of_lt (by assumption) (by decide) | omega)]) ?_
      rcases Classical.em (∃ j : Nat, 97 ≤ j ∧ j ≤ 122 ∧ tb th1 = nI j) with ⟨d9, hd9a, hd9b, ed9⟩ | hnod9
      · refine W.eq (g2 := F0 m 25 ls [.int (nI d9)]) (by rw [ed9]) ?_
        obtain ⟨hPc, hDc, hFc, hCs⟩ := xw_sub3 (wc := []) hP hD hS hA [] (by decide) rfl
        have hz := xz_of hN hS
        refine va_calli (va_runS (As := [.int (nI d9)]) (rest := []) ⟨hx, hb, hml, hown, hts⟩ (c_K_isLetter_yes l D ax d9 H.size hd9a hd9b) (xcS (n := 1) hts wd_441 wd_2 wd_439 wd_440 rfl rfl (by decide +kernel) ⟨Nat.le_of_ble_eq_true rfl, Nat.le_of_ble_eq_true rfl⟩) (xpS (As := [.int (nI d9)]) hPc hK hz hDc) rfl rfl hl1.1 rfl (lv_room (Nat.le_of_ble_eq_true rfl)) d_Tokens_word_25 ⟨Nat.le_of_ble_eq_true rfl, Nat.le_of_ble_eq_true rfl⟩) hS (fun q _ h => hFc q h) hFc (fun r_26 u_24 t H_25 locs ht hvm hw hB hz1 hk1 hS1 => ?_)
        try dsimp only at hw
        subst hw
        obtain ⟨hP1, hD1⟩ := hB
        rw [ht] at hP1
        have hjn := xw_join3 (wl := [(k0, .inr (9, [.ref k1, .ref k2, .int (nI ts), .int (nI th1), .int s_at, .int s_fault, .int s_next, .int s_amount])), (k1, .inl (ax 1, 400, .inl tb)), (k2, .inl (ax 0, 401, .inl (fun j => nI (tk j))))]) hP hD [] [0, 1, 2] hCs (by decide) (by decide) hk1 hFc hP1 hD1 rfl
        clear hP1 hD1
        clear hPc hDc hFc hCs hz hz1 hk1 ht hvm
        clear hP hD hS
        have hS := hS1
        obtain ⟨hP, hD⟩ := hjn
        clear hS1
        refine lv_if_eq (tgt := 44) hx hb d_Tokens_word_28 (by decide) (fun c_27 => ?_) (fun c_27 => ?_)
        · first | exact absurd c_27 (by decide) | exact absurd (by decide) c_27
        refine lv_aload_n hx hb d_Tokens_word_31 rfl (lv_at hl1 0 rfl) ?_
        refine lv_dup hx hb d_Tokens_word_32 rfl ?_
        refine va_get (D := D) (ci := 9) (v := .int (nI th1)) (C := R_Tokens) (T := F_Tokens) (N := 8) hx hb hts i_Tokens hown hK.1 hP 0 rfl rfl 3 (by decide) (hts _ wd_43) (fun _ h9 => h9) rfl d_Tokens_word_33 ?_
        refine lv_iconst (v := 1) hx hb d_Tokens_word_36 (by decide) ?_
        refine lv_iadd hx hb d_Tokens_word_37 ?_
        refine lv_topi (fun z_28 ez_28 => ?_)
        have ez_28 : z_28 = nI (th1 + 1) := ez_28.trans (nI_add th1 1)
        subst ez_28
        refine va_put (D := D) (ci := 9) (v := .int (nI (th1 + 1))) (ty := .int) (C := R_Tokens) (T := F_Tokens) (N := 8) hx hb hts i_Tokens t_Tokens t_Tokens_ok n_Tokens hown hK.1 hP hD hS 0 rfl rfl 3 (by decide) (hts _ wd_43) (fun _ h9 => h9) rfl (by decide +kernel) rfl rfl (Nat.le_of_ble_eq_true rfl) d_Tokens_word_38 (fun H_29 locs hP1 hD1 hS1 => ?_)
        clear hP hD hS
        have hS := hS1
        have hW7 : (fun w9 : va_W => va_P D classes w9 H_29 ∧ va_D A w9) [(k0, .inr (9, [.ref k1, .ref k2, .int (nI ts), .int (nI (th1 + 1)), .int s_at, .int s_fault, .int s_next, .int s_amount])), (k1, .inl (ax 1, 400, .inl tb)), (k2, .inl (ax 0, 401, .inl (fun j => nI (tk j))))] := ⟨hP1, hD1⟩
        obtain ⟨hP, hD⟩ := hW7
        clear hP1 hD1 hS1
        refine lv_goto (tgt := 5) hx hb d_Tokens_word_41 (by decide) ?_
        exact ih_3 (th1 + 1) (by first | assumption | omega) (by first | assumption | omega) (by first | assumption | omega) ((ltE_step (gb_in ed9 (by first | assumption | omega) (by first | assumption | omega) hd9a hd9b)).symm.trans h1e) _ _ _ (hP.sub [0, 1, 2] rfl) (hD.sub [0, 1, 2] (by decide) rfl) hS (lv_sub hl1 [0, 1, 2] rfl)
      · have hnnd9 : ∀ j : Nat, 97 ≤ j → j ≤ 122 → tb th1 ≠ nI j := fun j a b e => hnod9 ⟨j, a, b, e⟩
        obtain ⟨hPc, hDc, hFc, hCs⟩ := xw_sub3 (wc := []) hP hD hS hA [] (by decide) rfl
        have hz := xz_of hN hS
        refine va_calli (va_runS (As := [.int (tb th1)]) (rest := []) ⟨hx, hb, hml, hown, hts⟩ (c_K_isLetter_no l D ax (tb th1) H.size hnnd9) (xcS (n := 1) hts wd_441 wd_2 wd_439 wd_440 rfl rfl (by decide +kernel) ⟨Nat.le_of_ble_eq_true rfl, Nat.le_of_ble_eq_true rfl⟩) (xpS (As := [.int (tb th1)]) hPc hK hz hDc) rfl rfl hl1.1 rfl (lv_room (Nat.le_of_ble_eq_true rfl)) d_Tokens_word_25 ⟨Nat.le_of_ble_eq_true rfl, Nat.le_of_ble_eq_true rfl⟩) hS (fun q _ h => hFc q h) hFc (fun r_32 u_30 t H_31 locs ht hvm hw hB hz1 hk1 hS1 => ?_)
        try dsimp only at hw
        subst hw
        obtain ⟨hP1, hD1⟩ := hB
        rw [ht] at hP1
        have hjn := xw_join3 (wl := [(k0, .inr (9, [.ref k1, .ref k2, .int (nI ts), .int (nI th1), .int s_at, .int s_fault, .int s_next, .int s_amount])), (k1, .inl (ax 1, 400, .inl tb)), (k2, .inl (ax 0, 401, .inl (fun j => nI (tk j))))]) hP hD [] [0, 1, 2] hCs (by decide) (by decide) hk1 hFc hP1 hD1 rfl
        clear hP1 hD1
        clear hPc hDc hFc hCs hz hz1 hk1 ht hvm
        clear hP hD hS
        have hS := hS1
        obtain ⟨hP, hD⟩ := hjn
        clear hS1
        refine lv_if_eq (tgt := 44) hx hb d_Tokens_word_28 (by decide) (fun c_33 => ?_) (fun c_33 => ?_)
        rotate_left
        · first | exact absurd c_33 (by decide) | exact absurd (by decide) c_33
        have hE9 : th1 = ltE (gtb tb) ts (ts - th) th := (by first | exact (ltE_stop (gb_end (by decide) (by first | assumption | omega)) _).symm | exact (ltE_stop (gb_no hbt (by first | assumption | omega) (by decide) (by decide) hnnd9) _).symm : th1 = ltE (gtb tb) ts (ts - th1) th1).trans h1e
        have hgl9 := gb_in (tb := tb) (lo := 97) (hi := 122) hq1 (by first | assumption | omega) hth2 hqa hqb
        obtain ⟨hE1, hE2, hE3⟩ := ltE_le (g := gtb tb) (n := ts) (ts - (th + 1)) (th + 1) (by first | assumption | omega)
        rw [← ltE_step hgl9, ← hE9] at hE1 hE2 hE3
        have hlt9 : ∀ j, th ≤ j → j < th1 → 97 ≤ gtb tb j ∧ gtb tb j ≤ 122 := fun j a b => by rcases Nat.eq_or_lt_of_le a with e | e; (rw [← e, gb_nI hq1 (by first | assumption | omega)]; exact ⟨hqa, hqb⟩); (exact hE3 j (by first | assumption | omega) b)
        refine lv_aload_n hx hb d_Tokens_word_44 rfl (lv_at hl1 0 rfl) ?_
        refine va_get (D := D) (ci := 9) (v := .int (nI th1)) (C := R_Tokens) (T := F_Tokens) (N := 8) hx hb hts i_Tokens hown hK.1 hP 0 rfl rfl 3 (by decide) (hts _ wd_43) (fun _ h9 => h9) rfl d_Tokens_word_45 ?_
        refine lv_iload_n hx hb d_Tokens_word_48 rfl (lv_at hl1 2 rfl) ?_
        refine lv_isub hx hb d_Tokens_word_49 ?_
        refine lv_topi (fun z_34 ez_34 => ?_)
        have ez_34 : z_34 = nI (th1 - th) := ez_34.trans (pk_sub (a := th1) (b := th) (by first | assumption | omega))
        subst ez_34
        refine lv_iconst (v := 1) hx hb d_Tokens_word_50 (by decide) ?_
        refine lv_icmp_le (tgt := 60) hx hb d_Tokens_word_51 (by decide) (fun c_35 => ?_) (fun c_35 => ?_)
        · replace c_35 : th1 - th ≤ 1 := (nI_leI (a := th1 - th) (b := 1) (by first | exact Nat.lt_of_lt_of_le (by assumption) (by decide) | exact Nat.lt_of_le_of_lt (by assumption) (by decide) | omega) (by decide)).mp c_35
          refine lv_iload_n hx hb d_Tokens_word_60 rfl (lv_at hl1 1 rfl) ?_
          refine lv_bipush (v := 102) hx hb d_Tokens_word_61 (by decide) ?_
          refine lv_icmp_gt (tgt := 76) hx hb d_Tokens_word_63 (by decide) (fun c_36 => ?_) (fun c_36 => ?_)
          · replace c_36 : 102 < q1 := (nI_ltI (a := 102) (b := q1) (by decide) (by first | exact Nat.lt_of_lt_of_le (by assumption) (by decide) | exact Nat.lt_of_le_of_lt (by assumption) (by decide) | omega)).mp c_36
            refine lv_iload_n hx hb d_Tokens_word_76 rfl (lv_at hl1 1 rfl) ?_
            refine lv_bipush (v := 119) hx hb d_Tokens_word_77 (by decide) ?_
            refine lv_icmp_lt (tgt := 95) hx hb d_Tokens_word_79 (by decide) (fun c_37 => ?_) (fun c_37 => ?_)
            · replace c_37 : q1 < 119 := (nI_ltI (a := q1) (b := 119) (by first | exact Nat.lt_of_lt_of_le (by assumption) (by decide) | exact Nat.lt_of_le_of_lt (by assumption) (by decide) | omega) (by decide)).mp c_37
              refine lv_iconst (v := 1) hx hb d_Tokens_word_95 (by decide) ?_
              rw [← hQe]
              refine wk_know (fun hk8 hk9 => ?_)
              obtain ⟨hP9, hD9⟩ := xw_sub2 (wc := (fun (u : Nat → Nat) (xam : Int32) => [(k0, .inr (9, [.ref k1, .ref k2, .int (nI ts), .int (nI (u 0)), .int s_at, .int s_fault, .int s_next, .int xam])), (k1, .inl (ax 1, 400, .inl tb)), (k2, .inl (ax 0, 401, .inl (fun j => nI (tk j))))]) (ixn [th1, 1]) s_amount) hP hD [0, 1, 2] (by decide) rfl
              have hex0 : sco (1) s_amount := (sco_o (by first | assumption | omega) (by first | assumption | omega) (by first | assumption | omega) (by first | assumption | omega))
              have hex1 : scV (gtb tb) ts th s_amount := (scV_o (sc_w hth2 (by rw [(gb_nI hq1 (by first | assumption | omega))]; omega) hE9 (wor_1 hE9 (by first | assumption | omega) (gb_nI hq1 (by first | assumption | omega)) hqa hqb (by first | rw [if_pos (by first | assumption | omega)] | rw [if_neg (by first | assumption | omega), if_pos (by first | assumption | omega)] | rw [if_neg (by first | assumption | omega), if_neg (by first | assumption | omega)]))).2 (by first | assumption | omega))
              have hg8 : H_31.size ≤ s.heap.size + (0) := by omega
              have hg9 : tsl H_31 ≤ tsl s.heap + (0) := by omega
              have hsp0 : th ≤ th1 := (by first | assumption | omega)
              have hsp1 : th1 ≤ ts := (by first | assumption | omega)
              have hsp2 : 1 < 128 := (by first | assumption | omega)
              have hsp3 : th1 = ltE (gtb tb) ts (ts - th) th := hE9
              have hsp4 : 1 = cso (rwK (gtb tb) ts th) (rwV (gtb tb) ts th 0) := (wor_1 hE9 (by first | assumption | omega) (gb_nI hq1 (by first | assumption | omega)) hqa hqb (by first | rw [if_pos (by first | assumption | omega)] | rw [if_neg (by first | assumption | omega), if_pos (by first | assumption | omega)] | rw [if_neg (by first | assumption | omega), if_neg (by first | assumption | omega)]))
              exact W.iret (v := 1) hx hb hr (fun t ht hW => ⟨⟨1, ixn [th1, 1], rfl, ⟨rfl, ⟨hsp0, hsp1, hsp2, hsp3, hsp4⟩⟩, ⟨s_amount, by rw [ht]; exact hg8, by rw [ht]; exact hg9, hex0, hex1, by rw [ht]; exact hP9, hD9⟩⟩, hS.F ht⟩) hS.2.2 d_Tokens_word_96
            · replace c_37 : ¬ q1 < 119 := fun hq9 => c_37 ((nI_ltI (a := q1) (b := 119) (by first | exact Nat.lt_of_lt_of_le (by assumption) (by decide) | exact Nat.lt_of_le_of_lt (by assumption) (by decide) | omega) (by decide)).mpr hq9)
              refine lv_aload_n hx hb d_Tokens_word_82 rfl (lv_at hl1 0 rfl) ?_
              refine lv_iload_n hx hb d_Tokens_word_83 rfl (lv_at hl1 1 rfl) ?_
              refine lv_bipush (v := 119) hx hb d_Tokens_word_84 (by decide) ?_
              refine lv_isub hx hb d_Tokens_word_86 ?_
              refine lv_topi (fun z_38 ez_38 => ?_)
              have ez_38 : z_38 = nI (q1 - 119) := ez_38.trans (pk_sub (a := q1) (b := 119) (by first | assumption | omega))
              subst ez_38
              refine lv_bipush (v := 6) hx hb d_Tokens_word_87 (by decide) ?_
              refine lv_iadd hx hb d_Tokens_word_89 ?_
              refine lv_topi (fun z_39 ez_39 => ?_)
              have ez_39 : z_39 = nI (q1 - 119 + 6) := ez_39.trans (nI_add (q1 - 119) 6)
              subst ez_39
              refine va_put (D := D) (ci := 9) (v := .int (nI (q1 - 119 + 6))) (ty := .int) (C := R_Tokens) (T := F_Tokens) (N := 8) hx hb hts i_Tokens t_Tokens t_Tokens_ok n_Tokens hown hK.1 hP hD hS 0 rfl rfl 7 (by decide) (hts _ wd_48) (fun _ h9 => h9) rfl (by decide +kernel) rfl rfl (Nat.le_of_ble_eq_true rfl) d_Tokens_word_90 (fun H_40 locs hP1 hD1 hS1 => ?_)
              clear hP hD hS
              have hS := hS1
              have hW7 : (fun w9 : va_W => va_P D classes w9 H_40 ∧ va_D A w9) [(k0, .inr (9, [.ref k1, .ref k2, .int (nI ts), .int (nI th1), .int s_at, .int s_fault, .int s_next, .int (nI (q1 - 119 + 6))])), (k1, .inl (ax 1, 400, .inl tb)), (k2, .inl (ax 0, 401, .inl (fun j => nI (tk j))))] := ⟨hP1, hD1⟩
              obtain ⟨hP, hD⟩ := hW7
              clear hP1 hD1 hS1
              refine lv_iconst (v := 3) hx hb d_Tokens_word_93 (by decide) ?_
              rw [← hQe]
              refine wk_know (fun hk8 hk9 => ?_)
              obtain ⟨hP9, hD9⟩ := xw_sub2 (wc := (fun (u : Nat → Nat) (xam : Int32) => [(k0, .inr (9, [.ref k1, .ref k2, .int (nI ts), .int (nI (u 0)), .int s_at, .int s_fault, .int s_next, .int xam])), (k1, .inl (ax 1, 400, .inl tb)), (k2, .inl (ax 0, 401, .inl (fun j => nI (tk j))))]) (ixn [th1, 3]) (nI (q1 - 119 + 6))) hP hD [0, 1, 2] (by decide) rfl
              have hex0 : sco (3) (nI (q1 - 119 + 6)) := (sco_g (by first | assumption | omega))
              have hex1 : scV (gtb tb) ts th (nI (q1 - 119 + 6)) := (scv_w hth2 (by rw [(gb_nI hq1 (by first | assumption | omega))]; omega) (by first | assumption | omega) (gb_nI hq1 (by first | assumption | omega)) (by rw [i2n_nI (by first | assumption | omega)]; omega))
              have hg8 : H_40.size ≤ s.heap.size + (0) := by omega
              have hg9 : tsl H_40 ≤ tsl s.heap + (0) := by omega
              have hsp0 : th ≤ th1 := (by first | assumption | omega)
              have hsp1 : th1 ≤ ts := (by first | assumption | omega)
              have hsp2 : 3 < 128 := (by first | assumption | omega)
              have hsp3 : th1 = ltE (gtb tb) ts (ts - th) th := hE9
              have hsp4 : 3 = cso (rwK (gtb tb) ts th) (rwV (gtb tb) ts th 0) := (wor_1 hE9 (by first | assumption | omega) (gb_nI hq1 (by first | assumption | omega)) hqa hqb (by first | rw [if_pos (by first | assumption | omega)] | rw [if_neg (by first | assumption | omega), if_pos (by first | assumption | omega)] | rw [if_neg (by first | assumption | omega), if_neg (by first | assumption | omega)]))
              exact W.iret (v := 3) hx hb hr (fun t ht hW => ⟨⟨3, ixn [th1, 3], rfl, ⟨rfl, ⟨hsp0, hsp1, hsp2, hsp3, hsp4⟩⟩, ⟨nI (q1 - 119 + 6), by rw [ht]; exact hg8, by rw [ht]; exact hg9, hex0, hex1, by rw [ht]; exact hP9, hD9⟩⟩, hS.F ht⟩) hS.2.2 d_Tokens_word_94
          · replace c_36 : ¬ 102 < q1 := fun hq9 => c_36 ((nI_ltI (a := 102) (b := q1) (by decide) (by first | exact Nat.lt_of_lt_of_le (by assumption) (by decide) | exact Nat.lt_of_le_of_lt (by assumption) (by decide) | omega)).mpr hq9)
            refine lv_aload_n hx hb d_Tokens_word_66 rfl (lv_at hl1 0 rfl) ?_
            refine lv_iload_n hx hb d_Tokens_word_67 rfl (lv_at hl1 1 rfl) ?_
            refine lv_bipush (v := 97) hx hb d_Tokens_word_68 (by decide) ?_
            refine lv_isub hx hb d_Tokens_word_70 ?_
            refine lv_topi (fun z_41 ez_41 => ?_)
            have ez_41 : z_41 = nI (q1 - 97) := ez_41.trans (pk_sub (a := q1) (b := 97) (by first | assumption | omega))
            subst ez_41
            refine va_put (D := D) (ci := 9) (v := .int (nI (q1 - 97))) (ty := .int) (C := R_Tokens) (T := F_Tokens) (N := 8) hx hb hts i_Tokens t_Tokens t_Tokens_ok n_Tokens hown hK.1 hP hD hS 0 rfl rfl 7 (by decide) (hts _ wd_48) (fun _ h9 => h9) rfl (by decide +kernel) rfl rfl (Nat.le_of_ble_eq_true rfl) d_Tokens_word_71 (fun H_42 locs hP1 hD1 hS1 => ?_)
            clear hP hD hS
            have hS := hS1
            have hW7 : (fun w9 : va_W => va_P D classes w9 H_42 ∧ va_D A w9) [(k0, .inr (9, [.ref k1, .ref k2, .int (nI ts), .int (nI th1), .int s_at, .int s_fault, .int s_next, .int (nI (q1 - 97))])), (k1, .inl (ax 1, 400, .inl tb)), (k2, .inl (ax 0, 401, .inl (fun j => nI (tk j))))] := ⟨hP1, hD1⟩
            obtain ⟨hP, hD⟩ := hW7
            clear hP1 hD1 hS1
            refine lv_iconst (v := 2) hx hb d_Tokens_word_74 (by decide) ?_
            rw [← hQe]
            refine wk_know (fun hk8 hk9 => ?_)
            obtain ⟨hP9, hD9⟩ := xw_sub2 (wc := (fun (u : Nat → Nat) (xam : Int32) => [(k0, .inr (9, [.ref k1, .ref k2, .int (nI ts), .int (nI (u 0)), .int s_at, .int s_fault, .int s_next, .int xam])), (k1, .inl (ax 1, 400, .inl tb)), (k2, .inl (ax 0, 401, .inl (fun j => nI (tk j))))]) (ixn [th1, 2]) (nI (q1 - 97))) hP hD [0, 1, 2] (by decide) rfl
            have hex0 : sco (2) (nI (q1 - 97)) := (sco_v (by first | assumption | omega))
            have hex1 : scV (gtb tb) ts th (nI (q1 - 97)) := (scv_w hth2 (by rw [(gb_nI hq1 (by first | assumption | omega))]; omega) (by first | assumption | omega) (gb_nI hq1 (by first | assumption | omega)) (by rw [i2n_nI (by first | assumption | omega)]; omega))
            have hg8 : H_42.size ≤ s.heap.size + (0) := by omega
            have hg9 : tsl H_42 ≤ tsl s.heap + (0) := by omega
            have hsp0 : th ≤ th1 := (by first | assumption | omega)
            have hsp1 : th1 ≤ ts := (by first | assumption | omega)
            have hsp2 : 2 < 128 := (by first | assumption | omega)
            have hsp3 : th1 = ltE (gtb tb) ts (ts - th) th := hE9
            have hsp4 : 2 = cso (rwK (gtb tb) ts th) (rwV (gtb tb) ts th 0) := (wor_1 hE9 (by first | assumption | omega) (gb_nI hq1 (by first | assumption | omega)) hqa hqb (by first | rw [if_pos (by first | assumption | omega)] | rw [if_neg (by first | assumption | omega), if_pos (by first | assumption | omega)] | rw [if_neg (by first | assumption | omega), if_neg (by first | assumption | omega)]))
            exact W.iret (v := 2) hx hb hr (fun t ht hW => ⟨⟨2, ixn [th1, 2], rfl, ⟨rfl, ⟨hsp0, hsp1, hsp2, hsp3, hsp4⟩⟩, ⟨nI (q1 - 97), by rw [ht]; exact hg8, by rw [ht]; exact hg9, hex0, hex1, by rw [ht]; exact hP9, hD9⟩⟩, hS.F ht⟩) hS.2.2 d_Tokens_word_75
        · replace c_35 : ¬ th1 - th ≤ 1 := fun hq9 => c_35 ((nI_leI (a := th1 - th) (b := 1) (by first | exact Nat.lt_of_lt_of_le (by assumption) (by decide) | exact Nat.lt_of_le_of_lt (by assumption) (by decide) | omega) (by decide)).mpr hq9)
          refine lv_aload_n hx hb d_Tokens_word_54 rfl (lv_at hl1 0 rfl) ?_
          refine lv_iload_n hx hb d_Tokens_word_55 rfl (lv_at hl1 2 rfl) ?_
          obtain ⟨hPc, hDc, hFc, hCs⟩ := xw_sub3 (wc := [(k0, .inr (9, [.ref k1, .ref k2, .int (nI ts), .int (nI th1), .int s_at, .int s_fault, .int s_next, .int s_amount])), (k1, .inl (ax 1, 400, .inl tb)), (k2, .inl (ax 0, 401, .inl (fun j => nI (tk j))))]) hP hD hS hA [0, 1, 2] (by decide) rfl
          have hz := xz_of hN hS
          refine wk_know (fun hk8 hk9 => ?_)
          refine va_calli (va_runV (As := [.int (nI th)]) (rest := []) ⟨hx, hb, hml, hown, hts⟩ (c_T_keyword l D ax ad av fm k0 k1 k2 ts th1 s_at s_fault s_next s_amount tb tk th H_31.size (tsl H_31) (by first | assumption | omega) (by first | assumption | omega) (by first | assumption | omega) hbt (by first | assumption | omega) hlt9) (xcV (n := 1) hts wd_449 wd_2 wd_446 wd_448 ps_2 rfl rfl (by decide +kernel) ⟨Nat.le_of_ble_eq_true rfl, Nat.le_of_ble_eq_true rfl⟩) (xpV4 (ci := 9) (q0 := 0) (As := [.int (nI th)]) hX hS hFc hPc hK hz hDc rfl rfl) rfl rfl hl1.1 rfl (lv_room (Nat.le_of_ble_eq_true rfl)) d_Tokens_word_56 ⟨Nat.le_of_ble_eq_true rfl, Nat.le_of_ble_eq_true rfl⟩) hS (fun q _ h => hFc q h) hFc (fun r_45 u_43 t H_44 locs ht hvm hw hB hz1 hk1 hS1 => ?_)
          try dsimp only at hw
          obtain ⟨hw, hs_46, hs_47, hs_48, hs_49, hs_50, hs_51⟩ := hw
          subst hw
          obtain ⟨hg8, hg9, hP1, hD1⟩ := hB
          rw [ht] at hg8 hg9 hP1
          have hjn := xw_join3 (wl := [(k0, .inr (9, [.ref k1, .ref k2, .int (nI ts), .int (nI th1), .int s_at, .int s_fault, .int s_next, .int s_amount])), (k1, .inl (ax 1, 400, .inl tb)), (k2, .inl (ax 0, 401, .inl (fun j => nI (tk j))))]) hP hD [0, 1, 2] [] hCs (by decide) (by decide) hk1 hFc hP1 hD1 rfl
          clear hP1 hD1
          clear hPc hDc hFc hCs hz hz1 hk1 ht hvm
          clear hP hD hS
          have hS := hS1
          obtain ⟨hP, hD⟩ := hjn
          clear hS1
          refine wk_narrow (k := 0) (n := 0) (by first | assumption | omega) (by first | assumption | omega) ?_
          clear hk8 hk9 hg8 hg9
          rw [← hQe]
          refine wk_know (fun hk8 hk9 => ?_)
          refine W.widen (k := 0) (n := 0) (Nat.le_of_ble_eq_true rfl) (Nat.le_of_ble_eq_true rfl) ?_
          obtain ⟨hP9, hD9⟩ := xw_sub2 (wc := (fun (u : Nat → Nat) (xam : Int32) => [(k0, .inr (9, [.ref k1, .ref k2, .int (nI ts), .int (nI (u 0)), .int s_at, .int s_fault, .int s_next, .int xam])), (k1, .inl (ax 1, 400, .inl tb)), (k2, .inl (ax 0, 401, .inl (fun j => nI (tk j))))]) (ixn [th1, (u_43 0)]) s_amount) hP hD [0, 1, 2] (by decide) rfl
          have hex0 : sco ((u_43 0)) s_amount := (sco_o (by first | assumption | omega) (by first | assumption | omega) (by first | assumption | omega) (by first | assumption | omega))
          have hex1 : scV (gtb tb) ts th s_amount := (scV_o (sc_w hth2 (by rw [(gb_nI hq1 (by first | assumption | omega))]; omega) hE9 (wor_m hE9 (by first | assumption | omega) hs_51)).2 (by have h4 := kw_4 (by first | assumption | omega) hlt9 hs_51; omega))
          have hg8 : H_44.size ≤ s.heap.size + (0) := by omega
          have hg9 : tsl H_44 ≤ tsl s.heap + (0) := by omega
          have hsp0 : th ≤ th1 := (by first | assumption | omega)
          have hsp1 : th1 ≤ ts := (by first | assumption | omega)
          have hsp2 : (u_43 0) < 128 := (by first | assumption | omega)
          have hsp3 : th1 = ltE (gtb tb) ts (ts - th) th := hE9
          have hsp4 : (u_43 0) = cso (rwK (gtb tb) ts th) (rwV (gtb tb) ts th 0) := (wor_m hE9 (by first | assumption | omega) hs_51)
          exact W.iret (v := nI (u_43 0)) hx hb hr (fun t ht hW => ⟨⟨nI (u_43 0), ixn [th1, (u_43 0)], rfl, ⟨rfl, ⟨hsp0, hsp1, hsp2, hsp3, hsp4⟩⟩, ⟨s_amount, by rw [ht]; exact hg8, by rw [ht]; exact hg9, hex0, hex1, by rw [ht]; exact hP9, hD9⟩⟩, hS.F ht⟩) hS.2.2 d_Tokens_word_59
abbrev b_Tokens_scan : ByteArray := prog_11_method_8_code
def y_Tokens_scan : MethodName := ⟨R_Tokens, "scan", "(I)I"⟩
theorem d_Tokens_scan_0 : decode b_Tokens_scan 0 = .ok (.iload_n 1, 1) := by decide +kernel
theorem d_Tokens_scan_1 : decode b_Tokens_scan 1 = .ok (.invokestatic 48, 3) := by decide +kernel
theorem d_Tokens_scan_4 : decode b_Tokens_scan 4 = .ok (.ifCond .eq 9, 3) := by decide +kernel
theorem d_Tokens_scan_7 : decode b_Tokens_scan 7 = .ok (.aload_n 0, 1) := by decide +kernel
theorem d_Tokens_scan_8 : decode b_Tokens_scan 8 = .ok (.iload_n 1, 1) := by decide +kernel
theorem d_Tokens_scan_9 : decode b_Tokens_scan 9 = .ok (.invokevirtual 52, 3) := by decide +kernel
theorem d_Tokens_scan_12 : decode b_Tokens_scan 12 = .ok (.ireturn, 1) := by decide +kernel
theorem d_Tokens_scan_13 : decode b_Tokens_scan 13 = .ok (.iload_n 1, 1) := by decide +kernel
theorem d_Tokens_scan_14 : decode b_Tokens_scan 14 = .ok (.invokestatic 55, 3) := by decide +kernel
theorem d_Tokens_scan_17 : decode b_Tokens_scan 17 = .ok (.ifCond .eq 10, 3) := by decide +kernel
theorem d_Tokens_scan_20 : decode b_Tokens_scan 20 = .ok (.aload_n 0, 1) := by decide +kernel
theorem d_Tokens_scan_21 : decode b_Tokens_scan 21 = .ok (.invokevirtual 58, 3) := by decide +kernel
theorem d_Tokens_scan_24 : decode b_Tokens_scan 24 = .ok (.goto 8, 3) := by decide +kernel
theorem d_Tokens_scan_27 : decode b_Tokens_scan 27 = .ok (.aload_n 0, 1) := by decide +kernel
theorem d_Tokens_scan_28 : decode b_Tokens_scan 28 = .ok (.iload_n 1, 1) := by decide +kernel
theorem d_Tokens_scan_29 : decode b_Tokens_scan 29 = .ok (.invokevirtual 62, 3) := by decide +kernel
theorem d_Tokens_scan_32 : decode b_Tokens_scan 32 = .ok (.ireturn, 1) := by decide +kernel
set_option maxHeartbeats 40000000 in
set_option maxRecDepth 100000 in
theorem c_T_scan (l : Launch) (D : va_G) (ax : Nat → ClassId) (ad av : Nat → Nat) (fm : Nat) (k0 k1 k2 ts th : Nat) (s_at s_fault s_next s_amount : Int32) (tb : Nat → Int32) (tk : Nat → Nat) (x1 : Int32) (sz tz : Nat) (hts : ts ≤ 400) (hth : th < ts) (hbt : bts tb 400) (hx1 : x1 = tb th) (ham0 : s_amount = 0) : Met l y_Tokens_scan (xws (.code y_Tokens_scan b_Tokens_scan 2 (some .int))) ({ frames := 80, cells := 0, slots := 0, locals := 3200 }) (va_Pc [.ref k0, .int x1] (xo4 D ax ad av fm [(k0, .inr (9, [.ref k1, .ref k2, .int (nI ts), .int (nI th), .int s_at, .int s_fault, .int s_next, .int s_amount])), (k1, .inl (ax 1, 400, .inl tb)), (k2, .inl (ax 0, 401, .inl (fun j => nI (tk j))))] sz tz)) ((va_Qi (fun (r : Int32) (u : Nat → Nat) => r = nI (u 1) ∧ (th ≤ u 0 ∧ u 0 ≤ ts ∧ u 1 < 128 ∧ scE (gtb tb) ts th (u 0) ∧ scK (gtb tb) ts th (u 1))) (fun (u : Nat → Nat) (t9 : State) => ∃ xam : Int32, (t9.heap.size ≤ sz + (0)) ∧ (tsl t9.heap ≤ tz + (0)) ∧ (sco (u 1) xam) ∧ (scV (gtb tb) ts th xam) ∧ va_P D classes [(k0, .inr (9, [.ref k1, .ref k2, .int (nI ts), .int (nI (u 0)), .int s_at, .int s_fault, .int s_next, .int xam])), (k1, .inl (ax 1, 400, .inl tb)), (k2, .inl (ax 0, 401, .inl (fun j => nI (tk j))))] t9.heap ∧ va_D (va_A [(k0, .inr (9, [.ref k1, .ref k2, .int (nI ts), .int (nI th), .int s_at, .int s_fault, .int s_next, .int s_amount])), (k1, .inl (ax 1, 400, .inl tb)), (k2, .inl (ax 0, 401, .inl (fun j => nI (tk j))))] sz) [(k0, .inr (9, [.ref k1, .ref k2, .int (nI ts), .int (nI (u 0)), .int s_at, .int s_fault, .int s_next, .int xam])), (k1, .inl (ax 1, 400, .inl tb)), (k2, .inl (ax 0, 401, .inl (fun j => nI (tk j))))]) (va_A [(k0, .inr (9, [.ref k1, .ref k2, .int (nI ts), .int (nI th), .int s_at, .int s_fault, .int s_next, .int s_amount])), (k1, .inl (ax 1, 400, .inl tb)), (k2, .inl (ax 0, 401, .inl (fun j => nI (tk j))))] sz))) 0 0 (va_A [(k0, .inr (9, [.ref k1, .ref k2, .int (nI ts), .int (nI th), .int s_at, .int s_fault, .int s_next, .int s_amount])), (k1, .inl (ax 1, 400, .inl tb)), (k2, .inl (ax 0, 401, .inl (fun j => nI (tk j))))] sz) := by
  refine Met.ofW (cc := b_Tokens_scan) (maxL := 2) (ret := (some .int)) (by decide) rfl ?_
  intro p e s m args below meth c s₁ B hml hv
  obtain ⟨rfl, ⟨⟨hsz, hP, hK, hD0⟩, htz⟩, hX⟩ := hv
  have hx := B.exec
  have hb := B.bytes
  have hr := B.returns
  have hts := xw_hts B.pre
  have hown : s.vm.findClass R_Tokens = some m.cls := findClass_of_methodNamed B.named
  have hlocks := B.notSynchronized
  subst hsz
  subst htz
  have hD := hD0.self (sz := s.heap.size)
  have hN := xz_entry hP
  generalize hAe : va_A [(k0, .inr (9, [.ref k1, .ref k2, .int (nI ts), .int (nI th), .int s_at, .int s_fault, .int s_next, .int s_amount])), (k1, .inl (ax 1, 400, .inl tb)), (k2, .inl (ax 0, 401, .inl (fun j => nI (tk j))))] s.heap.size = A at hD hN hX ⊢
  have hA : ∀ q : Nat, s.heap.size ≤ q → A q := fun q h => by rw [← hAe]; exact Or.inr h
  have hS : va_S A s.heap s.heap [] := va_S.rf
  have hl0 := lv_entry ([.ref k0, .int x1]) (n := 2) (Nat.le_of_ble_eq_true rfl)
  rw [lg_entry_eq]
  generalize (lg_sl ([.ref k0, .int x1]) ++ List.replicate (2 - (lg_sl ([.ref k0, .int x1])).length) Slot.unset).toArray = ls at hl0 ⊢
  have hl1 : lv_has ls 2 [(0, .ref k0), (1, .int x1)] := hl0
  refine xw_gen (fun Z9 hQe => ?_)
  refine lv_iload_n hx hb d_Tokens_scan_0 rfl (lv_at hl1 1 rfl) ?_
  rcases Classical.em (∃ j : Nat, 97 ≤ j ∧ j ≤ 122 ∧ x1 = nI j) with ⟨l9, hl9a, hl9b, el9⟩ | hnol9
  · refine W.eq (g2 := F0 m 1 ls [.int (nI l9)]) (by rw [el9]) ?_
    rw [el9] at hl1
    have hl1 : lv_has ls 2 [(0, .ref k0), (1, .int (nI l9))] := hl1
    obtain ⟨hPc, hDc, hFc, hCs⟩ := xw_sub3 (wc := []) hP hD hS hA [] (by decide) rfl
    have hz := xz_of hN hS
    refine va_calli (va_runS (As := [.int (nI l9)]) (rest := []) ⟨hx, hb, hml, hown, hts⟩ (c_K_isLetter_yes l D ax l9 s.heap.size hl9a hl9b) (xcS (n := 1) hts wd_441 wd_2 wd_439 wd_440 rfl rfl (by decide +kernel) ⟨Nat.le_of_ble_eq_true rfl, Nat.le_of_ble_eq_true rfl⟩) (xpS (As := [.int (nI l9)]) hPc hK hz hDc) rfl rfl hl1.1 rfl (lv_room (Nat.le_of_ble_eq_true rfl)) d_Tokens_scan_1 ⟨Nat.le_of_ble_eq_true rfl, Nat.le_of_ble_eq_true rfl⟩) hS (fun q _ h => hFc q h) hFc (fun r_3 u_1 t H_2 locs ht hvm hw hB hz1 hk1 hS1 => ?_)
    try dsimp only at hw
    subst hw
    obtain ⟨hP1, hD1⟩ := hB
    rw [ht] at hP1
    have hjn := xw_join3 (wl := [(k0, .inr (9, [.ref k1, .ref k2, .int (nI ts), .int (nI th), .int s_at, .int s_fault, .int s_next, .int s_amount])), (k1, .inl (ax 1, 400, .inl tb)), (k2, .inl (ax 0, 401, .inl (fun j => nI (tk j))))]) hP hD [] [0, 1, 2] hCs (by decide) (by decide) hk1 hFc hP1 hD1 rfl
    clear hP1 hD1
    clear hPc hDc hFc hCs hz hz1 hk1 ht hvm
    clear hP hD hS
    have hS := hS1
    obtain ⟨hP, hD⟩ := hjn
    clear hS1
    refine lv_if_eq (tgt := 13) hx hb d_Tokens_scan_4 (by decide) (fun c_4 => ?_) (fun c_4 => ?_)
    · first | exact absurd c_4 (by decide) | exact absurd (by decide) c_4
    refine lv_aload_n hx hb d_Tokens_scan_7 rfl (lv_at hl1 0 rfl) ?_
    refine lv_iload_n hx hb d_Tokens_scan_8 rfl (lv_at hl1 1 rfl) ?_
    obtain ⟨hPc, hDc, hFc, hCs⟩ := xw_sub3 (wc := [(k0, .inr (9, [.ref k1, .ref k2, .int (nI ts), .int (nI th), .int s_at, .int s_fault, .int s_next, .int s_amount])), (k1, .inl (ax 1, 400, .inl tb)), (k2, .inl (ax 0, 401, .inl (fun j => nI (tk j))))]) hP hD hS hA [0, 1, 2] (by decide) rfl
    have hz := xz_of hN hS
    refine wk_know (fun hk8 hk9 => ?_)
    refine va_calli (va_runV (As := [.int (nI l9)]) (rest := []) ⟨hx, hb, hml, hown, hts⟩ (c_T_word l D ax ad av fm k0 k1 k2 ts th s_at s_fault s_next s_amount tb tk l9 H_2.size (tsl H_2) (by first | assumption | omega) (by first | assumption | omega) (by first | assumption | omega) (by first | assumption | omega) hbt hth (hx1.symm.trans el9)) (xcV (n := 1) hts wd_445 wd_2 wd_442 wd_444 ps_1 rfl rfl (by decide +kernel) ⟨Nat.le_of_ble_eq_true rfl, Nat.le_of_ble_eq_true rfl⟩) (xpV4 (ci := 9) (q0 := 0) (As := [.int (nI l9)]) hX hS hFc hPc hK hz hDc rfl rfl) rfl rfl hl1.1 rfl (lv_room (Nat.le_of_ble_eq_true rfl)) d_Tokens_scan_9 ⟨Nat.le_of_ble_eq_true rfl, Nat.le_of_ble_eq_true rfl⟩) hS (fun q _ h => hFc q h) hFc (fun r_7 u_5 t H_6 locs ht hvm hw hB hz1 hk1 hS1 => ?_)
    try dsimp only at hw
    obtain ⟨hw, hs_8, hs_9, hs_10, hs_11, hs_12⟩ := hw
    subst hw
    obtain ⟨x_13, hg8, hg9, hx_14, hx_15, hP1, hD1⟩ := hB
    rw [ht] at hg8 hg9 hP1
    have hjn := xw_join3 (wl := [(k0, .inr (9, [.ref k1, .ref k2, .int (nI ts), .int (nI (u_5 0)), .int s_at, .int s_fault, .int s_next, .int x_13])), (k1, .inl (ax 1, 400, .inl tb)), (k2, .inl (ax 0, 401, .inl (fun j => nI (tk j))))]) hP hD [0, 1, 2] [] hCs (by decide) (by decide) hk1 hFc hP1 hD1 rfl
    clear hP1 hD1
    clear hPc hDc hFc hCs hz hz1 hk1 ht hvm
    clear hP hD hS
    have hS := hS1
    obtain ⟨hP, hD⟩ := hjn
    clear hS1
    refine wk_narrow (k := 0) (n := 0) (by first | assumption | omega) (by first | assumption | omega) ?_
    clear hk8 hk9 hg8 hg9
    rw [← hQe]
    refine wk_know (fun hk8 hk9 => ?_)
    refine W.widen (k := 0) (n := 0) (Nat.le_of_ble_eq_true rfl) (Nat.le_of_ble_eq_true rfl) ?_
    obtain ⟨hP9, hD9⟩ := xw_sub2 (wc := (fun (u : Nat → Nat) (xam : Int32) => [(k0, .inr (9, [.ref k1, .ref k2, .int (nI ts), .int (nI (u 0)), .int s_at, .int s_fault, .int s_next, .int xam])), (k1, .inl (ax 1, 400, .inl tb)), (k2, .inl (ax 0, 401, .inl (fun j => nI (tk j))))]) (ixn [(u_5 0), (u_5 1)]) x_13) hP hD [0, 1, 2] (by decide) rfl
    have hex0 : sco ((u_5 1)) x_13 := hx_14
    have hex1 : scV (gtb tb) ts th x_13 := hx_15
    have hg8 : H_6.size ≤ s.heap.size + (0) := by omega
    have hg9 : tsl H_6 ≤ tsl s.heap + (0) := by omega
    have hsp0 : th ≤ (u_5 0) := (by first | assumption | omega)
    have hsp1 : (u_5 0) ≤ ts := (by first | assumption | omega)
    have hsp2 : (u_5 1) < 128 := (by first | assumption | omega)
    have hsp3 : scE (gtb tb) ts th ((u_5 0)) := (sc_w hth (by rw [gb_nI (hx1.symm.trans el9) (by first | assumption | omega)]; omega) hs_11 hs_12).1
    have hsp4 : scK (gtb tb) ts th ((u_5 1)) := (sc_w hth (by rw [gb_nI (hx1.symm.trans el9) (by first | assumption | omega)]; omega) hs_11 hs_12).2
    exact W.iret (v := nI (u_5 1)) hx hb hr (fun t ht hW => ⟨⟨nI (u_5 1), ixn [(u_5 0), (u_5 1)], rfl, ⟨rfl, ⟨hsp0, hsp1, hsp2, hsp3, hsp4⟩⟩, ⟨x_13, by rw [ht]; exact hg8, by rw [ht]; exact hg9, hex0, hex1, by rw [ht]; exact hP9, hD9⟩⟩, hS.F ht⟩) hS.2.2 d_Tokens_scan_12
  · have hnnl9 : ∀ j : Nat, 97 ≤ j → j ≤ 122 → x1 ≠ nI j := fun j a b e => hnol9 ⟨j, a, b, e⟩
    obtain ⟨hPc, hDc, hFc, hCs⟩ := xw_sub3 (wc := []) hP hD hS hA [] (by decide) rfl
    have hz := xz_of hN hS
    refine va_calli (va_runS (As := [.int x1]) (rest := []) ⟨hx, hb, hml, hown, hts⟩ (c_K_isLetter_no l D ax x1 s.heap.size hnnl9) (xcS (n := 1) hts wd_441 wd_2 wd_439 wd_440 rfl rfl (by decide +kernel) ⟨Nat.le_of_ble_eq_true rfl, Nat.le_of_ble_eq_true rfl⟩) (xpS (As := [.int x1]) hPc hK hz hDc) rfl rfl hl1.1 rfl (lv_room (Nat.le_of_ble_eq_true rfl)) d_Tokens_scan_1 ⟨Nat.le_of_ble_eq_true rfl, Nat.le_of_ble_eq_true rfl⟩) hS (fun q _ h => hFc q h) hFc (fun r_18 u_16 t H_17 locs ht hvm hw hB hz1 hk1 hS1 => ?_)
    try dsimp only at hw
    subst hw
    obtain ⟨hP1, hD1⟩ := hB
    rw [ht] at hP1
    have hjn := xw_join3 (wl := [(k0, .inr (9, [.ref k1, .ref k2, .int (nI ts), .int (nI th), .int s_at, .int s_fault, .int s_next, .int s_amount])), (k1, .inl (ax 1, 400, .inl tb)), (k2, .inl (ax 0, 401, .inl (fun j => nI (tk j))))]) hP hD [] [0, 1, 2] hCs (by decide) (by decide) hk1 hFc hP1 hD1 rfl
    clear hP1 hD1
    clear hPc hDc hFc hCs hz hz1 hk1 ht hvm
    clear hP hD hS
    have hS := hS1
    obtain ⟨hP, hD⟩ := hjn
    clear hS1
    refine lv_if_eq (tgt := 13) hx hb d_Tokens_scan_4 (by decide) (fun c_19 => ?_) (fun c_19 => ?_)
    rotate_left
    · first | exact absurd c_19 (by decide) | exact absurd (by decide) c_19
    refine lv_iload_n hx hb d_Tokens_scan_13 rfl (lv_at hl1 1 rfl) ?_
    rcases Classical.em (∃ j : Nat, 48 ≤ j ∧ j ≤ 57 ∧ x1 = nI j) with ⟨d9, hd9a, hd9b, ed9⟩ | hnod9
    · refine W.eq (g2 := F0 m 14 ls [.int (nI d9)]) (by rw [ed9]) ?_
      obtain ⟨hPc, hDc, hFc, hCs⟩ := xw_sub3 (wc := []) hP hD hS hA [] (by decide) rfl
      have hz := xz_of hN hS
      refine va_calli (va_runS (As := [.int (nI d9)]) (rest := []) ⟨hx, hb, hml, hown, hts⟩ (c_K_isDigit_yes l D ax d9 H_17.size hd9a hd9b) (xcS (n := 1) hts wd_515 wd_2 wd_513 wd_514 rfl rfl (by decide +kernel) ⟨Nat.le_of_ble_eq_true rfl, Nat.le_of_ble_eq_true rfl⟩) (xpS (As := [.int (nI d9)]) hPc hK hz hDc) rfl rfl hl1.1 rfl (lv_room (Nat.le_of_ble_eq_true rfl)) d_Tokens_scan_14 ⟨Nat.le_of_ble_eq_true rfl, Nat.le_of_ble_eq_true rfl⟩) hS (fun q _ h => hFc q h) hFc (fun r_22 u_20 t H_21 locs ht hvm hw hB hz1 hk1 hS1 => ?_)
      try dsimp only at hw
      subst hw
      obtain ⟨hP1, hD1⟩ := hB
      rw [ht] at hP1
      have hjn := xw_join3 (wl := [(k0, .inr (9, [.ref k1, .ref k2, .int (nI ts), .int (nI th), .int s_at, .int s_fault, .int s_next, .int s_amount])), (k1, .inl (ax 1, 400, .inl tb)), (k2, .inl (ax 0, 401, .inl (fun j => nI (tk j))))]) hP hD [] [0, 1, 2] hCs (by decide) (by decide) hk1 hFc hP1 hD1 rfl
      clear hP1 hD1
      clear hPc hDc hFc hCs hz hz1 hk1 ht hvm
      clear hP hD hS
      have hS := hS1
      obtain ⟨hP, hD⟩ := hjn
      clear hS1
      refine lv_if_eq (tgt := 27) hx hb d_Tokens_scan_17 (by decide) (fun c_23 => ?_) (fun c_23 => ?_)
      · first | exact absurd c_23 (by decide) | exact absurd (by decide) c_23
      refine lv_aload_n hx hb d_Tokens_scan_20 rfl (lv_at hl1 0 rfl) ?_
      obtain ⟨hPc, hDc, hFc, hCs⟩ := xw_sub3 (wc := [(k0, .inr (9, [.ref k1, .ref k2, .int (nI ts), .int (nI th), .int s_at, .int s_fault, .int s_next, .int s_amount])), (k1, .inl (ax 1, 400, .inl tb)), (k2, .inl (ax 0, 401, .inl (fun j => nI (tk j))))]) hP hD hS hA [0, 1, 2] (by decide) rfl
      have hz := xz_of hN hS
      refine va_calli (va_runV (As := []) (rest := []) ⟨hx, hb, hml, hown, hts⟩ (c_T_digits l D ax k0 k1 k2 ts th s_at s_fault s_next s_amount tb tk H_21.size (by first | assumption | omega) (by first | assumption | omega) hbt ham0) (xcV (n := 0) hts wd_519 wd_2 wd_516 wd_518 ps_4 rfl rfl (by decide +kernel) ⟨Nat.le_of_ble_eq_true rfl, Nat.le_of_ble_eq_true rfl⟩) (xpV (ci := 9) (q0 := 0) (As := []) hPc hK hz hDc rfl rfl) rfl rfl hl1.1 rfl (lv_room (Nat.le_of_ble_eq_true rfl)) d_Tokens_scan_21 ⟨Nat.le_of_ble_eq_true rfl, Nat.le_of_ble_eq_true rfl⟩) hS (fun q _ h => hFc q h) hFc (fun r_26 u_24 t H_25 locs ht hvm hw hB hz1 hk1 hS1 => ?_)
      try dsimp only at hw
      obtain ⟨hw, hs_27, hs_28, hs_29, hs_30, hs_31⟩ := hw
      subst hw
      obtain ⟨x_32, hx_33, hx_34, hP1, hD1⟩ := hB
      rw [ht] at hP1
      have hjn := xw_join3 (wl := [(k0, .inr (9, [.ref k1, .ref k2, .int (nI ts), .int (nI (u_24 0)), .int s_at, .int s_fault, .int s_next, .int x_32])), (k1, .inl (ax 1, 400, .inl tb)), (k2, .inl (ax 0, 401, .inl (fun j => nI (tk j))))]) hP hD [0, 1, 2] [] hCs (by decide) (by decide) hk1 hFc hP1 hD1 rfl
      clear hP1 hD1
      clear hPc hDc hFc hCs hz hz1 hk1 ht hvm
      clear hP hD hS
      have hS := hS1
      obtain ⟨hP, hD⟩ := hjn
      clear hS1
      refine lv_goto (tgt := 32) hx hb d_Tokens_scan_24 (by decide) ?_
      rw [← hQe]
      refine wk_know (fun hk8 hk9 => ?_)
      obtain ⟨hP9, hD9⟩ := xw_sub2 (wc := (fun (u : Nat → Nat) (xam : Int32) => [(k0, .inr (9, [.ref k1, .ref k2, .int (nI ts), .int (nI (u 0)), .int s_at, .int s_fault, .int s_next, .int xam])), (k1, .inl (ax 1, 400, .inl tb)), (k2, .inl (ax 0, 401, .inl (fun j => nI (tk j))))]) (ixn [(u_24 0), (u_24 1)]) x_32) hP hD [0, 1, 2] (by decide) rfl
      have hex0 : sco ((u_24 1)) x_32 := hx_33
      have hex1 : scV (gtb tb) ts th x_32 := (scv_d hth (by rw [gb_nI (hx1.symm.trans ed9) (by first | assumption | omega)]; omega) hs_30 hx_34)
      have hg8 : H_25.size ≤ s.heap.size + (0) := by omega
      have hg9 : tsl H_25 ≤ tsl s.heap + (0) := by omega
      have hsp0 : th ≤ (u_24 0) := (by first | assumption | omega)
      have hsp1 : (u_24 0) ≤ ts := (by first | assumption | omega)
      have hsp2 : (u_24 1) < 128 := (by first | assumption | omega)
      have hsp3 : scE (gtb tb) ts th ((u_24 0)) := (sc_d hth (by rw [gb_nI (hx1.symm.trans ed9) (by first | assumption | omega)]; omega) hs_30 hs_31).1
      have hsp4 : scK (gtb tb) ts th ((u_24 1)) := (sc_d hth (by rw [gb_nI (hx1.symm.trans ed9) (by first | assumption | omega)]; omega) hs_30 hs_31).2
      exact W.iret (v := nI (u_24 1)) hx hb hr (fun t ht hW => ⟨⟨nI (u_24 1), ixn [(u_24 0), (u_24 1)], rfl, ⟨rfl, ⟨hsp0, hsp1, hsp2, hsp3, hsp4⟩⟩, ⟨x_32, by rw [ht]; exact hg8, by rw [ht]; exact hg9, hex0, hex1, by rw [ht]; exact hP9, hD9⟩⟩, hS.F ht⟩) hS.2.2 d_Tokens_scan_32
    · have hnnd9 : ∀ j : Nat, 48 ≤ j → j ≤ 57 → x1 ≠ nI j := fun j a b e => hnod9 ⟨j, a, b, e⟩
      obtain ⟨hPc, hDc, hFc, hCs⟩ := xw_sub3 (wc := []) hP hD hS hA [] (by decide) rfl
      have hz := xz_of hN hS
      refine va_calli (va_runS (As := [.int x1]) (rest := []) ⟨hx, hb, hml, hown, hts⟩ (c_K_isDigit_no l D ax x1 H_17.size hnnd9) (xcS (n := 1) hts wd_515 wd_2 wd_513 wd_514 rfl rfl (by decide +kernel) ⟨Nat.le_of_ble_eq_true rfl, Nat.le_of_ble_eq_true rfl⟩) (xpS (As := [.int x1]) hPc hK hz hDc) rfl rfl hl1.1 rfl (lv_room (Nat.le_of_ble_eq_true rfl)) d_Tokens_scan_14 ⟨Nat.le_of_ble_eq_true rfl, Nat.le_of_ble_eq_true rfl⟩) hS (fun q _ h => hFc q h) hFc (fun r_37 u_35 t H_36 locs ht hvm hw hB hz1 hk1 hS1 => ?_)
      try dsimp only at hw
      subst hw
      obtain ⟨hP1, hD1⟩ := hB
      rw [ht] at hP1
      have hjn := xw_join3 (wl := [(k0, .inr (9, [.ref k1, .ref k2, .int (nI ts), .int (nI th), .int s_at, .int s_fault, .int s_next, .int s_amount])), (k1, .inl (ax 1, 400, .inl tb)), (k2, .inl (ax 0, 401, .inl (fun j => nI (tk j))))]) hP hD [] [0, 1, 2] hCs (by decide) (by decide) hk1 hFc hP1 hD1 rfl
      clear hP1 hD1
      clear hPc hDc hFc hCs hz hz1 hk1 ht hvm
      clear hP hD hS
      have hS := hS1
      obtain ⟨hP, hD⟩ := hjn
      clear hS1
      refine lv_if_eq (tgt := 27) hx hb d_Tokens_scan_17 (by decide) (fun c_38 => ?_) (fun c_38 => ?_)
      rotate_left
      · first | exact absurd c_38 (by decide) | exact absurd (by decide) c_38
      refine lv_aload_n hx hb d_Tokens_scan_27 rfl (lv_at hl1 0 rfl) ?_
      refine lv_iload_n hx hb d_Tokens_scan_28 rfl (lv_at hl1 1 rfl) ?_
      obtain ⟨hPc, hDc, hFc, hCs⟩ := xw_sub3 (wc := [(k0, .inr (9, [.ref k1, .ref k2, .int (nI ts), .int (nI th), .int s_at, .int s_fault, .int s_next, .int s_amount])), (k1, .inl (ax 1, 400, .inl tb)), (k2, .inl (ax 0, 401, .inl (fun j => nI (tk j))))]) hP hD hS hA [0, 1, 2] (by decide) rfl
      have hz := xz_of hN hS
      refine va_calli (va_runV (As := [.int x1]) (rest := []) ⟨hx, hb, hml, hown, hts⟩ (c_T_sign l D ax k0 k1 k2 ts th s_at s_fault s_next s_amount tb tk x1 H_36.size (by first | assumption | omega) (by first | assumption | omega) hbt hx1 (gb_no' hbt (by first | assumption | omega) (by decide) (fun j a b e => hnnl9 j a b (hx1.trans e))) (gb_no' hbt (by first | assumption | omega) (by decide) (fun j a b e => hnnd9 j a b (hx1.trans e)))) (xcV (n := 1) hts wd_523 wd_2 wd_520 wd_522 ps_5 rfl rfl (by decide +kernel) ⟨Nat.le_of_ble_eq_true rfl, Nat.le_of_ble_eq_true rfl⟩) (xpV (ci := 9) (q0 := 0) (As := [.int x1]) hPc hK hz hDc rfl rfl) rfl rfl hl1.1 rfl (lv_room (Nat.le_of_ble_eq_true rfl)) d_Tokens_scan_29 ⟨Nat.le_of_ble_eq_true rfl, Nat.le_of_ble_eq_true rfl⟩) hS (fun q _ h => hFc q h) hFc (fun r_41 u_39 t H_40 locs ht hvm hw hB hz1 hk1 hS1 => ?_)
      try dsimp only at hw
      obtain ⟨hw, hs_42, hs_43, hs_44, hs_45, hs_46⟩ := hw
      subst hw
      obtain ⟨x_47, hx_48, hx_49, hP1, hD1⟩ := hB
      rw [ht] at hP1
      have hjn := xw_join3 (wl := [(k0, .inr (9, [.ref k1, .ref k2, .int (nI ts), .int (nI (u_39 0)), .int s_at, .int s_fault, .int s_next, .int x_47])), (k1, .inl (ax 1, 400, .inl tb)), (k2, .inl (ax 0, 401, .inl (fun j => nI (tk j))))]) hP hD [0, 1, 2] [] hCs (by decide) (by decide) hk1 hFc hP1 hD1 rfl
      clear hP1 hD1
      clear hPc hDc hFc hCs hz hz1 hk1 ht hvm
      clear hP hD hS
      have hS := hS1
      obtain ⟨hP, hD⟩ := hjn
      clear hS1
      rw [← hQe]
      refine wk_know (fun hk8 hk9 => ?_)
      obtain ⟨hP9, hD9⟩ := xw_sub2 (wc := (fun (u : Nat → Nat) (xam : Int32) => [(k0, .inr (9, [.ref k1, .ref k2, .int (nI ts), .int (nI (u 0)), .int s_at, .int s_fault, .int s_next, .int xam])), (k1, .inl (ax 1, 400, .inl tb)), (k2, .inl (ax 0, 401, .inl (fun j => nI (tk j))))]) (ixn [(u_39 0), (u_39 1)]) x_47) hP hD [0, 1, 2] (by decide) rfl
      have hex0 : sco ((u_39 1)) x_47 := hx_48
      have hex1 : scV (gtb tb) ts th x_47 := hx_49
      have hg8 : H_40.size ≤ s.heap.size + (0) := by omega
      have hg9 : tsl H_40 ≤ tsl s.heap + (0) := by omega
      have hsp0 : th ≤ (u_39 0) := (by first | assumption | omega)
      have hsp1 : (u_39 0) ≤ ts := (by first | assumption | omega)
      have hsp2 : (u_39 1) < 128 := (by first | assumption | omega)
      have hsp3 : scE (gtb tb) ts th ((u_39 0)) := hs_45
      have hsp4 : scK (gtb tb) ts th ((u_39 1)) := hs_46
      exact W.iret (v := nI (u_39 1)) hx hb hr (fun t ht hW => ⟨⟨nI (u_39 1), ixn [(u_39 0), (u_39 1)], rfl, ⟨rfl, ⟨hsp0, hsp1, hsp2, hsp3, hsp4⟩⟩, ⟨x_47, by rw [ht]; exact hg8, by rw [ht]; exact hg9, hex0, hex1, by rw [ht]; exact hP9, hD9⟩⟩, hS.F ht⟩) hS.2.2 d_Tokens_scan_32
