theorem wd_43 : ((Jvm.Cond.fieldLink "TripleDesk$Tokens" (26 : Nat) "TripleDesk$Tokens" "ahead" "I")) ∈ lw_gd := lw_gd_in (i := 43) (by decide +kernel) rfl
theorem wd_513 : ((Jvm.Cond.methodLink "TripleDesk$Tokens" (55 : Nat) ({ cls := "TripleDesk$Tokens", name := "isDigit", desc := "(I)Z" } : Jvm.MethodName))) ∈ lw_gd := lw_gd_in (i := 513) (by decide +kernel) rfl
theorem wd_514 : ((Jvm.Cond.static ({ cls := "TripleDesk$Tokens", name := "isDigit", desc := "(I)Z" } : Jvm.MethodName))) ∈ lw_gd := lw_gd_in (i := 514) (by decide +kernel) rfl
theorem wd_515 : ((Jvm.Cond.code ({ cls := "TripleDesk$Tokens", name := "isDigit", desc := "(I)Z" } : Jvm.MethodName) prog_11_method_16_code (1 : Nat) (Option.some Jvm.ClassFile.FieldType.boolean))) ∈ lw_gd := lw_gd_in (i := 515) (by decide +kernel) rfl
/-- what is scanned: a sort and its amount -/
def sco (s : Nat) (am : Int32) : Prop := s < 128 ∧ (s = 2 → i2n am < 6) ∧ (s = 3 → i2n am < 10) ∧ (s = 5 → i2n am < 6)
theorem sco_o {s : Nat} {am : Int32} (h : s < 128) (h2 : s ≠ 2) (h3 : s ≠ 3) (h5 : s ≠ 5) : sco s am := ⟨h, fun q => absurd q h2, fun q => absurd q h3, fun q => absurd q h5⟩
theorem sco_c {q : Nat} (h : q < 6) : sco 5 (nI q) := ⟨by decide, fun q => by omega, fun q => by omega, fun _ => by rw [i2n_nI (by omega)]; exact h⟩
abbrev b_Tokens_digits : ByteArray := prog_11_method_12_code
def y_Tokens_digits : MethodName := ⟨R_Tokens, "digits", "()I"⟩
theorem d_Tokens_digits_0 : decode b_Tokens_digits 0 = .ok (.aload_n 0, 1) := by decide +kernel
theorem d_Tokens_digits_1 : decode b_Tokens_digits 1 = .ok (.getfield 26, 3) := by decide +kernel
theorem d_Tokens_digits_4 : decode b_Tokens_digits 4 = .ok (.istore_n 1, 1) := by decide +kernel
theorem d_Tokens_digits_5 : decode b_Tokens_digits 5 = .ok (.aload_n 0, 1) := by decide +kernel
theorem d_Tokens_digits_6 : decode b_Tokens_digits 6 = .ok (.getfield 26, 3) := by decide +kernel
theorem d_Tokens_digits_9 : decode b_Tokens_digits 9 = .ok (.aload_n 0, 1) := by decide +kernel
theorem d_Tokens_digits_10 : decode b_Tokens_digits 10 = .ok (.getfield 23, 3) := by decide +kernel
theorem d_Tokens_digits_13 : decode b_Tokens_digits 13 = .ok (.if_icmp .ge 55, 3) := by decide +kernel
theorem d_Tokens_digits_16 : decode b_Tokens_digits 16 = .ok (.aload_n 0, 1) := by decide +kernel
theorem d_Tokens_digits_17 : decode b_Tokens_digits 17 = .ok (.getfield 9, 3) := by decide +kernel
theorem d_Tokens_digits_20 : decode b_Tokens_digits 20 = .ok (.aload_n 0, 1) := by decide +kernel
theorem d_Tokens_digits_21 : decode b_Tokens_digits 21 = .ok (.getfield 26, 3) := by decide +kernel
theorem d_Tokens_digits_24 : decode b_Tokens_digits 24 = .ok (.baload, 1) := by decide +kernel
theorem d_Tokens_digits_25 : decode b_Tokens_digits 25 = .ok (.invokestatic 55, 3) := by decide +kernel
theorem d_Tokens_digits_28 : decode b_Tokens_digits 28 = .ok (.ifCond .eq 40, 3) := by decide +kernel
theorem d_Tokens_digits_31 : decode b_Tokens_digits 31 = .ok (.aload_n 0, 1) := by decide +kernel
theorem d_Tokens_digits_32 : decode b_Tokens_digits 32 = .ok (.bipush 10, 2) := by decide +kernel
theorem d_Tokens_digits_34 : decode b_Tokens_digits 34 = .ok (.aload_n 0, 1) := by decide +kernel
theorem d_Tokens_digits_35 : decode b_Tokens_digits 35 = .ok (.getfield 29, 3) := by decide +kernel
theorem d_Tokens_digits_38 : decode b_Tokens_digits 38 = .ok (.imul, 1) := by decide +kernel
theorem d_Tokens_digits_39 : decode b_Tokens_digits 39 = .ok (.aload_n 0, 1) := by decide +kernel
theorem d_Tokens_digits_40 : decode b_Tokens_digits 40 = .ok (.getfield 9, 3) := by decide +kernel
theorem d_Tokens_digits_43 : decode b_Tokens_digits 43 = .ok (.aload_n 0, 1) := by decide +kernel
theorem d_Tokens_digits_44 : decode b_Tokens_digits 44 = .ok (.getfield 26, 3) := by decide +kernel
theorem d_Tokens_digits_47 : decode b_Tokens_digits 47 = .ok (.baload, 1) := by decide +kernel
theorem d_Tokens_digits_48 : decode b_Tokens_digits 48 = .ok (.iadd, 1) := by decide +kernel
theorem d_Tokens_digits_49 : decode b_Tokens_digits 49 = .ok (.bipush 48, 2) := by decide +kernel
theorem d_Tokens_digits_51 : decode b_Tokens_digits 51 = .ok (.isub, 1) := by decide +kernel
theorem d_Tokens_digits_52 : decode b_Tokens_digits 52 = .ok (.putfield 29, 3) := by decide +kernel
theorem d_Tokens_digits_55 : decode b_Tokens_digits 55 = .ok (.aload_n 0, 1) := by decide +kernel
theorem d_Tokens_digits_56 : decode b_Tokens_digits 56 = .ok (.dup, 1) := by decide +kernel
theorem d_Tokens_digits_57 : decode b_Tokens_digits 57 = .ok (.getfield 26, 3) := by decide +kernel
theorem d_Tokens_digits_60 : decode b_Tokens_digits 60 = .ok (.iconst 1, 1) := by decide +kernel
theorem d_Tokens_digits_61 : decode b_Tokens_digits 61 = .ok (.iadd, 1) := by decide +kernel
theorem d_Tokens_digits_62 : decode b_Tokens_digits 62 = .ok (.putfield 26, 3) := by decide +kernel
theorem d_Tokens_digits_65 : decode b_Tokens_digits 65 = .ok (.goto (-60), 3) := by decide +kernel
theorem d_Tokens_digits_68 : decode b_Tokens_digits 68 = .ok (.aload_n 0, 1) := by decide +kernel
theorem d_Tokens_digits_69 : decode b_Tokens_digits 69 = .ok (.getfield 26, 3) := by decide +kernel
theorem d_Tokens_digits_72 : decode b_Tokens_digits 72 = .ok (.iload_n 1, 1) := by decide +kernel
theorem d_Tokens_digits_73 : decode b_Tokens_digits 73 = .ok (.isub, 1) := by decide +kernel
theorem d_Tokens_digits_74 : decode b_Tokens_digits 74 = .ok (.iconst 3, 1) := by decide +kernel
theorem d_Tokens_digits_75 : decode b_Tokens_digits 75 = .ok (.if_icmp .le 7, 3) := by decide +kernel
theorem d_Tokens_digits_78 : decode b_Tokens_digits 78 = .ok (.iconst 1, 1) := by decide +kernel
theorem d_Tokens_digits_79 : decode b_Tokens_digits 79 = .ok (.goto 4, 3) := by decide +kernel
theorem d_Tokens_digits_82 : decode b_Tokens_digits 82 = .ok (.iconst 4, 1) := by decide +kernel
theorem d_Tokens_digits_83 : decode b_Tokens_digits 83 = .ok (.ireturn, 1) := by decide +kernel
set_option maxHeartbeats 40000000 in
set_option maxRecDepth 100000 in
theorem c_T_digits (l : Launch) (D : va_G) (ax : Nat → ClassId) (k0 k1 k2 ts th : Nat) (s_at s_fault s_next s_amount : Int32) (tb : Nat → Int32) (tk : Nat → Nat) (sz : Nat) (hts : ts ≤ 400) (hth : th ≤ ts) (hbt : bts tb 400) (ham0 : s_amount = 0) : Met l y_Tokens_digits (xws (.code y_Tokens_digits b_Tokens_digits 2 (some .int))) ({ frames := 20, cells := 0, slots := 0, locals := 800 }) (va_Pc [.ref k0] (xo D ax [(k0, .inr (9, [.ref k1, .ref k2, .int (nI ts), .int (nI th), .int s_at, .int s_fault, .int s_next, .int s_amount])), (k1, .inl (ax 1, 400, .inl tb)), (k2, .inl (ax 0, 401, .inl (fun j => nI (tk j))))] sz)) ((va_Qi (fun (r : Int32) (u : Nat → Nat) => r = nI (u 1) ∧ (th ≤ u 0 ∧ u 0 ≤ ts ∧ u 1 < 128 ∧ u 0 = dgE (gtb tb) ts (ts - th) th ∧ u 1 = (if u 0 - th ≤ 3 then 4 else 1))) (fun (u : Nat → Nat) (t9 : State) => ∃ xam : Int32, (sco (u 1) xam) ∧ (dgI (gtb tb) th (u 0) xam) ∧ va_P D classes [(k0, .inr (9, [.ref k1, .ref k2, .int (nI ts), .int (nI (u 0)), .int s_at, .int s_fault, .int s_next, .int xam])), (k1, .inl (ax 1, 400, .inl tb)), (k2, .inl (ax 0, 401, .inl (fun j => nI (tk j))))] t9.heap ∧ va_D (va_A [(k0, .inr (9, [.ref k1, .ref k2, .int (nI ts), .int (nI th), .int s_at, .int s_fault, .int s_next, .int s_amount])), (k1, .inl (ax 1, 400, .inl tb)), (k2, .inl (ax 0, 401, .inl (fun j => nI (tk j))))] sz) [(k0, .inr (9, [.ref k1, .ref k2, .int (nI ts), .int (nI (u 0)), .int s_at, .int s_fault, .int s_next, .int xam])), (k1, .inl (ax 1, 400, .inl tb)), (k2, .inl (ax 0, 401, .inl (fun j => nI (tk j))))]) (va_A [(k0, .inr (9, [.ref k1, .ref k2, .int (nI ts), .int (nI th), .int s_at, .int s_fault, .int s_next, .int s_amount])), (k1, .inl (ax 1, 400, .inl tb)), (k2, .inl (ax 0, 401, .inl (fun j => nI (tk j))))] sz))) 0 0 (va_A [(k0, .inr (9, [.ref k1, .ref k2, .int (nI ts), .int (nI th), .int s_at, .int s_fault, .int s_next, .int s_amount])), (k1, .inl (ax 1, 400, .inl tb)), (k2, .inl (ax 0, 401, .inl (fun j => nI (tk j))))] sz) := by
  refine Met.ofW (cc := b_Tokens_digits) (maxL := 2) (ret := (some .int)) (by decide) rfl ?_
  intro p e s m args below meth c s₁ B hml hv
  obtain ⟨rfl, hsz, hP, hK, hD0⟩ := hv
  have hx := B.exec
  have hb := B.bytes
  have hr := B.returns
  have hts := xw_hts B.pre
  have hown : s.vm.findClass R_Tokens = some m.cls := findClass_of_methodNamed B.named
  have hlocks := B.notSynchronized
  subst hsz
  have hD := hD0.self (sz := s.heap.size)
  have hN := xz_entry hP
  generalize hAe : va_A [(k0, .inr (9, [.ref k1, .ref k2, .int (nI ts), .int (nI th), .int s_at, .int s_fault, .int s_next, .int s_amount])), (k1, .inl (ax 1, 400, .inl tb)), (k2, .inl (ax 0, 401, .inl (fun j => nI (tk j))))] s.heap.size = A at hD hN ⊢
  have hA : ∀ q : Nat, s.heap.size ≤ q → A q := fun q h => by rw [← hAe]; exact Or.inr h
  have hS : va_S A s.heap s.heap [] := va_S.rf
  have hl0 := lv_entry ([.ref k0]) (n := 2) (Nat.le_of_ble_eq_true rfl)
  rw [lg_entry_eq]
  generalize (lg_sl ([.ref k0]) ++ List.replicate (2 - (lg_sl ([.ref k0])).length) Slot.unset).toArray = ls at hl0 ⊢
  have hl1 : lv_has ls 2 [(0, .ref k0)] := hl0
  refine xw_gen (fun Z9 hQe => ?_)
  refine lv_aload_n hx hb d_Tokens_digits_0 rfl (lv_at hl1 0 rfl) ?_
  refine va_get (D := D) (ci := 9) (v := .int (nI th)) (C := R_Tokens) (T := F_Tokens) (N := 8) hx hb hts i_Tokens hown hK.1 hP 0 rfl rfl 3 (by decide) (hts _ wd_43) (fun _ h9 => h9) rfl d_Tokens_digits_1 ?_
  refine lv_istore_n (lv' := [(1, .int (nI th)), (0, .ref k0)]) hx hb d_Tokens_digits_4 rfl hl1 (by decide) rfl (fun ls hl2 => ?_)
  clear hl1; have hl1 := hl2; clear hl2
  suffices key_1 : ∀ (k : Nat) (th1 : Nat) (am1 : Int32), ts - th1 < k → th ≤ th1 → th1 ≤ ts → dgE (gtb tb) ts (ts - th1) th1 = dgE (gtb tb) ts (ts - th) th → dgI (gtb tb) th th1 am1 → ∀ (H : Heap) (locs : List Loc) (ls : Array Slot), va_P D classes [(k0, .inr (9, [.ref k1, .ref k2, .int (nI ts), .int (nI th1), .int s_at, .int s_fault, .int s_next, .int am1])), (k1, .inl (ax 1, 400, .inl tb)), (k2, .inl (ax 0, 401, .inl (fun j => nI (tk j))))] H → va_D A [(k0, .inr (9, [.ref k1, .ref k2, .int (nI ts), .int (nI th1), .int s_at, .int s_fault, .int s_next, .int am1])), (k1, .inl (ax 1, 400, .inl tb)), (k2, .inl (ax 0, 401, .inl (fun j => nI (tk j))))] → va_S A s.heap H locs → lv_has ls 2 [(0, .ref k0), (1, .int (nI th))] → W p l e (headSpec (xws (.code y_Tokens_digits b_Tokens_digits 2 (some .int))) ({ frames := 20, cells := 0, slots := 0, locals := 800 })).room s m ([.ref k0] : List Value).toArray below meth c H locs 0 0 Z9 (F0 m 5 ls []) from key_1 (ts - th + 1) th s_amount (Nat.lt_succ_self _) (by first | assumption | omega) (by first | assumption | omega) rfl (dgI_0 ham0) _ _ _ (hP) (hD) hS (lv_sub hl1 [1, 0] rfl)
  intro k_2
  induction k_2 with
  | zero =>
    intro th1 am1 hk_4
    exact absurd hk_4 (Nat.not_lt_zero _)
  | succ k_2 ih_3 =>
    clear hP hD hS hl1
    intro th1 am1 hk_4 h1a h1b h1e h1v H locs ls hP hD hS hl1
    refine lv_aload_n hx hb d_Tokens_digits_5 rfl (lv_at hl1 0 rfl) ?_
    refine va_get (D := D) (ci := 9) (v := .int (nI th1)) (C := R_Tokens) (T := F_Tokens) (N := 8) hx hb hts i_Tokens hown hK.1 hP 0 rfl rfl 3 (by decide) (hts _ wd_43) (fun _ h9 => h9) rfl d_Tokens_digits_6 ?_
    refine lv_aload_n hx hb d_Tokens_digits_9 rfl (lv_at hl1 0 rfl) ?_
    refine va_get (D := D) (ci := 9) (v := .int (nI ts)) (C := R_Tokens) (T := F_Tokens) (N := 8) hx hb hts i_Tokens hown hK.1 hP 0 rfl rfl 2 (by decide) (hts _ wd_42) (fun _ h9 => h9) rfl d_Tokens_digits_10 ?_
    refine lv_icmp_ge (tgt := 68) hx hb d_Tokens_digits_13 (by decide) (fun c_5 => ?_) (fun c_5 => ?_)
    · replace c_5 : ts ≤ th1 := (nI_leI (a := ts) (b := th1) (by first | exact Nat.lt_of_lt_of_le (by assumption) (by decide) | exact Nat.lt_of_le_of_lt (by assumption) (by decide) | omega) (by first | exact Nat.lt_of_lt_of_le (by assumption) (by decide) | exact Nat.lt_of_le_of_lt (by assumption) (by decide) | omega)).mp c_5
      refine lv_aload_n hx hb d_Tokens_digits_68 rfl (lv_at hl1 0 rfl) ?_
      refine va_get (D := D) (ci := 9) (v := .int (nI th1)) (C := R_Tokens) (T := F_Tokens) (N := 8) hx hb hts i_Tokens hown hK.1 hP 0 rfl rfl 3 (by decide) (hts _ wd_43) (fun _ h9 => h9) rfl d_Tokens_digits_69 ?_
      refine lv_iload_n hx hb d_Tokens_digits_72 rfl (lv_at hl1 1 rfl) ?_
      refine lv_isub hx hb d_Tokens_digits_73 ?_
      refine lv_topi (fun z_6 ez_6 => ?_)
      have ez_6 : z_6 = nI (th1 - th) := ez_6.trans (pk_sub (a := th1) (b := th) (by first | assumption | omega))
      subst ez_6
      refine lv_iconst (v := 3) hx hb d_Tokens_digits_74 (by decide) ?_
      refine lv_icmp_le (tgt := 82) hx hb d_Tokens_digits_75 (by decide) (fun c_7 => ?_) (fun c_7 => ?_)
      · replace c_7 : th1 - th ≤ 3 := (nI_leI (a := th1 - th) (b := 3) (by first | exact Nat.lt_of_lt_of_le (by assumption) (by decide) | exact Nat.lt_of_le_of_lt (by assumption) (by decide) | omega) (by decide)).mp c_7
        refine lv_iconst (v := 4) hx hb d_Tokens_digits_82 (by decide) ?_
        rw [← hQe]
        obtain ⟨hP9, hD9⟩ := xw_sub2 (wc := (fun (u : Nat → Nat) (xam : Int32) => [(k0, .inr (9, [.ref k1, .ref k2, .int (nI ts), .int (nI (u 0)), .int s_at, .int s_fault, .int s_next, .int xam])), (k1, .inl (ax 1, 400, .inl tb)), (k2, .inl (ax 0, 401, .inl (fun j => nI (tk j))))]) (ixn [th1, 4]) am1) hP hD [0, 1, 2] (by decide) rfl
        have hex0 : sco (4) am1 := (sco_o (by first | assumption | omega) (by first | assumption | omega) (by first | assumption | omega) (by first | assumption | omega))
        have hex1 : dgI (gtb tb) th (th1) am1 := h1v
        have hsp0 : th ≤ th1 := (by first | assumption | omega)
        have hsp1 : th1 ≤ ts := (by first | assumption | omega)
        have hsp2 : 4 < 128 := (by first | assumption | omega)
        have hsp3 : th1 = dgE (gtb tb) ts (ts - th) th := ((by first | exact (dgE_stop (gb_end (by decide) (by first | assumption | omega)) _).symm | exact (dgE_stop (gb_no hbt (by first | assumption | omega) (by decide) (by decide) hnnd9) _).symm : th1 = dgE (gtb tb) ts (ts - th1) th1).trans h1e)
        have hsp4 : 4 = (if th1 - th ≤ 3 then 4 else 1) := (by first | rw [if_pos (by first | assumption | omega)] | rw [if_neg (by first | assumption | omega)])
        exact W.iret (v := 4) hx hb hr (fun t ht hW => ⟨⟨4, ixn [th1, 4], rfl, ⟨rfl, ⟨hsp0, hsp1, hsp2, hsp3, hsp4⟩⟩, ⟨am1, hex0, hex1, by rw [ht]; exact hP9, hD9⟩⟩, hS.F ht⟩) hS.2.2 d_Tokens_digits_83
      · replace c_7 : ¬ th1 - th ≤ 3 := fun hq9 => c_7 ((nI_leI (a := th1 - th) (b := 3) (by first | exact Nat.lt_of_lt_of_le (by assumption) (by decide) | exact Nat.lt_of_le_of_lt (by assumption) (by decide) | omega) (by decide)).mpr hq9)
        refine lv_iconst (v := 1) hx hb d_Tokens_digits_78 (by decide) ?_
        refine lv_goto (tgt := 83) hx hb d_Tokens_digits_79 (by decide) ?_
        rw [← hQe]
        obtain ⟨hP9, hD9⟩ := xw_sub2 (wc := (fun (u : Nat → Nat) (xam : Int32) => [(k0, .inr (9, [.ref k1, .ref k2, .int (nI ts), .int (nI (u 0)), .int s_at, .int s_fault, .int s_next, .int xam])), (k1, .inl (ax 1, 400, .inl tb)), (k2, .inl (ax 0, 401, .inl (fun j => nI (tk j))))]) (ixn [th1, 1]) am1) hP hD [0, 1, 2] (by decide) rfl
        have hex0 : sco (1) am1 := (sco_o (by first | assumption | omega) (by first | assumption | omega) (by first | assumption | omega) (by first | assumption | omega))
        have hex1 : dgI (gtb tb) th (th1) am1 := h1v
        have hsp0 : th ≤ th1 := (by first | assumption | omega)
        have hsp1 : th1 ≤ ts := (by first | assumption | omega)
        have hsp2 : 1 < 128 := (by first | assumption | omega)
        have hsp3 : th1 = dgE (gtb tb) ts (ts - th) th := ((by first | exact (dgE_stop (gb_end (by decide) (by first | assumption | omega)) _).symm | exact (dgE_stop (gb_no hbt (by first | assumption | omega) (by decide) (by decide) hnnd9) _).symm : th1 = dgE (gtb tb) ts (ts - th1) th1).trans h1e)
        have hsp4 : 1 = (if th1 - th ≤ 3 then 4 else 1) := (by first | rw [if_pos (by first | assumption | omega)] | rw [if_neg (by first | assumption | omega)])
        exact W.iret (v := 1) hx hb hr (fun t ht hW => ⟨⟨1, ixn [th1, 1], rfl, ⟨rfl, ⟨hsp0, hsp1, hsp2, hsp3, hsp4⟩⟩, ⟨am1, hex0, hex1, by rw [ht]; exact hP9, hD9⟩⟩, hS.F ht⟩) hS.2.2 d_Tokens_digits_83
    · replace c_5 : ¬ ts ≤ th1 := fun hq9 => c_5 ((nI_leI (a := ts) (b := th1) (by first | exact Nat.lt_of_lt_of_le (by assumption) (by decide) | exact Nat.lt_of_le_of_lt (by assumption) (by decide) | omega) (by first | exact Nat.lt_of_lt_of_le (by assumption) (by decide) | exact Nat.lt_of_le_of_lt (by assumption) (by decide) | omega)).mpr hq9)
      refine lv_aload_n hx hb d_Tokens_digits_16 rfl (lv_at hl1 0 rfl) ?_
      refine va_get (D := D) (ci := 9) (v := .ref k1) (C := R_Tokens) (T := F_Tokens) (N := 8) hx hb hts i_Tokens hown hK.1 hP 0 rfl rfl 0 (by decide) (hts _ wd_40) (fun _ h9 => h9) rfl d_Tokens_digits_17 ?_
      refine lv_aload_n hx hb d_Tokens_digits_20 rfl (lv_at hl1 0 rfl) ?_
      refine va_get (D := D) (ci := 9) (v := .int (nI th1)) (C := R_Tokens) (T := F_Tokens) (N := 8) hx hb hts i_Tokens hown hK.1 hP 0 rfl rfl 3 (by decide) (hts _ wd_43) (fun _ h9 => h9) rfl d_Tokens_digits_21 ?_
      refine va_bald hx hb hK.1 hP 1 1 rfl rfl (vp_in_nI (by first | assumption | omega) (by decide)) d_Tokens_digits_24 ?_
      refine W.eq (g2 := F0 m 25 ls [.int (tb th1)]) (by rw [nI_clamp (by first | exact Nat.lt_of_lt_of_le (by assumption) (by decide) | exact Nat.lt_of_le_of_lt (by assumption) (by decide) | omega)]) ?_
      rcases Classical.em (∃ j : Nat, 48 ≤ j ∧ j ≤ 57 ∧ tb th1 = nI j) with ⟨d9, hd9a, hd9b, ed9⟩ | hnod9
      · refine W.eq (g2 := F0 m 25 ls [.int (nI d9)]) (by rw [ed9]) ?_
        obtain ⟨hPc, hDc, hFc, hCs⟩ := xw_sub3 (wc := []) hP hD hS hA [] (by decide) rfl
        have hz := xz_of hN hS
        refine va_calli (va_runS (As := [.int (nI d9)]) (rest := []) ⟨hx, hb, hml, hown, hts⟩ (c_K_isDigit_yes l D ax d9 H.size hd9a hd9b) (xcS (n := 1) hts wd_515 wd_2 wd_513 wd_514 rfl rfl (by decide +kernel) ⟨Nat.le_of_ble_eq_true rfl, Nat.le_of_ble_eq_true rfl⟩) (xpS (As := [.int (nI d9)]) hPc hK hz hDc) rfl rfl hl1.1 rfl (lv_room (Nat.le_of_ble_eq_true rfl)) d_Tokens_digits_25 ⟨Nat.le_of_ble_eq_true rfl, Nat.le_of_ble_eq_true rfl⟩) hS (fun q _ h => hFc q h) hFc (fun r_10 u_8 t H_9 locs ht hvm hw hB hz1 hk1 hS1 => ?_)
        try dsimp only at hw
        subst hw
        obtain ⟨hP1, hD1⟩ := hB
        rw [ht] at hP1
        have hjn := xw_join3 (wl := [(k0, .inr (9, [.ref k1, .ref k2, .int (nI ts), .int (nI th1), .int s_at, .int s_fault, .int s_next, .int am1])), (k1, .inl (ax 1, 400, .inl tb)), (k2, .inl (ax 0, 401, .inl (fun j => nI (tk j))))]) hP hD [] [0, 1, 2] hCs (by decide) (by decide) hk1 hFc hP1 hD1 rfl
        clear hP1 hD1
        clear hPc hDc hFc hCs hz hz1 hk1 ht hvm
        clear hP hD hS
        have hS := hS1
        obtain ⟨hP, hD⟩ := hjn
        clear hS1
        refine lv_if_eq (tgt := 68) hx hb d_Tokens_digits_28 (by decide) (fun c_11 => ?_) (fun c_11 => ?_)
        · first | exact absurd c_11 (by decide) | exact absurd (by decide) c_11
        refine lv_aload_n hx hb d_Tokens_digits_31 rfl (lv_at hl1 0 rfl) ?_
        refine lv_bipush (v := 10) hx hb d_Tokens_digits_32 (by decide) ?_
        refine lv_aload_n hx hb d_Tokens_digits_34 rfl (lv_at hl1 0 rfl) ?_
        refine va_get (D := D) (ci := 9) (v := .int am1) (C := R_Tokens) (T := F_Tokens) (N := 8) hx hb hts i_Tokens hown hK.1 hP 0 rfl rfl 7 (by decide) (hts _ wd_48) (fun _ h9 => h9) rfl d_Tokens_digits_35 ?_
        refine lv_imul hx hb d_Tokens_digits_38 ?_
        refine lv_topi (fun z_12 ez_12 => ?_)
        refine lv_aload_n hx hb d_Tokens_digits_39 rfl (lv_at hl1 0 rfl) ?_
        refine va_get (D := D) (ci := 9) (v := .ref k1) (C := R_Tokens) (T := F_Tokens) (N := 8) hx hb hts i_Tokens hown hK.1 hP 0 rfl rfl 0 (by decide) (hts _ wd_40) (fun _ h9 => h9) rfl d_Tokens_digits_40 ?_
        refine lv_aload_n hx hb d_Tokens_digits_43 rfl (lv_at hl1 0 rfl) ?_
        refine va_get (D := D) (ci := 9) (v := .int (nI th1)) (C := R_Tokens) (T := F_Tokens) (N := 8) hx hb hts i_Tokens hown hK.1 hP 0 rfl rfl 3 (by decide) (hts _ wd_43) (fun _ h9 => h9) rfl d_Tokens_digits_44 ?_
        refine va_bald hx hb hK.1 hP 1 1 rfl rfl (vp_in_nI (by first | assumption | omega) (by decide)) d_Tokens_digits_47 ?_
        refine W.eq (g2 := F0 m 48 ls [.int (tb th1), .int z_12, .ref k0]) (by rw [nI_clamp (by first | exact Nat.lt_of_lt_of_le (by assumption) (by decide) | exact Nat.lt_of_le_of_lt (by assumption) (by decide) | omega)]) ?_
        refine lv_iadd hx hb d_Tokens_digits_48 ?_
        refine lv_topi (fun z_13 ez_13 => ?_)
        refine lv_bipush (v := 48) hx hb d_Tokens_digits_49 (by decide) ?_
        refine lv_isub hx hb d_Tokens_digits_51 ?_
        refine lv_topi (fun z_14 ez_14 => ?_)
        refine va_put (D := D) (ci := 9) (v := .int z_14) (ty := .int) (C := R_Tokens) (T := F_Tokens) (N := 8) hx hb hts i_Tokens t_Tokens t_Tokens_ok n_Tokens hown hK.1 hP hD hS 0 rfl rfl 7 (by decide) (hts _ wd_48) (fun _ h9 => h9) rfl (by decide +kernel) rfl rfl (Nat.le_of_ble_eq_true rfl) d_Tokens_digits_52 (fun H_15 locs hP1 hD1 hS1 => ?_)
        clear hP hD hS
        have hS := hS1
        have hW7 : (fun w9 : va_W => va_P D classes w9 H_15 ∧ va_D A w9) [(k0, .inr (9, [.ref k1, .ref k2, .int (nI ts), .int (nI th1), .int s_at, .int s_fault, .int s_next, .int z_14])), (k1, .inl (ax 1, 400, .inl tb)), (k2, .inl (ax 0, 401, .inl (fun j => nI (tk j))))] := ⟨hP1, hD1⟩
        obtain ⟨hP, hD⟩ := hW7
        clear hP1 hD1 hS1
        refine lv_aload_n hx hb d_Tokens_digits_55 rfl (lv_at hl1 0 rfl) ?_
        refine lv_dup hx hb d_Tokens_digits_56 rfl ?_
        refine va_get (D := D) (ci := 9) (v := .int (nI th1)) (C := R_Tokens) (T := F_Tokens) (N := 8) hx hb hts i_Tokens hown hK.1 hP 0 rfl rfl 3 (by decide) (hts _ wd_43) (fun _ h9 => h9) rfl d_Tokens_digits_57 ?_
        refine lv_iconst (v := 1) hx hb d_Tokens_digits_60 (by decide) ?_
        refine lv_iadd hx hb d_Tokens_digits_61 ?_
        refine lv_topi (fun z_16 ez_16 => ?_)
        have ez_16 : z_16 = nI (th1 + 1) := ez_16.trans (nI_add th1 1)
        subst ez_16
        refine va_put (D := D) (ci := 9) (v := .int (nI (th1 + 1))) (ty := .int) (C := R_Tokens) (T := F_Tokens) (N := 8) hx hb hts i_Tokens t_Tokens t_Tokens_ok n_Tokens hown hK.1 hP hD hS 0 rfl rfl 3 (by decide) (hts _ wd_43) (fun _ h9 => h9) rfl (by decide +kernel) rfl rfl (Nat.le_of_ble_eq_true rfl) d_Tokens_digits_62 (fun H_17 locs hP1 hD1 hS1 => ?_)
        clear hP hD hS
        have hS := hS1
        have hW7 : (fun w9 : va_W => va_P D classes w9 H_17 ∧ va_D A w9) [(k0, .inr (9, [.ref k1, .ref k2, .int (nI ts), .int (nI (th1 + 1)), .int s_at, .int s_fault, .int s_next, .int z_14])), (k1, .inl (ax 1, 400, .inl tb)), (k2, .inl (ax 0, 401, .inl (fun j => nI (tk j))))] := ⟨hP1, hD1⟩
        obtain ⟨hP, hD⟩ := hW7
        clear hP1 hD1 hS1
        refine lv_goto (tgt := 5) hx hb d_Tokens_digits_65 (by decide) ?_
        exact ih_3 (th1 + 1) z_14 (by first | assumption | omega) (by first | assumption | omega) (by first | assumption | omega) ((dgE_step (gb_in ed9 (by first | assumption | omega) (by first | assumption | omega) hd9a hd9b)).symm.trans h1e) (dgI_s h1v h1a (gb_nI ed9 (by first | assumption | omega)) hd9a hd9b ed9 ez_12 ez_13 ez_14) _ _ _ (hP.sub [0, 1, 2] rfl) (hD.sub [0, 1, 2] (by decide) rfl) hS (lv_sub hl1 [0, 1] rfl)
      · have hnnd9 : ∀ j : Nat, 48 ≤ j → j ≤ 57 → tb th1 ≠ nI j := fun j a b e => hnod9 ⟨j, a, b, e⟩
        obtain ⟨hPc, hDc, hFc, hCs⟩ := xw_sub3 (wc := []) hP hD hS hA [] (by decide) rfl
        have hz := xz_of hN hS
        refine va_calli (va_runS (As := [.int (tb th1)]) (rest := []) ⟨hx, hb, hml, hown, hts⟩ (c_K_isDigit_no l D ax (tb th1) H.size hnnd9) (xcS (n := 1) hts wd_515 wd_2 wd_513 wd_514 rfl rfl (by decide +kernel) ⟨Nat.le_of_ble_eq_true rfl, Nat.le_of_ble_eq_true rfl⟩) (xpS (As := [.int (tb th1)]) hPc hK hz hDc) rfl rfl hl1.1 rfl (lv_room (Nat.le_of_ble_eq_true rfl)) d_Tokens_digits_25 ⟨Nat.le_of_ble_eq_true rfl, Nat.le_of_ble_eq_true rfl⟩) hS (fun q _ h => hFc q h) hFc (fun r_20 u_18 t H_19 locs ht hvm hw hB hz1 hk1 hS1 => ?_)
        try dsimp only at hw
        subst hw
        obtain ⟨hP1, hD1⟩ := hB
        rw [ht] at hP1
        have hjn := xw_join3 (wl := [(k0, .inr (9, [.ref k1, .ref k2, .int (nI ts), .int (nI th1), .int s_at, .int s_fault, .int s_next, .int am1])), (k1, .inl (ax 1, 400, .inl tb)), (k2, .inl (ax 0, 401, .inl (fun j => nI (tk j))))]) hP hD [] [0, 1, 2] hCs (by decide) (by decide) hk1 hFc hP1 hD1 rfl
        clear hP1 hD1
        clear hPc hDc hFc hCs hz hz1 hk1 ht hvm
        clear hP hD hS
        have hS := hS1
        obtain ⟨hP, hD⟩ := hjn
        clear hS1
        refine lv_if_eq (tgt := 68) hx hb d_Tokens_digits_28 (by decide) (fun c_21 => ?_) (fun c_21 => ?_)
        rotate_left
        · first | exact absurd c_21 (by decide) | exact absurd (by decide) c_21
        refine lv_aload_n hx hb d_Tokens_digits_68 rfl (lv_at hl1 0 rfl) ?_
        refine va_get (D := D) (ci := 9) (v := .int (nI th1)) (C := R_Tokens) (T := F_Tokens) (N := 8) hx hb hts i_Tokens hown hK.1 hP 0 rfl rfl 3 (by decide) (hts _ wd_43) (fun _ h9 => h9) rfl d_Tokens_digits_69 ?_
        refine lv_iload_n hx hb d_Tokens_digits_72 rfl (lv_at hl1 1 rfl) ?_
        refine lv_isub hx hb d_Tokens_digits_73 ?_
        refine lv_topi (fun z_22 ez_22 => ?_)
        have ez_22 : z_22 = nI (th1 - th) := ez_22.trans (pk_sub (a := th1) (b := th) (by first | assumption | omega))
        subst ez_22
        refine lv_iconst (v := 3) hx hb d_Tokens_digits_74 (by decide) ?_
        refine lv_icmp_le (tgt := 82) hx hb d_Tokens_digits_75 (by decide) (fun c_23 => ?_) (fun c_23 => ?_)
        · replace c_23 : th1 - th ≤ 3 := (nI_leI (a := th1 - th) (b := 3) (by first | exact Nat.lt_of_lt_of_le (by assumption) (by decide) | exact Nat.lt_of_le_of_lt (by assumption) (by decide) | omega) (by decide)).mp c_23
          refine lv_iconst (v := 4) hx hb d_Tokens_digits_82 (by decide) ?_
          rw [← hQe]
          obtain ⟨hP9, hD9⟩ := xw_sub2 (wc := (fun (u : Nat → Nat) (xam : Int32) => [(k0, .inr (9, [.ref k1, .ref k2, .int (nI ts), .int (nI (u 0)), .int s_at, .int s_fault, .int s_next, .int xam])), (k1, .inl (ax 1, 400, .inl tb)), (k2, .inl (ax 0, 401, .inl (fun j => nI (tk j))))]) (ixn [th1, 4]) am1) hP hD [0, 1, 2] (by decide) rfl
          have hex0 : sco (4) am1 := (sco_o (by first | assumption | omega) (by first | assumption | omega) (by first | assumption | omega) (by first | assumption | omega))
          have hex1 : dgI (gtb tb) th (th1) am1 := h1v
          have hsp0 : th ≤ th1 := (by first | assumption | omega)
          have hsp1 : th1 ≤ ts := (by first | assumption | omega)
          have hsp2 : 4 < 128 := (by first | assumption | omega)
          have hsp3 : th1 = dgE (gtb tb) ts (ts - th) th := ((by first | exact (dgE_stop (gb_end (by decide) (by first | assumption | omega)) _).symm | exact (dgE_stop (gb_no hbt (by first | assumption | omega) (by decide) (by decide) hnnd9) _).symm : th1 = dgE (gtb tb) ts (ts - th1) th1).trans h1e)
          have hsp4 : 4 = (if th1 - th ≤ 3 then 4 else 1) := (by first | rw [if_pos (by first | assumption | omega)] | rw [if_neg (by first | assumption | omega)])
          exact W.iret (v := 4) hx hb hr (fun t ht hW => ⟨⟨4, ixn [th1, 4], rfl, ⟨rfl, ⟨hsp0, hsp1, hsp2, hsp3, hsp4⟩⟩, ⟨am1, hex0, hex1, by rw [ht]; exact hP9, hD9⟩⟩, hS.F ht⟩) hS.2.2 d_Tokens_digits_83
        · replace c_23 : ¬ th1 - th ≤ 3 := fun hq9 => c_23 ((nI_leI (a := th1 - th) (b := 3) (by first | exact Nat.lt_of_lt_of_le (by assumption) (by decide) | exact Nat.lt_of_le_of_lt (by assumption) (by decide) | omega) (by decide)).mpr hq9)
          refine lv_iconst (v := 1) hx hb d_Tokens_digits_78 (by decide) ?_
          refine lv_goto (tgt := 83) hx hb d_Tokens_digits_79 (by decide) ?_
          rw [← hQe]
          obtain ⟨hP9, hD9⟩ := xw_sub2 (wc := (fun (u : Nat → Nat) (xam : Int32) => [(k0, .inr (9, [.ref k1, .ref k2, .int (nI ts), .int (nI (u 0)), .int s_at, .int s_fault, .int s_next, .int xam])), (k1, .inl (ax 1, 400, .inl tb)), (k2, .inl (ax 0, 401, .inl (fun j => nI (tk j))))]) (ixn [th1, 1]) am1) hP hD [0, 1, 2] (by decide) rfl
          have hex0 : sco (1) am1 := (sco_o (by first | assumption | omega) (by first | assumption | omega) (by first | assumption | omega) (by first | assumption | omega))
          have hex1 : dgI (gtb tb) th (th1) am1 := h1v
          have hsp0 : th ≤ th1 := (by first | assumption | omega)
          have hsp1 : th1 ≤ ts := (by first | assumption | omega)
          have hsp2 : 1 < 128 := (by first | assumption | omega)
          have hsp3 : th1 = dgE (gtb tb) ts (ts - th) th := ((by first | exact (dgE_stop (gb_end (by decide) (by first | assumption | omega)) _).symm | exact (dgE_stop (gb_no hbt (by first | assumption | omega) (by decide) (by decide) hnnd9) _).symm : th1 = dgE (gtb tb) ts (ts - th1) th1).trans h1e)
          have hsp4 : 1 = (if th1 - th ≤ 3 then 4 else 1) := (by first | rw [if_pos (by first | assumption | omega)] | rw [if_neg (by first | assumption | omega)])
          exact W.iret (v := 1) hx hb hr (fun t ht hW => ⟨⟨1, ixn [th1, 1], rfl, ⟨rfl, ⟨hsp0, hsp1, hsp2, hsp3, hsp4⟩⟩, ⟨am1, hex0, hex1, by rw [ht]; exact hP9, hD9⟩⟩, hS.F ht⟩) hS.2.2 d_Tokens_digits_83
abbrev b_Tokens_comparison : ByteArray := prog_11_method_14_code
def y_Tokens_comparison : MethodName := ⟨R_Tokens, "comparison", "(IZ)I"⟩
theorem d_Tokens_comparison_0 : decode b_Tokens_comparison 0 = .ok (.aload_n 0, 1) := by decide +kernel
theorem d_Tokens_comparison_1 : decode b_Tokens_comparison 1 = .ok (.dup, 1) := by decide +kernel
theorem d_Tokens_comparison_2 : decode b_Tokens_comparison 2 = .ok (.getfield 26, 3) := by decide +kernel
theorem d_Tokens_comparison_5 : decode b_Tokens_comparison 5 = .ok (.iload_n 2, 1) := by decide +kernel
theorem d_Tokens_comparison_6 : decode b_Tokens_comparison 6 = .ok (.ifCond .eq 7, 3) := by decide +kernel
theorem d_Tokens_comparison_9 : decode b_Tokens_comparison 9 = .ok (.iconst 1, 1) := by decide +kernel
theorem d_Tokens_comparison_10 : decode b_Tokens_comparison 10 = .ok (.goto 4, 3) := by decide +kernel
theorem d_Tokens_comparison_13 : decode b_Tokens_comparison 13 = .ok (.iconst 0, 1) := by decide +kernel
theorem d_Tokens_comparison_14 : decode b_Tokens_comparison 14 = .ok (.iadd, 1) := by decide +kernel
theorem d_Tokens_comparison_15 : decode b_Tokens_comparison 15 = .ok (.putfield 26, 3) := by decide +kernel
theorem d_Tokens_comparison_18 : decode b_Tokens_comparison 18 = .ok (.aload_n 0, 1) := by decide +kernel
theorem d_Tokens_comparison_19 : decode b_Tokens_comparison 19 = .ok (.iload_n 1, 1) := by decide +kernel
theorem d_Tokens_comparison_20 : decode b_Tokens_comparison 20 = .ok (.putfield 29, 3) := by decide +kernel
theorem d_Tokens_comparison_23 : decode b_Tokens_comparison 23 = .ok (.iconst 5, 1) := by decide +kernel
theorem d_Tokens_comparison_24 : decode b_Tokens_comparison 24 = .ok (.ireturn, 1) := by decide +kernel
set_option maxHeartbeats 40000000 in
set_option maxRecDepth 100000 in
theorem c_T_comparison (l : Launch) (D : va_G) (ax : Nat → ClassId) (k0 k1 k2 ts th : Nat) (s_at s_fault s_next s_amount : Int32) (tb : Nat → Int32) (tk : Nat → Nat) (q1 b1 : Nat) (sz : Nat) (hts : ts ≤ 400) (hb1 : b1 ≤ 1) (hth : th + b1 ≤ ts) : Met l y_Tokens_comparison (xws (.code y_Tokens_comparison b_Tokens_comparison 3 (some .int))) ({ frames := 10, cells := 0, slots := 0, locals := 400 }) (va_Pc [.ref k0, .int (nI q1), .int (nI b1)] (xo D ax [(k0, .inr (9, [.ref k1, .ref k2, .int (nI ts), .int (nI th), .int s_at, .int s_fault, .int s_next, .int s_amount])), (k1, .inl (ax 1, 400, .inl tb)), (k2, .inl (ax 0, 401, .inl (fun j => nI (tk j))))] sz)) ((va_Qi (fun (r : Int32) (u : Nat → Nat) => r = 5 ∧ (u 0 = th + b1)) (xb D (va_A [(k0, .inr (9, [.ref k1, .ref k2, .int (nI ts), .int (nI th), .int s_at, .int s_fault, .int s_next, .int s_amount])), (k1, .inl (ax 1, 400, .inl tb)), (k2, .inl (ax 0, 401, .inl (fun j => nI (tk j))))] sz) (fun u => [(k0, .inr (9, [.ref k1, .ref k2, .int (nI ts), .int (nI (u 0)), .int s_at, .int s_fault, .int s_next, .int (nI q1)])), (k1, .inl (ax 1, 400, .inl tb)), (k2, .inl (ax 0, 401, .inl (fun j => nI (tk j))))])) (va_A [(k0, .inr (9, [.ref k1, .ref k2, .int (nI ts), .int (nI th), .int s_at, .int s_fault, .int s_next, .int s_amount])), (k1, .inl (ax 1, 400, .inl tb)), (k2, .inl (ax 0, 401, .inl (fun j => nI (tk j))))] sz))) 0 0 (va_A [(k0, .inr (9, [.ref k1, .ref k2, .int (nI ts), .int (nI th), .int s_at, .int s_fault, .int s_next, .int s_amount])), (k1, .inl (ax 1, 400, .inl tb)), (k2, .inl (ax 0, 401, .inl (fun j => nI (tk j))))] sz) := by
  refine Met.ofW (cc := b_Tokens_comparison) (maxL := 3) (ret := (some .int)) (by decide) rfl ?_
  intro p e s m args below meth c s₁ B hml hv
  obtain ⟨rfl, hsz, hP, hK, hD0⟩ := hv
  have hx := B.exec
  have hb := B.bytes
  have hr := B.returns
  have hts := xw_hts B.pre
  have hown : s.vm.findClass R_Tokens = some m.cls := findClass_of_methodNamed B.named
  have hlocks := B.notSynchronized
  subst hsz
  have hD := hD0.self (sz := s.heap.size)
  have hN := xz_entry hP
  generalize hAe : va_A [(k0, .inr (9, [.ref k1, .ref k2, .int (nI ts), .int (nI th), .int s_at, .int s_fault, .int s_next, .int s_amount])), (k1, .inl (ax 1, 400, .inl tb)), (k2, .inl (ax 0, 401, .inl (fun j => nI (tk j))))] s.heap.size = A at hD hN ⊢
  have hA : ∀ q : Nat, s.heap.size ≤ q → A q := fun q h => by rw [← hAe]; exact Or.inr h
  have hS : va_S A s.heap s.heap [] := va_S.rf
  have hl0 := lv_entry ([.ref k0, .int (nI q1), .int (nI b1)]) (n := 3) (Nat.le_of_ble_eq_true rfl)
  rw [lg_entry_eq]
  generalize (lg_sl ([.ref k0, .int (nI q1), .int (nI b1)]) ++ List.replicate (3 - (lg_sl ([.ref k0, .int (nI q1), .int (nI b1)])).length) Slot.unset).toArray = ls at hl0 ⊢
  have hl1 : lv_has ls 3 [(0, .ref k0), (1, .int (nI q1)), (2, .int (nI b1))] := hl0
  refine xw_gen (fun Z9 hQe => ?_)
  refine lv_aload_n hx hb d_Tokens_comparison_0 rfl (lv_at hl1 0 rfl) ?_
  refine lv_dup hx hb d_Tokens_comparison_1 rfl ?_
  refine va_get (D := D) (ci := 9) (v := .int (nI th)) (C := R_Tokens) (T := F_Tokens) (N := 8) hx hb hts i_Tokens hown hK.1 hP 0 rfl rfl 3 (by decide) (hts _ wd_43) (fun _ h9 => h9) rfl d_Tokens_comparison_2 ?_
  refine lv_iload_n hx hb d_Tokens_comparison_5 rfl (lv_at hl1 2 rfl) ?_
  refine lv_if_eq (tgt := 13) hx hb d_Tokens_comparison_6 (by decide) (fun c_1 => ?_) (fun c_1 => ?_)
  · replace c_1 : b1 = 0 := (nI_eq (a := b1) (b := 0) (by first | exact Nat.lt_of_lt_of_le (by assumption) (by decide) | exact Nat.lt_of_le_of_lt (by assumption) (by decide) | omega) (by decide)).mp c_1
    refine lv_iconst (v := 0) hx hb d_Tokens_comparison_13 (by decide) ?_
    refine lv_iadd hx hb d_Tokens_comparison_14 ?_
    refine lv_topi (fun z_2 ez_2 => ?_)
    have ez_2 : z_2 = nI (th + 0) := ez_2.trans (nI_add th 0)
    subst ez_2
    refine va_put (D := D) (ci := 9) (v := .int (nI (th + 0))) (ty := .int) (C := R_Tokens) (T := F_Tokens) (N := 8) hx hb hts i_Tokens t_Tokens t_Tokens_ok n_Tokens hown hK.1 hP hD hS 0 rfl rfl 3 (by decide) (hts _ wd_43) (fun _ h9 => h9) rfl (by decide +kernel) rfl rfl (Nat.le_of_ble_eq_true rfl) d_Tokens_comparison_15 (fun H_3 locs hP1 hD1 hS1 => ?_)
    clear hP hD hS
    have hS := hS1
    have hW7 : (fun w9 : va_W => va_P D classes w9 H_3 ∧ va_D A w9) [(k0, .inr (9, [.ref k1, .ref k2, .int (nI ts), .int (nI (th + 0)), .int s_at, .int s_fault, .int s_next, .int s_amount])), (k1, .inl (ax 1, 400, .inl tb)), (k2, .inl (ax 0, 401, .inl (fun j => nI (tk j))))] := ⟨hP1, hD1⟩
    obtain ⟨hP, hD⟩ := hW7
    clear hP1 hD1 hS1
    refine lv_aload_n hx hb d_Tokens_comparison_18 rfl (lv_at hl1 0 rfl) ?_
    refine lv_iload_n hx hb d_Tokens_comparison_19 rfl (lv_at hl1 1 rfl) ?_
    refine va_put (D := D) (ci := 9) (v := .int (nI q1)) (ty := .int) (C := R_Tokens) (T := F_Tokens) (N := 8) hx hb hts i_Tokens t_Tokens t_Tokens_ok n_Tokens hown hK.1 hP hD hS 0 rfl rfl 7 (by decide) (hts _ wd_48) (fun _ h9 => h9) rfl (by decide +kernel) rfl rfl (Nat.le_of_ble_eq_true rfl) d_Tokens_comparison_20 (fun H_4 locs hP1 hD1 hS1 => ?_)
    clear hP hD hS
    have hS := hS1
    have hW7 : (fun w9 : va_W => va_P D classes w9 H_4 ∧ va_D A w9) [(k0, .inr (9, [.ref k1, .ref k2, .int (nI ts), .int (nI (th + 0)), .int s_at, .int s_fault, .int s_next, .int (nI q1)])), (k1, .inl (ax 1, 400, .inl tb)), (k2, .inl (ax 0, 401, .inl (fun j => nI (tk j))))] := ⟨hP1, hD1⟩
    obtain ⟨hP, hD⟩ := hW7
    clear hP1 hD1 hS1
    refine lv_iconst (v := 5) hx hb d_Tokens_comparison_23 (by decide) ?_
    rw [← hQe]
    obtain ⟨hP9, hD9⟩ := xw_sub2 (wc := (fun u : Nat → Nat => [(k0, .inr (9, [.ref k1, .ref k2, .int (nI ts), .int (nI (u 0)), .int s_at, .int s_fault, .int s_next, .int (nI q1)])), (k1, .inl (ax 1, 400, .inl tb)), (k2, .inl (ax 0, 401, .inl (fun j => nI (tk j))))]) (ixn [(th + 0)])) hP hD [0, 1, 2] (by decide) rfl
    have hsp0 : (th + 0) = th + b1 := (by first | assumption | omega)
    exact W.iret (v := 5) hx hb hr (fun t ht hW => ⟨⟨5, ixn [(th + 0)], rfl, ⟨rfl, hsp0⟩, ⟨by rw [ht]; exact hP9, hD9⟩⟩, hS.F ht⟩) hS.2.2 d_Tokens_comparison_24
  · replace c_1 : ¬ b1 = 0 := fun hq9 => c_1 ((nI_eq (a := b1) (b := 0) (by first | exact Nat.lt_of_lt_of_le (by assumption) (by decide) | exact Nat.lt_of_le_of_lt (by assumption) (by decide) | omega) (by decide)).mpr hq9)
    refine lv_iconst (v := 1) hx hb d_Tokens_comparison_9 (by decide) ?_
    refine lv_goto (tgt := 14) hx hb d_Tokens_comparison_10 (by decide) ?_
    refine lv_iadd hx hb d_Tokens_comparison_14 ?_
    refine lv_topi (fun z_5 ez_5 => ?_)
    have ez_5 : z_5 = nI (th + 1) := ez_5.trans (nI_add th 1)
    subst ez_5
    refine va_put (D := D) (ci := 9) (v := .int (nI (th + 1))) (ty := .int) (C := R_Tokens) (T := F_Tokens) (N := 8) hx hb hts i_Tokens t_Tokens t_Tokens_ok n_Tokens hown hK.1 hP hD hS 0 rfl rfl 3 (by decide) (hts _ wd_43) (fun _ h9 => h9) rfl (by decide +kernel) rfl rfl (Nat.le_of_ble_eq_true rfl) d_Tokens_comparison_15 (fun H_6 locs hP1 hD1 hS1 => ?_)
    clear hP hD hS
    have hS := hS1
    have hW7 : (fun w9 : va_W => va_P D classes w9 H_6 ∧ va_D A w9) [(k0, .inr (9, [.ref k1, .ref k2, .int (nI ts), .int (nI (th + 1)), .int s_at, .int s_fault, .int s_next, .int s_amount])), (k1, .inl (ax 1, 400, .inl tb)), (k2, .inl (ax 0, 401, .inl (fun j => nI (tk j))))] := ⟨hP1, hD1⟩
    obtain ⟨hP, hD⟩ := hW7
    clear hP1 hD1 hS1
    refine lv_aload_n hx hb d_Tokens_comparison_18 rfl (lv_at hl1 0 rfl) ?_
    refine lv_iload_n hx hb d_Tokens_comparison_19 rfl (lv_at hl1 1 rfl) ?_
    refine va_put (D := D) (ci := 9) (v := .int (nI q1)) (ty := .int) (C := R_Tokens) (T := F_Tokens) (N := 8) hx hb hts i_Tokens t_Tokens t_Tokens_ok n_Tokens hown hK.1 hP hD hS 0 rfl rfl 7 (by decide) (hts _ wd_48) (fun _ h9 => h9) rfl (by decide +kernel) rfl rfl (Nat.le_of_ble_eq_true rfl) d_Tokens_comparison_20 (fun H_7 locs hP1 hD1 hS1 => ?_)
    clear hP hD hS
    have hS := hS1
    have hW7 : (fun w9 : va_W => va_P D classes w9 H_7 ∧ va_D A w9) [(k0, .inr (9, [.ref k1, .ref k2, .int (nI ts), .int (nI (th + 1)), .int s_at, .int s_fault, .int s_next, .int (nI q1)])), (k1, .inl (ax 1, 400, .inl tb)), (k2, .inl (ax 0, 401, .inl (fun j => nI (tk j))))] := ⟨hP1, hD1⟩
    obtain ⟨hP, hD⟩ := hW7
    clear hP1 hD1 hS1
    refine lv_iconst (v := 5) hx hb d_Tokens_comparison_23 (by decide) ?_
    rw [← hQe]
    obtain ⟨hP9, hD9⟩ := xw_sub2 (wc := (fun u : Nat → Nat => [(k0, .inr (9, [.ref k1, .ref k2, .int (nI ts), .int (nI (u 0)), .int s_at, .int s_fault, .int s_next, .int (nI q1)])), (k1, .inl (ax 1, 400, .inl tb)), (k2, .inl (ax 0, 401, .inl (fun j => nI (tk j))))]) (ixn [(th + 1)])) hP hD [0, 1, 2] (by decide) rfl
    have hsp0 : (th + 1) = th + b1 := (by first | assumption | omega)
    exact W.iret (v := 5) hx hb hr (fun t ht hW => ⟨⟨5, ixn [(th + 1)], rfl, ⟨rfl, hsp0⟩, ⟨by rw [ht]; exact hP9, hD9⟩⟩, hS.F ht⟩) hS.2.2 d_Tokens_comparison_24
