theorem ps_12 : Cond.selects "TripleDesk$Reader" ⟨"TripleDesk$Reader", "term", "(Z)I"⟩ ⟨"TripleDesk$Reader", "term", "(Z)I"⟩ ∈ lw_gd := ps_in (q := (⟨"TripleDesk$Reader", "term", "(Z)I"⟩, 5)) (i := 12) (by decide +kernel)
theorem wd_5 : ((Jvm.Cond.initialized "TripleDesk$Nodes")) ∈ lw_gd := lw_gd_in (i := 5) (by decide +kernel) rfl
theorem wd_77 : ((Jvm.Cond.fieldLink "TripleDesk$Reader" (25 : Nat) "TripleDesk$Reader" "nodes" "LTripleDesk$Nodes;")) ∈ lw_gd := lw_gd_in (i := 77) (by decide +kernel) rfl
theorem wd_78 : ((Jvm.Cond.fieldLink "TripleDesk$Reader" (119 : Nat) "TripleDesk$Reader" "ghosts" "Z")) ∈ lw_gd := lw_gd_in (i := 78) (by decide +kernel) rfl
theorem wd_79 : ((Jvm.Cond.fieldLink "TripleDesk$Reader" (123 : Nat) "TripleDesk$Reader" "atoms" "I")) ∈ lw_gd := lw_gd_in (i := 79) (by decide +kernel) rfl
theorem wd_348 : ((Jvm.Cond.instanceMethod ({ cls := "TripleDesk$Nodes", name := "add", desc := "(III)I" } : Jvm.MethodName))) ∈ lw_gd := lw_gd_in (i := 348) (by decide +kernel) rfl
theorem wd_349 : ((Jvm.Cond.selects "TripleDesk$Nodes" ({ cls := "TripleDesk$Nodes", name := "add", desc := "(III)I" } : Jvm.MethodName) ({ cls := "TripleDesk$Nodes", name := "add", desc := "(III)I" } : Jvm.MethodName))) ∈ lw_gd := lw_gd_in (i := 349) (by decide +kernel) rfl
theorem wd_350 : ((Jvm.Cond.code ({ cls := "TripleDesk$Nodes", name := "add", desc := "(III)I" } : Jvm.MethodName) prog_6_method_4_code (4 : Nat) (Option.some Jvm.ClassFile.FieldType.int))) ∈ lw_gd := lw_gd_in (i := 350) (by decide +kernel) rfl
theorem wd_560 : ((Jvm.Cond.methodLink "TripleDesk$Reader" (105 : Nat) ({ cls := "TripleDesk$Reader", name := "term", desc := "(Z)I" } : Jvm.MethodName))) ∈ lw_gd := lw_gd_in (i := 560) (by decide +kernel) rfl
theorem wd_562 : ((Jvm.Cond.instanceMethod ({ cls := "TripleDesk$Reader", name := "term", desc := "(Z)I" } : Jvm.MethodName))) ∈ lw_gd := lw_gd_in (i := 562) (by decide +kernel) rfl
theorem wd_563 : ((Jvm.Cond.code ({ cls := "TripleDesk$Reader", name := "term", desc := "(Z)I" } : Jvm.MethodName) prog_9_method_14_code (5 : Nat) (Option.some Jvm.ClassFile.FieldType.int))) ∈ lw_gd := lw_gd_in (i := 563) (by decide +kernel) rfl
theorem wd_568 : ((Jvm.Cond.methodLink "TripleDesk$Reader" (95 : Nat) ({ cls := "TripleDesk$Tokens", name := "need", desc := "(I)V" } : Jvm.MethodName))) ∈ lw_gd := lw_gd_in (i := 568) (by decide +kernel) rfl
theorem wd_569 : ((Jvm.Cond.instanceMethod ({ cls := "TripleDesk$Tokens", name := "need", desc := "(I)V" } : Jvm.MethodName))) ∈ lw_gd := lw_gd_in (i := 569) (by decide +kernel) rfl
theorem wd_570 : ((Jvm.Cond.selects "TripleDesk$Tokens" ({ cls := "TripleDesk$Tokens", name := "need", desc := "(I)V" } : Jvm.MethodName) ({ cls := "TripleDesk$Tokens", name := "need", desc := "(I)V" } : Jvm.MethodName))) ∈ lw_gd := lw_gd_in (i := 570) (by decide +kernel) rfl
theorem wd_571 : ((Jvm.Cond.code ({ cls := "TripleDesk$Tokens", name := "need", desc := "(I)V" } : Jvm.MethodName) prog_11_method_5_code (2 : Nat) (Option.none : Option Jvm.ClassFile.FieldType))) ∈ lw_gd := lw_gd_in (i := 571) (by decide +kernel) rfl
theorem wd_573 : ((Jvm.Cond.methodLink "TripleDesk$Reader" (132 : Nat) ({ cls := "TripleDesk$Nodes", name := "add", desc := "(III)I" } : Jvm.MethodName))) ∈ lw_gd := lw_gd_in (i := 573) (by decide +kernel) rfl
theorem okf.bad {tf : Nat} {P : Prop} (h : tf < 2 ^ 31) : okf tf P := fun q => absurd q (by omega)
theorem okf.back {tf tf' : Nat} {P : Prop} (h : okf tf P) (hf : ftf tf ≤ ftf tf') : okf tf' P := fun q => by
  by_cases e : tf = 4294967295
  · exact h e
  · subst q
    unfold ftf at hf
    rw [if_neg e, if_pos rfl] at hf; omega
theorem okf.of {tf tf' : Nat} (h : ftf tf ≤ ftf tf') (q : tf' = 4294967295) : tf = 4294967295 := by
  by_cases e : tf = 4294967295
  · exact e
  · subst q
    unfold ftf at h
    rw [if_neg e, if_pos rfl] at h; omega
abbrev b_Reader_atom : ByteArray := prog_9_method_13_code
def y_Reader_atom : MethodName := ⟨R_Reader, "atom", "()I"⟩
theorem d_Reader_atom_0 : decode b_Reader_atom 0 = .ok (.aload_n 0, 1) := by decide +kernel
theorem d_Reader_atom_1 : decode b_Reader_atom 1 = .ok (.getfield 123, 3) := by decide +kernel
theorem d_Reader_atom_4 : decode b_Reader_atom 4 = .ok (.bipush 8, 2) := by decide +kernel
theorem d_Reader_atom_6 : decode b_Reader_atom 6 = .ok (.if_icmp .ne 12, 3) := by decide +kernel
theorem d_Reader_atom_9 : decode b_Reader_atom 9 = .ok (.aload_n 0, 1) := by decide +kernel
theorem d_Reader_atom_10 : decode b_Reader_atom 10 = .ok (.getfield 9, 3) := by decide +kernel
theorem d_Reader_atom_13 : decode b_Reader_atom 13 = .ok (.invokevirtual 67, 3) := by decide +kernel
theorem d_Reader_atom_16 : decode b_Reader_atom 16 = .ok (.iconst (-1), 1) := by decide +kernel
theorem d_Reader_atom_17 : decode b_Reader_atom 17 = .ok (.ireturn, 1) := by decide +kernel
theorem d_Reader_atom_18 : decode b_Reader_atom 18 = .ok (.aload_n 0, 1) := by decide +kernel
theorem d_Reader_atom_19 : decode b_Reader_atom 19 = .ok (.dup, 1) := by decide +kernel
theorem d_Reader_atom_20 : decode b_Reader_atom 20 = .ok (.getfield 123, 3) := by decide +kernel
theorem d_Reader_atom_23 : decode b_Reader_atom 23 = .ok (.iconst 1, 1) := by decide +kernel
theorem d_Reader_atom_24 : decode b_Reader_atom 24 = .ok (.iadd, 1) := by decide +kernel
theorem d_Reader_atom_25 : decode b_Reader_atom 25 = .ok (.putfield 123, 3) := by decide +kernel
theorem d_Reader_atom_28 : decode b_Reader_atom 28 = .ok (.aload_n 0, 1) := by decide +kernel
theorem d_Reader_atom_29 : decode b_Reader_atom 29 = .ok (.aload_n 0, 1) := by decide +kernel
theorem d_Reader_atom_30 : decode b_Reader_atom 30 = .ok (.getfield 119, 3) := by decide +kernel
theorem d_Reader_atom_33 : decode b_Reader_atom 33 = .ok (.invokevirtual 105, 3) := by decide +kernel
theorem d_Reader_atom_36 : decode b_Reader_atom 36 = .ok (.istore_n 1, 1) := by decide +kernel
theorem d_Reader_atom_37 : decode b_Reader_atom 37 = .ok (.aload_n 0, 1) := by decide +kernel
theorem d_Reader_atom_38 : decode b_Reader_atom 38 = .ok (.getfield 9, 3) := by decide +kernel
theorem d_Reader_atom_41 : decode b_Reader_atom 41 = .ok (.getfield 74, 3) := by decide +kernel
theorem d_Reader_atom_44 : decode b_Reader_atom 44 = .ok (.istore_n 2, 1) := by decide +kernel
theorem d_Reader_atom_45 : decode b_Reader_atom 45 = .ok (.aload_n 0, 1) := by decide +kernel
theorem d_Reader_atom_46 : decode b_Reader_atom 46 = .ok (.getfield 9, 3) := by decide +kernel
theorem d_Reader_atom_49 : decode b_Reader_atom 49 = .ok (.iconst 5, 1) := by decide +kernel
theorem d_Reader_atom_50 : decode b_Reader_atom 50 = .ok (.invokevirtual 95, 3) := by decide +kernel
theorem d_Reader_atom_53 : decode b_Reader_atom 53 = .ok (.aload_n 0, 1) := by decide +kernel
theorem d_Reader_atom_54 : decode b_Reader_atom 54 = .ok (.getfield 25, 3) := by decide +kernel
theorem d_Reader_atom_57 : decode b_Reader_atom 57 = .ok (.iload_n 2, 1) := by decide +kernel
theorem d_Reader_atom_58 : decode b_Reader_atom 58 = .ok (.iload_n 1, 1) := by decide +kernel
theorem d_Reader_atom_59 : decode b_Reader_atom 59 = .ok (.aload_n 0, 1) := by decide +kernel
theorem d_Reader_atom_60 : decode b_Reader_atom 60 = .ok (.aload_n 0, 1) := by decide +kernel
theorem d_Reader_atom_61 : decode b_Reader_atom 61 = .ok (.getfield 119, 3) := by decide +kernel
theorem d_Reader_atom_64 : decode b_Reader_atom 64 = .ok (.invokevirtual 105, 3) := by decide +kernel
theorem d_Reader_atom_67 : decode b_Reader_atom 67 = .ok (.invokevirtual 132, 3) := by decide +kernel
theorem d_Reader_atom_70 : decode b_Reader_atom 70 = .ok (.ireturn, 1) := by decide +kernel
set_option maxHeartbeats 40000000 in
set_option maxRecDepth 100000 in
theorem c_R_atom (l : Launch) (D : va_G) (ax : Nat → ClassId) (r0 k0 k1 k2 : Nat) (vl : Value) (tb : Nat → Int32) (tk : Nat → Nat) (ta tf nx am cn ts th : Nat) (gh at9 : Nat) (n0 n1 n2 n3 cp z9 : Nat) (fo fl fr : Nat → Int32) (MX : Nat) (l0 : List sgT) (sz tz : Nat) (hkz : tkz tk cn) (hrs : rst tk tf nx am ta cn) (hta : ta ≤ cn) (hnx : nx < 128) (ham : am < 1024) (hgh : gh ≤ 1) (ha9 : at9 ≤ 8) (hcp : 8 ≤ cp) (hz9 : z9 ≤ cp) (hmx : cp ≤ MX) (hMX : MX ≤ 60000) (hbd : 2 * (z9 + (cn - ta) + 1) ≤ MX) (hfo : bts fo cp) (hnd : okf tf (ndv fo fl fr z9)) (hL9 : okf tf (ndl fo fl fr l0 ∧ l0.length = z9)) : Met l y_Reader_atom (xws (.code y_Reader_atom b_Reader_atom 3 (some .int))) ({ frames := 40, cells := MX - cp, slots := 6 * (MX - cp), locals := 1600 }) (va_Pc [.ref r0] (xo3 D ax [(r0, .inr (7, [.ref k0, vl, .ref n0, .int (nI gh), .int (nI at9)])), (k0, .inr (9, [.ref k1, .ref k2, .int (nI ts), .int (nI th), .int (nI ta), .int (nI tf), .int (nI nx), .int (nI am)])), (k1, .inl (ax 1, 400, .inl tb)), (k2, .inl (ax 0, 401, .inl (fun j => nI (tk j)))), (n0, .inr (4, [.ref n1, .ref n2, .ref n3, .int (nI z9)])), (n1, .inl (ax 1, cp, .inl fo)), (n2, .inl (ax 0, cp, .inl fl)), (n3, .inl (ax 0, cp, .inl fr))] sz tz)) ((va_Qi (fun (r : Int32) (u : Nat → Nat) => r = nI (u 10) ∧ (rst tk (u 1) (u 2) (u 3) (u 0) cn ∧ u 0 ≤ cn ∧ u 2 < 128 ∧ u 3 < 1024 ∧ ta ≤ u 0 ∧ ftf tf ≤ ftf (u 1) ∧ z9 ≤ u 7 ∧ u 7 + ta ≤ z9 + u 0 + ftf (u 1) ∧ u 7 ≤ u 8 ∧ cp ≤ u 8 ∧ u 8 ≤ MX ∧ u 9 ≤ 8 ∧ okf (u 1) (u 10 + 1 = u 7) ∧ ftf (u 1) ≤ 1 ∧ smk (u 10) ∧ caS tk gh tf ta at9 (u 1) (u 0) (u 9))) (fun (u : Nat → Nat) (t9 : State) => ∃ xfo : Nat → Int32, ∃ xfl : Nat → Int32, ∃ xfr : Nat → Int32, (t9.heap.size ≤ sz + (u 8 - cp)) ∧ (tsl t9.heap ≤ tz + (6 * (u 8 - cp))) ∧ (okf (u 1) (ndv xfo xfl xfr (u 7))) ∧ (bts xfo (u 8)) ∧ (okf (u 1) (tsn xfo xfl xfr (u 10) ≤ u 7 - z9)) ∧ (okf (u 1) (∀ i, i < z9 → tsn xfo xfl xfr i = tsn fo fl fr i)) ∧ (okf (u 1) (ndl xfo xfl xfr (l0 ++ [atmV (ck tk) nxs (cv tk) gh ta]) ∧ u 7 = z9 + 1)) ∧ va_P D classes [(r0, .inr (7, [.ref k0, vl, .ref n0, .int (nI gh), .int (nI (u 9))])), (k0, .inr (9, [.ref k1, .ref k2, .int (nI ts), .int (nI th), .int (nI (u 0)), .int (nI (u 1)), .int (nI (u 2)), .int (nI (u 3))])), (k1, .inl (ax 1, 400, .inl tb)), (k2, .inl (ax 0, 401, .inl (fun j => nI (tk j)))), (n0, .inr (4, [.ref (u 4), .ref (u 5), .ref (u 6), .int (nI (u 7))])), (u 4, .inl (ax 1, u 8, .inl xfo)), (u 5, .inl (ax 0, u 8, .inl xfl)), (u 6, .inl (ax 0, u 8, .inl xfr))] t9.heap ∧ va_D (va_A [(r0, .inr (7, [.ref k0, vl, .ref n0, .int (nI gh), .int (nI at9)])), (k0, .inr (9, [.ref k1, .ref k2, .int (nI ts), .int (nI th), .int (nI ta), .int (nI tf), .int (nI nx), .int (nI am)])), (k1, .inl (ax 1, 400, .inl tb)), (k2, .inl (ax 0, 401, .inl (fun j => nI (tk j)))), (n0, .inr (4, [.ref n1, .ref n2, .ref n3, .int (nI z9)])), (n1, .inl (ax 1, cp, .inl fo)), (n2, .inl (ax 0, cp, .inl fl)), (n3, .inl (ax 0, cp, .inl fr))] sz) [(r0, .inr (7, [.ref k0, vl, .ref n0, .int (nI gh), .int (nI (u 9))])), (k0, .inr (9, [.ref k1, .ref k2, .int (nI ts), .int (nI th), .int (nI (u 0)), .int (nI (u 1)), .int (nI (u 2)), .int (nI (u 3))])), (k1, .inl (ax 1, 400, .inl tb)), (k2, .inl (ax 0, 401, .inl (fun j => nI (tk j)))), (n0, .inr (4, [.ref (u 4), .ref (u 5), .ref (u 6), .int (nI (u 7))])), (u 4, .inl (ax 1, u 8, .inl xfo)), (u 5, .inl (ax 0, u 8, .inl xfl)), (u 6, .inl (ax 0, u 8, .inl xfr))]) (va_A [(r0, .inr (7, [.ref k0, vl, .ref n0, .int (nI gh), .int (nI at9)])), (k0, .inr (9, [.ref k1, .ref k2, .int (nI ts), .int (nI th), .int (nI ta), .int (nI tf), .int (nI nx), .int (nI am)])), (k1, .inl (ax 1, 400, .inl tb)), (k2, .inl (ax 0, 401, .inl (fun j => nI (tk j)))), (n0, .inr (4, [.ref n1, .ref n2, .ref n3, .int (nI z9)])), (n1, .inl (ax 1, cp, .inl fo)), (n2, .inl (ax 0, cp, .inl fl)), (n3, .inl (ax 0, cp, .inl fr))] sz))) (MX - cp) (6 * (MX - cp)) (va_A [(r0, .inr (7, [.ref k0, vl, .ref n0, .int (nI gh), .int (nI at9)])), (k0, .inr (9, [.ref k1, .ref k2, .int (nI ts), .int (nI th), .int (nI ta), .int (nI tf), .int (nI nx), .int (nI am)])), (k1, .inl (ax 1, 400, .inl tb)), (k2, .inl (ax 0, 401, .inl (fun j => nI (tk j)))), (n0, .inr (4, [.ref n1, .ref n2, .ref n3, .int (nI z9)])), (n1, .inl (ax 1, cp, .inl fo)), (n2, .inl (ax 0, cp, .inl fl)), (n3, .inl (ax 0, cp, .inl fr))] sz) := by
  refine Met.ofW (cc := b_Reader_atom) (maxL := 3) (ret := (some .int)) (by decide) rfl ?_
  intro p e s m args below meth c s₁ B hml hv
  obtain ⟨rfl, ⟨hsz, hP, hK, hD0⟩, htz⟩ := hv
  have hx := B.exec
  have hb := B.bytes
  have hr := B.returns
  have hts := xw_hts B.pre
  have hown : s.vm.findClass R_Reader = some m.cls := findClass_of_methodNamed B.named
  have hlocks := B.notSynchronized
  subst hsz
  subst htz
  have hD := hD0.self (sz := s.heap.size)
  have hN := xz_entry hP
  generalize hAe : va_A [(r0, .inr (7, [.ref k0, vl, .ref n0, .int (nI gh), .int (nI at9)])), (k0, .inr (9, [.ref k1, .ref k2, .int (nI ts), .int (nI th), .int (nI ta), .int (nI tf), .int (nI nx), .int (nI am)])), (k1, .inl (ax 1, 400, .inl tb)), (k2, .inl (ax 0, 401, .inl (fun j => nI (tk j)))), (n0, .inr (4, [.ref n1, .ref n2, .ref n3, .int (nI z9)])), (n1, .inl (ax 1, cp, .inl fo)), (n2, .inl (ax 0, cp, .inl fl)), (n3, .inl (ax 0, cp, .inl fr))] s.heap.size = A at hD hN ⊢
  have hA : ∀ q : Nat, s.heap.size ≤ q → A q := fun q h => by rw [← hAe]; exact Or.inr h
  have hS : va_S A s.heap s.heap [] := va_S.rf
  have hl0 := lv_entry ([.ref r0]) (n := 3) (Nat.le_of_ble_eq_true rfl)
  rw [lg_entry_eq]
  generalize (lg_sl ([.ref r0]) ++ List.replicate (3 - (lg_sl ([.ref r0])).length) Slot.unset).toArray = ls at hl0 ⊢
  have hl1 : lv_has ls 3 [(0, .ref r0)] := hl0
  refine xw_gen (fun Z9 hQe => ?_)
  refine lv_aload_n hx hb d_Reader_atom_0 rfl (lv_at hl1 0 rfl) ?_
  refine va_get (D := D) (ci := 7) (v := .int (nI at9)) (C := R_Reader) (T := F_Reader) (N := 5) hx hb hts i_Reader hown hK.1 hP 0 rfl rfl 4 (by decide) (hts _ wd_79) (fun _ h9 => h9) rfl d_Reader_atom_1 ?_
  refine lv_bipush (v := 8) hx hb d_Reader_atom_4 (by decide) ?_
  refine lv_icmp_ne (tgt := 18) hx hb d_Reader_atom_6 (by decide) (fun c_1 => ?_) (fun c_1 => ?_)
  · replace c_1 : ¬ at9 = 8 := fun hq9 => c_1 ((nI_eq (a := at9) (b := 8) (by first | exact Nat.lt_of_lt_of_le (by assumption) (by decide) | exact Nat.lt_of_le_of_lt (by assumption) (by decide) | omega) (by decide)).mpr hq9)
    refine lv_aload_n hx hb d_Reader_atom_18 rfl (lv_at hl1 0 rfl) ?_
    refine lv_dup hx hb d_Reader_atom_19 rfl ?_
    refine va_get (D := D) (ci := 7) (v := .int (nI at9)) (C := R_Reader) (T := F_Reader) (N := 5) hx hb hts i_Reader hown hK.1 hP 0 rfl rfl 4 (by decide) (hts _ wd_79) (fun _ h9 => h9) rfl d_Reader_atom_20 ?_
    refine lv_iconst (v := 1) hx hb d_Reader_atom_23 (by decide) ?_
    refine lv_iadd hx hb d_Reader_atom_24 ?_
    refine lv_topi (fun z_2 ez_2 => ?_)
    have ez_2 : z_2 = nI (at9 + 1) := ez_2.trans (nI_add at9 1)
    subst ez_2
    refine va_put (D := D) (ci := 7) (v := .int (nI (at9 + 1))) (ty := .int) (C := R_Reader) (T := F_Reader) (N := 5) hx hb hts i_Reader t_Reader t_Reader_ok n_Reader hown hK.1 hP hD hS 0 rfl rfl 4 (by decide) (hts _ wd_79) (fun _ h9 => h9) rfl (by decide +kernel) rfl rfl (Nat.le_of_ble_eq_true rfl) d_Reader_atom_25 (fun H_3 locs hP1 hD1 hS1 => ?_)
    clear hP hD hS
    have hS := hS1
    have hW7 : (fun w9 : va_W => va_P D classes w9 H_3 ∧ va_D A w9) [(r0, .inr (7, [.ref k0, vl, .ref n0, .int (nI gh), .int (nI (at9 + 1))])), (k0, .inr (9, [.ref k1, .ref k2, .int (nI ts), .int (nI th), .int (nI ta), .int (nI tf), .int (nI nx), .int (nI am)])), (k1, .inl (ax 1, 400, .inl tb)), (k2, .inl (ax 0, 401, .inl (fun j => nI (tk j)))), (n0, .inr (4, [.ref n1, .ref n2, .ref n3, .int (nI z9)])), (n1, .inl (ax 1, cp, .inl fo)), (n2, .inl (ax 0, cp, .inl fl)), (n3, .inl (ax 0, cp, .inl fr))] := ⟨hP1, hD1⟩
    obtain ⟨hP, hD⟩ := hW7
    clear hP1 hD1 hS1
    refine lv_aload_n hx hb d_Reader_atom_28 rfl (lv_at hl1 0 rfl) ?_
    refine lv_aload_n hx hb d_Reader_atom_29 rfl (lv_at hl1 0 rfl) ?_
    refine va_get (D := D) (ci := 7) (v := .int (nI gh)) (C := R_Reader) (T := F_Reader) (N := 5) hx hb hts i_Reader hown hK.1 hP 0 rfl rfl 3 (by decide) (hts _ wd_78) (fun _ h9 => h9) rfl d_Reader_atom_30 ?_
    obtain ⟨hPc, hDc, hFc, hCs⟩ := xw_sub3 (wc := [(r0, .inr (7, [.ref k0, vl, .ref n0, .int (nI gh), .int (nI (at9 + 1))])), (k0, .inr (9, [.ref k1, .ref k2, .int (nI ts), .int (nI th), .int (nI ta), .int (nI tf), .int (nI nx), .int (nI am)])), (k1, .inl (ax 1, 400, .inl tb)), (k2, .inl (ax 0, 401, .inl (fun j => nI (tk j))))]) hP hD hS hA [0, 1, 2, 3] (by decide) rfl
    have hz := xz_of hN hS
    refine va_calli (va_runV (As := [.int (nI gh)]) (rest := []) ⟨hx, hb, hml, hown, hts⟩ (c_R_term l D ax r0 k0 k1 k2 vl tb tk ta tf nx am cn ts th gh (at9 + 1) n0 gh H_3.size hkz (by assumption) (by first | assumption | omega) (by first | assumption | omega) (by first | assumption | omega) (by first | assumption | omega) (by first | assumption | omega)) (xcV (n := 1) hts wd_563 wd_3 wd_560 wd_562 ps_12 rfl rfl (by decide +kernel) ⟨Nat.le_of_ble_eq_true rfl, Nat.le_of_ble_eq_true rfl⟩) (xpV (ci := 7) (q0 := 0) (As := [.int (nI gh)]) hPc hK hz hDc rfl rfl) rfl rfl hl1.1 rfl (lv_room (Nat.le_of_ble_eq_true rfl)) d_Reader_atom_33 ⟨(show (0) + (0) ≤ (MX - cp) by omega), (show (0) + (0) ≤ (6 * (MX - cp)) by omega)⟩) hS (fun q _ h => hFc q h) hFc (fun r_6 u_4 t H_5 locs ht hvm hw hB hz1 hk1 hS1 => ?_)
    try dsimp only at hw
    obtain ⟨hw, hs_7, hs_8, hs_9, hs_10, hs_11, hs_12, hs_13, hs_14, hs_15⟩ := hw
    subst hw
    obtain ⟨hP1, hD1⟩ := hB
    rw [ht] at hP1
    have hjn := xw_join3 (wl := [(n0, .inr (4, [.ref n1, .ref n2, .ref n3, .int (nI z9)])), (n1, .inl (ax 1, cp, .inl fo)), (n2, .inl (ax 0, cp, .inl fl)), (n3, .inl (ax 0, cp, .inl fr)), (r0, .inr (7, [.ref k0, vl, .ref n0, .int (nI gh), .int (nI (at9 + 1))])), (k0, .inr (9, [.ref k1, .ref k2, .int (nI ts), .int (nI th), .int (nI (u_4 0)), .int (nI (u_4 1)), .int (nI (u_4 2)), .int (nI (u_4 3))])), (k1, .inl (ax 1, 400, .inl tb)), (k2, .inl (ax 0, 401, .inl (fun j => nI (tk j))))]) hP hD [0, 1, 2, 3] [4, 5, 6, 7] hCs (by decide) (by decide) hk1 hFc hP1 hD1 rfl
    clear hP1 hD1
    clear hPc hDc hFc hCs hz hz1 hk1 ht hvm
    clear hP hD hS
    have hS := hS1
    obtain ⟨hP, hD⟩ := hjn
    clear hS1
    refine lv_istore_n (lv' := [(1, .int (nI (u_4 4))), (0, .ref r0)]) hx hb d_Reader_atom_36 rfl hl1 (by decide) rfl (fun ls hl2 => ?_)
    clear hl1; have hl1 := hl2; clear hl2
    refine lv_aload_n hx hb d_Reader_atom_37 rfl (lv_at hl1 1 rfl) ?_
    refine va_get (D := D) (ci := 7) (v := .ref k0) (C := R_Reader) (T := F_Reader) (N := 5) hx hb hts i_Reader hown hK.1 hP 4 rfl rfl 0 (by decide) (hts _ wd_75) (fun _ h9 => h9) rfl d_Reader_atom_38 ?_
    refine va_get (D := D) (ci := 9) (v := .int (nI (u_4 3))) (C := R_Tokens) (T := F_Tokens) (N := 8) hx hb hts i_Tokens hown hK.1 hP 5 rfl rfl 7 (by decide) (hts _ wd_49) (fun _ h9 => h9) rfl d_Reader_atom_41 ?_
    refine lv_istore_n (lv' := [(2, .int (nI (u_4 3))), (1, .int (nI (u_4 4))), (0, .ref r0)]) hx hb d_Reader_atom_44 rfl hl1 (by decide) rfl (fun ls hl2 => ?_)
    clear hl1; have hl1 := hl2; clear hl2
    refine lv_aload_n hx hb d_Reader_atom_45 rfl (lv_at hl1 2 rfl) ?_
    refine va_get (D := D) (ci := 7) (v := .ref k0) (C := R_Reader) (T := F_Reader) (N := 5) hx hb hts i_Reader hown hK.1 hP 4 rfl rfl 0 (by decide) (hts _ wd_75) (fun _ h9 => h9) rfl d_Reader_atom_46 ?_
    refine lv_iconst (v := 5) hx hb d_Reader_atom_49 (by decide) ?_
    obtain ⟨hPc, hDc, hFc, hCs⟩ := xw_sub3 (wc := [(k0, .inr (9, [.ref k1, .ref k2, .int (nI ts), .int (nI th), .int (nI (u_4 0)), .int (nI (u_4 1)), .int (nI (u_4 2)), .int (nI (u_4 3))])), (k1, .inl (ax 1, 400, .inl tb)), (k2, .inl (ax 0, 401, .inl (fun j => nI (tk j))))]) hP hD hS hA [5, 6, 7] (by decide) rfl
    have hz := xz_of hN hS
    refine va_callv (va_runV (As := [.int 5]) (rest := []) ⟨hx, hb, hml, hown, hts⟩ (c_K_need l D ax k0 k1 k2 tb tk (u_4 0) (u_4 1) (u_4 2) (u_4 3) cn ts th 5 H_5.size hkz (by assumption) (by first | assumption | omega) (by first | assumption | omega) (by first | assumption | omega) (by first | assumption | omega) (by first | assumption | omega)) (xcV (n := 1) hts wd_571 wd_2 wd_568 wd_569 wd_570 rfl rfl (by decide +kernel) ⟨Nat.le_of_ble_eq_true rfl, Nat.le_of_ble_eq_true rfl⟩) (xpV (ci := 9) (q0 := 0) (As := [.int 5]) hPc hK hz hDc rfl rfl) rfl rfl hl1.1 rfl (lv_room (Nat.le_of_ble_eq_true rfl)) d_Reader_atom_50 ⟨(show (0) + (0) ≤ (MX - cp) by omega), (show (0) + (0) ≤ (6 * (MX - cp)) by omega)⟩) hS (fun q _ h => hFc q h) hFc (fun u_16 t H_17 locs ht hvm hw hB hz1 hk1 hS1 => ?_)
    try dsimp only at hw
    obtain ⟨hs_19, hs_20, hs_21, hs_22, hs_23, hs_24, hs_25, hs_26⟩ := hw
    obtain ⟨hP1, hD1⟩ := hB
    rw [ht] at hP1
    have hjn := xw_join3 (wl := [(n0, .inr (4, [.ref n1, .ref n2, .ref n3, .int (nI z9)])), (n1, .inl (ax 1, cp, .inl fo)), (n2, .inl (ax 0, cp, .inl fl)), (n3, .inl (ax 0, cp, .inl fr)), (r0, .inr (7, [.ref k0, vl, .ref n0, .int (nI gh), .int (nI (at9 + 1))])), (k0, .inr (9, [.ref k1, .ref k2, .int (nI ts), .int (nI th), .int (nI (u_16 0)), .int (nI (u_16 1)), .int (nI (u_16 2)), .int (nI (u_16 3))])), (k1, .inl (ax 1, 400, .inl tb)), (k2, .inl (ax 0, 401, .inl (fun j => nI (tk j))))]) hP hD [5, 6, 7] [0, 1, 2, 3, 4] hCs (by decide) (by decide) hk1 hFc hP1 hD1 rfl
    clear hP1 hD1
    clear hPc hDc hFc hCs hz hz1 hk1 ht hvm
    clear hP hD hS
    have hS := hS1
    obtain ⟨hP, hD⟩ := hjn
    clear hS1
    have hfl := ftf_le (u_16 1)
    refine lv_aload_n hx hb d_Reader_atom_53 rfl (lv_at hl1 2 rfl) ?_
    refine va_get (D := D) (ci := 7) (v := .ref n0) (C := R_Reader) (T := F_Reader) (N := 5) hx hb hts i_Reader hown hK.1 hP 4 rfl rfl 2 (by decide) (hts _ wd_77) (fun _ h9 => h9) rfl d_Reader_atom_54 ?_
    refine lv_iload_n hx hb d_Reader_atom_57 rfl (lv_at hl1 0 rfl) ?_
    refine lv_iload_n hx hb d_Reader_atom_58 rfl (lv_at hl1 1 rfl) ?_
    refine lv_aload_n hx hb d_Reader_atom_59 rfl (lv_at hl1 2 rfl) ?_
    refine lv_aload_n hx hb d_Reader_atom_60 rfl (lv_at hl1 2 rfl) ?_
    refine va_get (D := D) (ci := 7) (v := .int (nI gh)) (C := R_Reader) (T := F_Reader) (N := 5) hx hb hts i_Reader hown hK.1 hP 4 rfl rfl 3 (by decide) (hts _ wd_78) (fun _ h9 => h9) rfl d_Reader_atom_61 ?_
    obtain ⟨hPc, hDc, hFc, hCs⟩ := xw_sub3 (wc := [(r0, .inr (7, [.ref k0, vl, .ref n0, .int (nI gh), .int (nI (at9 + 1))])), (k0, .inr (9, [.ref k1, .ref k2, .int (nI ts), .int (nI th), .int (nI (u_16 0)), .int (nI (u_16 1)), .int (nI (u_16 2)), .int (nI (u_16 3))])), (k1, .inl (ax 1, 400, .inl tb)), (k2, .inl (ax 0, 401, .inl (fun j => nI (tk j))))]) hP hD hS hA [4, 5, 6, 7] (by decide) rfl
    have hz := xz_of hN hS
    refine va_calli (va_runV (As := [.int (nI gh)]) (rest := [.int (nI (u_4 4)), .int (nI (u_4 3)), .ref n0]) ⟨hx, hb, hml, hown, hts⟩ (c_R_term l D ax r0 k0 k1 k2 vl tb tk (u_16 0) (u_16 1) (u_16 2) (u_16 3) cn ts th gh (at9 + 1) n0 gh H_17.size hkz (by assumption) (by first | assumption | omega) (by first | assumption | omega) (by first | assumption | omega) (by first | assumption | omega) (by first | assumption | omega)) (xcV (n := 1) hts wd_563 wd_3 wd_560 wd_562 ps_12 rfl rfl (by decide +kernel) ⟨Nat.le_of_ble_eq_true rfl, Nat.le_of_ble_eq_true rfl⟩) (xpV (ci := 7) (q0 := 0) (As := [.int (nI gh)]) hPc hK hz hDc rfl rfl) rfl rfl hl1.1 rfl (lv_room (Nat.le_of_ble_eq_true rfl)) d_Reader_atom_64 ⟨(show (0) + (0) ≤ (MX - cp) by omega), (show (0) + (0) ≤ (6 * (MX - cp)) by omega)⟩) hS (fun q _ h => hFc q h) hFc (fun r_29 u_27 t H_28 locs ht hvm hw hB hz1 hk1 hS1 => ?_)
    try dsimp only at hw
    obtain ⟨hw, hs_30, hs_31, hs_32, hs_33, hs_34, hs_35, hs_36, hs_37, hs_38⟩ := hw
    subst hw
    obtain ⟨hP1, hD1⟩ := hB
    rw [ht] at hP1
    have hjn := xw_join3 (wl := [(n0, .inr (4, [.ref n1, .ref n2, .ref n3, .int (nI z9)])), (n1, .inl (ax 1, cp, .inl fo)), (n2, .inl (ax 0, cp, .inl fl)), (n3, .inl (ax 0, cp, .inl fr)), (r0, .inr (7, [.ref k0, vl, .ref n0, .int (nI gh), .int (nI (at9 + 1))])), (k0, .inr (9, [.ref k1, .ref k2, .int (nI ts), .int (nI th), .int (nI (u_27 0)), .int (nI (u_27 1)), .int (nI (u_27 2)), .int (nI (u_27 3))])), (k1, .inl (ax 1, 400, .inl tb)), (k2, .inl (ax 0, 401, .inl (fun j => nI (tk j))))]) hP hD [4, 5, 6, 7] [0, 1, 2, 3] hCs (by decide) (by decide) hk1 hFc hP1 hD1 rfl
    clear hP1 hD1
    clear hPc hDc hFc hCs hz hz1 hk1 ht hvm
    clear hP hD hS
    have hS := hS1
    obtain ⟨hP, hD⟩ := hjn
    clear hS1
    have hfl2 := ftf_le (u_27 1)
    obtain ⟨hPc, hDc, hFc, hCs⟩ := xw_sub3 (wc := [(n0, .inr (4, [.ref n1, .ref n2, .ref n3, .int (nI z9)])), (n1, .inl (ax 1, cp, .inl fo)), (n2, .inl (ax 0, cp, .inl fl)), (n3, .inl (ax 0, cp, .inl fr))]) hP hD hS hA [0, 1, 2, 3] (by decide) rfl
    have hz := xz_of hN hS
    refine wk_know (fun hk8 hk9 => ?_)
    refine va_calli (va_runV (As := [.int (nI (u_4 3)), .int (nI (u_4 4)), .int (nI (u_27 4))]) (rest := []) ⟨hx, hb, hml, hown, hts⟩ (c_Nodes_add l D ax n0 n1 n2 n3 cp z9 fo fl fr MX (nI (u_4 3)) (nI (u_4 4)) (nI (u_27 4)) H_28.size (tsl H_28) (by first | assumption | omega) (by first | assumption | omega) (by first | assumption | omega) (by first | assumption | omega) (by first | assumption | omega) hfo) (xcV (n := 3) hts wd_350 wd_5 wd_573 wd_348 wd_349 rfl rfl (by decide +kernel) ⟨Nat.le_of_ble_eq_true rfl, Nat.le_of_ble_eq_true rfl⟩) (xpV3 (ci := 4) (q0 := 0) (As := [.int (nI (u_4 3)), .int (nI (u_4 4)), .int (nI (u_27 4))]) hPc hK hz hDc rfl rfl) rfl rfl hl1.1 rfl (lv_room (Nat.le_of_ble_eq_true rfl)) d_Reader_atom_67 ⟨(show (0) + (MX - cp) ≤ (MX - cp) by omega), (show (0) + (6 * (MX - cp)) ≤ (6 * (MX - cp)) by omega)⟩) hS (fun q _ h => hFc q h) hFc (fun r_41 u_39 t H_40 locs ht hvm hw hB hz1 hk1 hS1 => ?_)
    try dsimp only at hw
    obtain ⟨hw, hs_42, hs_43, hs_44, hs_45⟩ := hw
    subst hw
    obtain ⟨x_46, x_47, x_48, hg8, hg9, hx_49, hx_50, hP1, hD1⟩ := hB
    rw [ht] at hg8 hg9 hP1
    have hjn := xw_join3 (wl := [(r0, .inr (7, [.ref k0, vl, .ref n0, .int (nI gh), .int (nI (at9 + 1))])), (k0, .inr (9, [.ref k1, .ref k2, .int (nI ts), .int (nI th), .int (nI (u_27 0)), .int (nI (u_27 1)), .int (nI (u_27 2)), .int (nI (u_27 3))])), (k1, .inl (ax 1, 400, .inl tb)), (k2, .inl (ax 0, 401, .inl (fun j => nI (tk j)))), (n0, .inr (4, [.ref (u_39 0), .ref (u_39 1), .ref (u_39 2), .int (nI (z9 + 1))])), ((u_39 0), .inl (ax 1, u_39 3, .inl x_46)), ((u_39 1), .inl (ax 0, u_39 3, .inl x_47)), ((u_39 2), .inl (ax 0, u_39 3, .inl x_48))]) hP hD [0, 1, 2, 3] [4, 5, 6, 7] hCs (by decide) (by decide) hk1 hFc hP1 hD1 rfl
    clear hP1 hD1
    clear hPc hDc hFc hCs hz hz1 hk1 ht hvm
    clear hP hD hS
    have hS := hS1
    obtain ⟨hP, hD⟩ := hjn
    clear hS1
    refine wk_narrow (k := u_39 3 - cp) (n := 6 * (u_39 3 - cp)) (by first | assumption | omega) (by first | assumption | omega) ?_
    clear hk8 hk9 hg8 hg9
    rw [← hQe]
    refine wk_know (fun hk8 hk9 => ?_)
    refine W.widen (k := MX - cp) (n := 6 * (MX - cp)) (by first | assumption | omega) (by first | assumption | omega) ?_
    obtain ⟨hP9, hD9⟩ := xw_sub2 (wc := (fun (u : Nat → Nat) (xfo : Nat → Int32) (xfl : Nat → Int32) (xfr : Nat → Int32) => [(r0, .inr (7, [.ref k0, vl, .ref n0, .int (nI gh), .int (nI (u 9))])), (k0, .inr (9, [.ref k1, .ref k2, .int (nI ts), .int (nI th), .int (nI (u 0)), .int (nI (u 1)), .int (nI (u 2)), .int (nI (u 3))])), (k1, .inl (ax 1, 400, .inl tb)), (k2, .inl (ax 0, 401, .inl (fun j => nI (tk j)))), (n0, .inr (4, [.ref (u 4), .ref (u 5), .ref (u 6), .int (nI (u 7))])), (u 4, .inl (ax 1, u 8, .inl xfo)), (u 5, .inl (ax 0, u 8, .inl xfl)), (u 6, .inl (ax 0, u 8, .inl xfr))]) (ixn [(u_27 0), (u_27 1), (u_27 2), (u_27 3), (u_39 0), (u_39 1), (u_39 2), (z9 + 1), (u_39 3), (at9 + 1), z9]) x_46 x_47 x_48) hP hD [0, 1, 2, 3, 4, 5, 6, 7] (by decide) rfl
    have hex0 : okf ((u_27 1)) (ndv x_46 x_47 x_48 ((z9 + 1))) := (fun q => (hnd (okf.of (by first | assumption | omega) q)).add hx_49 (nd_atom (by have h9 := (hs_25 (okf.of (by first | assumption | omega) q)).2; exact ((hs_7.go (by first | assumption | omega) (by first | assumption | omega)).2.2.2.2 h9)) hs_13 hs_36))
    have hex1 : bts x_46 ((u_39 3)) := (by assumption)
    have hex2 : okf ((u_27 1)) (tsn x_46 x_47 x_48 (z9) ≤ (z9 + 1) - z9) := (fun q => by rw [nad.atom (by have h9 := (hs_25 (okf.of (by first | assumption | omega) q)).2; exact ((hs_7.go (by first | assumption | omega) (by first | assumption | omega)).2.2.2.2 h9)) hx_49]; omega)
    have hex3 : okf ((u_27 1)) (∀ i, i < z9 → tsn x_46 x_47 x_48 i = tsn fo fl fr i) := (fun q i hi => nad.keep (by first | assumption | omega) (hnd (okf.of (by first | assumption | omega) q)) hx_49 hi)
    have hex4 : okf ((u_27 1)) (ndl x_46 x_47 x_48 (l0 ++ [atmV (ck tk) nxs (cv tk) gh ta]) ∧ (z9 + 1) = z9 + 1) := (fun q => ⟨ca_nd hs_14 hs_15 hs_7 hs_26 hs_37 hs_38 q (hL9 (okf.of (by first | assumption | omega) q)).1 (hL9 (okf.of (by first | assumption | omega) q)).2 hx_49 (by have h9 := (hs_25 (okf.of (by first | assumption | omega) q)).2; exact ((hs_7.go (by first | assumption | omega) (by first | assumption | omega)).2.2.2.2 h9)), by omega⟩)
    have hg8 : H_40.size ≤ s.heap.size + ((u_39 3) - cp) := by omega
    have hg9 : tsl H_40 ≤ tsl s.heap + (6 * ((u_39 3) - cp)) := by omega
    have hsp0 : rst tk ((u_27 1)) ((u_27 2)) ((u_27 3)) ((u_27 0)) cn := (by assumption)
    have hsp1 : (u_27 0) ≤ cn := (by first | assumption | omega)
    have hsp2 : (u_27 2) < 128 := (by first | assumption | omega)
    have hsp3 : (u_27 3) < 1024 := (by first | assumption | omega)
    have hsp4 : ta ≤ (u_27 0) := (by first | assumption | omega)
    have hsp5 : ftf tf ≤ ftf ((u_27 1)) := (by first | assumption | omega)
    have hsp6 : z9 ≤ (z9 + 1) := (by first | assumption | omega)
    have hsp7 : (z9 + 1) + ta ≤ z9 + (u_27 0) + ftf ((u_27 1)) := (by by_cases q9 : u_27 1 = 4294967295; (have h9 := (hs_25 (okf.of (by first | assumption | omega) q9)).1; omega); (have h9 : ftf (u_27 1) = 1 := if_neg q9; omega))
    have hsp8 : (z9 + 1) ≤ (u_39 3) := (by first | assumption | omega)
    have hsp9 : cp ≤ (u_39 3) := (by first | assumption | omega)
    have hsp10 : (u_39 3) ≤ MX := (by first | assumption | omega)
    have hsp11 : (at9 + 1) ≤ 8 := (by first | assumption | omega)
    have hsp12 : okf ((u_27 1)) (z9 + 1 = (z9 + 1)) := (fun _ => by omega)
    have hsp13 : ftf ((u_27 1)) ≤ 1 := (ftf_le _)
    have hsp14 : smk (z9) := (Or.inl (by first | assumption | omega))
    have hsp15 : caS tk gh tf ta at9 ((u_27 1)) ((u_27 0)) ((at9 + 1)) := (ca_m (by first | assumption | omega) hs_14 hs_7 hs_26 hs_37 rfl)
    exact W.iret (v := nI z9) hx hb hr (fun t ht hW => ⟨⟨nI z9, ixn [(u_27 0), (u_27 1), (u_27 2), (u_27 3), (u_39 0), (u_39 1), (u_39 2), (z9 + 1), (u_39 3), (at9 + 1), z9], rfl, ⟨rfl, ⟨hsp0, hsp1, hsp2, hsp3, hsp4, hsp5, hsp6, hsp7, hsp8, hsp9, hsp10, hsp11, hsp12, hsp13, hsp14, hsp15⟩⟩, ⟨x_46, x_47, x_48, by rw [ht]; exact hg8, by rw [ht]; exact hg9, hex0, hex1, hex2, hex3, hex4, by rw [ht]; exact hP9, hD9⟩⟩, hS.F ht⟩) hS.2.2 d_Reader_atom_70
  · replace c_1 : at9 = 8 := (nI_eq (a := at9) (b := 8) (by first | exact Nat.lt_of_lt_of_le (by assumption) (by decide) | exact Nat.lt_of_le_of_lt (by assumption) (by decide) | omega) (by decide)).mp c_1
    refine lv_aload_n hx hb d_Reader_atom_9 rfl (lv_at hl1 0 rfl) ?_
    refine va_get (D := D) (ci := 7) (v := .ref k0) (C := R_Reader) (T := F_Reader) (N := 5) hx hb hts i_Reader hown hK.1 hP 0 rfl rfl 0 (by decide) (hts _ wd_75) (fun _ h9 => h9) rfl d_Reader_atom_10 ?_
    obtain ⟨hPc, hDc, hFc, hCs⟩ := xw_sub3 (wc := [(k0, .inr (9, [.ref k1, .ref k2, .int (nI ts), .int (nI th), .int (nI ta), .int (nI tf), .int (nI nx), .int (nI am)])), (k1, .inl (ax 1, 400, .inl tb)), (k2, .inl (ax 0, 401, .inl (fun j => nI (tk j))))]) hP hD hS hA [1, 2, 3] (by decide) rfl
    have hz := xz_of hN hS
    refine va_callv (va_runV (As := []) (rest := []) ⟨hx, hb, hml, hown, hts⟩ (c_K_refuse l D ax k0 k1 k2 tb tk ta tf nx am cn ts th s.heap.size hkz (by assumption) (by first | assumption | omega) (by first | assumption | omega) (by first | assumption | omega)) (xcV (n := 0) hts wd_559 wd_2 wd_556 wd_557 wd_558 rfl rfl (by decide +kernel) ⟨Nat.le_of_ble_eq_true rfl, Nat.le_of_ble_eq_true rfl⟩) (xpV (ci := 9) (q0 := 0) (As := []) hPc hK hz hDc rfl rfl) rfl rfl hl1.1 rfl (lv_room (Nat.le_of_ble_eq_true rfl)) d_Reader_atom_13 ⟨(show (0) + (0) ≤ (MX - cp) by omega), (show (0) + (0) ≤ (6 * (MX - cp)) by omega)⟩) hS (fun q _ h => hFc q h) hFc (fun u_51 t H_52 locs ht hvm hw hB hz1 hk1 hS1 => ?_)
    try dsimp only at hw
    obtain ⟨hs_54, hs_55, hs_56, hs_57, hs_58, hs_59, hs_60, hs_61, hs_62, hs_63⟩ := hw
    obtain ⟨hP1, hD1⟩ := hB
    rw [ht] at hP1
    have hjn := xw_join3 (wl := [(r0, .inr (7, [.ref k0, vl, .ref n0, .int (nI gh), .int (nI at9)])), (n0, .inr (4, [.ref n1, .ref n2, .ref n3, .int (nI z9)])), (n1, .inl (ax 1, cp, .inl fo)), (n2, .inl (ax 0, cp, .inl fl)), (n3, .inl (ax 0, cp, .inl fr)), (k0, .inr (9, [.ref k1, .ref k2, .int (nI ts), .int (nI th), .int (nI (u_51 0)), .int (nI (u_51 1)), .int (nI (u_51 2)), .int (nI (u_51 3))])), (k1, .inl (ax 1, 400, .inl tb)), (k2, .inl (ax 0, 401, .inl (fun j => nI (tk j))))]) hP hD [1, 2, 3] [0, 4, 5, 6, 7] hCs (by decide) (by decide) hk1 hFc hP1 hD1 rfl
    clear hP1 hD1
    clear hPc hDc hFc hCs hz hz1 hk1 ht hvm
    clear hP hD hS
    have hS := hS1
    obtain ⟨hP, hD⟩ := hjn
    clear hS1
    have hfl := ftf_le (u_51 1)
    refine lv_iconst (v := (-1)) hx hb d_Reader_atom_16 (by decide) ?_
    rw [← hQe]
    refine wk_know (fun hk8 hk9 => ?_)
    refine W.widen (k := MX - cp) (n := 6 * (MX - cp)) (by first | assumption | omega) (by first | assumption | omega) ?_
    obtain ⟨hP9, hD9⟩ := xw_sub2 (wc := (fun (u : Nat → Nat) (xfo : Nat → Int32) (xfl : Nat → Int32) (xfr : Nat → Int32) => [(r0, .inr (7, [.ref k0, vl, .ref n0, .int (nI gh), .int (nI (u 9))])), (k0, .inr (9, [.ref k1, .ref k2, .int (nI ts), .int (nI th), .int (nI (u 0)), .int (nI (u 1)), .int (nI (u 2)), .int (nI (u 3))])), (k1, .inl (ax 1, 400, .inl tb)), (k2, .inl (ax 0, 401, .inl (fun j => nI (tk j)))), (n0, .inr (4, [.ref (u 4), .ref (u 5), .ref (u 6), .int (nI (u 7))])), (u 4, .inl (ax 1, u 8, .inl xfo)), (u 5, .inl (ax 0, u 8, .inl xfl)), (u 6, .inl (ax 0, u 8, .inl xfr))]) (ixn [(u_51 0), (u_51 1), (u_51 2), (u_51 3), n1, n2, n3, z9, cp, at9, 4294967295]) fo fl fr) hP hD [0, 5, 6, 7, 1, 2, 3, 4] (by decide) rfl
    have hex0 : okf ((u_51 1)) (ndv fo fl fr (z9)) := (okf.bad (by first | assumption | omega))
    have hex1 : bts fo (cp) := hfo
    have hex2 : okf ((u_51 1)) (tsn fo fl fr (4294967295) ≤ z9 - z9) := (okf.bad (by first | assumption | omega))
    have hex3 : okf ((u_51 1)) (∀ i, i < z9 → tsn fo fl fr i = tsn fo fl fr i) := (okf.bad (by first | assumption | omega))
    have hex4 : okf ((u_51 1)) (ndl fo fl fr (l0 ++ [atmV (ck tk) nxs (cv tk) gh ta]) ∧ z9 = z9 + 1) := (okf.bad (by first | assumption | omega))
    have hg8 : H_52.size ≤ s.heap.size + (cp - cp) := by omega
    have hg9 : tsl H_52 ≤ tsl s.heap + (6 * (cp - cp)) := by omega
    have hsp0 : rst tk ((u_51 1)) ((u_51 2)) ((u_51 3)) ((u_51 0)) cn := (by assumption)
    have hsp1 : (u_51 0) ≤ cn := (by first | assumption | omega)
    have hsp2 : (u_51 2) < 128 := (by first | assumption | omega)
    have hsp3 : (u_51 3) < 1024 := (by first | assumption | omega)
    have hsp4 : ta ≤ (u_51 0) := (by first | assumption | omega)
    have hsp5 : ftf tf ≤ ftf ((u_51 1)) := (by first | assumption | omega)
    have hsp6 : z9 ≤ z9 := (by first | assumption | omega)
    have hsp7 : z9 + ta ≤ z9 + (u_51 0) + ftf ((u_51 1)) := (by rw [ftf_bad (tf := u_51 1) (by first | assumption | omega)]; omega)
    have hsp8 : z9 ≤ cp := (by first | assumption | omega)
    have hsp9 : cp ≤ cp := (by first | assumption | omega)
    have hsp10 : cp ≤ MX := (by first | assumption | omega)
    have hsp11 : at9 ≤ 8 := (by first | assumption | omega)
    have hsp12 : okf ((u_51 1)) (4294967295 + 1 = z9) := (okf.bad (by first | assumption | omega))
    have hsp13 : ftf ((u_51 1)) ≤ 1 := (ftf_le _)
    have hsp14 : smk (4294967295) := (Or.inr rfl)
    have hsp15 : caS tk gh tf ta at9 ((u_51 1)) ((u_51 0)) (at9) := (ca_r (by first | assumption | omega) hs_60 hs_61 hs_63)
    exact W.iret (v := (-1)) hx hb hr (fun t ht hW => ⟨⟨(-1), ixn [(u_51 0), (u_51 1), (u_51 2), (u_51 3), n1, n2, n3, z9, cp, at9, 4294967295], rfl, ⟨rfl, ⟨hsp0, hsp1, hsp2, hsp3, hsp4, hsp5, hsp6, hsp7, hsp8, hsp9, hsp10, hsp11, hsp12, hsp13, hsp14, hsp15⟩⟩, ⟨fo, fl, fr, by rw [ht]; exact hg8, by rw [ht]; exact hg9, hex0, hex1, hex2, hex3, hex4, by rw [ht]; exact hP9, hD9⟩⟩, hS.F ht⟩) hS.2.2 d_Reader_atom_17
