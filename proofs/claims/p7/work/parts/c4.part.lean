theorem ps_8 : Cond.selects "TripleDesk$Reader" ⟨"TripleDesk$Reader", "ors", "(I)I"⟩ ⟨"TripleDesk$Reader", "ors", "(I)I"⟩ ∈ lw_gd := ps_in (q := (⟨"TripleDesk$Reader", "ors", "(I)I"⟩, 5)) (i := 8) (by decide +kernel)
theorem ps_11 : Cond.selects "TripleDesk$Reader" ⟨"TripleDesk$Reader", "atom", "()I"⟩ ⟨"TripleDesk$Reader", "atom", "()I"⟩ ∈ lw_gd := ps_in (q := (⟨"TripleDesk$Reader", "atom", "()I"⟩, 5)) (i := 11) (by decide +kernel)
theorem wd_540 : ((Jvm.Cond.methodLink "TripleDesk$Reader" (126 : Nat) ({ cls := "TripleDesk$Reader", name := "ors", desc := "(I)I" } : Jvm.MethodName))) ∈ lw_gd := lw_gd_in (i := 540) (by decide +kernel) rfl
theorem wd_542 : ((Jvm.Cond.instanceMethod ({ cls := "TripleDesk$Reader", name := "ors", desc := "(I)I" } : Jvm.MethodName))) ∈ lw_gd := lw_gd_in (i := 542) (by decide +kernel) rfl
theorem wd_543 : ((Jvm.Cond.code ({ cls := "TripleDesk$Reader", name := "ors", desc := "(I)I" } : Jvm.MethodName) prog_9_method_10_code (4 : Nat) (Option.some Jvm.ClassFile.FieldType.int))) ∈ lw_gd := lw_gd_in (i := 543) (by decide +kernel) rfl
theorem wd_552 : ((Jvm.Cond.methodLink "TripleDesk$Reader" (138 : Nat) ({ cls := "TripleDesk$Reader", name := "atom", desc := "()I" } : Jvm.MethodName))) ∈ lw_gd := lw_gd_in (i := 552) (by decide +kernel) rfl
theorem wd_554 : ((Jvm.Cond.instanceMethod ({ cls := "TripleDesk$Reader", name := "atom", desc := "()I" } : Jvm.MethodName))) ∈ lw_gd := lw_gd_in (i := 554) (by decide +kernel) rfl
theorem wd_555 : ((Jvm.Cond.code ({ cls := "TripleDesk$Reader", name := "atom", desc := "()I" } : Jvm.MethodName) prog_9_method_13_code (3 : Nat) (Option.some Jvm.ClassFile.FieldType.int))) ∈ lw_gd := lw_gd_in (i := 555) (by decide +kernel) rfl
theorem d_Reader_part_0 : decode b_Reader_part 0 = .ok (.aload_n 0, 1) := by decide +kernel
theorem d_Reader_part_1 : decode b_Reader_part 1 = .ok (.getfield 9, 3) := by decide +kernel
theorem d_Reader_part_4 : decode b_Reader_part 4 = .ok (.getfield 52, 3) := by decide +kernel
theorem d_Reader_part_7 : decode b_Reader_part 7 = .ok (.bipush 33, 2) := by decide +kernel
theorem d_Reader_part_9 : decode b_Reader_part 9 = .ok (.if_icmp .ne 7, 3) := by decide +kernel
theorem d_Reader_part_12 : decode b_Reader_part 12 = .ok (.iconst 1, 1) := by decide +kernel
theorem d_Reader_part_13 : decode b_Reader_part 13 = .ok (.goto 4, 3) := by decide +kernel
theorem d_Reader_part_16 : decode b_Reader_part 16 = .ok (.iconst 0, 1) := by decide +kernel
theorem d_Reader_part_17 : decode b_Reader_part 17 = .ok (.istore_n 2, 1) := by decide +kernel
theorem d_Reader_part_18 : decode b_Reader_part 18 = .ok (.iload_n 2, 1) := by decide +kernel
theorem d_Reader_part_19 : decode b_Reader_part 19 = .ok (.ifCond .ne 20, 3) := by decide +kernel
theorem d_Reader_part_22 : decode b_Reader_part 22 = .ok (.aload_n 0, 1) := by decide +kernel
theorem d_Reader_part_23 : decode b_Reader_part 23 = .ok (.getfield 9, 3) := by decide +kernel
theorem d_Reader_part_26 : decode b_Reader_part 26 = .ok (.getfield 52, 3) := by decide +kernel
theorem d_Reader_part_29 : decode b_Reader_part 29 = .ok (.bipush 40, 2) := by decide +kernel
theorem d_Reader_part_31 : decode b_Reader_part 31 = .ok (.if_icmp .eq 8, 3) := by decide +kernel
theorem d_Reader_part_34 : decode b_Reader_part 34 = .ok (.aload_n 0, 1) := by decide +kernel
theorem d_Reader_part_35 : decode b_Reader_part 35 = .ok (.invokevirtual 138, 3) := by decide +kernel
theorem d_Reader_part_38 : decode b_Reader_part 38 = .ok (.ireturn, 1) := by decide +kernel
theorem d_Reader_part_39 : decode b_Reader_part 39 = .ok (.iload_n 1, 1) := by decide +kernel
theorem d_Reader_part_40 : decode b_Reader_part 40 = .ok (.bipush 10, 2) := by decide +kernel
theorem d_Reader_part_42 : decode b_Reader_part 42 = .ok (.if_icmp .ne 12, 3) := by decide +kernel
theorem d_Reader_part_45 : decode b_Reader_part 45 = .ok (.aload_n 0, 1) := by decide +kernel
theorem d_Reader_part_46 : decode b_Reader_part 46 = .ok (.getfield 9, 3) := by decide +kernel
theorem d_Reader_part_49 : decode b_Reader_part 49 = .ok (.invokevirtual 67, 3) := by decide +kernel
theorem d_Reader_part_52 : decode b_Reader_part 52 = .ok (.iconst (-1), 1) := by decide +kernel
theorem d_Reader_part_53 : decode b_Reader_part 53 = .ok (.ireturn, 1) := by decide +kernel
theorem d_Reader_part_54 : decode b_Reader_part 54 = .ok (.aload_n 0, 1) := by decide +kernel
theorem d_Reader_part_55 : decode b_Reader_part 55 = .ok (.getfield 9, 3) := by decide +kernel
theorem d_Reader_part_58 : decode b_Reader_part 58 = .ok (.invokevirtual 56, 3) := by decide +kernel
theorem d_Reader_part_61 : decode b_Reader_part 61 = .ok (.iload_n 2, 1) := by decide +kernel
theorem d_Reader_part_62 : decode b_Reader_part 62 = .ok (.ifCond .eq 21, 3) := by decide +kernel
theorem d_Reader_part_65 : decode b_Reader_part 65 = .ok (.aload_n 0, 1) := by decide +kernel
theorem d_Reader_part_66 : decode b_Reader_part 66 = .ok (.getfield 25, 3) := by decide +kernel
theorem d_Reader_part_69 : decode b_Reader_part 69 = .ok (.bipush 6, 2) := by decide +kernel
theorem d_Reader_part_71 : decode b_Reader_part 71 = .ok (.aload_n 0, 1) := by decide +kernel
theorem d_Reader_part_72 : decode b_Reader_part 72 = .ok (.iload_n 1, 1) := by decide +kernel
theorem d_Reader_part_73 : decode b_Reader_part 73 = .ok (.iconst 1, 1) := by decide +kernel
theorem d_Reader_part_74 : decode b_Reader_part 74 = .ok (.iadd, 1) := by decide +kernel
theorem d_Reader_part_75 : decode b_Reader_part 75 = .ok (.invokevirtual 135, 3) := by decide +kernel
theorem d_Reader_part_78 : decode b_Reader_part 78 = .ok (.iconst (-1), 1) := by decide +kernel
theorem d_Reader_part_79 : decode b_Reader_part 79 = .ok (.invokevirtual 132, 3) := by decide +kernel
theorem d_Reader_part_82 : decode b_Reader_part 82 = .ok (.ireturn, 1) := by decide +kernel
theorem d_Reader_part_83 : decode b_Reader_part 83 = .ok (.aload_n 0, 1) := by decide +kernel
theorem d_Reader_part_84 : decode b_Reader_part 84 = .ok (.iload_n 1, 1) := by decide +kernel
theorem d_Reader_part_85 : decode b_Reader_part 85 = .ok (.iconst 1, 1) := by decide +kernel
theorem d_Reader_part_86 : decode b_Reader_part 86 = .ok (.iadd, 1) := by decide +kernel
theorem d_Reader_part_87 : decode b_Reader_part 87 = .ok (.invokevirtual 126, 3) := by decide +kernel
theorem d_Reader_part_90 : decode b_Reader_part 90 = .ok (.istore_n 3, 1) := by decide +kernel
theorem d_Reader_part_91 : decode b_Reader_part 91 = .ok (.aload_n 0, 1) := by decide +kernel
theorem d_Reader_part_92 : decode b_Reader_part 92 = .ok (.getfield 9, 3) := by decide +kernel
theorem d_Reader_part_95 : decode b_Reader_part 95 = .ok (.bipush 41, 2) := by decide +kernel
theorem d_Reader_part_97 : decode b_Reader_part 97 = .ok (.invokevirtual 95, 3) := by decide +kernel
theorem d_Reader_part_100 : decode b_Reader_part 100 = .ok (.iload_n 3, 1) := by decide +kernel
theorem d_Reader_part_101 : decode b_Reader_part 101 = .ok (.ireturn, 1) := by decide +kernel
set_option maxHeartbeats 40000000 in
set_option maxRecDepth 100000 in
theorem c_R_part (l : Launch) (dp9 : Nat) (hdp : dp9 ≤ 10) (hrec : dp9 < 10 → CPart l (dp9 + 1)) (D : va_G) (ax : Nat → ClassId) (r0 k0 k1 k2 : Nat) (vl : Value) (tb : Nat → Int32) (tk : Nat → Nat) (ta tf nx am cn ts th : Nat) (gh at9 : Nat) (n0 n1 n2 n3 cp z9 : Nat) (fo fl fr : Nat → Int32) (MX : Nat) (l0 : List sgT) (sg : List Nat) (sz tz : Nat) (hkz : tkz tk cn) (hrs : rst tk tf nx am ta cn) (hta : ta ≤ cn) (hnx : nx < 128) (ham : am < 1024) (hgh : gh ≤ 1) (ha9 : at9 ≤ 8) (hcp : 8 ≤ cp) (hz9 : z9 ≤ cp) (hmx : cp ≤ MX) (hMX : MX ≤ 60000) (hbd : 2 * (z9 + (cn - ta) + 1) ≤ MX) (hfo : bts fo cp) (hnd : okf tf (ndv fo fl fr z9)) (hL9 : okf tf (ndl fo fl fr l0 ∧ l0.length = z9)) (hsl : dpw sg = dp9) : Met l y_Reader_part (xws (.code y_Reader_part b_Reader_part 4 (some .int))) ({ frames := 40 + 10 * (11 - dp9), cells := MX - cp, slots := 6 * (MX - cp), locals := 1600 + 400 * (11 - dp9) }) (va_Pc [.ref r0, .int (nI dp9)] (xo3 D ax [(r0, .inr (7, [.ref k0, vl, .ref n0, .int (nI gh), .int (nI at9)])), (k0, .inr (9, [.ref k1, .ref k2, .int (nI ts), .int (nI th), .int (nI ta), .int (nI tf), .int (nI nx), .int (nI am)])), (k1, .inl (ax 1, 400, .inl tb)), (k2, .inl (ax 0, 401, .inl (fun j => nI (tk j)))), (n0, .inr (4, [.ref n1, .ref n2, .ref n3, .int (nI z9)])), (n1, .inl (ax 1, cp, .inl fo)), (n2, .inl (ax 0, cp, .inl fl)), (n3, .inl (ax 0, cp, .inl fr))] sz tz)) ((va_Qi (fun (r : Int32) (u : Nat → Nat) => r = nI (u 10) ∧ (rst tk (u 1) (u 2) (u 3) (u 0) cn ∧ u 0 ≤ cn ∧ u 2 < 128 ∧ u 3 < 1024 ∧ ta ≤ u 0 ∧ ftf tf ≤ ftf (u 1) ∧ z9 ≤ u 7 ∧ u 7 + ta ≤ z9 + u 0 + ftf (u 1) ∧ u 7 ≤ u 8 ∧ cp ≤ u 8 ∧ u 8 ≤ MX ∧ u 9 ≤ 8 ∧ okf (u 1) (u 10 + 1 = u 7) ∧ ftf (u 1) ≤ 1 ∧ smk (u 10))) (fun (u : Nat → Nat) (t9 : State) => ∃ xfo : Nat → Int32, ∃ xfl : Nat → Int32, ∃ xfr : Nat → Int32, ∃ xm : List sgT, (t9.heap.size ≤ sz + (u 8 - cp)) ∧ (tsl t9.heap ≤ tz + (6 * (u 8 - cp))) ∧ (okf (u 1) (ndv xfo xfl xfr (u 7))) ∧ (bts xfo (u 8)) ∧ (okf (u 1) (tsn xfo xfl xfr (u 10) ≤ u 7 - z9)) ∧ (okf (u 1) (∀ i, i < z9 → tsn xfo xfl xfr i = tsn fo fl fr i)) ∧ (okf (u 1) (ndl xfo xfl xfr (l0 ++ xm) ∧ u 7 = z9 + xm.length)) ∧ (cpg tk gh tf ta at9 sg xm (u 1) (u 0) (u 9)) ∧ va_P D classes [(r0, .inr (7, [.ref k0, vl, .ref n0, .int (nI gh), .int (nI (u 9))])), (k0, .inr (9, [.ref k1, .ref k2, .int (nI ts), .int (nI th), .int (nI (u 0)), .int (nI (u 1)), .int (nI (u 2)), .int (nI (u 3))])), (k1, .inl (ax 1, 400, .inl tb)), (k2, .inl (ax 0, 401, .inl (fun j => nI (tk j)))), (n0, .inr (4, [.ref (u 4), .ref (u 5), .ref (u 6), .int (nI (u 7))])), (u 4, .inl (ax 1, u 8, .inl xfo)), (u 5, .inl (ax 0, u 8, .inl xfl)), (u 6, .inl (ax 0, u 8, .inl xfr))] t9.heap ∧ va_D (va_A [(r0, .inr (7, [.ref k0, vl, .ref n0, .int (nI gh), .int (nI at9)])), (k0, .inr (9, [.ref k1, .ref k2, .int (nI ts), .int (nI th), .int (nI ta), .int (nI tf), .int (nI nx), .int (nI am)])), (k1, .inl (ax 1, 400, .inl tb)), (k2, .inl (ax 0, 401, .inl (fun j => nI (tk j)))), (n0, .inr (4, [.ref n1, .ref n2, .ref n3, .int (nI z9)])), (n1, .inl (ax 1, cp, .inl fo)), (n2, .inl (ax 0, cp, .inl fl)), (n3, .inl (ax 0, cp, .inl fr))] sz) [(r0, .inr (7, [.ref k0, vl, .ref n0, .int (nI gh), .int (nI (u 9))])), (k0, .inr (9, [.ref k1, .ref k2, .int (nI ts), .int (nI th), .int (nI (u 0)), .int (nI (u 1)), .int (nI (u 2)), .int (nI (u 3))])), (k1, .inl (ax 1, 400, .inl tb)), (k2, .inl (ax 0, 401, .inl (fun j => nI (tk j)))), (n0, .inr (4, [.ref (u 4), .ref (u 5), .ref (u 6), .int (nI (u 7))])), (u 4, .inl (ax 1, u 8, .inl xfo)), (u 5, .inl (ax 0, u 8, .inl xfl)), (u 6, .inl (ax 0, u 8, .inl xfr))]) (va_A [(r0, .inr (7, [.ref k0, vl, .ref n0, .int (nI gh), .int (nI at9)])), (k0, .inr (9, [.ref k1, .ref k2, .int (nI ts), .int (nI th), .int (nI ta), .int (nI tf), .int (nI nx), .int (nI am)])), (k1, .inl (ax 1, 400, .inl tb)), (k2, .inl (ax 0, 401, .inl (fun j => nI (tk j)))), (n0, .inr (4, [.ref n1, .ref n2, .ref n3, .int (nI z9)])), (n1, .inl (ax 1, cp, .inl fo)), (n2, .inl (ax 0, cp, .inl fl)), (n3, .inl (ax 0, cp, .inl fr))] sz))) (MX - cp) (6 * (MX - cp)) (va_A [(r0, .inr (7, [.ref k0, vl, .ref n0, .int (nI gh), .int (nI at9)])), (k0, .inr (9, [.ref k1, .ref k2, .int (nI ts), .int (nI th), .int (nI ta), .int (nI tf), .int (nI nx), .int (nI am)])), (k1, .inl (ax 1, 400, .inl tb)), (k2, .inl (ax 0, 401, .inl (fun j => nI (tk j)))), (n0, .inr (4, [.ref n1, .ref n2, .ref n3, .int (nI z9)])), (n1, .inl (ax 1, cp, .inl fo)), (n2, .inl (ax 0, cp, .inl fl)), (n3, .inl (ax 0, cp, .inl fr))] sz) := by
  refine Met.ofW (cc := b_Reader_part) (maxL := 4) (ret := (some .int)) (by decide) rfl ?_
  intro p e s m args below meth c s₁ B hml hv
  obtain ⟨rfl, ⟨hsz, hP, hK, hD0⟩, htz⟩ := hv
  have hx := B.exec
  have hb := B.bytes
  have hr := B.returns
  have hts := xw_hts B.pre
  have hown : s.vm.findClass R_Reader = some m.cls := findClass_of_methodNamed B.named
  have hlocks := B.notSynchronized
  subst hsz
  subst htz
  have hD := hD0.self (sz := s.heap.size)
  have hN := xz_entry hP
  generalize hAe : va_A [(r0, .inr (7, [.ref k0, vl, .ref n0, .int (nI gh), .int (nI at9)])), (k0, .inr (9, [.ref k1, .ref k2, .int (nI ts), .int (nI th), .int (nI ta), .int (nI tf), .int (nI nx), .int (nI am)])), (k1, .inl (ax 1, 400, .inl tb)), (k2, .inl (ax 0, 401, .inl (fun j => nI (tk j)))), (n0, .inr (4, [.ref n1, .ref n2, .ref n3, .int (nI z9)])), (n1, .inl (ax 1, cp, .inl fo)), (n2, .inl (ax 0, cp, .inl fl)), (n3, .inl (ax 0, cp, .inl fr))] s.heap.size = A at hD hN ⊢
  have hA : ∀ q : Nat, s.heap.size ≤ q → A q := fun q h => by rw [← hAe]; exact Or.inr h
  have hS : va_S A s.heap s.heap [] := va_S.rf
  have hl0 := lv_entry ([.ref r0, .int (nI dp9)]) (n := 4) (Nat.le_of_ble_eq_true rfl)
  rw [lg_entry_eq]
  generalize (lg_sl ([.ref r0, .int (nI dp9)]) ++ List.replicate (4 - (lg_sl ([.ref r0, .int (nI dp9)])).length) Slot.unset).toArray = ls at hl0 ⊢
  have hl1 : lv_has ls 4 [(0, .ref r0), (1, .int (nI dp9))] := hl0
  refine xw_gen (fun Z9 hQe => ?_)
  have hfz := ftf_le tf
  refine lv_aload_n hx hb d_Reader_part_0 rfl (lv_at hl1 0 rfl) ?_
  refine va_get (D := D) (ci := 7) (v := .ref k0) (C := R_Reader) (T := F_Reader) (N := 5) hx hb hts i_Reader hown hK.1 hP 0 rfl rfl 0 (by decide) (hts _ wd_75) (fun _ h9 => h9) rfl d_Reader_part_1 ?_
  refine va_get (D := D) (ci := 9) (v := .int (nI nx)) (C := R_Tokens) (T := F_Tokens) (N := 8) hx hb hts i_Tokens hown hK.1 hP 1 rfl rfl 6 (by decide) (hts _ wd_47) (fun _ h9 => h9) rfl d_Reader_part_4 ?_
  refine lv_bipush (v := 33) hx hb d_Reader_part_7 (by decide) ?_
  refine lv_icmp_ne (tgt := 16) hx hb d_Reader_part_9 (by decide) (fun c_1 => ?_) (fun c_1 => ?_)
  · replace c_1 : ¬ nx = 33 := fun hq9 => c_1 ((nI_eq (a := nx) (b := 33) (by first | exact Nat.lt_of_lt_of_le (by assumption) (by decide) | exact Nat.lt_of_le_of_lt (by assumption) (by decide) | omega) (by decide)).mpr hq9)
    refine lv_iconst (v := 0) hx hb d_Reader_part_16 (by decide) ?_
    refine lv_istore_n (lv' := [(2, .int 0), (0, .ref r0), (1, .int (nI dp9))]) hx hb d_Reader_part_17 rfl hl1 (by decide) rfl (fun ls hl2 => ?_)
    clear hl1; have hl1 := hl2; clear hl2
    refine lv_iload_n hx hb d_Reader_part_18 rfl (lv_at hl1 0 rfl) ?_
    refine lv_if_ne (tgt := 39) hx hb d_Reader_part_19 (by decide) (fun c_2 => ?_) (fun c_2 => ?_)
    · first | exact absurd c_2 (by decide) | exact absurd (by decide) c_2
    refine lv_aload_n hx hb d_Reader_part_22 rfl (lv_at hl1 1 rfl) ?_
    refine va_get (D := D) (ci := 7) (v := .ref k0) (C := R_Reader) (T := F_Reader) (N := 5) hx hb hts i_Reader hown hK.1 hP 0 rfl rfl 0 (by decide) (hts _ wd_75) (fun _ h9 => h9) rfl d_Reader_part_23 ?_
    refine va_get (D := D) (ci := 9) (v := .int (nI nx)) (C := R_Tokens) (T := F_Tokens) (N := 8) hx hb hts i_Tokens hown hK.1 hP 1 rfl rfl 6 (by decide) (hts _ wd_47) (fun _ h9 => h9) rfl d_Reader_part_26 ?_
    refine lv_bipush (v := 40) hx hb d_Reader_part_29 (by decide) ?_
    refine lv_icmp_eq (tgt := 39) hx hb d_Reader_part_31 (by decide) (fun c_3 => ?_) (fun c_3 => ?_)
    · replace c_3 : nx = 40 := (nI_eq (a := nx) (b := 40) (by first | exact Nat.lt_of_lt_of_le (by assumption) (by decide) | exact Nat.lt_of_le_of_lt (by assumption) (by decide) | omega) (by decide)).mp c_3
      refine lv_iload_n hx hb d_Reader_part_39 rfl (lv_at hl1 2 rfl) ?_
      refine lv_bipush (v := 10) hx hb d_Reader_part_40 (by decide) ?_
      refine lv_icmp_ne (tgt := 54) hx hb d_Reader_part_42 (by decide) (fun c_4 => ?_) (fun c_4 => ?_)
      · replace c_4 : ¬ dp9 = 10 := fun hq9 => c_4 ((nI_eq (a := dp9) (b := 10) (by first | exact Nat.lt_of_lt_of_le (by assumption) (by decide) | exact Nat.lt_of_le_of_lt (by assumption) (by decide) | omega) (by decide)).mpr hq9)
        obtain ⟨hok, hts9⟩ := hrs.go (by first | assumption | omega) (by first | assumption | omega)
        have hlt9 : ta < cn := hts9.1.resolve_left (by first | assumption | omega)
        have hf9 : ftf tf = 0 := by rw [hok]; rfl
        refine lv_aload_n hx hb d_Reader_part_54 rfl (lv_at hl1 1 rfl) ?_
        refine va_get (D := D) (ci := 7) (v := .ref k0) (C := R_Reader) (T := F_Reader) (N := 5) hx hb hts i_Reader hown hK.1 hP 0 rfl rfl 0 (by decide) (hts _ wd_75) (fun _ h9 => h9) rfl d_Reader_part_55 ?_
        obtain ⟨hPc, hDc, hFc, hCs⟩ := xw_sub3 (wc := [(k0, .inr (9, [.ref k1, .ref k2, .int (nI ts), .int (nI th), .int (nI ta), .int (nI tf), .int (nI nx), .int (nI am)])), (k1, .inl (ax 1, 400, .inl tb)), (k2, .inl (ax 0, 401, .inl (fun j => nI (tk j))))]) hP hD hS hA [1, 2, 3] (by decide) rfl
        have hz := xz_of hN hS
        refine va_callv (va_runV (As := []) (rest := []) ⟨hx, hb, hml, hown, hts⟩ (c_K_pass l D ax k0 k1 k2 tb tk ta tf nx am cn ts th s.heap.size hkz (by assumption) (by first | assumption | omega) (by first | assumption | omega) (by first | assumption | omega) (by first | assumption | omega)) (xcV (n := 0) hts wd_531 wd_2 wd_564 wd_529 wd_530 rfl rfl (by decide +kernel) ⟨(show (10) + 1 ≤ (40 + 10 * (11 - dp9)) by omega), (show 8 + (1 + 11) + (400) ≤ (1600 + 400 * (11 - dp9)) by omega)⟩) (xpV (ci := 9) (q0 := 0) (As := []) hPc hK hz hDc rfl rfl) rfl rfl hl1.1 rfl (lv_room (Nat.le_of_ble_eq_true rfl)) d_Reader_part_58 ⟨(show (0) + (0) ≤ (MX - cp) by omega), (show (0) + (0) ≤ (6 * (MX - cp)) by omega)⟩) hS (fun q _ h => hFc q h) hFc (fun u_5 t H_6 locs ht hvm hw hB hz1 hk1 hS1 => ?_)
        try dsimp only at hw
        obtain ⟨hs_8, hs_9, hs_10, hs_11, hs_12, hs_13, hs_14, hs_15, hs_16, hs_17⟩ := hw
        obtain ⟨hP1, hD1⟩ := hB
        rw [ht] at hP1
        have hjn := xw_join3 (wl := [(r0, .inr (7, [.ref k0, vl, .ref n0, .int (nI gh), .int (nI at9)])), (n0, .inr (4, [.ref n1, .ref n2, .ref n3, .int (nI z9)])), (n1, .inl (ax 1, cp, .inl fo)), (n2, .inl (ax 0, cp, .inl fl)), (n3, .inl (ax 0, cp, .inl fr)), (k0, .inr (9, [.ref k1, .ref k2, .int (nI ts), .int (nI th), .int (nI (u_5 0)), .int (nI (u_5 1)), .int (nI (u_5 2)), .int (nI (u_5 3))])), (k1, .inl (ax 1, 400, .inl tb)), (k2, .inl (ax 0, 401, .inl (fun j => nI (tk j))))]) hP hD [1, 2, 3] [0, 4, 5, 6, 7] hCs (by decide) (by decide) hk1 hFc hP1 hD1 rfl
        clear hP1 hD1
        clear hPc hDc hFc hCs hz hz1 hk1 ht hvm
        clear hP hD hS
        have hS := hS1
        obtain ⟨hP, hD⟩ := hjn
        clear hS1
        have hp9 := hs_15 hok
        have hnv2 : okf (u_5 1) (ndv fo fl fr z9) := fun _ => hnd hok
        have hlv2 : okf (u_5 1) (ndl fo fl fr l0 ∧ l0.length = z9) := fun _ => hL9 hok
        refine lv_iload_n hx hb d_Reader_part_61 rfl (lv_at hl1 0 rfl) ?_
        refine lv_if_eq (tgt := 83) hx hb d_Reader_part_62 (by decide) (fun c_18 => ?_) (fun c_18 => ?_)
        rotate_left
        · first | exact absurd c_18 (by decide) | exact absurd (by decide) c_18
        refine lv_aload_n hx hb d_Reader_part_83 rfl (lv_at hl1 1 rfl) ?_
        refine lv_iload_n hx hb d_Reader_part_84 rfl (lv_at hl1 2 rfl) ?_
        refine lv_iconst (v := 1) hx hb d_Reader_part_85 (by decide) ?_
        refine lv_iadd hx hb d_Reader_part_86 ?_
        refine lv_topi (fun z_19 ez_19 => ?_)
        have ez_19 : z_19 = nI (dp9 + 1) := ez_19.trans (nI_add dp9 1)
        subst ez_19
        obtain ⟨hPc, hDc, hFc, hCs⟩ := xw_sub3 (wc := [(r0, .inr (7, [.ref k0, vl, .ref n0, .int (nI gh), .int (nI at9)])), (k0, .inr (9, [.ref k1, .ref k2, .int (nI ts), .int (nI th), .int (nI (u_5 0)), .int (nI (u_5 1)), .int (nI (u_5 2)), .int (nI (u_5 3))])), (k1, .inl (ax 1, 400, .inl tb)), (k2, .inl (ax 0, 401, .inl (fun j => nI (tk j)))), (n0, .inr (4, [.ref n1, .ref n2, .ref n3, .int (nI z9)])), (n1, .inl (ax 1, cp, .inl fo)), (n2, .inl (ax 0, cp, .inl fl)), (n3, .inl (ax 0, cp, .inl fr))]) hP hD hS hA [0, 5, 6, 7, 1, 2, 3, 4] (by decide) rfl
        have hz := xz_of hN hS
        refine wk_know (fun hk8 hk9 => ?_)
        refine va_calli (va_runV (As := [.int (nI (dp9 + 1))]) (rest := []) ⟨hx, hb, hml, hown, hts⟩ (c_R_ors l (dp9 + 1) (by first | assumption | omega) (hrec (by first | assumption | omega)) D ax r0 k0 k1 k2 vl tb tk (u_5 0) (u_5 1) (u_5 2) (u_5 3) cn ts th gh at9 n0 n1 n2 n3 cp z9 fo fl fr MX l0 (9 :: sg) H_6.size (tsl H_6) hkz (by assumption) (by first | assumption | omega) (by first | assumption | omega) (by first | assumption | omega) (by first | assumption | omega) (by first | assumption | omega) (by first | assumption | omega) (by first | assumption | omega) (by first | assumption | omega) (by first | assumption | omega) (by first | assumption | omega) (by assumption) (by assumption) (by assumption) (by rw [dpw_9]; omega) (hda_9 (Or.inr rfl)) (hda_9 (Or.inl rfl))) (xcV (n := 1) hts wd_543 wd_3 wd_540 wd_542 ps_8 rfl rfl (by decide +kernel) ⟨(show (44 + 10 * (11 - (dp9 + 1))) + 1 ≤ (40 + 10 * (11 - dp9)) by omega), (show 8 + (4 + 11) + (1800 + 400 * (11 - (dp9 + 1))) ≤ (1600 + 400 * (11 - dp9)) by omega)⟩) (xpV3 (ci := 7) (q0 := 0) (As := [.int (nI (dp9 + 1))]) hPc hK hz hDc rfl rfl) rfl rfl hl1.1 rfl (lv_room (Nat.le_of_ble_eq_true rfl)) d_Reader_part_87 ⟨(show (0) + (MX - cp) ≤ (MX - cp) by omega), (show (0) + (6 * (MX - cp)) ≤ (6 * (MX - cp)) by omega)⟩) hS (fun q _ h => hFc q h) hFc (fun r_22 u_20 t H_21 locs ht hvm hw hB hz1 hk1 hS1 => ?_)
        try dsimp only at hw
        obtain ⟨hw, hs_23, hs_24, hs_25, hs_26, hs_27, hs_28, hs_29, hs_30, hs_31, hs_32, hs_33, hs_34, hs_35, hs_36, hs_37, hs_38⟩ := hw
        subst hw
        obtain ⟨x_39, x_40, x_41, x_42, hg8, hg9, hx_43, hx_44, hx_45, hx_46, hx_47, hx_48, hP1, hD1⟩ := hB
        rw [ht] at hg8 hg9 hP1
        have hjn := xw_join3 (wl := [(r0, .inr (7, [.ref k0, vl, .ref n0, .int (nI gh), .int (nI (u_20 9))])), (k0, .inr (9, [.ref k1, .ref k2, .int (nI ts), .int (nI th), .int (nI (u_20 0)), .int (nI (u_20 1)), .int (nI (u_20 2)), .int (nI (u_20 3))])), (k1, .inl (ax 1, 400, .inl tb)), (k2, .inl (ax 0, 401, .inl (fun j => nI (tk j)))), (n0, .inr (4, [.ref (u_20 4), .ref (u_20 5), .ref (u_20 6), .int (nI (u_20 7))])), ((u_20 4), .inl (ax 1, u_20 8, .inl x_39)), ((u_20 5), .inl (ax 0, u_20 8, .inl x_40)), ((u_20 6), .inl (ax 0, u_20 8, .inl x_41))]) hP hD [0, 5, 6, 7, 1, 2, 3, 4] [] hCs (by decide) (by decide) hk1 hFc hP1 hD1 rfl
        clear hP1 hD1
        clear hPc hDc hFc hCs hz hz1 hk1 ht hvm
        clear hP hD hS
        have hS := hS1
        obtain ⟨hP, hD⟩ := hjn
        clear hS1
        refine wk_narrow (k := u_20 8 - cp) (n := 6 * (u_20 8 - cp)) (by first | assumption | omega) (by first | assumption | omega) ?_
        clear hk8 hk9 hg8 hg9
        refine lv_istore_n (lv' := [(3, .int (nI (u_20 10))), (2, .int 0), (0, .ref r0), (1, .int (nI dp9))]) hx hb d_Reader_part_90 rfl hl1 (by decide) rfl (fun ls hl2 => ?_)
        clear hl1; have hl1 := hl2; clear hl2
        refine lv_aload_n hx hb d_Reader_part_91 rfl (lv_at hl1 2 rfl) ?_
        refine va_get (D := D) (ci := 7) (v := .ref k0) (C := R_Reader) (T := F_Reader) (N := 5) hx hb hts i_Reader hown hK.1 hP 0 rfl rfl 0 (by decide) (hts _ wd_75) (fun _ h9 => h9) rfl d_Reader_part_92 ?_
        refine lv_bipush (v := 41) hx hb d_Reader_part_95 (by decide) ?_
        obtain ⟨hPc, hDc, hFc, hCs⟩ := xw_sub3 (wc := [(k0, .inr (9, [.ref k1, .ref k2, .int (nI ts), .int (nI th), .int (nI (u_20 0)), .int (nI (u_20 1)), .int (nI (u_20 2)), .int (nI (u_20 3))])), (k1, .inl (ax 1, 400, .inl tb)), (k2, .inl (ax 0, 401, .inl (fun j => nI (tk j))))]) hP hD hS hA [1, 2, 3] (by decide) rfl
        have hz := xz_of hN hS
        refine va_callv (va_runV (As := [.int 41]) (rest := []) ⟨hx, hb, hml, hown, hts⟩ (c_K_need l D ax k0 k1 k2 tb tk (u_20 0) (u_20 1) (u_20 2) (u_20 3) cn ts th 41 H_21.size hkz (by assumption) (by first | assumption | omega) (by first | assumption | omega) (by first | assumption | omega) (by first | assumption | omega) (by first | assumption | omega)) (xcV (n := 1) hts wd_571 wd_2 wd_568 wd_569 wd_570 rfl rfl (by decide +kernel) ⟨(show (20) + 1 ≤ (40 + 10 * (11 - dp9)) by omega), (show 8 + (2 + 11) + (800) ≤ (1600 + 400 * (11 - dp9)) by omega)⟩) (xpV (ci := 9) (q0 := 0) (As := [.int 41]) hPc hK hz hDc rfl rfl) rfl rfl hl1.1 rfl (lv_room (Nat.le_of_ble_eq_true rfl)) d_Reader_part_97 ⟨(show (u_20 8 - cp) + (0) ≤ (MX - cp) by omega), (show (6 * (u_20 8 - cp)) + (0) ≤ (6 * (MX - cp)) by omega)⟩) hS (fun q _ h => hFc q h) hFc (fun u_49 t H_50 locs ht hvm hw hB hz1 hk1 hS1 => ?_)
        try dsimp only at hw
        obtain ⟨hs_52, hs_53, hs_54, hs_55, hs_56, hs_57, hs_58, hs_59⟩ := hw
        obtain ⟨hP1, hD1⟩ := hB
        rw [ht] at hP1
        have hjn := xw_join3 (wl := [(r0, .inr (7, [.ref k0, vl, .ref n0, .int (nI gh), .int (nI (u_20 9))])), (n0, .inr (4, [.ref (u_20 4), .ref (u_20 5), .ref (u_20 6), .int (nI (u_20 7))])), ((u_20 4), .inl (ax 1, u_20 8, .inl x_39)), ((u_20 5), .inl (ax 0, u_20 8, .inl x_40)), ((u_20 6), .inl (ax 0, u_20 8, .inl x_41)), (k0, .inr (9, [.ref k1, .ref k2, .int (nI ts), .int (nI th), .int (nI (u_49 0)), .int (nI (u_49 1)), .int (nI (u_49 2)), .int (nI (u_49 3))])), (k1, .inl (ax 1, 400, .inl tb)), (k2, .inl (ax 0, 401, .inl (fun j => nI (tk j))))]) hP hD [1, 2, 3] [0, 4, 5, 6, 7] hCs (by decide) (by decide) hk1 hFc hP1 hD1 rfl
        clear hP1 hD1
        clear hPc hDc hFc hCs hz hz1 hk1 ht hvm
        clear hP hD hS
        have hS := hS1
        obtain ⟨hP, hD⟩ := hjn
        clear hS1
        have hfl := ftf_le (u_49 1)
        refine lv_iload_n hx hb d_Reader_part_100 rfl (lv_at hl1 0 rfl) ?_
        rw [← hQe]
        refine wk_know (fun hk8 hk9 => ?_)
        refine W.widen (k := MX - cp) (n := 6 * (MX - cp)) (by first | assumption | omega) (by first | assumption | omega) ?_
        obtain ⟨hP9, hD9⟩ := xw_sub2 (wc := (fun (u : Nat → Nat) (xfo : Nat → Int32) (xfl : Nat → Int32) (xfr : Nat → Int32) (xm : List sgT) => [(r0, .inr (7, [.ref k0, vl, .ref n0, .int (nI gh), .int (nI (u 9))])), (k0, .inr (9, [.ref k1, .ref k2, .int (nI ts), .int (nI th), .int (nI (u 0)), .int (nI (u 1)), .int (nI (u 2)), .int (nI (u 3))])), (k1, .inl (ax 1, 400, .inl tb)), (k2, .inl (ax 0, 401, .inl (fun j => nI (tk j)))), (n0, .inr (4, [.ref (u 4), .ref (u 5), .ref (u 6), .int (nI (u 7))])), (u 4, .inl (ax 1, u 8, .inl xfo)), (u 5, .inl (ax 0, u 8, .inl xfl)), (u 6, .inl (ax 0, u 8, .inl xfr))]) (ixn [(u_49 0), (u_49 1), (u_49 2), (u_49 3), (u_20 4), (u_20 5), (u_20 6), (u_20 7), (u_20 8), (u_20 9), (u_20 10)]) x_39 x_40 x_41 x_42) hP hD [0, 5, 6, 7, 1, 2, 3, 4] (by decide) rfl
        have hex0 : okf ((u_49 1)) (ndv x_39 x_40 x_41 ((u_20 7))) := (hx_43.back hs_57)
        have hex1 : bts x_39 ((u_20 8)) := (by assumption)
        have hex2 : okf ((u_49 1)) (tsn x_39 x_40 x_41 ((u_20 10)) ≤ (u_20 7) - z9) := (hx_45.back hs_57)
        have hex3 : okf ((u_49 1)) (∀ i, i < z9 → tsn x_39 x_40 x_41 i = tsn fo fl fr i) := (hx_46.back hs_57)
        have hex4 : okf ((u_49 1)) (ndl x_39 x_40 x_41 (l0 ++ x_42) ∧ (u_20 7) = z9 + x_42.length) := (hx_47.back hs_57)
        have hex5 : cpg tk gh tf ta at9 sg x_42 ((u_49 1)) ((u_49 0)) ((u_20 9)) := (cpg_par hok hrs (by first | assumption | omega) (by first | assumption | omega) (hs_15 hok) hs_16 hx_48 hs_38 hs_23 hs_59)
        have hg8 : H_50.size ≤ s.heap.size + ((u_20 8) - cp) := by omega
        have hg9 : tsl H_50 ≤ tsl s.heap + (6 * ((u_20 8) - cp)) := by omega
        have hsp0 : rst tk ((u_49 1)) ((u_49 2)) ((u_49 3)) ((u_49 0)) cn := (by assumption)
        have hsp1 : (u_49 0) ≤ cn := (by first | assumption | omega)
        have hsp2 : (u_49 2) < 128 := (by first | assumption | omega)
        have hsp3 : (u_49 3) < 1024 := (by first | assumption | omega)
        have hsp4 : ta ≤ (u_49 0) := (by first | assumption | omega)
        have hsp5 : ftf tf ≤ ftf ((u_49 1)) := (by first | assumption | omega)
        have hsp6 : z9 ≤ (u_20 7) := (by first | assumption | omega)
        have hsp7 : (u_20 7) + ta ≤ z9 + (u_49 0) + ftf ((u_49 1)) := (by first | assumption | omega)
        have hsp8 : (u_20 7) ≤ (u_20 8) := (by first | assumption | omega)
        have hsp9 : cp ≤ (u_20 8) := (by first | assumption | omega)
        have hsp10 : (u_20 8) ≤ MX := (by first | assumption | omega)
        have hsp11 : (u_20 9) ≤ 8 := (by first | assumption | omega)
        have hsp12 : okf ((u_49 1)) ((u_20 10) + 1 = (u_20 7)) := (hs_35.back hs_57)
        have hsp13 : ftf ((u_49 1)) ≤ 1 := (ftf_le _)
        have hsp14 : smk ((u_20 10)) := (by assumption)
        exact W.iret (v := nI (u_20 10)) hx hb hr (fun t ht hW => ⟨⟨nI (u_20 10), ixn [(u_49 0), (u_49 1), (u_49 2), (u_49 3), (u_20 4), (u_20 5), (u_20 6), (u_20 7), (u_20 8), (u_20 9), (u_20 10)], rfl, ⟨rfl, ⟨hsp0, hsp1, hsp2, hsp3, hsp4, hsp5, hsp6, hsp7, hsp8, hsp9, hsp10, hsp11, hsp12, hsp13, hsp14⟩⟩, ⟨x_39, x_40, x_41, x_42, by rw [ht]; exact hg8, by rw [ht]; exact hg9, hex0, hex1, hex2, hex3, hex4, hex5, by rw [ht]; exact hP9, hD9⟩⟩, hS.F ht⟩) hS.2.2 d_Reader_part_101
      · replace c_4 : dp9 = 10 := (nI_eq (a := dp9) (b := 10) (by first | exact Nat.lt_of_lt_of_le (by assumption) (by decide) | exact Nat.lt_of_le_of_lt (by assumption) (by decide) | omega) (by decide)).mp c_4
        have hfl := ftf_le (tf)
        refine lv_aload_n hx hb d_Reader_part_45 rfl (lv_at hl1 1 rfl) ?_
        refine va_get (D := D) (ci := 7) (v := .ref k0) (C := R_Reader) (T := F_Reader) (N := 5) hx hb hts i_Reader hown hK.1 hP 0 rfl rfl 0 (by decide) (hts _ wd_75) (fun _ h9 => h9) rfl d_Reader_part_46 ?_
        obtain ⟨hPc, hDc, hFc, hCs⟩ := xw_sub3 (wc := [(k0, .inr (9, [.ref k1, .ref k2, .int (nI ts), .int (nI th), .int (nI ta), .int (nI tf), .int (nI nx), .int (nI am)])), (k1, .inl (ax 1, 400, .inl tb)), (k2, .inl (ax 0, 401, .inl (fun j => nI (tk j))))]) hP hD hS hA [1, 2, 3] (by decide) rfl
        have hz := xz_of hN hS
        refine va_callv (va_runV (As := []) (rest := []) ⟨hx, hb, hml, hown, hts⟩ (c_K_refuse l D ax k0 k1 k2 tb tk ta tf nx am cn ts th s.heap.size hkz (by assumption) (by first | assumption | omega) (by first | assumption | omega) (by first | assumption | omega)) (xcV (n := 0) hts wd_559 wd_2 wd_556 wd_557 wd_558 rfl rfl (by decide +kernel) ⟨(show (10) + 1 ≤ (40 + 10 * (11 - dp9)) by omega), (show 8 + (1 + 11) + (400) ≤ (1600 + 400 * (11 - dp9)) by omega)⟩) (xpV (ci := 9) (q0 := 0) (As := []) hPc hK hz hDc rfl rfl) rfl rfl hl1.1 rfl (lv_room (Nat.le_of_ble_eq_true rfl)) d_Reader_part_49 ⟨(show (0) + (0) ≤ (MX - cp) by omega), (show (0) + (0) ≤ (6 * (MX - cp)) by omega)⟩) hS (fun q _ h => hFc q h) hFc (fun u_60 t H_61 locs ht hvm hw hB hz1 hk1 hS1 => ?_)
        try dsimp only at hw
        obtain ⟨hs_63, hs_64, hs_65, hs_66, hs_67, hs_68, hs_69, hs_70, hs_71, hs_72⟩ := hw
        obtain ⟨hP1, hD1⟩ := hB
        rw [ht] at hP1
        have hjn := xw_join3 (wl := [(r0, .inr (7, [.ref k0, vl, .ref n0, .int (nI gh), .int (nI at9)])), (n0, .inr (4, [.ref n1, .ref n2, .ref n3, .int (nI z9)])), (n1, .inl (ax 1, cp, .inl fo)), (n2, .inl (ax 0, cp, .inl fl)), (n3, .inl (ax 0, cp, .inl fr)), (k0, .inr (9, [.ref k1, .ref k2, .int (nI ts), .int (nI th), .int (nI (u_60 0)), .int (nI (u_60 1)), .int (nI (u_60 2)), .int (nI (u_60 3))])), (k1, .inl (ax 1, 400, .inl tb)), (k2, .inl (ax 0, 401, .inl (fun j => nI (tk j))))]) hP hD [1, 2, 3] [0, 4, 5, 6, 7] hCs (by decide) (by decide) hk1 hFc hP1 hD1 rfl
        clear hP1 hD1
        clear hPc hDc hFc hCs hz hz1 hk1 ht hvm
        clear hP hD hS
        have hS := hS1
        obtain ⟨hP, hD⟩ := hjn
        clear hS1
        refine lv_iconst (v := (-1)) hx hb d_Reader_part_52 (by decide) ?_
        rw [← hQe]
        refine wk_know (fun hk8 hk9 => ?_)
        refine W.widen (k := MX - cp) (n := 6 * (MX - cp)) (by first | assumption | omega) (by first | assumption | omega) ?_
        obtain ⟨hP9, hD9⟩ := xw_sub2 (wc := (fun (u : Nat → Nat) (xfo : Nat → Int32) (xfl : Nat → Int32) (xfr : Nat → Int32) (xm : List sgT) => [(r0, .inr (7, [.ref k0, vl, .ref n0, .int (nI gh), .int (nI (u 9))])), (k0, .inr (9, [.ref k1, .ref k2, .int (nI ts), .int (nI th), .int (nI (u 0)), .int (nI (u 1)), .int (nI (u 2)), .int (nI (u 3))])), (k1, .inl (ax 1, 400, .inl tb)), (k2, .inl (ax 0, 401, .inl (fun j => nI (tk j)))), (n0, .inr (4, [.ref (u 4), .ref (u 5), .ref (u 6), .int (nI (u 7))])), (u 4, .inl (ax 1, u 8, .inl xfo)), (u 5, .inl (ax 0, u 8, .inl xfl)), (u 6, .inl (ax 0, u 8, .inl xfr))]) (ixn [(u_60 0), (u_60 1), (u_60 2), (u_60 3), n1, n2, n3, z9, cp, at9, 4294967295]) fo fl fr ([] : List sgT)) hP hD [0, 5, 6, 7, 1, 2, 3, 4] (by decide) rfl
        have hex0 : okf ((u_60 1)) (ndv fo fl fr (z9)) := (okf.bad (by first | assumption | omega))
        have hex1 : bts fo (cp) := (by assumption)
        have hex2 : okf ((u_60 1)) (tsn fo fl fr (4294967295) ≤ z9 - z9) := (okf.bad (by first | assumption | omega))
        have hex3 : okf ((u_60 1)) (∀ i, i < z9 → tsn fo fl fr i = tsn fo fl fr i) := (okf.bad (by first | assumption | omega))
        have hex4 : okf ((u_60 1)) (ndl fo fl fr (l0 ++ ([] : List sgT)) ∧ z9 = z9 + ([] : List sgT).length) := (okf.bad (by first | assumption | omega))
        have hex5 : cpg tk gh tf ta at9 sg ([] : List sgT) ((u_60 1)) ((u_60 0)) (at9) := (cpg_ref hrs (by first | assumption | omega) (by first | assumption | omega) hs_69 hs_70 hs_72)
        have hg8 : H_61.size ≤ s.heap.size + (cp - cp) := by omega
        have hg9 : tsl H_61 ≤ tsl s.heap + (6 * (cp - cp)) := by omega
        have hsp0 : rst tk ((u_60 1)) ((u_60 2)) ((u_60 3)) ((u_60 0)) cn := (by assumption)
        have hsp1 : (u_60 0) ≤ cn := (by first | assumption | omega)
        have hsp2 : (u_60 2) < 128 := (by first | assumption | omega)
        have hsp3 : (u_60 3) < 1024 := (by first | assumption | omega)
        have hsp4 : ta ≤ (u_60 0) := (by first | assumption | omega)
        have hsp5 : ftf tf ≤ ftf ((u_60 1)) := (by first | assumption | omega)
        have hsp6 : z9 ≤ z9 := (by first | assumption | omega)
        have hsp7 : z9 + ta ≤ z9 + (u_60 0) + ftf ((u_60 1)) := (by first | assumption | omega)
        have hsp8 : z9 ≤ cp := (by first | assumption | omega)
        have hsp9 : cp ≤ cp := (by first | assumption | omega)
        have hsp10 : cp ≤ MX := (by first | assumption | omega)
        have hsp11 : at9 ≤ 8 := (by first | assumption | omega)
        have hsp12 : okf ((u_60 1)) (4294967295 + 1 = z9) := (okf.bad (by first | assumption | omega))
        have hsp13 : ftf ((u_60 1)) ≤ 1 := (ftf_le _)
        have hsp14 : smk (4294967295) := (Or.inr rfl)
        exact W.iret (v := (-1)) hx hb hr (fun t ht hW => ⟨⟨(-1), ixn [(u_60 0), (u_60 1), (u_60 2), (u_60 3), n1, n2, n3, z9, cp, at9, 4294967295], rfl, ⟨rfl, ⟨hsp0, hsp1, hsp2, hsp3, hsp4, hsp5, hsp6, hsp7, hsp8, hsp9, hsp10, hsp11, hsp12, hsp13, hsp14⟩⟩, ⟨fo, fl, fr, ([] : List sgT), by rw [ht]; exact hg8, by rw [ht]; exact hg9, hex0, hex1, hex2, hex3, hex4, hex5, by rw [ht]; exact hP9, hD9⟩⟩, hS.F ht⟩) hS.2.2 d_Reader_part_53
    · replace c_3 : ¬ nx = 40 := fun hq9 => c_3 ((nI_eq (a := nx) (b := 40) (by first | exact Nat.lt_of_lt_of_le (by assumption) (by decide) | exact Nat.lt_of_le_of_lt (by assumption) (by decide) | omega) (by decide)).mpr hq9)
      refine lv_aload_n hx hb d_Reader_part_34 rfl (lv_at hl1 1 rfl) ?_
      obtain ⟨hPc, hDc, hFc, hCs⟩ := xw_sub3 (wc := [(r0, .inr (7, [.ref k0, vl, .ref n0, .int (nI gh), .int (nI at9)])), (k0, .inr (9, [.ref k1, .ref k2, .int (nI ts), .int (nI th), .int (nI ta), .int (nI tf), .int (nI nx), .int (nI am)])), (k1, .inl (ax 1, 400, .inl tb)), (k2, .inl (ax 0, 401, .inl (fun j => nI (tk j)))), (n0, .inr (4, [.ref n1, .ref n2, .ref n3, .int (nI z9)])), (n1, .inl (ax 1, cp, .inl fo)), (n2, .inl (ax 0, cp, .inl fl)), (n3, .inl (ax 0, cp, .inl fr))]) hP hD hS hA [0, 1, 2, 3, 4, 5, 6, 7] (by decide) rfl
      have hz := xz_of hN hS
      refine wk_know (fun hk8 hk9 => ?_)
      refine va_calli (va_runV (As := []) (rest := []) ⟨hx, hb, hml, hown, hts⟩ (c_R_atom l D ax r0 k0 k1 k2 vl tb tk ta tf nx am cn ts th gh at9 n0 n1 n2 n3 cp z9 fo fl fr MX l0 s.heap.size (tsl s.heap) hkz (by assumption) (by first | assumption | omega) (by first | assumption | omega) (by first | assumption | omega) (by first | assumption | omega) (by first | assumption | omega) (by first | assumption | omega) (by first | assumption | omega) (by first | assumption | omega) (by first | assumption | omega) (by first | assumption | omega) (by assumption) (by assumption) (by assumption)) (xcV (n := 0) hts wd_555 wd_3 wd_552 wd_554 ps_11 rfl rfl (by decide +kernel) ⟨(show (40) + 1 ≤ (40 + 10 * (11 - dp9)) by omega), (show 8 + (3 + 11) + (1600) ≤ (1600 + 400 * (11 - dp9)) by omega)⟩) (xpV3 (ci := 7) (q0 := 0) (As := []) hPc hK hz hDc rfl rfl) rfl rfl hl1.1 rfl (lv_room (Nat.le_of_ble_eq_true rfl)) d_Reader_part_35 ⟨(show (0) + (MX - cp) ≤ (MX - cp) by omega), (show (0) + (6 * (MX - cp)) ≤ (6 * (MX - cp)) by omega)⟩) hS (fun q _ h => hFc q h) hFc (fun r_75 u_73 t H_74 locs ht hvm hw hB hz1 hk1 hS1 => ?_)
      try dsimp only at hw
      obtain ⟨hw, hs_76, hs_77, hs_78, hs_79, hs_80, hs_81, hs_82, hs_83, hs_84, hs_85, hs_86, hs_87, hs_88, hs_89, hs_90, hs_91⟩ := hw
      subst hw
      obtain ⟨x_92, x_93, x_94, hg8, hg9, hx_95, hx_96, hx_97, hx_98, hx_99, hP1, hD1⟩ := hB
      rw [ht] at hg8 hg9 hP1
      have hjn := xw_join3 (wl := [(r0, .inr (7, [.ref k0, vl, .ref n0, .int (nI gh), .int (nI (u_73 9))])), (k0, .inr (9, [.ref k1, .ref k2, .int (nI ts), .int (nI th), .int (nI (u_73 0)), .int (nI (u_73 1)), .int (nI (u_73 2)), .int (nI (u_73 3))])), (k1, .inl (ax 1, 400, .inl tb)), (k2, .inl (ax 0, 401, .inl (fun j => nI (tk j)))), (n0, .inr (4, [.ref (u_73 4), .ref (u_73 5), .ref (u_73 6), .int (nI (u_73 7))])), ((u_73 4), .inl (ax 1, u_73 8, .inl x_92)), ((u_73 5), .inl (ax 0, u_73 8, .inl x_93)), ((u_73 6), .inl (ax 0, u_73 8, .inl x_94))]) hP hD [0, 1, 2, 3, 4, 5, 6, 7] [] hCs (by decide) (by decide) hk1 hFc hP1 hD1 rfl
      clear hP1 hD1
      clear hPc hDc hFc hCs hz hz1 hk1 ht hvm
      clear hP hD hS
      have hS := hS1
      obtain ⟨hP, hD⟩ := hjn
      clear hS1
      refine wk_narrow (k := u_73 8 - cp) (n := 6 * (u_73 8 - cp)) (by first | assumption | omega) (by first | assumption | omega) ?_
      clear hk8 hk9 hg8 hg9
      rw [← hQe]
      refine wk_know (fun hk8 hk9 => ?_)
      refine W.widen (k := MX - cp) (n := 6 * (MX - cp)) (by first | assumption | omega) (by first | assumption | omega) ?_
      obtain ⟨hP9, hD9⟩ := xw_sub2 (wc := (fun (u : Nat → Nat) (xfo : Nat → Int32) (xfl : Nat → Int32) (xfr : Nat → Int32) (xm : List sgT) => [(r0, .inr (7, [.ref k0, vl, .ref n0, .int (nI gh), .int (nI (u 9))])), (k0, .inr (9, [.ref k1, .ref k2, .int (nI ts), .int (nI th), .int (nI (u 0)), .int (nI (u 1)), .int (nI (u 2)), .int (nI (u 3))])), (k1, .inl (ax 1, 400, .inl tb)), (k2, .inl (ax 0, 401, .inl (fun j => nI (tk j)))), (n0, .inr (4, [.ref (u 4), .ref (u 5), .ref (u 6), .int (nI (u 7))])), (u 4, .inl (ax 1, u 8, .inl xfo)), (u 5, .inl (ax 0, u 8, .inl xfl)), (u 6, .inl (ax 0, u 8, .inl xfr))]) (ixn [(u_73 0), (u_73 1), (u_73 2), (u_73 3), (u_73 4), (u_73 5), (u_73 6), (u_73 7), (u_73 8), (u_73 9), (u_73 10)]) x_92 x_93 x_94 ([atmV (ck tk) nxs (cv tk) gh ta])) hP hD [0, 1, 2, 3, 4, 5, 6, 7] (by decide) rfl
      have hex0 : okf ((u_73 1)) (ndv x_92 x_93 x_94 ((u_73 7))) := (by assumption)
      have hex1 : bts x_92 ((u_73 8)) := (by assumption)
      have hex2 : okf ((u_73 1)) (tsn x_92 x_93 x_94 ((u_73 10)) ≤ (u_73 7) - z9) := (by assumption)
      have hex3 : okf ((u_73 1)) (∀ i, i < z9 → tsn x_92 x_93 x_94 i = tsn fo fl fr i) := (by assumption)
      have hex4 : okf ((u_73 1)) (ndl x_92 x_93 x_94 (l0 ++ ([atmV (ck tk) nxs (cv tk) gh ta])) ∧ (u_73 7) = z9 + ([atmV (ck tk) nxs (cv tk) gh ta]).length) := hx_99
      have hex5 : cpg tk gh tf ta at9 sg ([atmV (ck tk) nxs (cv tk) gh ta]) ((u_73 1)) ((u_73 0)) ((u_73 9)) := (cpg_atom hkz hta hrs (by first | assumption | omega) hs_91)
      have hg8 : H_74.size ≤ s.heap.size + ((u_73 8) - cp) := by omega
      have hg9 : tsl H_74 ≤ tsl s.heap + (6 * ((u_73 8) - cp)) := by omega
      have hsp0 : rst tk ((u_73 1)) ((u_73 2)) ((u_73 3)) ((u_73 0)) cn := (by assumption)
      have hsp1 : (u_73 0) ≤ cn := (by first | assumption | omega)
      have hsp2 : (u_73 2) < 128 := (by first | assumption | omega)
      have hsp3 : (u_73 3) < 1024 := (by first | assumption | omega)
      have hsp4 : ta ≤ (u_73 0) := (by first | assumption | omega)
      have hsp5 : ftf tf ≤ ftf ((u_73 1)) := (by first | assumption | omega)
      have hsp6 : z9 ≤ (u_73 7) := (by first | assumption | omega)
      have hsp7 : (u_73 7) + ta ≤ z9 + (u_73 0) + ftf ((u_73 1)) := (by first | assumption | omega)
      have hsp8 : (u_73 7) ≤ (u_73 8) := (by first | assumption | omega)
      have hsp9 : cp ≤ (u_73 8) := (by first | assumption | omega)
      have hsp10 : (u_73 8) ≤ MX := (by first | assumption | omega)
      have hsp11 : (u_73 9) ≤ 8 := (by first | assumption | omega)
      have hsp12 : okf ((u_73 1)) ((u_73 10) + 1 = (u_73 7)) := (by assumption)
      have hsp13 : ftf ((u_73 1)) ≤ 1 := (ftf_le _)
      have hsp14 : smk ((u_73 10)) := (by assumption)
      exact W.iret (v := nI (u_73 10)) hx hb hr (fun t ht hW => ⟨⟨nI (u_73 10), ixn [(u_73 0), (u_73 1), (u_73 2), (u_73 3), (u_73 4), (u_73 5), (u_73 6), (u_73 7), (u_73 8), (u_73 9), (u_73 10)], rfl, ⟨rfl, ⟨hsp0, hsp1, hsp2, hsp3, hsp4, hsp5, hsp6, hsp7, hsp8, hsp9, hsp10, hsp11, hsp12, hsp13, hsp14⟩⟩, ⟨x_92, x_93, x_94, [atmV (ck tk) nxs (cv tk) gh ta], by rw [ht]; exact hg8, by rw [ht]; exact hg9, hex0, hex1, hex2, hex3, hex4, hex5, by rw [ht]; exact hP9, hD9⟩⟩, hS.F ht⟩) hS.2.2 d_Reader_part_38
  · replace c_1 : nx = 33 := (nI_eq (a := nx) (b := 33) (by first | exact Nat.lt_of_lt_of_le (by assumption) (by decide) | exact Nat.lt_of_le_of_lt (by assumption) (by decide) | omega) (by decide)).mp c_1
    refine lv_iconst (v := 1) hx hb d_Reader_part_12 (by decide) ?_
    refine lv_goto (tgt := 17) hx hb d_Reader_part_13 (by decide) ?_
    refine lv_istore_n (lv' := [(2, .int 1), (0, .ref r0), (1, .int (nI dp9))]) hx hb d_Reader_part_17 rfl hl1 (by decide) rfl (fun ls hl2 => ?_)
    clear hl1; have hl1 := hl2; clear hl2
    refine lv_iload_n hx hb d_Reader_part_18 rfl (lv_at hl1 0 rfl) ?_
    refine lv_if_ne (tgt := 39) hx hb d_Reader_part_19 (by decide) (fun c_100 => ?_) (fun c_100 => ?_)
    rotate_left
    · first | exact absurd c_100 (by decide) | exact absurd (by decide) c_100
    refine lv_iload_n hx hb d_Reader_part_39 rfl (lv_at hl1 2 rfl) ?_
    refine lv_bipush (v := 10) hx hb d_Reader_part_40 (by decide) ?_
    refine lv_icmp_ne (tgt := 54) hx hb d_Reader_part_42 (by decide) (fun c_101 => ?_) (fun c_101 => ?_)
    · replace c_101 : ¬ dp9 = 10 := fun hq9 => c_101 ((nI_eq (a := dp9) (b := 10) (by first | exact Nat.lt_of_lt_of_le (by assumption) (by decide) | exact Nat.lt_of_le_of_lt (by assumption) (by decide) | omega) (by decide)).mpr hq9)
      obtain ⟨hok, hts9⟩ := hrs.go (by first | assumption | omega) (by first | assumption | omega)
      have hlt9 : ta < cn := hts9.1.resolve_left (by first | assumption | omega)
      have hf9 : ftf tf = 0 := by rw [hok]; rfl
      refine lv_aload_n hx hb d_Reader_part_54 rfl (lv_at hl1 1 rfl) ?_
      refine va_get (D := D) (ci := 7) (v := .ref k0) (C := R_Reader) (T := F_Reader) (N := 5) hx hb hts i_Reader hown hK.1 hP 0 rfl rfl 0 (by decide) (hts _ wd_75) (fun _ h9 => h9) rfl d_Reader_part_55 ?_
      obtain ⟨hPc, hDc, hFc, hCs⟩ := xw_sub3 (wc := [(k0, .inr (9, [.ref k1, .ref k2, .int (nI ts), .int (nI th), .int (nI ta), .int (nI tf), .int (nI nx), .int (nI am)])), (k1, .inl (ax 1, 400, .inl tb)), (k2, .inl (ax 0, 401, .inl (fun j => nI (tk j))))]) hP hD hS hA [1, 2, 3] (by decide) rfl
      have hz := xz_of hN hS
      refine va_callv (va_runV (As := []) (rest := []) ⟨hx, hb, hml, hown, hts⟩ (c_K_pass l D ax k0 k1 k2 tb tk ta tf nx am cn ts th s.heap.size hkz (by assumption) (by first | assumption | omega) (by first | assumption | omega) (by first | assumption | omega) (by first | assumption | omega)) (xcV (n := 0) hts wd_531 wd_2 wd_564 wd_529 wd_530 rfl rfl (by decide +kernel) ⟨(show (10) + 1 ≤ (40 + 10 * (11 - dp9)) by omega), (show 8 + (1 + 11) + (400) ≤ (1600 + 400 * (11 - dp9)) by omega)⟩) (xpV (ci := 9) (q0 := 0) (As := []) hPc hK hz hDc rfl rfl) rfl rfl hl1.1 rfl (lv_room (Nat.le_of_ble_eq_true rfl)) d_Reader_part_58 ⟨(show (0) + (0) ≤ (MX - cp) by omega), (show (0) + (0) ≤ (6 * (MX - cp)) by omega)⟩) hS (fun q _ h => hFc q h) hFc (fun u_102 t H_103 locs ht hvm hw hB hz1 hk1 hS1 => ?_)
      try dsimp only at hw
      obtain ⟨hs_105, hs_106, hs_107, hs_108, hs_109, hs_110, hs_111, hs_112, hs_113, hs_114⟩ := hw
      obtain ⟨hP1, hD1⟩ := hB
      rw [ht] at hP1
      have hjn := xw_join3 (wl := [(r0, .inr (7, [.ref k0, vl, .ref n0, .int (nI gh), .int (nI at9)])), (n0, .inr (4, [.ref n1, .ref n2, .ref n3, .int (nI z9)])), (n1, .inl (ax 1, cp, .inl fo)), (n2, .inl (ax 0, cp, .inl fl)), (n3, .inl (ax 0, cp, .inl fr)), (k0, .inr (9, [.ref k1, .ref k2, .int (nI ts), .int (nI th), .int (nI (u_102 0)), .int (nI (u_102 1)), .int (nI (u_102 2)), .int (nI (u_102 3))])), (k1, .inl (ax 1, 400, .inl tb)), (k2, .inl (ax 0, 401, .inl (fun j => nI (tk j))))]) hP hD [1, 2, 3] [0, 4, 5, 6, 7] hCs (by decide) (by decide) hk1 hFc hP1 hD1 rfl
      clear hP1 hD1
      clear hPc hDc hFc hCs hz hz1 hk1 ht hvm
      clear hP hD hS
      have hS := hS1
      obtain ⟨hP, hD⟩ := hjn
      clear hS1
      have hp9 := hs_112 hok
      have hnv2 : okf (u_102 1) (ndv fo fl fr z9) := fun _ => hnd hok
      have hlv2 : okf (u_102 1) (ndl fo fl fr l0 ∧ l0.length = z9) := fun _ => hL9 hok
      refine lv_iload_n hx hb d_Reader_part_61 rfl (lv_at hl1 0 rfl) ?_
      refine lv_if_eq (tgt := 83) hx hb d_Reader_part_62 (by decide) (fun c_115 => ?_) (fun c_115 => ?_)
      · first | exact absurd c_115 (by decide) | exact absurd (by decide) c_115
      refine lv_aload_n hx hb d_Reader_part_65 rfl (lv_at hl1 1 rfl) ?_
      refine va_get (D := D) (ci := 7) (v := .ref n0) (C := R_Reader) (T := F_Reader) (N := 5) hx hb hts i_Reader hown hK.1 hP 0 rfl rfl 2 (by decide) (hts _ wd_77) (fun _ h9 => h9) rfl d_Reader_part_66 ?_
      refine lv_bipush (v := 6) hx hb d_Reader_part_69 (by decide) ?_
      refine lv_aload_n hx hb d_Reader_part_71 rfl (lv_at hl1 1 rfl) ?_
      refine lv_iload_n hx hb d_Reader_part_72 rfl (lv_at hl1 2 rfl) ?_
      refine lv_iconst (v := 1) hx hb d_Reader_part_73 (by decide) ?_
      refine lv_iadd hx hb d_Reader_part_74 ?_
      refine lv_topi (fun z_116 ez_116 => ?_)
      have ez_116 : z_116 = nI (dp9 + 1) := ez_116.trans (nI_add dp9 1)
      subst ez_116
      obtain ⟨hPc, hDc, hFc, hCs⟩ := xw_sub3 (wc := [(r0, .inr (7, [.ref k0, vl, .ref n0, .int (nI gh), .int (nI at9)])), (k0, .inr (9, [.ref k1, .ref k2, .int (nI ts), .int (nI th), .int (nI (u_102 0)), .int (nI (u_102 1)), .int (nI (u_102 2)), .int (nI (u_102 3))])), (k1, .inl (ax 1, 400, .inl tb)), (k2, .inl (ax 0, 401, .inl (fun j => nI (tk j)))), (n0, .inr (4, [.ref n1, .ref n2, .ref n3, .int (nI z9)])), (n1, .inl (ax 1, cp, .inl fo)), (n2, .inl (ax 0, cp, .inl fl)), (n3, .inl (ax 0, cp, .inl fr))]) hP hD hS hA [0, 5, 6, 7, 1, 2, 3, 4] (by decide) rfl
      have hz := xz_of hN hS
      refine wk_know (fun hk8 hk9 => ?_)
      refine va_calli (va_runV (As := [.int (nI (dp9 + 1))]) (rest := [.int 6, .ref n0]) ⟨hx, hb, hml, hown, hts⟩ ((hrec (by first | assumption | omega)) D ax r0 k0 k1 k2 vl tb tk (u_102 0) (u_102 1) (u_102 2) (u_102 3) cn ts th gh at9 n0 n1 n2 n3 cp z9 fo fl fr MX l0 (1 :: sg) H_103.size (tsl H_103) hkz (by assumption) (by first | assumption | omega) (by first | assumption | omega) (by first | assumption | omega) (by first | assumption | omega) (by first | assumption | omega) (by first | assumption | omega) (by first | assumption | omega) (by first | assumption | omega) (by first | assumption | omega) (by first | assumption | omega) (by assumption) (by assumption) (by assumption) (by rw [dpw_1]; omega)) (xcV (n := 1) hts wd_551 wd_3 wd_548 wd_550 ps_10 rfl rfl (by decide +kernel) ⟨(show (40 + 10 * (11 - (dp9 + 1))) + 1 ≤ (40 + 10 * (11 - dp9)) by omega), (show 8 + (4 + 11) + (1600 + 400 * (11 - (dp9 + 1))) ≤ (1600 + 400 * (11 - dp9)) by omega)⟩) (xpV3 (ci := 7) (q0 := 0) (As := [.int (nI (dp9 + 1))]) hPc hK hz hDc rfl rfl) rfl rfl hl1.1 rfl (lv_room (Nat.le_of_ble_eq_true rfl)) d_Reader_part_75 ⟨(show (0) + (MX - cp) ≤ (MX - cp) by omega), (show (0) + (6 * (MX - cp)) ≤ (6 * (MX - cp)) by omega)⟩) hS (fun q _ h => hFc q h) hFc (fun r_119 u_117 t H_118 locs ht hvm hw hB hz1 hk1 hS1 => ?_)
      try dsimp only at hw
      obtain ⟨hw, hs_120, hs_121, hs_122, hs_123, hs_124, hs_125, hs_126, hs_127, hs_128, hs_129, hs_130, hs_131, hs_132, hs_133, hs_134⟩ := hw
      subst hw
      obtain ⟨x_135, x_136, x_137, x_138, hg8, hg9, hx_139, hx_140, hx_141, hx_142, hx_143, hx_144, hP1, hD1⟩ := hB
      rw [ht] at hg8 hg9 hP1
      have hjn := xw_join3 (wl := [(r0, .inr (7, [.ref k0, vl, .ref n0, .int (nI gh), .int (nI (u_117 9))])), (k0, .inr (9, [.ref k1, .ref k2, .int (nI ts), .int (nI th), .int (nI (u_117 0)), .int (nI (u_117 1)), .int (nI (u_117 2)), .int (nI (u_117 3))])), (k1, .inl (ax 1, 400, .inl tb)), (k2, .inl (ax 0, 401, .inl (fun j => nI (tk j)))), (n0, .inr (4, [.ref (u_117 4), .ref (u_117 5), .ref (u_117 6), .int (nI (u_117 7))])), ((u_117 4), .inl (ax 1, u_117 8, .inl x_135)), ((u_117 5), .inl (ax 0, u_117 8, .inl x_136)), ((u_117 6), .inl (ax 0, u_117 8, .inl x_137))]) hP hD [0, 5, 6, 7, 1, 2, 3, 4] [] hCs (by decide) (by decide) hk1 hFc hP1 hD1 rfl
      clear hP1 hD1
      clear hPc hDc hFc hCs hz hz1 hk1 ht hvm
      clear hP hD hS
      have hS := hS1
      obtain ⟨hP, hD⟩ := hjn
      clear hS1
      refine wk_narrow (k := u_117 8 - cp) (n := 6 * (u_117 8 - cp)) (by first | assumption | omega) (by first | assumption | omega) ?_
      clear hk8 hk9 hg8 hg9
      refine lv_iconst (v := (-1)) hx hb d_Reader_part_78 (by decide) ?_
      obtain ⟨hPc, hDc, hFc, hCs⟩ := xw_sub3 (wc := [(n0, .inr (4, [.ref (u_117 4), .ref (u_117 5), .ref (u_117 6), .int (nI (u_117 7))])), ((u_117 4), .inl (ax 1, u_117 8, .inl x_135)), ((u_117 5), .inl (ax 0, u_117 8, .inl x_136)), ((u_117 6), .inl (ax 0, u_117 8, .inl x_137))]) hP hD hS hA [4, 5, 6, 7] (by decide) rfl
      have hz := xz_of hN hS
      refine wk_know (fun hk8 hk9 => ?_)
      refine va_calli (va_runV (As := [.int 6, .int (nI (u_117 10)), .int (-1)]) (rest := []) ⟨hx, hb, hml, hown, hts⟩ (c_Nodes_add l D ax n0 (u_117 4) (u_117 5) (u_117 6) (u_117 8) (u_117 7) x_135 x_136 x_137 MX 6 (nI (u_117 10)) (-1) H_118.size (tsl H_118) (by first | assumption | omega) (by first | assumption | omega) (by first | assumption | omega) (by first | assumption | omega) (by first | assumption | omega) (by assumption)) (xcV (n := 3) hts wd_350 wd_5 wd_573 wd_348 wd_349 rfl rfl (by decide +kernel) ⟨(show (30) + 1 ≤ (40 + 10 * (11 - dp9)) by omega), (show 8 + (4 + 11) + (1200) ≤ (1600 + 400 * (11 - dp9)) by omega)⟩) (xpV3 (ci := 4) (q0 := 0) (As := [.int 6, .int (nI (u_117 10)), .int (-1)]) hPc hK hz hDc rfl rfl) rfl rfl hl1.1 rfl (lv_room (Nat.le_of_ble_eq_true rfl)) d_Reader_part_79 ⟨(show (u_117 8 - cp) + (MX - (u_117 8)) ≤ (MX - cp) by omega), (show (6 * (u_117 8 - cp)) + (6 * (MX - (u_117 8))) ≤ (6 * (MX - cp)) by omega)⟩) hS (fun q _ h => hFc q h) hFc (fun r_147 u_145 t H_146 locs ht hvm hw hB hz1 hk1 hS1 => ?_)
      try dsimp only at hw
      obtain ⟨hw, hs_148, hs_149, hs_150, hs_151⟩ := hw
      subst hw
      obtain ⟨x_152, x_153, x_154, hg8, hg9, hx_155, hx_156, hP1, hD1⟩ := hB
      rw [ht] at hg8 hg9 hP1
      have hjn := xw_join3 (wl := [(r0, .inr (7, [.ref k0, vl, .ref n0, .int (nI gh), .int (nI (u_117 9))])), (k0, .inr (9, [.ref k1, .ref k2, .int (nI ts), .int (nI th), .int (nI (u_117 0)), .int (nI (u_117 1)), .int (nI (u_117 2)), .int (nI (u_117 3))])), (k1, .inl (ax 1, 400, .inl tb)), (k2, .inl (ax 0, 401, .inl (fun j => nI (tk j)))), (n0, .inr (4, [.ref (u_145 0), .ref (u_145 1), .ref (u_145 2), .int (nI ((u_117 7) + 1))])), ((u_145 0), .inl (ax 1, u_145 3, .inl x_152)), ((u_145 1), .inl (ax 0, u_145 3, .inl x_153)), ((u_145 2), .inl (ax 0, u_145 3, .inl x_154))]) hP hD [4, 5, 6, 7] [0, 1, 2, 3] hCs (by decide) (by decide) hk1 hFc hP1 hD1 rfl
      clear hP1 hD1
      clear hPc hDc hFc hCs hz hz1 hk1 ht hvm
      clear hP hD hS
      have hS := hS1
      obtain ⟨hP, hD⟩ := hjn
      clear hS1
      refine wk_narrow (k := u_117 8 - cp + (u_145 3 - (u_117 8))) (n := 6 * (u_117 8 - cp) + (6 * (u_145 3 - (u_117 8)))) (by first | assumption | omega) (by first | assumption | omega) ?_
      clear hk8 hk9 hg8 hg9
      rw [← hQe]
      refine wk_know (fun hk8 hk9 => ?_)
      refine W.widen (k := MX - cp) (n := 6 * (MX - cp)) (by first | assumption | omega) (by first | assumption | omega) ?_
      obtain ⟨hP9, hD9⟩ := xw_sub2 (wc := (fun (u : Nat → Nat) (xfo : Nat → Int32) (xfl : Nat → Int32) (xfr : Nat → Int32) (xm : List sgT) => [(r0, .inr (7, [.ref k0, vl, .ref n0, .int (nI gh), .int (nI (u 9))])), (k0, .inr (9, [.ref k1, .ref k2, .int (nI ts), .int (nI th), .int (nI (u 0)), .int (nI (u 1)), .int (nI (u 2)), .int (nI (u 3))])), (k1, .inl (ax 1, 400, .inl tb)), (k2, .inl (ax 0, 401, .inl (fun j => nI (tk j)))), (n0, .inr (4, [.ref (u 4), .ref (u 5), .ref (u 6), .int (nI (u 7))])), (u 4, .inl (ax 1, u 8, .inl xfo)), (u 5, .inl (ax 0, u 8, .inl xfl)), (u 6, .inl (ax 0, u 8, .inl xfr))]) (ixn [(u_117 0), (u_117 1), (u_117 2), (u_117 3), (u_145 0), (u_145 1), (u_145 2), ((u_117 7) + 1), (u_145 3), (u_117 9), (u_117 7)]) x_152 x_153 x_154 (x_138 ++ [opS 1])) hP hD [0, 1, 2, 3, 4, 5, 6, 7] (by decide) rfl
      have hex0 : okf ((u_117 1)) (ndv x_152 x_153 x_154 (((u_117 7) + 1))) := (fun q => (hx_139 q).add hx_155 (nd_not (Nat.lt_of_succ_le (Nat.le_of_eq (hs_132 q)))))
      have hex1 : bts x_152 ((u_145 3)) := (by assumption)
      have hex2 : okf ((u_117 1)) (tsn x_152 x_153 x_154 ((u_117 7)) ≤ ((u_117 7) + 1) - z9) := (fun q => by rw [nad.not (by first | assumption | omega) (hx_139 q) (Nat.lt_of_succ_le (Nat.le_of_eq (hs_132 q))) hx_155]; have h9 := hx_141 q; omega)
      have hex3 : okf ((u_117 1)) (∀ i, i < z9 → tsn x_152 x_153 x_154 i = tsn fo fl fr i) := (fun q i hi => (nad.keep (by first | assumption | omega) (hx_139 q) hx_155 (by first | assumption | omega)).trans (hx_142 q i hi))
      have hex4 : okf ((u_117 1)) (ndl x_152 x_153 x_154 (l0 ++ (x_138 ++ [opS 1])) ∧ ((u_117 7) + 1) = z9 + (x_138 ++ [opS 1]).length) := (fun q => ⟨by rw [← List.append_assoc]; exact ndl_nt (hx_143 q).1 (by have h9 := (hx_143 q).2; rw [List.length_append, (hL9 hok).2]; omega) (hs_132 q) hx_155, by have h9 := (hx_143 q).2; rw [List.length_append]; show _ = z9 + (List.length x_138 + 1); omega⟩)
      have hex5 : cpg tk gh tf ta at9 sg (x_138 ++ [opS 1]) ((u_117 1)) ((u_117 0)) ((u_117 9)) := (cpg_not hok hrs (by first | assumption | omega) (by first | assumption | omega) (hs_112 hok) hs_113 hx_144)
      have hg8 : H_146.size ≤ s.heap.size + ((u_145 3) - cp) := by omega
      have hg9 : tsl H_146 ≤ tsl s.heap + (6 * ((u_145 3) - cp)) := by omega
      have hsp0 : rst tk ((u_117 1)) ((u_117 2)) ((u_117 3)) ((u_117 0)) cn := (by assumption)
      have hsp1 : (u_117 0) ≤ cn := (by first | assumption | omega)
      have hsp2 : (u_117 2) < 128 := (by first | assumption | omega)
      have hsp3 : (u_117 3) < 1024 := (by first | assumption | omega)
      have hsp4 : ta ≤ (u_117 0) := (by first | assumption | omega)
      have hsp5 : ftf tf ≤ ftf ((u_117 1)) := (by first | assumption | omega)
      have hsp6 : z9 ≤ ((u_117 7) + 1) := (by first | assumption | omega)
      have hsp7 : ((u_117 7) + 1) + ta ≤ z9 + (u_117 0) + ftf ((u_117 1)) := (by first | assumption | omega)
      have hsp8 : ((u_117 7) + 1) ≤ (u_145 3) := (by first | assumption | omega)
      have hsp9 : cp ≤ (u_145 3) := (by first | assumption | omega)
      have hsp10 : (u_145 3) ≤ MX := (by first | assumption | omega)
      have hsp11 : (u_117 9) ≤ 8 := (by first | assumption | omega)
      have hsp12 : okf ((u_117 1)) ((u_117 7) + 1 = ((u_117 7) + 1)) := (fun _ => by omega)
      have hsp13 : ftf ((u_117 1)) ≤ 1 := (ftf_le _)
      have hsp14 : smk ((u_117 7)) := (Or.inl (by first | assumption | omega))
      exact W.iret (v := nI (u_117 7)) hx hb hr (fun t ht hW => ⟨⟨nI (u_117 7), ixn [(u_117 0), (u_117 1), (u_117 2), (u_117 3), (u_145 0), (u_145 1), (u_145 2), ((u_117 7) + 1), (u_145 3), (u_117 9), (u_117 7)], rfl, ⟨rfl, ⟨hsp0, hsp1, hsp2, hsp3, hsp4, hsp5, hsp6, hsp7, hsp8, hsp9, hsp10, hsp11, hsp12, hsp13, hsp14⟩⟩, ⟨x_152, x_153, x_154, (x_138 ++ [opS 1]), by rw [ht]; exact hg8, by rw [ht]; exact hg9, hex0, hex1, hex2, hex3, hex4, hex5, by rw [ht]; exact hP9, hD9⟩⟩, hS.F ht⟩) hS.2.2 d_Reader_part_82
    · replace c_101 : dp9 = 10 := (nI_eq (a := dp9) (b := 10) (by first | exact Nat.lt_of_lt_of_le (by assumption) (by decide) | exact Nat.lt_of_le_of_lt (by assumption) (by decide) | omega) (by decide)).mp c_101
      have hfl := ftf_le (tf)
      refine lv_aload_n hx hb d_Reader_part_45 rfl (lv_at hl1 1 rfl) ?_
      refine va_get (D := D) (ci := 7) (v := .ref k0) (C := R_Reader) (T := F_Reader) (N := 5) hx hb hts i_Reader hown hK.1 hP 0 rfl rfl 0 (by decide) (hts _ wd_75) (fun _ h9 => h9) rfl d_Reader_part_46 ?_
      obtain ⟨hPc, hDc, hFc, hCs⟩ := xw_sub3 (wc := [(k0, .inr (9, [.ref k1, .ref k2, .int (nI ts), .int (nI th), .int (nI ta), .int (nI tf), .int (nI nx), .int (nI am)])), (k1, .inl (ax 1, 400, .inl tb)), (k2, .inl (ax 0, 401, .inl (fun j => nI (tk j))))]) hP hD hS hA [1, 2, 3] (by decide) rfl
      have hz := xz_of hN hS
      refine va_callv (va_runV (As := []) (rest := []) ⟨hx, hb, hml, hown, hts⟩ (c_K_refuse l D ax k0 k1 k2 tb tk ta tf nx am cn ts th s.heap.size hkz (by assumption) (by first | assumption | omega) (by first | assumption | omega) (by first | assumption | omega)) (xcV (n := 0) hts wd_559 wd_2 wd_556 wd_557 wd_558 rfl rfl (by decide +kernel) ⟨(show (10) + 1 ≤ (40 + 10 * (11 - dp9)) by omega), (show 8 + (1 + 11) + (400) ≤ (1600 + 400 * (11 - dp9)) by omega)⟩) (xpV (ci := 9) (q0 := 0) (As := []) hPc hK hz hDc rfl rfl) rfl rfl hl1.1 rfl (lv_room (Nat.le_of_ble_eq_true rfl)) d_Reader_part_49 ⟨(show (0) + (0) ≤ (MX - cp) by omega), (show (0) + (0) ≤ (6 * (MX - cp)) by omega)⟩) hS (fun q _ h => hFc q h) hFc (fun u_157 t H_158 locs ht hvm hw hB hz1 hk1 hS1 => ?_)
      try dsimp only at hw
      obtain ⟨hs_160, hs_161, hs_162, hs_163, hs_164, hs_165, hs_166, hs_167, hs_168, hs_169⟩ := hw
      obtain ⟨hP1, hD1⟩ := hB
      rw [ht] at hP1
      have hjn := xw_join3 (wl := [(r0, .inr (7, [.ref k0, vl, .ref n0, .int (nI gh), .int (nI at9)])), (n0, .inr (4, [.ref n1, .ref n2, .ref n3, .int (nI z9)])), (n1, .inl (ax 1, cp, .inl fo)), (n2, .inl (ax 0, cp, .inl fl)), (n3, .inl (ax 0, cp, .inl fr)), (k0, .inr (9, [.ref k1, .ref k2, .int (nI ts), .int (nI th), .int (nI (u_157 0)), .int (nI (u_157 1)), .int (nI (u_157 2)), .int (nI (u_157 3))])), (k1, .inl (ax 1, 400, .inl tb)), (k2, .inl (ax 0, 401, .inl (fun j => nI (tk j))))]) hP hD [1, 2, 3] [0, 4, 5, 6, 7] hCs (by decide) (by decide) hk1 hFc hP1 hD1 rfl
      clear hP1 hD1
      clear hPc hDc hFc hCs hz hz1 hk1 ht hvm
      clear hP hD hS
      have hS := hS1
      obtain ⟨hP, hD⟩ := hjn
      clear hS1
      refine lv_iconst (v := (-1)) hx hb d_Reader_part_52 (by decide) ?_
      rw [← hQe]
      refine wk_know (fun hk8 hk9 => ?_)
      refine W.widen (k := MX - cp) (n := 6 * (MX - cp)) (by first | assumption | omega) (by first | assumption | omega) ?_
      obtain ⟨hP9, hD9⟩ := xw_sub2 (wc := (fun (u : Nat → Nat) (xfo : Nat → Int32) (xfl : Nat → Int32) (xfr : Nat → Int32) (xm : List sgT) => [(r0, .inr (7, [.ref k0, vl, .ref n0, .int (nI gh), .int (nI (u 9))])), (k0, .inr (9, [.ref k1, .ref k2, .int (nI ts), .int (nI th), .int (nI (u 0)), .int (nI (u 1)), .int (nI (u 2)), .int (nI (u 3))])), (k1, .inl (ax 1, 400, .inl tb)), (k2, .inl (ax 0, 401, .inl (fun j => nI (tk j)))), (n0, .inr (4, [.ref (u 4), .ref (u 5), .ref (u 6), .int (nI (u 7))])), (u 4, .inl (ax 1, u 8, .inl xfo)), (u 5, .inl (ax 0, u 8, .inl xfl)), (u 6, .inl (ax 0, u 8, .inl xfr))]) (ixn [(u_157 0), (u_157 1), (u_157 2), (u_157 3), n1, n2, n3, z9, cp, at9, 4294967295]) fo fl fr ([] : List sgT)) hP hD [0, 5, 6, 7, 1, 2, 3, 4] (by decide) rfl
      have hex0 : okf ((u_157 1)) (ndv fo fl fr (z9)) := (okf.bad (by first | assumption | omega))
      have hex1 : bts fo (cp) := (by assumption)
      have hex2 : okf ((u_157 1)) (tsn fo fl fr (4294967295) ≤ z9 - z9) := (okf.bad (by first | assumption | omega))
      have hex3 : okf ((u_157 1)) (∀ i, i < z9 → tsn fo fl fr i = tsn fo fl fr i) := (okf.bad (by first | assumption | omega))
      have hex4 : okf ((u_157 1)) (ndl fo fl fr (l0 ++ ([] : List sgT)) ∧ z9 = z9 + ([] : List sgT).length) := (okf.bad (by first | assumption | omega))
      have hex5 : cpg tk gh tf ta at9 sg ([] : List sgT) ((u_157 1)) ((u_157 0)) (at9) := (cpg_ref hrs (by first | assumption | omega) (by first | assumption | omega) hs_166 hs_167 hs_169)
      have hg8 : H_158.size ≤ s.heap.size + (cp - cp) := by omega
      have hg9 : tsl H_158 ≤ tsl s.heap + (6 * (cp - cp)) := by omega
      have hsp0 : rst tk ((u_157 1)) ((u_157 2)) ((u_157 3)) ((u_157 0)) cn := (by assumption)
      have hsp1 : (u_157 0) ≤ cn := (by first | assumption | omega)
      have hsp2 : (u_157 2) < 128 := (by first | assumption | omega)
      have hsp3 : (u_157 3) < 1024 := (by first | assumption | omega)
      have hsp4 : ta ≤ (u_157 0) := (by first | assumption | omega)
      have hsp5 : ftf tf ≤ ftf ((u_157 1)) := (by first | assumption | omega)
      have hsp6 : z9 ≤ z9 := (by first | assumption | omega)
      have hsp7 : z9 + ta ≤ z9 + (u_157 0) + ftf ((u_157 1)) := (by first | assumption | omega)
      have hsp8 : z9 ≤ cp := (by first | assumption | omega)
      have hsp9 : cp ≤ cp := (by first | assumption | omega)
      have hsp10 : cp ≤ MX := (by first | assumption | omega)
      have hsp11 : at9 ≤ 8 := (by first | assumption | omega)
      have hsp12 : okf ((u_157 1)) (4294967295 + 1 = z9) := (okf.bad (by first | assumption | omega))
      have hsp13 : ftf ((u_157 1)) ≤ 1 := (ftf_le _)
      have hsp14 : smk (4294967295) := (Or.inr rfl)
      exact W.iret (v := (-1)) hx hb hr (fun t ht hW => ⟨⟨(-1), ixn [(u_157 0), (u_157 1), (u_157 2), (u_157 3), n1, n2, n3, z9, cp, at9, 4294967295], rfl, ⟨rfl, ⟨hsp0, hsp1, hsp2, hsp3, hsp4, hsp5, hsp6, hsp7, hsp8, hsp9, hsp10, hsp11, hsp12, hsp13, hsp14⟩⟩, ⟨fo, fl, fr, ([] : List sgT), by rw [ht]; exact hg8, by rw [ht]; exact hg9, hex0, hex1, hex2, hex3, hex4, hex5, by rw [ht]; exact hP9, hD9⟩⟩, hS.F ht⟩) hS.2.2 d_Reader_part_53
theorem R_part_all (l : Launch) : ∀ (k dp9 : Nat), dp9 + k = 10 → CPart l dp9
  | 0, dp9, h => fun D ax => c_R_part l dp9 (by first | assumption | omega) (fun q => by omega) D ax
  | k + 1, dp9, h => fun D ax => c_R_part l dp9 (by first | assumption | omega) (fun _ => R_part_all l k (dp9 + 1) (by first | assumption | omega)) D ax
