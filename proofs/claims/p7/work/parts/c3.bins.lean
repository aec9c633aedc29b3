theorem ps_9 : Cond.selects "TripleDesk$Reader" ⟨"TripleDesk$Reader", "ands", "(I)I"⟩ ⟨"TripleDesk$Reader", "ands", "(I)I"⟩ ∈ lw_gd := ps_in (q := (⟨"TripleDesk$Reader", "ands", "(I)I"⟩, 5)) (i := 9) (by decide +kernel)
theorem ps_10 : Cond.selects "TripleDesk$Reader" ⟨"TripleDesk$Reader", "part", "(I)I"⟩ ⟨"TripleDesk$Reader", "part", "(I)I"⟩ ∈ lw_gd := ps_in (q := (⟨"TripleDesk$Reader", "part", "(I)I"⟩, 5)) (i := 10) (by decide +kernel)
theorem wd_544 : ((Jvm.Cond.methodLink "TripleDesk$Reader" (129 : Nat) ({ cls := "TripleDesk$Reader", name := "ands", desc := "(I)I" } : Jvm.MethodName))) ∈ lw_gd := lw_gd_in (i := 544) (by decide +kernel) rfl
theorem wd_546 : ((Jvm.Cond.instanceMethod ({ cls := "TripleDesk$Reader", name := "ands", desc := "(I)I" } : Jvm.MethodName))) ∈ lw_gd := lw_gd_in (i := 546) (by decide +kernel) rfl
theorem wd_547 : ((Jvm.Cond.code ({ cls := "TripleDesk$Reader", name := "ands", desc := "(I)I" } : Jvm.MethodName) prog_9_method_11_code (4 : Nat) (Option.some Jvm.ClassFile.FieldType.int))) ∈ lw_gd := lw_gd_in (i := 547) (by decide +kernel) rfl
theorem wd_548 : ((Jvm.Cond.methodLink "TripleDesk$Reader" (135 : Nat) ({ cls := "TripleDesk$Reader", name := "part", desc := "(I)I" } : Jvm.MethodName))) ∈ lw_gd := lw_gd_in (i := 548) (by decide +kernel) rfl
theorem wd_550 : ((Jvm.Cond.instanceMethod ({ cls := "TripleDesk$Reader", name := "part", desc := "(I)I" } : Jvm.MethodName))) ∈ lw_gd := lw_gd_in (i := 550) (by decide +kernel) rfl
theorem wd_551 : ((Jvm.Cond.code ({ cls := "TripleDesk$Reader", name := "part", desc := "(I)I" } : Jvm.MethodName) prog_9_method_12_code (4 : Nat) (Option.some Jvm.ClassFile.FieldType.int))) ∈ lw_gd := lw_gd_in (i := 551) (by decide +kernel) rfl
abbrev b_Reader_part : ByteArray := prog_9_method_12_code
def y_Reader_part : MethodName := ⟨R_Reader, "part", "(I)I"⟩
def CPart (l : Launch) (dp9 : Nat) : Prop := ∀ (D : va_G) (ax : Nat → ClassId) (r0 k0 k1 k2 : Nat) (vl : Value) (tb : Nat → Int32) (tk : Nat → Nat) (ta tf nx am cn ts th : Nat) (gh at9 : Nat) (n0 n1 n2 n3 cp z9 : Nat) (fo fl fr : Nat → Int32) (MX : Nat) (l0 : List sgT) (sg : List Nat) (sz tz : Nat) (hkz : tkz tk cn) (hrs : rst tk tf nx am ta cn) (hta : ta ≤ cn) (hnx : nx < 128) (ham : am < 1024) (hgh : gh ≤ 1) (ha9 : at9 ≤ 8) (hcp : 8 ≤ cp) (hz9 : z9 ≤ cp) (hmx : cp ≤ MX) (hMX : MX ≤ 60000) (hbd : 2 * (z9 + (cn - ta) + 1) ≤ MX) (hfo : bts fo cp) (hnd : okf tf (ndv fo fl fr z9)) (hL9 : okf tf (ndl fo fl fr l0 ∧ l0.length = z9)) (hsl : dpw sg = dp9), Met l y_Reader_part (xws (.code y_Reader_part b_Reader_part 4 (some .int))) ({ frames := 40 + 10 * (11 - dp9), cells := MX - cp, slots := 6 * (MX - cp), locals := 1600 + 400 * (11 - dp9) }) (va_Pc [.ref r0, .int (nI dp9)] (xo3 D ax [(r0, .inr (7, [.ref k0, vl, .ref n0, .int (nI gh), .int (nI at9)])), (k0, .inr (9, [.ref k1, .ref k2, .int (nI ts), .int (nI th), .int (nI ta), .int (nI tf), .int (nI nx), .int (nI am)])), (k1, .inl (ax 1, 400, .inl tb)), (k2, .inl (ax 0, 401, .inl (fun j => nI (tk j)))), (n0, .inr (4, [.ref n1, .ref n2, .ref n3, .int (nI z9)])), (n1, .inl (ax 1, cp, .inl fo)), (n2, .inl (ax 0, cp, .inl fl)), (n3, .inl (ax 0, cp, .inl fr))] sz tz)) ((va_Qi (fun (r : Int32) (u : Nat → Nat) => r = nI (u 10) ∧ (rst tk (u 1) (u 2) (u 3) (u 0) cn ∧ u 0 ≤ cn ∧ u 2 < 128 ∧ u 3 < 1024 ∧ ta ≤ u 0 ∧ ftf tf ≤ ftf (u 1) ∧ z9 ≤ u 7 ∧ u 7 + ta ≤ z9 + u 0 + ftf (u 1) ∧ u 7 ≤ u 8 ∧ cp ≤ u 8 ∧ u 8 ≤ MX ∧ u 9 ≤ 8 ∧ okf (u 1) (u 10 + 1 = u 7) ∧ ftf (u 1) ≤ 1 ∧ smk (u 10))) (fun (u : Nat → Nat) (t9 : State) => ∃ xfo : Nat → Int32, ∃ xfl : Nat → Int32, ∃ xfr : Nat → Int32, ∃ xm : List sgT, (t9.heap.size ≤ sz + (u 8 - cp)) ∧ (tsl t9.heap ≤ tz + (6 * (u 8 - cp))) ∧ (okf (u 1) (ndv xfo xfl xfr (u 7))) ∧ (bts xfo (u 8)) ∧ (okf (u 1) (tsn xfo xfl xfr (u 10) ≤ u 7 - z9)) ∧ (okf (u 1) (∀ i, i < z9 → tsn xfo xfl xfr i = tsn fo fl fr i)) ∧ (okf (u 1) (ndl xfo xfl xfr (l0 ++ xm) ∧ u 7 = z9 + xm.length)) ∧ (cpg tk gh tf ta at9 sg xm (u 1) (u 0) (u 9)) ∧ va_P D classes [(r0, .inr (7, [.ref k0, vl, .ref n0, .int (nI gh), .int (nI (u 9))])), (k0, .inr (9, [.ref k1, .ref k2, .int (nI ts), .int (nI th), .int (nI (u 0)), .int (nI (u 1)), .int (nI (u 2)), .int (nI (u 3))])), (k1, .inl (ax 1, 400, .inl tb)), (k2, .inl (ax 0, 401, .inl (fun j => nI (tk j)))), (n0, .inr (4, [.ref (u 4), .ref (u 5), .ref (u 6), .int (nI (u 7))])), (u 4, .inl (ax 1, u 8, .inl xfo)), (u 5, .inl (ax 0, u 8, .inl xfl)), (u 6, .inl (ax 0, u 8, .inl xfr))] t9.heap ∧ va_D (va_A [(r0, .inr (7, [.ref k0, vl, .ref n0, .int (nI gh), .int (nI at9)])), (k0, .inr (9, [.ref k1, .ref k2, .int (nI ts), .int (nI th), .int (nI ta), .int (nI tf), .int (nI nx), .int (nI am)])), (k1, .inl (ax 1, 400, .inl tb)), (k2, .inl (ax 0, 401, .inl (fun j => nI (tk j)))), (n0, .inr (4, [.ref n1, .ref n2, .ref n3, .int (nI z9)])), (n1, .inl (ax 1, cp, .inl fo)), (n2, .inl (ax 0, cp, .inl fl)), (n3, .inl (ax 0, cp, .inl fr))] sz) [(r0, .inr (7, [.ref k0, vl, .ref n0, .int (nI gh), .int (nI (u 9))])), (k0, .inr (9, [.ref k1, .ref k2, .int (nI ts), .int (nI th), .int (nI (u 0)), .int (nI (u 1)), .int (nI (u 2)), .int (nI (u 3))])), (k1, .inl (ax 1, 400, .inl tb)), (k2, .inl (ax 0, 401, .inl (fun j => nI (tk j)))), (n0, .inr (4, [.ref (u 4), .ref (u 5), .ref (u 6), .int (nI (u 7))])), (u 4, .inl (ax 1, u 8, .inl xfo)), (u 5, .inl (ax 0, u 8, .inl xfl)), (u 6, .inl (ax 0, u 8, .inl xfr))]) (va_A [(r0, .inr (7, [.ref k0, vl, .ref n0, .int (nI gh), .int (nI at9)])), (k0, .inr (9, [.ref k1, .ref k2, .int (nI ts), .int (nI th), .int (nI ta), .int (nI tf), .int (nI nx), .int (nI am)])), (k1, .inl (ax 1, 400, .inl tb)), (k2, .inl (ax 0, 401, .inl (fun j => nI (tk j)))), (n0, .inr (4, [.ref n1, .ref n2, .ref n3, .int (nI z9)])), (n1, .inl (ax 1, cp, .inl fo)), (n2, .inl (ax 0, cp, .inl fl)), (n3, .inl (ax 0, cp, .inl fr))] sz))) (MX - cp) (6 * (MX - cp)) (va_A [(r0, .inr (7, [.ref k0, vl, .ref n0, .int (nI gh), .int (nI at9)])), (k0, .inr (9, [.ref k1, .ref k2, .int (nI ts), .int (nI th), .int (nI ta), .int (nI tf), .int (nI nx), .int (nI am)])), (k1, .inl (ax 1, 400, .inl tb)), (k2, .inl (ax 0, 401, .inl (fun j => nI (tk j)))), (n0, .inr (4, [.ref n1, .ref n2, .ref n3, .int (nI z9)])), (n1, .inl (ax 1, cp, .inl fo)), (n2, .inl (ax 0, cp, .inl fl)), (n3, .inl (ax 0, cp, .inl fr))] sz)
abbrev b_Reader_ands : ByteArray := prog_9_method_11_code
def y_Reader_ands : MethodName := ⟨R_Reader, "ands", "(I)I"⟩
theorem d_Reader_ands_0 : decode b_Reader_ands 0 = .ok (.aload_n 0, 1) := by decide +kernel
theorem d_Reader_ands_1 : decode b_Reader_ands 1 = .ok (.iload_n 1, 1) := by decide +kernel
theorem d_Reader_ands_2 : decode b_Reader_ands 2 = .ok (.invokevirtual 135, 3) := by decide +kernel
theorem d_Reader_ands_5 : decode b_Reader_ands 5 = .ok (.istore_n 2, 1) := by decide +kernel
theorem d_Reader_ands_6 : decode b_Reader_ands 6 = .ok (.iconst 0, 1) := by decide +kernel
theorem d_Reader_ands_7 : decode b_Reader_ands 7 = .ok (.istore_n 3, 1) := by decide +kernel
theorem d_Reader_ands_8 : decode b_Reader_ands 8 = .ok (.iload_n 3, 1) := by decide +kernel
theorem d_Reader_ands_9 : decode b_Reader_ands 9 = .ok (.bipush 8, 2) := by decide +kernel
theorem d_Reader_ands_11 : decode b_Reader_ands 11 = .ok (.if_icmp .ge 44, 3) := by decide +kernel
theorem d_Reader_ands_14 : decode b_Reader_ands 14 = .ok (.aload_n 0, 1) := by decide +kernel
theorem d_Reader_ands_15 : decode b_Reader_ands 15 = .ok (.getfield 9, 3) := by decide +kernel
theorem d_Reader_ands_18 : decode b_Reader_ands 18 = .ok (.getfield 52, 3) := by decide +kernel
theorem d_Reader_ands_21 : decode b_Reader_ands 21 = .ok (.bipush 38, 2) := by decide +kernel
theorem d_Reader_ands_23 : decode b_Reader_ands 23 = .ok (.if_icmp .ne 32, 3) := by decide +kernel
theorem d_Reader_ands_26 : decode b_Reader_ands 26 = .ok (.aload_n 0, 1) := by decide +kernel
theorem d_Reader_ands_27 : decode b_Reader_ands 27 = .ok (.getfield 9, 3) := by decide +kernel
theorem d_Reader_ands_30 : decode b_Reader_ands 30 = .ok (.invokevirtual 56, 3) := by decide +kernel
theorem d_Reader_ands_33 : decode b_Reader_ands 33 = .ok (.aload_n 0, 1) := by decide +kernel
theorem d_Reader_ands_34 : decode b_Reader_ands 34 = .ok (.getfield 25, 3) := by decide +kernel
theorem d_Reader_ands_37 : decode b_Reader_ands 37 = .ok (.bipush 7, 2) := by decide +kernel
theorem d_Reader_ands_39 : decode b_Reader_ands 39 = .ok (.iload_n 2, 1) := by decide +kernel
theorem d_Reader_ands_40 : decode b_Reader_ands 40 = .ok (.aload_n 0, 1) := by decide +kernel
theorem d_Reader_ands_41 : decode b_Reader_ands 41 = .ok (.iload_n 1, 1) := by decide +kernel
theorem d_Reader_ands_42 : decode b_Reader_ands 42 = .ok (.invokevirtual 135, 3) := by decide +kernel
theorem d_Reader_ands_45 : decode b_Reader_ands 45 = .ok (.invokevirtual 132, 3) := by decide +kernel
theorem d_Reader_ands_48 : decode b_Reader_ands 48 = .ok (.istore_n 2, 1) := by decide +kernel
theorem d_Reader_ands_49 : decode b_Reader_ands 49 = .ok (.iinc 3 1, 3) := by decide +kernel
theorem d_Reader_ands_52 : decode b_Reader_ands 52 = .ok (.goto (-44), 3) := by decide +kernel
theorem d_Reader_ands_55 : decode b_Reader_ands 55 = .ok (.iload_n 2, 1) := by decide +kernel
theorem d_Reader_ands_56 : decode b_Reader_ands 56 = .ok (.ireturn, 1) := by decide +kernel
set_option maxHeartbeats 40000000 in
set_option maxRecDepth 100000 in
theorem c_R_ands (l : Launch) (dp9 : Nat) (hdp : dp9 ≤ 10) (hpart : CPart l dp9) (D : va_G) (ax : Nat → ClassId) (r0 k0 k1 k2 : Nat) (vl : Value) (tb : Nat → Int32) (tk : Nat → Nat) (ta tf nx am cn ts th : Nat) (gh at9 : Nat) (n0 n1 n2 n3 cp z9 : Nat) (fo fl fr : Nat → Int32) (MX : Nat) (l0 : List sgT) (sg : List Nat) (sz tz : Nat) (hkz : tkz tk cn) (hrs : rst tk tf nx am ta cn) (hta : ta ≤ cn) (hnx : nx < 128) (ham : am < 1024) (hgh : gh ≤ 1) (ha9 : at9 ≤ 8) (hcp : 8 ≤ cp) (hz9 : z9 ≤ cp) (hmx : cp ≤ MX) (hMX : MX ≤ 60000) (hbd : 2 * (z9 + (cn - ta) + 1) ≤ MX) (hfo : bts fo cp) (hnd : okf tf (ndv fo fl fr z9)) (hL9 : okf tf (ndl fo fl fr l0 ∧ l0.length = z9)) (hsl : dpw sg = dp9) (hpn : hda 2 sg) : Met l y_Reader_ands (xws (.code y_Reader_ands b_Reader_ands 4 (some .int))) ({ frames := 42 + 10 * (11 - dp9), cells := MX - cp, slots := 6 * (MX - cp), locals := 1700 + 400 * (11 - dp9) }) (va_Pc [.ref r0, .int (nI dp9)] (xo3 D ax [(r0, .inr (7, [.ref k0, vl, .ref n0, .int (nI gh), .int (nI at9)])), (k0, .inr (9, [.ref k1, .ref k2, .int (nI ts), .int (nI th), .int (nI ta), .int (nI tf), .int (nI nx), .int (nI am)])), (k1, .inl (ax 1, 400, .inl tb)), (k2, .inl (ax 0, 401, .inl (fun j => nI (tk j)))), (n0, .inr (4, [.ref n1, .ref n2, .ref n3, .int (nI z9)])), (n1, .inl (ax 1, cp, .inl fo)), (n2, .inl (ax 0, cp, .inl fl)), (n3, .inl (ax 0, cp, .inl fr))] sz tz)) ((va_Qi (fun (r : Int32) (u : Nat → Nat) => r = nI (u 10) ∧ (rst tk (u 1) (u 2) (u 3) (u 0) cn ∧ u 0 ≤ cn ∧ u 2 < 128 ∧ u 3 < 1024 ∧ ta ≤ u 0 ∧ ftf tf ≤ ftf (u 1) ∧ z9 ≤ u 7 ∧ u 7 + ta ≤ z9 + u 0 + ftf (u 1) ∧ u 7 ≤ u 8 ∧ cp ≤ u 8 ∧ u 8 ≤ MX ∧ u 9 ≤ 8 ∧ okf (u 1) (u 10 + 1 = u 7) ∧ ftf (u 1) ≤ 1 ∧ smk (u 10) ∧ okf (u 1) (¬ u 2 = 38))) (fun (u : Nat → Nat) (t9 : State) => ∃ xfo : Nat → Int32, ∃ xfl : Nat → Int32, ∃ xfr : Nat → Int32, ∃ xm : List sgT, (t9.heap.size ≤ sz + (u 8 - cp)) ∧ (tsl t9.heap ≤ tz + (6 * (u 8 - cp))) ∧ (okf (u 1) (ndv xfo xfl xfr (u 7))) ∧ (bts xfo (u 8)) ∧ (okf (u 1) (tsn xfo xfl xfr (u 10) ≤ u 7 - z9)) ∧ (okf (u 1) (∀ i, i < z9 → tsn xfo xfl xfr i = tsn fo fl fr i)) ∧ (okf (u 1) (ndl xfo xfl xfr (l0 ++ xm) ∧ u 7 = z9 + xm.length)) ∧ (cpg tk gh tf ta at9 sg xm (u 1) (u 0) (u 9)) ∧ va_P D classes [(r0, .inr (7, [.ref k0, vl, .ref n0, .int (nI gh), .int (nI (u 9))])), (k0, .inr (9, [.ref k1, .ref k2, .int (nI ts), .int (nI th), .int (nI (u 0)), .int (nI (u 1)), .int (nI (u 2)), .int (nI (u 3))])), (k1, .inl (ax 1, 400, .inl tb)), (k2, .inl (ax 0, 401, .inl (fun j => nI (tk j)))), (n0, .inr (4, [.ref (u 4), .ref (u 5), .ref (u 6), .int (nI (u 7))])), (u 4, .inl (ax 1, u 8, .inl xfo)), (u 5, .inl (ax 0, u 8, .inl xfl)), (u 6, .inl (ax 0, u 8, .inl xfr))] t9.heap ∧ va_D (va_A [(r0, .inr (7, [.ref k0, vl, .ref n0, .int (nI gh), .int (nI at9)])), (k0, .inr (9, [.ref k1, .ref k2, .int (nI ts), .int (nI th), .int (nI ta), .int (nI tf), .int (nI nx), .int (nI am)])), (k1, .inl (ax 1, 400, .inl tb)), (k2, .inl (ax 0, 401, .inl (fun j => nI (tk j)))), (n0, .inr (4, [.ref n1, .ref n2, .ref n3, .int (nI z9)])), (n1, .inl (ax 1, cp, .inl fo)), (n2, .inl (ax 0, cp, .inl fl)), (n3, .inl (ax 0, cp, .inl fr))] sz) [(r0, .inr (7, [.ref k0, vl, .ref n0, .int (nI gh), .int (nI (u 9))])), (k0, .inr (9, [.ref k1, .ref k2, .int (nI ts), .int (nI th), .int (nI (u 0)), .int (nI (u 1)), .int (nI (u 2)), .int (nI (u 3))])), (k1, .inl (ax 1, 400, .inl tb)), (k2, .inl (ax 0, 401, .inl (fun j => nI (tk j)))), (n0, .inr (4, [.ref (u 4), .ref (u 5), .ref (u 6), .int (nI (u 7))])), (u 4, .inl (ax 1, u 8, .inl xfo)), (u 5, .inl (ax 0, u 8, .inl xfl)), (u 6, .inl (ax 0, u 8, .inl xfr))]) (va_A [(r0, .inr (7, [.ref k0, vl, .ref n0, .int (nI gh), .int (nI at9)])), (k0, .inr (9, [.ref k1, .ref k2, .int (nI ts), .int (nI th), .int (nI ta), .int (nI tf), .int (nI nx), .int (nI am)])), (k1, .inl (ax 1, 400, .inl tb)), (k2, .inl (ax 0, 401, .inl (fun j => nI (tk j)))), (n0, .inr (4, [.ref n1, .ref n2, .ref n3, .int (nI z9)])), (n1, .inl (ax 1, cp, .inl fo)), (n2, .inl (ax 0, cp, .inl fl)), (n3, .inl (ax 0, cp, .inl fr))] sz))) (MX - cp) (6 * (MX - cp)) (va_A [(r0, .inr (7, [.ref k0, vl, .ref n0, .int (nI gh), .int (nI at9)])), (k0, .inr (9, [.ref k1, .ref k2, .int (nI ts), .int (nI th), .int (nI ta), .int (nI tf), .int (nI nx), .int (nI am)])), (k1, .inl (ax 1, 400, .inl tb)), (k2, .inl (ax 0, 401, .inl (fun j => nI (tk j)))), (n0, .inr (4, [.ref n1, .ref n2, .ref n3, .int (nI z9)])), (n1, .inl (ax 1, cp, .inl fo)), (n2, .inl (ax 0, cp, .inl fl)), (n3, .inl (ax 0, cp, .inl fr))] sz) := by
  refine Met.ofW (cc := b_Reader_ands) (maxL := 4) (ret := (some .int)) (by decide) rfl ?_
  intro p e s m args below meth c s₁ B hml hv
  obtain ⟨rfl, ⟨hsz, hP, hK, hD0⟩, htz⟩ := hv
  have hx := B.exec
  have hb := B.bytes
  have hr := B.returns
  have hts := xw_hts B.pre
  have hown : s.vm.findClass R_Reader = some m.cls := findClass_of_methodNamed B.named
  have hlocks := B.notSynchronized
  subst hsz
  subst htz
  have hD := hD0.self (sz := s.heap.size)
  have hN := xz_entry hP
  generalize hAe : va_A [(r0, .inr (7, [.ref k0, vl, .ref n0, .int (nI gh), .int (nI at9)])), (k0, .inr (9, [.ref k1, .ref k2, .int (nI ts), .int (nI th), .int (nI ta), .int (nI tf), .int (nI nx), .int (nI am)])), (k1, .inl (ax 1, 400, .inl tb)), (k2, .inl (ax 0, 401, .inl (fun j => nI (tk j)))), (n0, .inr (4, [.ref n1, .ref n2, .ref n3, .int (nI z9)])), (n1, .inl (ax 1, cp, .inl fo)), (n2, .inl (ax 0, cp, .inl fl)), (n3, .inl (ax 0, cp, .inl fr))] s.heap.size = A at hD hN ⊢
  have hA : ∀ q : Nat, s.heap.size ≤ q → A q := fun q h => by rw [← hAe]; exact Or.inr h
  have hS : va_S A s.heap s.heap [] := va_S.rf
  have hl0 := lv_entry ([.ref r0, .int (nI dp9)]) (n := 4) (Nat.le_of_ble_eq_true rfl)
  rw [lg_entry_eq]
  generalize (lg_sl ([.ref r0, .int (nI dp9)]) ++ List.replicate (4 - (lg_sl ([.ref r0, .int (nI dp9)])).length) Slot.unset).toArray = ls at hl0 ⊢
  have hl1 : lv_has ls 4 [(0, .ref r0), (1, .int (nI dp9))] := hl0
  refine xw_gen (fun Z9 hQe => ?_)
  refine lv_aload_n hx hb d_Reader_ands_0 rfl (lv_at hl1 0 rfl) ?_
  refine lv_iload_n hx hb d_Reader_ands_1 rfl (lv_at hl1 1 rfl) ?_
  obtain ⟨hPc, hDc, hFc, hCs⟩ := xw_sub3 (wc := [(r0, .inr (7, [.ref k0, vl, .ref n0, .int (nI gh), .int (nI at9)])), (k0, .inr (9, [.ref k1, .ref k2, .int (nI ts), .int (nI th), .int (nI ta), .int (nI tf), .int (nI nx), .int (nI am)])), (k1, .inl (ax 1, 400, .inl tb)), (k2, .inl (ax 0, 401, .inl (fun j => nI (tk j)))), (n0, .inr (4, [.ref n1, .ref n2, .ref n3, .int (nI z9)])), (n1, .inl (ax 1, cp, .inl fo)), (n2, .inl (ax 0, cp, .inl fl)), (n3, .inl (ax 0, cp, .inl fr))]) hP hD hS hA [0, 1, 2, 3, 4, 5, 6, 7] (by decide) rfl
  have hz := xz_of hN hS
  refine wk_know (fun hk8 hk9 => ?_)
  refine va_calli (va_runV (As := [.int (nI dp9)]) (rest := []) ⟨hx, hb, hml, hown, hts⟩ (hpart D ax r0 k0 k1 k2 vl tb tk ta tf nx am cn ts th gh at9 n0 n1 n2 n3 cp z9 fo fl fr MX l0 sg s.heap.size (tsl s.heap) hkz (by assumption) (by first | assumption | omega) (by first | assumption | omega) (by first | assumption | omega) (by first | assumption | omega) (by first | assumption | omega) (by first | assumption | omega) (by first | assumption | omega) (by first | assumption | omega) (by first | assumption | omega) (by first | assumption | omega) (by assumption) (by assumption) (by assumption) hsl) (xcV (n := 1) hts wd_551 wd_3 wd_548 wd_550 ps_10 rfl rfl (by decide +kernel) ⟨(show (40 + 10 * (11 - dp9)) + 1 ≤ (42 + 10 * (11 - dp9)) by omega), (show 8 + (4 + 11) + (1600 + 400 * (11 - dp9)) ≤ (1700 + 400 * (11 - dp9)) by omega)⟩) (xpV3 (ci := 7) (q0 := 0) (As := [.int (nI dp9)]) hPc hK hz hDc rfl rfl) rfl rfl hl1.1 rfl (lv_room (Nat.le_of_ble_eq_true rfl)) d_Reader_ands_2 ⟨(show (0) + (MX - cp) ≤ (MX - cp) by omega), (show (0) + (6 * (MX - cp)) ≤ (6 * (MX - cp)) by omega)⟩) hS (fun q _ h => hFc q h) hFc (fun r_3 u_1 t H_2 locs ht hvm hw hB hz1 hk1 hS1 => ?_)
  try dsimp only at hw
  obtain ⟨hw, hs_4, hs_5, hs_6, hs_7, hs_8, hs_9, hs_10, hs_11, hs_12, hs_13, hs_14, hs_15, hs_16, hs_17, hs_18⟩ := hw
  subst hw
  obtain ⟨x_19, x_20, x_21, x_22, hg8, hg9, hx_23, hx_24, hx_25, hx_26, hx_27, hx_28, hP1, hD1⟩ := hB
  rw [ht] at hg8 hg9 hP1
  have hjn := xw_join3 (wl := [(r0, .inr (7, [.ref k0, vl, .ref n0, .int (nI gh), .int (nI (u_1 9))])), (k0, .inr (9, [.ref k1, .ref k2, .int (nI ts), .int (nI th), .int (nI (u_1 0)), .int (nI (u_1 1)), .int (nI (u_1 2)), .int (nI (u_1 3))])), (k1, .inl (ax 1, 400, .inl tb)), (k2, .inl (ax 0, 401, .inl (fun j => nI (tk j)))), (n0, .inr (4, [.ref (u_1 4), .ref (u_1 5), .ref (u_1 6), .int (nI (u_1 7))])), ((u_1 4), .inl (ax 1, u_1 8, .inl x_19)), ((u_1 5), .inl (ax 0, u_1 8, .inl x_20)), ((u_1 6), .inl (ax 0, u_1 8, .inl x_21))]) hP hD [0, 1, 2, 3, 4, 5, 6, 7] [] hCs (by decide) (by decide) hk1 hFc hP1 hD1 rfl
  clear hP1 hD1
  clear hPc hDc hFc hCs hz hz1 hk1 ht hvm
  clear hP hD hS
  have hS := hS1
  obtain ⟨hP, hD⟩ := hjn
  clear hS1
  refine wk_narrow (k := u_1 8 - cp) (n := 6 * (u_1 8 - cp)) (by first | assumption | omega) (by first | assumption | omega) ?_
  clear hk8 hk9 hg8 hg9
  refine lv_istore_n (lv' := [(2, .int (nI (u_1 10))), (0, .ref r0), (1, .int (nI dp9))]) hx hb d_Reader_ands_5 rfl hl1 (by decide) rfl (fun ls hl2 => ?_)
  clear hl1; have hl1 := hl2; clear hl2
  refine lv_iconst (v := 0) hx hb d_Reader_ands_6 (by decide) ?_
  refine lv_istore_n (lv' := [(3, .int 0), (2, .int (nI (u_1 10))), (0, .ref r0), (1, .int (nI dp9))]) hx hb d_Reader_ands_7 rfl hl1 (by decide) rfl (fun ls hl2 => ?_)
  clear hl1; have hl1 := hl2; clear hl2
  suffices key_29 : ∀ (k : Nat) (i1 ta1 tf1 nx1 am1 at1 z1 cp1 q1 h1 h2 h3 : Nat) (fo1 fl1 fr1 : Nat → Int32) (m1 : List sgT), 8 - i1 < k → i1 ≤ 8 → rst tk tf1 nx1 am1 ta1 cn → ta1 ≤ cn → nx1 < 128 → am1 < 1024 → ta ≤ ta1 → ftf tf ≤ ftf tf1 → z9 ≤ z1 → z1 + ta ≤ z9 + ta1 + ftf tf1 → z1 ≤ cp1 → cp ≤ cp1 → cp1 ≤ MX → at1 ≤ 8 → okf tf1 (q1 + 1 = z1) → okf tf1 (ndv fo1 fl1 fr1 z1) → bts fo1 cp1 → ftf tf1 ≤ 1 → okf tf1 (tsn fo1 fl1 fr1 q1 ≤ z1 - z9) → okf tf1 (∀ i, i < z9 → tsn fo1 fl1 fr1 i = tsn fo fl fr i) → smk q1 → cpg tk gh tf ta at9 sg m1 tf1 ta1 at1 → okf tf1 (at9 + 1 + i1 ≤ at1) → okf tf1 (ndl fo1 fl1 fr1 (l0 ++ m1) ∧ z1 = z9 + m1.length) → ∀ (H : Heap) (locs : List Loc) (ls : Array Slot), va_P D classes [(r0, .inr (7, [.ref k0, vl, .ref n0, .int (nI gh), .int (nI at1)])), (k0, .inr (9, [.ref k1, .ref k2, .int (nI ts), .int (nI th), .int (nI ta1), .int (nI tf1), .int (nI nx1), .int (nI am1)])), (k1, .inl (ax 1, 400, .inl tb)), (k2, .inl (ax 0, 401, .inl (fun j => nI (tk j)))), (n0, .inr (4, [.ref h1, .ref h2, .ref h3, .int (nI z1)])), (h1, .inl (ax 1, cp1, .inl fo1)), (h2, .inl (ax 0, cp1, .inl fl1)), (h3, .inl (ax 0, cp1, .inl fr1))] H → va_D A [(r0, .inr (7, [.ref k0, vl, .ref n0, .int (nI gh), .int (nI at1)])), (k0, .inr (9, [.ref k1, .ref k2, .int (nI ts), .int (nI th), .int (nI ta1), .int (nI tf1), .int (nI nx1), .int (nI am1)])), (k1, .inl (ax 1, 400, .inl tb)), (k2, .inl (ax 0, 401, .inl (fun j => nI (tk j)))), (n0, .inr (4, [.ref h1, .ref h2, .ref h3, .int (nI z1)])), (h1, .inl (ax 1, cp1, .inl fo1)), (h2, .inl (ax 0, cp1, .inl fl1)), (h3, .inl (ax 0, cp1, .inl fr1))] → va_S A s.heap H locs → lv_has ls 4 [(0, .ref r0), (1, .int (nI dp9)), (2, .int (nI q1)), (3, .int (nI i1))] → W p l e (headSpec (xws (.code y_Reader_ands b_Reader_ands 4 (some .int))) ({ frames := 42 + 10 * (11 - dp9), cells := MX - cp, slots := 6 * (MX - cp), locals := 1700 + 400 * (11 - dp9) })).room s m ([.ref r0, .int (nI dp9)] : List Value).toArray below meth c H locs (cp1 - cp) (6 * (cp1 - cp)) Z9 (F0 m 8 ls []) from key_29 (8 - 0 + 1) 0 (u_1 0) (u_1 1) (u_1 2) (u_1 3) (u_1 9) (u_1 7) (u_1 8) (u_1 10) (u_1 4) (u_1 5) (u_1 6) x_19 x_20 x_21 x_22 (Nat.lt_succ_self _) (by first | assumption | omega) hs_4 (by first | assumption | omega) (by first | assumption | omega) (by first | assumption | omega) (by first | assumption | omega) (by first | assumption | omega) (by first | assumption | omega) (by first | assumption | omega) (by first | assumption | omega) (by first | assumption | omega) (by first | assumption | omega) (by first | assumption | omega) hs_16 hx_23 hx_24 (by first | assumption | omega) hx_25 hx_26 hs_18 hx_28 (fun q => by have h9 := cpg.ge hx_28 (okf.of hs_9 q) q; omega) hx_27 _ _ _ (hP) (hD) hS (lv_sub hl1 [2, 3, 1, 0] rfl)
  intro k_30
  induction k_30 with
  | zero =>
    intro i1 ta1 tf1 nx1 am1 at1 z1 cp1 q1 h1 h2 h3 fo1 fl1 fr1 m1 hk_32
    exact absurd hk_32 (Nat.not_lt_zero _)
  | succ k_30 ih_31 =>
    clear hP hD hS hl1
    intro i1 ta1 tf1 nx1 am1 at1 z1 cp1 q1 h1 h2 h3 fo1 fl1 fr1 m1 hk_32 g0 ga gb gc gd ge gf gg gh1 gi gj gk gl gm gn go gp gq gr gs gt gu gw H locs ls hP hD hS hl1
    refine lv_iload_n hx hb d_Reader_ands_8 rfl (lv_at hl1 3 rfl) ?_
    refine lv_bipush (v := 8) hx hb d_Reader_ands_9 (by decide) ?_
    refine lv_icmp_ge (tgt := 55) hx hb d_Reader_ands_11 (by decide) (fun c_33 => ?_) (fun c_33 => ?_)
    · replace c_33 : 8 ≤ i1 := (nI_leI (a := 8) (b := i1) (by decide) (by first | exact Nat.lt_of_lt_of_le (by assumption) (by decide) | exact Nat.lt_of_le_of_lt (by assumption) (by decide) | omega)).mp c_33
      refine lv_iload_n hx hb d_Reader_ands_55 rfl (lv_at hl1 2 rfl) ?_
      rw [← hQe]
      refine wk_know (fun hk8 hk9 => ?_)
      refine W.widen (k := MX - cp) (n := 6 * (MX - cp)) (by first | assumption | omega) (by first | assumption | omega) ?_
      obtain ⟨hP9, hD9⟩ := xw_sub2 (wc := (fun (u : Nat → Nat) (xfo : Nat → Int32) (xfl : Nat → Int32) (xfr : Nat → Int32) (xm : List sgT) => [(r0, .inr (7, [.ref k0, vl, .ref n0, .int (nI gh), .int (nI (u 9))])), (k0, .inr (9, [.ref k1, .ref k2, .int (nI ts), .int (nI th), .int (nI (u 0)), .int (nI (u 1)), .int (nI (u 2)), .int (nI (u 3))])), (k1, .inl (ax 1, 400, .inl tb)), (k2, .inl (ax 0, 401, .inl (fun j => nI (tk j)))), (n0, .inr (4, [.ref (u 4), .ref (u 5), .ref (u 6), .int (nI (u 7))])), (u 4, .inl (ax 1, u 8, .inl xfo)), (u 5, .inl (ax 0, u 8, .inl xfl)), (u 6, .inl (ax 0, u 8, .inl xfr))]) (ixn [ta1, tf1, nx1, am1, h1, h2, h3, z1, cp1, at1, q1]) fo1 fl1 fr1 m1) hP hD [0, 1, 2, 3, 4, 5, 6, 7] (by decide) rfl
      have hex0 : okf (tf1) (ndv fo1 fl1 fr1 (z1)) := (by assumption)
      have hex1 : bts fo1 (cp1) := (by assumption)
      have hex2 : okf (tf1) (tsn fo1 fl1 fr1 (q1) ≤ z1 - z9) := (by assumption)
      have hex3 : okf (tf1) (∀ i, i < z9 → tsn fo1 fl1 fr1 i = tsn fo fl fr i) := (by assumption)
      have hex4 : okf (tf1) (ndl fo1 fl1 fr1 (l0 ++ m1) ∧ z1 = z9 + m1.length) := gw
      have hex5 : cpg tk gh tf ta at9 sg m1 (tf1) (ta1) (at1) := gt
      have hg8 : H.size ≤ s.heap.size + (cp1 - cp) := by omega
      have hg9 : tsl H ≤ tsl s.heap + (6 * (cp1 - cp)) := by omega
      have hsp0 : rst tk (tf1) (nx1) (am1) (ta1) cn := (by assumption)
      have hsp1 : ta1 ≤ cn := (by first | assumption | omega)
      have hsp2 : nx1 < 128 := (by first | assumption | omega)
      have hsp3 : am1 < 1024 := (by first | assumption | omega)
      have hsp4 : ta ≤ ta1 := (by first | assumption | omega)
      have hsp5 : ftf tf ≤ ftf (tf1) := (by first | assumption | omega)
      have hsp6 : z9 ≤ z1 := (by first | assumption | omega)
      have hsp7 : z1 + ta ≤ z9 + ta1 + ftf (tf1) := (by first | assumption | omega)
      have hsp8 : z1 ≤ cp1 := (by first | assumption | omega)
      have hsp9 : cp ≤ cp1 := (by first | assumption | omega)
      have hsp10 : cp1 ≤ MX := (by first | assumption | omega)
      have hsp11 : at1 ≤ 8 := (by first | assumption | omega)
      have hsp12 : okf (tf1) (q1 + 1 = z1) := (by assumption)
      have hsp13 : ftf (tf1) ≤ 1 := (by first | assumption | omega)
      have hsp14 : smk (q1) := (by assumption)
      have hsp15 : okf (tf1) (¬ nx1 = 38) := (fun q => by have h9 := gu q; omega)
      exact W.iret (v := nI q1) hx hb hr (fun t ht hW => ⟨⟨nI q1, ixn [ta1, tf1, nx1, am1, h1, h2, h3, z1, cp1, at1, q1], rfl, ⟨rfl, ⟨hsp0, hsp1, hsp2, hsp3, hsp4, hsp5, hsp6, hsp7, hsp8, hsp9, hsp10, hsp11, hsp12, hsp13, hsp14, hsp15⟩⟩, ⟨fo1, fl1, fr1, m1, by rw [ht]; exact hg8, by rw [ht]; exact hg9, hex0, hex1, hex2, hex3, hex4, hex5, by rw [ht]; exact hP9, hD9⟩⟩, hS.F ht⟩) hS.2.2 d_Reader_ands_56
    · replace c_33 : ¬ 8 ≤ i1 := fun hq9 => c_33 ((nI_leI (a := 8) (b := i1) (by decide) (by first | exact Nat.lt_of_lt_of_le (by assumption) (by decide) | exact Nat.lt_of_le_of_lt (by assumption) (by decide) | omega)).mpr hq9)
      refine lv_aload_n hx hb d_Reader_ands_14 rfl (lv_at hl1 0 rfl) ?_
      refine va_get (D := D) (ci := 7) (v := .ref k0) (C := R_Reader) (T := F_Reader) (N := 5) hx hb hts i_Reader hown hK.1 hP 0 rfl rfl 0 (by decide) (hts _ wd_75) (fun _ h9 => h9) rfl d_Reader_ands_15 ?_
      refine va_get (D := D) (ci := 9) (v := .int (nI nx1)) (C := R_Tokens) (T := F_Tokens) (N := 8) hx hb hts i_Tokens hown hK.1 hP 1 rfl rfl 6 (by decide) (hts _ wd_47) (fun _ h9 => h9) rfl d_Reader_ands_18 ?_
      refine lv_bipush (v := 38) hx hb d_Reader_ands_21 (by decide) ?_
      refine lv_icmp_ne (tgt := 55) hx hb d_Reader_ands_23 (by decide) (fun c_34 => ?_) (fun c_34 => ?_)
      · replace c_34 : ¬ nx1 = 38 := fun hq9 => c_34 ((nI_eq (a := nx1) (b := 38) (by first | exact Nat.lt_of_lt_of_le (by assumption) (by decide) | exact Nat.lt_of_le_of_lt (by assumption) (by decide) | omega) (by decide)).mpr hq9)
        refine lv_iload_n hx hb d_Reader_ands_55 rfl (lv_at hl1 2 rfl) ?_
        rw [← hQe]
        refine wk_know (fun hk8 hk9 => ?_)
        refine W.widen (k := MX - cp) (n := 6 * (MX - cp)) (by first | assumption | omega) (by first | assumption | omega) ?_
        obtain ⟨hP9, hD9⟩ := xw_sub2 (wc := (fun (u : Nat → Nat) (xfo : Nat → Int32) (xfl : Nat → Int32) (xfr : Nat → Int32) (xm : List sgT) => [(r0, .inr (7, [.ref k0, vl, .ref n0, .int (nI gh), .int (nI (u 9))])), (k0, .inr (9, [.ref k1, .ref k2, .int (nI ts), .int (nI th), .int (nI (u 0)), .int (nI (u 1)), .int (nI (u 2)), .int (nI (u 3))])), (k1, .inl (ax 1, 400, .inl tb)), (k2, .inl (ax 0, 401, .inl (fun j => nI (tk j)))), (n0, .inr (4, [.ref (u 4), .ref (u 5), .ref (u 6), .int (nI (u 7))])), (u 4, .inl (ax 1, u 8, .inl xfo)), (u 5, .inl (ax 0, u 8, .inl xfl)), (u 6, .inl (ax 0, u 8, .inl xfr))]) (ixn [ta1, tf1, nx1, am1, h1, h2, h3, z1, cp1, at1, q1]) fo1 fl1 fr1 m1) hP hD [0, 1, 2, 3, 4, 5, 6, 7] (by decide) rfl
        have hex0 : okf (tf1) (ndv fo1 fl1 fr1 (z1)) := (by assumption)
        have hex1 : bts fo1 (cp1) := (by assumption)
        have hex2 : okf (tf1) (tsn fo1 fl1 fr1 (q1) ≤ z1 - z9) := (by assumption)
        have hex3 : okf (tf1) (∀ i, i < z9 → tsn fo1 fl1 fr1 i = tsn fo fl fr i) := (by assumption)
        have hex4 : okf (tf1) (ndl fo1 fl1 fr1 (l0 ++ m1) ∧ z1 = z9 + m1.length) := gw
        have hex5 : cpg tk gh tf ta at9 sg m1 (tf1) (ta1) (at1) := gt
        have hg8 : H.size ≤ s.heap.size + (cp1 - cp) := by omega
        have hg9 : tsl H ≤ tsl s.heap + (6 * (cp1 - cp)) := by omega
        have hsp0 : rst tk (tf1) (nx1) (am1) (ta1) cn := (by assumption)
        have hsp1 : ta1 ≤ cn := (by first | assumption | omega)
        have hsp2 : nx1 < 128 := (by first | assumption | omega)
        have hsp3 : am1 < 1024 := (by first | assumption | omega)
        have hsp4 : ta ≤ ta1 := (by first | assumption | omega)
        have hsp5 : ftf tf ≤ ftf (tf1) := (by first | assumption | omega)
        have hsp6 : z9 ≤ z1 := (by first | assumption | omega)
        have hsp7 : z1 + ta ≤ z9 + ta1 + ftf (tf1) := (by first | assumption | omega)
        have hsp8 : z1 ≤ cp1 := (by first | assumption | omega)
        have hsp9 : cp ≤ cp1 := (by first | assumption | omega)
        have hsp10 : cp1 ≤ MX := (by first | assumption | omega)
        have hsp11 : at1 ≤ 8 := (by first | assumption | omega)
        have hsp12 : okf (tf1) (q1 + 1 = z1) := (by assumption)
        have hsp13 : ftf (tf1) ≤ 1 := (by first | assumption | omega)
        have hsp14 : smk (q1) := (by assumption)
        have hsp15 : okf (tf1) (¬ nx1 = 38) := (fun q => by have h9 := gu q; omega)
        exact W.iret (v := nI q1) hx hb hr (fun t ht hW => ⟨⟨nI q1, ixn [ta1, tf1, nx1, am1, h1, h2, h3, z1, cp1, at1, q1], rfl, ⟨rfl, ⟨hsp0, hsp1, hsp2, hsp3, hsp4, hsp5, hsp6, hsp7, hsp8, hsp9, hsp10, hsp11, hsp12, hsp13, hsp14, hsp15⟩⟩, ⟨fo1, fl1, fr1, m1, by rw [ht]; exact hg8, by rw [ht]; exact hg9, hex0, hex1, hex2, hex3, hex4, hex5, by rw [ht]; exact hP9, hD9⟩⟩, hS.F ht⟩) hS.2.2 d_Reader_ands_56
      · replace c_34 : nx1 = 38 := (nI_eq (a := nx1) (b := 38) (by first | exact Nat.lt_of_lt_of_le (by assumption) (by decide) | exact Nat.lt_of_le_of_lt (by assumption) (by decide) | omega) (by decide)).mp c_34
        obtain ⟨hok, hts9⟩ := ga.go (by first | assumption | omega) (by first | assumption | omega)
        have hlt9 : ta1 < cn := hts9.1.resolve_left (by first | assumption | omega)
        have hq0 := gm hok
        have hnv := gn hok
        have hf9 : ftf tf1 = 0 := by rw [hok]; rfl
        obtain ⟨hw9, hw8⟩ := gw hok
        refine lv_aload_n hx hb d_Reader_ands_26 rfl (lv_at hl1 0 rfl) ?_
        refine va_get (D := D) (ci := 7) (v := .ref k0) (C := R_Reader) (T := F_Reader) (N := 5) hx hb hts i_Reader hown hK.1 hP 0 rfl rfl 0 (by decide) (hts _ wd_75) (fun _ h9 => h9) rfl d_Reader_ands_27 ?_
        obtain ⟨hPc, hDc, hFc, hCs⟩ := xw_sub3 (wc := [(k0, .inr (9, [.ref k1, .ref k2, .int (nI ts), .int (nI th), .int (nI ta1), .int (nI tf1), .int (nI nx1), .int (nI am1)])), (k1, .inl (ax 1, 400, .inl tb)), (k2, .inl (ax 0, 401, .inl (fun j => nI (tk j))))]) hP hD hS hA [1, 2, 3] (by decide) rfl
        have hz := xz_of hN hS
        refine va_callv (va_runV (As := []) (rest := []) ⟨hx, hb, hml, hown, hts⟩ (c_K_pass l D ax k0 k1 k2 tb tk ta1 tf1 nx1 am1 cn ts th H.size hkz (by assumption) (by first | assumption | omega) (by first | assumption | omega) (by first | assumption | omega) (by first | assumption | omega)) (xcV (n := 0) hts wd_531 wd_2 wd_564 wd_529 wd_530 rfl rfl (by decide +kernel) ⟨(show (10) + 1 ≤ (42 + 10 * (11 - dp9)) by omega), (show 8 + (1 + 11) + (400) ≤ (1700 + 400 * (11 - dp9)) by omega)⟩) (xpV (ci := 9) (q0 := 0) (As := []) hPc hK hz hDc rfl rfl) rfl rfl hl1.1 rfl (lv_room (Nat.le_of_ble_eq_true rfl)) d_Reader_ands_30 ⟨(show (cp1 - cp) + (0) ≤ (MX - cp) by omega), (show (6 * (cp1 - cp)) + (0) ≤ (6 * (MX - cp)) by omega)⟩) hS (fun q _ h => hFc q h) hFc (fun u_35 t H_36 locs ht hvm hw hB hz1 hk1 hS1 => ?_)
        try dsimp only at hw
        obtain ⟨hs_38, hs_39, hs_40, hs_41, hs_42, hs_43, hs_44, hs_45, hs_46, hs_47⟩ := hw
        obtain ⟨hP1, hD1⟩ := hB
        rw [ht] at hP1
        have hjn := xw_join3 (wl := [(r0, .inr (7, [.ref k0, vl, .ref n0, .int (nI gh), .int (nI at1)])), (n0, .inr (4, [.ref h1, .ref h2, .ref h3, .int (nI z1)])), (h1, .inl (ax 1, cp1, .inl fo1)), (h2, .inl (ax 0, cp1, .inl fl1)), (h3, .inl (ax 0, cp1, .inl fr1)), (k0, .inr (9, [.ref k1, .ref k2, .int (nI ts), .int (nI th), .int (nI (u_35 0)), .int (nI (u_35 1)), .int (nI (u_35 2)), .int (nI (u_35 3))])), (k1, .inl (ax 1, 400, .inl tb)), (k2, .inl (ax 0, 401, .inl (fun j => nI (tk j))))]) hP hD [1, 2, 3] [0, 4, 5, 6, 7] hCs (by decide) (by decide) hk1 hFc hP1 hD1 rfl
        clear hP1 hD1
        clear hPc hDc hFc hCs hz hz1 hk1 ht hvm
        clear hP hD hS
        have hS := hS1
        obtain ⟨hP, hD⟩ := hjn
        clear hS1
        have hp9 := hs_45 hok
        have hnv2 : okf (u_35 1) (ndv fo1 fl1 fr1 z1) := fun _ => hnv
        have hlv2 : okf (u_35 1) (ndl fo1 fl1 fr1 (l0 ++ m1) ∧ (l0 ++ m1).length = z1) := fun q => ⟨hw9, by rw [List.length_append, (hL9 (okf.of (by first | assumption | omega) q)).2]; omega⟩
        refine lv_aload_n hx hb d_Reader_ands_33 rfl (lv_at hl1 0 rfl) ?_
        refine va_get (D := D) (ci := 7) (v := .ref n0) (C := R_Reader) (T := F_Reader) (N := 5) hx hb hts i_Reader hown hK.1 hP 0 rfl rfl 2 (by decide) (hts _ wd_77) (fun _ h9 => h9) rfl d_Reader_ands_34 ?_
        refine lv_bipush (v := 7) hx hb d_Reader_ands_37 (by decide) ?_
        refine lv_iload_n hx hb d_Reader_ands_39 rfl (lv_at hl1 2 rfl) ?_
        refine lv_aload_n hx hb d_Reader_ands_40 rfl (lv_at hl1 0 rfl) ?_
        refine lv_iload_n hx hb d_Reader_ands_41 rfl (lv_at hl1 1 rfl) ?_
        obtain ⟨hPc, hDc, hFc, hCs⟩ := xw_sub3 (wc := [(r0, .inr (7, [.ref k0, vl, .ref n0, .int (nI gh), .int (nI at1)])), (k0, .inr (9, [.ref k1, .ref k2, .int (nI ts), .int (nI th), .int (nI (u_35 0)), .int (nI (u_35 1)), .int (nI (u_35 2)), .int (nI (u_35 3))])), (k1, .inl (ax 1, 400, .inl tb)), (k2, .inl (ax 0, 401, .inl (fun j => nI (tk j)))), (n0, .inr (4, [.ref h1, .ref h2, .ref h3, .int (nI z1)])), (h1, .inl (ax 1, cp1, .inl fo1)), (h2, .inl (ax 0, cp1, .inl fl1)), (h3, .inl (ax 0, cp1, .inl fr1))]) hP hD hS hA [0, 5, 6, 7, 1, 2, 3, 4] (by decide) rfl
        have hz := xz_of hN hS
        refine wk_know (fun hk8 hk9 => ?_)
        refine va_calli (va_runV (As := [.int (nI dp9)]) (rest := [.int (nI q1), .int 7, .ref n0]) ⟨hx, hb, hml, hown, hts⟩ (hpart D ax r0 k0 k1 k2 vl tb tk (u_35 0) (u_35 1) (u_35 2) (u_35 3) cn ts th gh at1 n0 h1 h2 h3 cp1 z1 fo1 fl1 fr1 MX (l0 ++ m1) (2 :: sg) H_36.size (tsl H_36) hkz (by assumption) (by first | assumption | omega) (by first | assumption | omega) (by first | assumption | omega) (by first | assumption | omega) (by first | assumption | omega) (by first | assumption | omega) (by first | assumption | omega) (by first | assumption | omega) (by first | assumption | omega) (by first | assumption | omega) (by assumption) (by assumption) (by assumption) hsl) (xcV (n := 1) hts wd_551 wd_3 wd_548 wd_550 ps_10 rfl rfl (by decide +kernel) ⟨(show (40 + 10 * (11 - dp9)) + 1 ≤ (42 + 10 * (11 - dp9)) by omega), (show 8 + (4 + 11) + (1600 + 400 * (11 - dp9)) ≤ (1700 + 400 * (11 - dp9)) by omega)⟩) (xpV3 (ci := 7) (q0 := 0) (As := [.int (nI dp9)]) hPc hK hz hDc rfl rfl) rfl rfl hl1.1 rfl (lv_room (Nat.le_of_ble_eq_true rfl)) d_Reader_ands_42 ⟨(show (cp1 - cp) + (MX - cp1) ≤ (MX - cp) by omega), (show (6 * (cp1 - cp)) + (6 * (MX - cp1)) ≤ (6 * (MX - cp)) by omega)⟩) hS (fun q _ h => hFc q h) hFc (fun r_50 u_48 t H_49 locs ht hvm hw hB hz1 hk1 hS1 => ?_)
        try dsimp only at hw
        obtain ⟨hw, hs_51, hs_52, hs_53, hs_54, hs_55, hs_56, hs_57, hs_58, hs_59, hs_60, hs_61, hs_62, hs_63, hs_64, hs_65⟩ := hw
        subst hw
        obtain ⟨x_66, x_67, x_68, x_69, hg8, hg9, hx_70, hx_71, hx_72, hx_73, hx_74, hx_75, hP1, hD1⟩ := hB
        rw [ht] at hg8 hg9 hP1
        have hjn := xw_join3 (wl := [(r0, .inr (7, [.ref k0, vl, .ref n0, .int (nI gh), .int (nI (u_48 9))])), (k0, .inr (9, [.ref k1, .ref k2, .int (nI ts), .int (nI th), .int (nI (u_48 0)), .int (nI (u_48 1)), .int (nI (u_48 2)), .int (nI (u_48 3))])), (k1, .inl (ax 1, 400, .inl tb)), (k2, .inl (ax 0, 401, .inl (fun j => nI (tk j)))), (n0, .inr (4, [.ref (u_48 4), .ref (u_48 5), .ref (u_48 6), .int (nI (u_48 7))])), ((u_48 4), .inl (ax 1, u_48 8, .inl x_66)), ((u_48 5), .inl (ax 0, u_48 8, .inl x_67)), ((u_48 6), .inl (ax 0, u_48 8, .inl x_68))]) hP hD [0, 5, 6, 7, 1, 2, 3, 4] [] hCs (by decide) (by decide) hk1 hFc hP1 hD1 rfl
        clear hP1 hD1
        clear hPc hDc hFc hCs hz hz1 hk1 ht hvm
        clear hP hD hS
        have hS := hS1
        obtain ⟨hP, hD⟩ := hjn
        clear hS1
        refine wk_narrow (k := cp1 - cp + (u_48 8 - cp1)) (n := 6 * (cp1 - cp) + (6 * (u_48 8 - cp1))) (by first | assumption | omega) (by first | assumption | omega) ?_
        clear hk8 hk9 hg8 hg9
        obtain ⟨hPc, hDc, hFc, hCs⟩ := xw_sub3 (wc := [(n0, .inr (4, [.ref (u_48 4), .ref (u_48 5), .ref (u_48 6), .int (nI (u_48 7))])), ((u_48 4), .inl (ax 1, u_48 8, .inl x_66)), ((u_48 5), .inl (ax 0, u_48 8, .inl x_67)), ((u_48 6), .inl (ax 0, u_48 8, .inl x_68))]) hP hD hS hA [4, 5, 6, 7] (by decide) rfl
        have hz := xz_of hN hS
        refine wk_know (fun hk8 hk9 => ?_)
        refine va_calli (va_runV (As := [.int 7, .int (nI q1), .int (nI (u_48 10))]) (rest := []) ⟨hx, hb, hml, hown, hts⟩ (c_Nodes_add l D ax n0 (u_48 4) (u_48 5) (u_48 6) (u_48 8) (u_48 7) x_66 x_67 x_68 MX 7 (nI q1) (nI (u_48 10)) H_49.size (tsl H_49) (by first | assumption | omega) (by first | assumption | omega) (by first | assumption | omega) (by first | assumption | omega) (by first | assumption | omega) (by assumption)) (xcV (n := 3) hts wd_350 wd_5 wd_573 wd_348 wd_349 rfl rfl (by decide +kernel) ⟨(show (30) + 1 ≤ (42 + 10 * (11 - dp9)) by omega), (show 8 + (4 + 11) + (1200) ≤ (1700 + 400 * (11 - dp9)) by omega)⟩) (xpV3 (ci := 4) (q0 := 0) (As := [.int 7, .int (nI q1), .int (nI (u_48 10))]) hPc hK hz hDc rfl rfl) rfl rfl hl1.1 rfl (lv_room (Nat.le_of_ble_eq_true rfl)) d_Reader_ands_45 ⟨(show (cp1 - cp + (u_48 8 - cp1)) + (MX - (u_48 8)) ≤ (MX - cp) by omega), (show (6 * (cp1 - cp) + (6 * (u_48 8 - cp1))) + (6 * (MX - (u_48 8))) ≤ (6 * (MX - cp)) by omega)⟩) hS (fun q _ h => hFc q h) hFc (fun r_78 u_76 t H_77 locs ht hvm hw hB hz1 hk1 hS1 => ?_)
        try dsimp only at hw
        obtain ⟨hw, hs_79, hs_80, hs_81, hs_82⟩ := hw
        subst hw
        obtain ⟨x_83, x_84, x_85, hg8, hg9, hx_86, hx_87, hP1, hD1⟩ := hB
        rw [ht] at hg8 hg9 hP1
        have hjn := xw_join3 (wl := [(r0, .inr (7, [.ref k0, vl, .ref n0, .int (nI gh), .int (nI (u_48 9))])), (k0, .inr (9, [.ref k1, .ref k2, .int (nI ts), .int (nI th), .int (nI (u_48 0)), .int (nI (u_48 1)), .int (nI (u_48 2)), .int (nI (u_48 3))])), (k1, .inl (ax 1, 400, .inl tb)), (k2, .inl (ax 0, 401, .inl (fun j => nI (tk j)))), (n0, .inr (4, [.ref (u_76 0), .ref (u_76 1), .ref (u_76 2), .int (nI ((u_48 7) + 1))])), ((u_76 0), .inl (ax 1, u_76 3, .inl x_83)), ((u_76 1), .inl (ax 0, u_76 3, .inl x_84)), ((u_76 2), .inl (ax 0, u_76 3, .inl x_85))]) hP hD [4, 5, 6, 7] [0, 1, 2, 3] hCs (by decide) (by decide) hk1 hFc hP1 hD1 rfl
        clear hP1 hD1
        clear hPc hDc hFc hCs hz hz1 hk1 ht hvm
        clear hP hD hS
        have hS := hS1
        obtain ⟨hP, hD⟩ := hjn
        clear hS1
        refine wk_narrow (k := cp1 - cp + (u_48 8 - cp1) + (u_76 3 - (u_48 8))) (n := 6 * (cp1 - cp) + (6 * (u_48 8 - cp1)) + (6 * (u_76 3 - (u_48 8)))) (by first | assumption | omega) (by first | assumption | omega) ?_
        clear hk8 hk9 hg8 hg9
        refine lv_istore_n (lv' := [(2, .int (nI (u_48 7))), (0, .ref r0), (1, .int (nI dp9)), (3, .int (nI i1))]) hx hb d_Reader_ands_48 rfl hl1 (by decide) rfl (fun ls hl2 => ?_)
        clear hl1; have hl1 := hl2; clear hl2
        refine lv_iinc (v := nI (i1 + 1)) (lv' := [(3, .int (nI (i1 + 1))), (2, .int (nI (u_48 7))), (0, .ref r0), (1, .int (nI dp9))]) hx hb d_Reader_ands_49 hl1 (k := 3) rfl (nI_add i1 1) (by decide) rfl (fun ls hl2 => ?_)
        clear hl1; have hl1 := hl2; clear hl2
        refine lv_goto (tgt := 8) hx hb d_Reader_ands_52 (by decide) ?_
        refine W.widen (k := (u_76 3) - cp) (n := 6 * ((u_76 3) - cp)) (by first | assumption | omega) (by first | assumption | omega) ?_
        exact ih_31 (i1 + 1) (u_48 0) (u_48 1) (u_48 2) (u_48 3) (u_48 9) ((u_48 7) + 1) (u_76 3) (u_48 7) (u_76 0) (u_76 1) (u_76 2) x_83 x_84 x_85 (m1 ++ x_69 ++ [opS 2]) (by first | assumption | omega) (by first | assumption | omega) (by assumption) (by first | assumption | omega) (by first | assumption | omega) (by first | assumption | omega) (by first | assumption | omega) (by first | assumption | omega) (by first | assumption | omega) (by first | assumption | omega) (by first | assumption | omega) (by first | assumption | omega) (by first | assumption | omega) (by first | assumption | omega) (fun q => by omega) (fun q => (hx_70 q).add hx_86 (nd_bin (o := 7) (by decide) (by first | assumption | omega) (Nat.lt_of_succ_le (Nat.le_of_eq (hs_63 q))))) (by assumption) (by first | assumption | omega) (fun q => by rw [nad.bin (o := 7) (by first | assumption | omega) (hx_70 q) (by decide) (by first | assumption | omega) (Nat.lt_of_succ_le (Nat.le_of_eq (hs_63 q))) hx_86, hx_73 q _ (Nat.lt_of_succ_le (Nat.le_of_eq hq0))]; have h8 := gq hok; have h9 := hx_72 q; omega) (fun q i hi => ((nad.keep (by first | assumption | omega) (hx_70 q) hx_86 (by first | assumption | omega)).trans (hx_73 q i (by first | assumption | omega))).trans (gr hok i hi)) (Or.inl (by first | assumption | omega)) (cpg_bin (o := 2) (by decide) gt hok ga (by first | assumption | omega) hpn (hs_45 hok) hs_46 hx_75 hs_51 (fun q => Or.inl rfl)) (fun q => by have h9 := cpg.ge hx_75 (hs_46.trans hok) q; have h8 := gu hok; omega) (fun q => ⟨ndl_bi (o := 2) (by decide) (hx_74 q).1 (cpg.cm hx_75 (hs_46.trans hok) q) (by have h9 := (hx_74 q).2; rw [List.length_append, List.length_append, (hL9 (okf.of gf hok)).2]; omega) (by rw [(hL9 (okf.of gf hok)).2]; omega) (hs_63 q) hx_86, by have h9 := (hx_74 q).2; rw [List.length_append, List.length_append]; show _ = z9 + (m1.length + List.length x_69 + 1); omega⟩) _ _ _ (hP.sub [0, 1, 2, 3, 4, 5, 6, 7] rfl) (hD.sub [0, 1, 2, 3, 4, 5, 6, 7] (by decide) rfl) hS (lv_sub hl1 [2, 3, 1, 0] rfl)
abbrev b_Reader_ors : ByteArray := prog_9_method_10_code
def y_Reader_ors : MethodName := ⟨R_Reader, "ors", "(I)I"⟩
theorem d_Reader_ors_0 : decode b_Reader_ors 0 = .ok (.aload_n 0, 1) := by decide +kernel
theorem d_Reader_ors_1 : decode b_Reader_ors 1 = .ok (.iload_n 1, 1) := by decide +kernel
theorem d_Reader_ors_2 : decode b_Reader_ors 2 = .ok (.invokevirtual 129, 3) := by decide +kernel
theorem d_Reader_ors_5 : decode b_Reader_ors 5 = .ok (.istore_n 2, 1) := by decide +kernel
theorem d_Reader_ors_6 : decode b_Reader_ors 6 = .ok (.iconst 0, 1) := by decide +kernel
theorem d_Reader_ors_7 : decode b_Reader_ors 7 = .ok (.istore_n 3, 1) := by decide +kernel
theorem d_Reader_ors_8 : decode b_Reader_ors 8 = .ok (.iload_n 3, 1) := by decide +kernel
theorem d_Reader_ors_9 : decode b_Reader_ors 9 = .ok (.bipush 8, 2) := by decide +kernel
theorem d_Reader_ors_11 : decode b_Reader_ors 11 = .ok (.if_icmp .ge 44, 3) := by decide +kernel
theorem d_Reader_ors_14 : decode b_Reader_ors 14 = .ok (.aload_n 0, 1) := by decide +kernel
theorem d_Reader_ors_15 : decode b_Reader_ors 15 = .ok (.getfield 9, 3) := by decide +kernel
theorem d_Reader_ors_18 : decode b_Reader_ors 18 = .ok (.getfield 52, 3) := by decide +kernel
theorem d_Reader_ors_21 : decode b_Reader_ors 21 = .ok (.bipush 124, 2) := by decide +kernel
theorem d_Reader_ors_23 : decode b_Reader_ors 23 = .ok (.if_icmp .ne 32, 3) := by decide +kernel
theorem d_Reader_ors_26 : decode b_Reader_ors 26 = .ok (.aload_n 0, 1) := by decide +kernel
theorem d_Reader_ors_27 : decode b_Reader_ors 27 = .ok (.getfield 9, 3) := by decide +kernel
theorem d_Reader_ors_30 : decode b_Reader_ors 30 = .ok (.invokevirtual 56, 3) := by decide +kernel
theorem d_Reader_ors_33 : decode b_Reader_ors 33 = .ok (.aload_n 0, 1) := by decide +kernel
theorem d_Reader_ors_34 : decode b_Reader_ors 34 = .ok (.getfield 25, 3) := by decide +kernel
theorem d_Reader_ors_37 : decode b_Reader_ors 37 = .ok (.bipush 8, 2) := by decide +kernel
theorem d_Reader_ors_39 : decode b_Reader_ors 39 = .ok (.iload_n 2, 1) := by decide +kernel
theorem d_Reader_ors_40 : decode b_Reader_ors 40 = .ok (.aload_n 0, 1) := by decide +kernel
theorem d_Reader_ors_41 : decode b_Reader_ors 41 = .ok (.iload_n 1, 1) := by decide +kernel
theorem d_Reader_ors_42 : decode b_Reader_ors 42 = .ok (.invokevirtual 129, 3) := by decide +kernel
theorem d_Reader_ors_45 : decode b_Reader_ors 45 = .ok (.invokevirtual 132, 3) := by decide +kernel
theorem d_Reader_ors_48 : decode b_Reader_ors 48 = .ok (.istore_n 2, 1) := by decide +kernel
theorem d_Reader_ors_49 : decode b_Reader_ors 49 = .ok (.iinc 3 1, 3) := by decide +kernel
theorem d_Reader_ors_52 : decode b_Reader_ors 52 = .ok (.goto (-44), 3) := by decide +kernel
theorem d_Reader_ors_55 : decode b_Reader_ors 55 = .ok (.iload_n 2, 1) := by decide +kernel
theorem d_Reader_ors_56 : decode b_Reader_ors 56 = .ok (.ireturn, 1) := by decide +kernel
set_option maxHeartbeats 40000000 in
set_option maxRecDepth 100000 in
theorem c_R_ors (l : Launch) (dp9 : Nat) (hdp : dp9 ≤ 10) (hpart : CPart l dp9) (D : va_G) (ax : Nat → ClassId) (r0 k0 k1 k2 : Nat) (vl : Value) (tb : Nat → Int32) (tk : Nat → Nat) (ta tf nx am cn ts th : Nat) (gh at9 : Nat) (n0 n1 n2 n3 cp z9 : Nat) (fo fl fr : Nat → Int32) (MX : Nat) (l0 : List sgT) (sg : List Nat) (sz tz : Nat) (hkz : tkz tk cn) (hrs : rst tk tf nx am ta cn) (hta : ta ≤ cn) (hnx : nx < 128) (ham : am < 1024) (hgh : gh ≤ 1) (ha9 : at9 ≤ 8) (hcp : 8 ≤ cp) (hz9 : z9 ≤ cp) (hmx : cp ≤ MX) (hMX : MX ≤ 60000) (hbd : 2 * (z9 + (cn - ta) + 1) ≤ MX) (hfo : bts fo cp) (hnd : okf tf (ndv fo fl fr z9)) (hL9 : okf tf (ndl fo fl fr l0 ∧ l0.length = z9)) (hsl : dpw sg = dp9) (hpn : hda 3 sg) (hpn2 : hda 2 sg) : Met l y_Reader_ors (xws (.code y_Reader_ors b_Reader_ors 4 (some .int))) ({ frames := 44 + 10 * (11 - dp9), cells := MX - cp, slots := 6 * (MX - cp), locals := 1800 + 400 * (11 - dp9) }) (va_Pc [.ref r0, .int (nI dp9)] (xo3 D ax [(r0, .inr (7, [.ref k0, vl, .ref n0, .int (nI gh), .int (nI at9)])), (k0, .inr (9, [.ref k1, .ref k2, .int (nI ts), .int (nI th), .int (nI ta), .int (nI tf), .int (nI nx), .int (nI am)])), (k1, .inl (ax 1, 400, .inl tb)), (k2, .inl (ax 0, 401, .inl (fun j => nI (tk j)))), (n0, .inr (4, [.ref n1, .ref n2, .ref n3, .int (nI z9)])), (n1, .inl (ax 1, cp, .inl fo)), (n2, .inl (ax 0, cp, .inl fl)), (n3, .inl (ax 0, cp, .inl fr))] sz tz)) ((va_Qi (fun (r : Int32) (u : Nat → Nat) => r = nI (u 10) ∧ (rst tk (u 1) (u 2) (u 3) (u 0) cn ∧ u 0 ≤ cn ∧ u 2 < 128 ∧ u 3 < 1024 ∧ ta ≤ u 0 ∧ ftf tf ≤ ftf (u 1) ∧ z9 ≤ u 7 ∧ u 7 + ta ≤ z9 + u 0 + ftf (u 1) ∧ u 7 ≤ u 8 ∧ cp ≤ u 8 ∧ u 8 ≤ MX ∧ u 9 ≤ 8 ∧ okf (u 1) (u 10 + 1 = u 7) ∧ ftf (u 1) ≤ 1 ∧ smk (u 10) ∧ okf (u 1) (¬ u 2 = 38 ∧ ¬ u 2 = 124))) (fun (u : Nat → Nat) (t9 : State) => ∃ xfo : Nat → Int32, ∃ xfl : Nat → Int32, ∃ xfr : Nat → Int32, ∃ xm : List sgT, (t9.heap.size ≤ sz + (u 8 - cp)) ∧ (tsl t9.heap ≤ tz + (6 * (u 8 - cp))) ∧ (okf (u 1) (ndv xfo xfl xfr (u 7))) ∧ (bts xfo (u 8)) ∧ (okf (u 1) (tsn xfo xfl xfr (u 10) ≤ u 7 - z9)) ∧ (okf (u 1) (∀ i, i < z9 → tsn xfo xfl xfr i = tsn fo fl fr i)) ∧ (okf (u 1) (ndl xfo xfl xfr (l0 ++ xm) ∧ u 7 = z9 + xm.length)) ∧ (cpg tk gh tf ta at9 sg xm (u 1) (u 0) (u 9)) ∧ va_P D classes [(r0, .inr (7, [.ref k0, vl, .ref n0, .int (nI gh), .int (nI (u 9))])), (k0, .inr (9, [.ref k1, .ref k2, .int (nI ts), .int (nI th), .int (nI (u 0)), .int (nI (u 1)), .int (nI (u 2)), .int (nI (u 3))])), (k1, .inl (ax 1, 400, .inl tb)), (k2, .inl (ax 0, 401, .inl (fun j => nI (tk j)))), (n0, .inr (4, [.ref (u 4), .ref (u 5), .ref (u 6), .int (nI (u 7))])), (u 4, .inl (ax 1, u 8, .inl xfo)), (u 5, .inl (ax 0, u 8, .inl xfl)), (u 6, .inl (ax 0, u 8, .inl xfr))] t9.heap ∧ va_D (va_A [(r0, .inr (7, [.ref k0, vl, .ref n0, .int (nI gh), .int (nI at9)])), (k0, .inr (9, [.ref k1, .ref k2, .int (nI ts), .int (nI th), .int (nI ta), .int (nI tf), .int (nI nx), .int (nI am)])), (k1, .inl (ax 1, 400, .inl tb)), (k2, .inl (ax 0, 401, .inl (fun j => nI (tk j)))), (n0, .inr (4, [.ref n1, .ref n2, .ref n3, .int (nI z9)])), (n1, .inl (ax 1, cp, .inl fo)), (n2, .inl (ax 0, cp, .inl fl)), (n3, .inl (ax 0, cp, .inl fr))] sz) [(r0, .inr (7, [.ref k0, vl, .ref n0, .int (nI gh), .int (nI (u 9))])), (k0, .inr (9, [.ref k1, .ref k2, .int (nI ts), .int (nI th), .int (nI (u 0)), .int (nI (u 1)), .int (nI (u 2)), .int (nI (u 3))])), (k1, .inl (ax 1, 400, .inl tb)), (k2, .inl (ax 0, 401, .inl (fun j => nI (tk j)))), (n0, .inr (4, [.ref (u 4), .ref (u 5), .ref (u 6), .int (nI (u 7))])), (u 4, .inl (ax 1, u 8, .inl xfo)), (u 5, .inl (ax 0, u 8, .inl xfl)), (u 6, .inl (ax 0, u 8, .inl xfr))]) (va_A [(r0, .inr (7, [.ref k0, vl, .ref n0, .int (nI gh), .int (nI at9)])), (k0, .inr (9, [.ref k1, .ref k2, .int (nI ts), .int (nI th), .int (nI ta), .int (nI tf), .int (nI nx), .int (nI am)])), (k1, .inl (ax 1, 400, .inl tb)), (k2, .inl (ax 0, 401, .inl (fun j => nI (tk j)))), (n0, .inr (4, [.ref n1, .ref n2, .ref n3, .int (nI z9)])), (n1, .inl (ax 1, cp, .inl fo)), (n2, .inl (ax 0, cp, .inl fl)), (n3, .inl (ax 0, cp, .inl fr))] sz))) (MX - cp) (6 * (MX - cp)) (va_A [(r0, .inr (7, [.ref k0, vl, .ref n0, .int (nI gh), .int (nI at9)])), (k0, .inr (9, [.ref k1, .ref k2, .int (nI ts), .int (nI th), .int (nI ta), .int (nI tf), .int (nI nx), .int (nI am)])), (k1, .inl (ax 1, 400, .inl tb)), (k2, .inl (ax 0, 401, .inl (fun j => nI (tk j)))), (n0, .inr (4, [.ref n1, .ref n2, .ref n3, .int (nI z9)])), (n1, .inl (ax 1, cp, .inl fo)), (n2, .inl (ax 0, cp, .inl fl)), (n3, .inl (ax 0, cp, .inl fr))] sz) := by
  refine Met.ofW (cc := b_Reader_ors) (maxL := 4) (ret := (some .int)) (by decide) rfl ?_
  intro p e s m args below meth c s₁ B hml hv
  obtain ⟨rfl, ⟨hsz, hP, hK, hD0⟩, htz⟩ := hv
  have hx := B.exec
  have hb := B.bytes
  have hr := B.returns
  have hts := xw_hts B.pre
  have hown : s.vm.findClass R_Reader = some m.cls := findClass_of_methodNamed B.named
  have hlocks := B.notSynchronized
  subst hsz
  subst htz
  have hD := hD0.self (sz := s.heap.size)
  have hN := xz_entry hP
  generalize hAe : va_A [(r0, .inr (7, [.ref k0, vl, .ref n0, .int (nI gh), .int (nI at9)])), (k0, .inr (9, [.ref k1, .ref k2, .int (nI ts), .int (nI th), .int (nI ta), .int (nI tf), .int (nI nx), .int (nI am)])), (k1, .inl (ax 1, 400, .inl tb)), (k2, .inl (ax 0, 401, .inl (fun j => nI (tk j)))), (n0, .inr (4, [.ref n1, .ref n2, .ref n3, .int (nI z9)])), (n1, .inl (ax 1, cp, .inl fo)), (n2, .inl (ax 0, cp, .inl fl)), (n3, .inl (ax 0, cp, .inl fr))] s.heap.size = A at hD hN ⊢
  have hA : ∀ q : Nat, s.heap.size ≤ q → A q := fun q h => by rw [← hAe]; exact Or.inr h
  have hS : va_S A s.heap s.heap [] := va_S.rf
  have hl0 := lv_entry ([.ref r0, .int (nI dp9)]) (n := 4) (Nat.le_of_ble_eq_true rfl)
  rw [lg_entry_eq]
  generalize (lg_sl ([.ref r0, .int (nI dp9)]) ++ List.replicate (4 - (lg_sl ([.ref r0, .int (nI dp9)])).length) Slot.unset).toArray = ls at hl0 ⊢
  have hl1 : lv_has ls 4 [(0, .ref r0), (1, .int (nI dp9))] := hl0
  refine xw_gen (fun Z9 hQe => ?_)
  refine lv_aload_n hx hb d_Reader_ors_0 rfl (lv_at hl1 0 rfl) ?_
  refine lv_iload_n hx hb d_Reader_ors_1 rfl (lv_at hl1 1 rfl) ?_
  obtain ⟨hPc, hDc, hFc, hCs⟩ := xw_sub3 (wc := [(r0, .inr (7, [.ref k0, vl, .ref n0, .int (nI gh), .int (nI at9)])), (k0, .inr (9, [.ref k1, .ref k2, .int (nI ts), .int (nI th), .int (nI ta), .int (nI tf), .int (nI nx), .int (nI am)])), (k1, .inl (ax 1, 400, .inl tb)), (k2, .inl (ax 0, 401, .inl (fun j => nI (tk j)))), (n0, .inr (4, [.ref n1, .ref n2, .ref n3, .int (nI z9)])), (n1, .inl (ax 1, cp, .inl fo)), (n2, .inl (ax 0, cp, .inl fl)), (n3, .inl (ax 0, cp, .inl fr))]) hP hD hS hA [0, 1, 2, 3, 4, 5, 6, 7] (by decide) rfl
  have hz := xz_of hN hS
  refine wk_know (fun hk8 hk9 => ?_)
  refine va_calli (va_runV (As := [.int (nI dp9)]) (rest := []) ⟨hx, hb, hml, hown, hts⟩ (c_R_ands l dp9 hdp hpart D ax r0 k0 k1 k2 vl tb tk ta tf nx am cn ts th gh at9 n0 n1 n2 n3 cp z9 fo fl fr MX l0 sg s.heap.size (tsl s.heap) hkz (by assumption) (by first | assumption | omega) (by first | assumption | omega) (by first | assumption | omega) (by first | assumption | omega) (by first | assumption | omega) (by first | assumption | omega) (by first | assumption | omega) (by first | assumption | omega) (by first | assumption | omega) (by first | assumption | omega) (by assumption) (by assumption) (by assumption) hsl hpn2) (xcV (n := 1) hts wd_547 wd_3 wd_544 wd_546 ps_9 rfl rfl (by decide +kernel) ⟨(show (42 + 10 * (11 - dp9)) + 1 ≤ (44 + 10 * (11 - dp9)) by omega), (show 8 + (4 + 11) + (1700 + 400 * (11 - dp9)) ≤ (1800 + 400 * (11 - dp9)) by omega)⟩) (xpV3 (ci := 7) (q0 := 0) (As := [.int (nI dp9)]) hPc hK hz hDc rfl rfl) rfl rfl hl1.1 rfl (lv_room (Nat.le_of_ble_eq_true rfl)) d_Reader_ors_2 ⟨(show (0) + (MX - cp) ≤ (MX - cp) by omega), (show (0) + (6 * (MX - cp)) ≤ (6 * (MX - cp)) by omega)⟩) hS (fun q _ h => hFc q h) hFc (fun r_3 u_1 t H_2 locs ht hvm hw hB hz1 hk1 hS1 => ?_)
  try dsimp only at hw
  obtain ⟨hw, hs_4, hs_5, hs_6, hs_7, hs_8, hs_9, hs_10, hs_11, hs_12, hs_13, hs_14, hs_15, hs_16, hs_17, hs_18, hs_19⟩ := hw
  subst hw
  obtain ⟨x_20, x_21, x_22, x_23, hg8, hg9, hx_24, hx_25, hx_26, hx_27, hx_28, hx_29, hP1, hD1⟩ := hB
  rw [ht] at hg8 hg9 hP1
  have hjn := xw_join3 (wl := [(r0, .inr (7, [.ref k0, vl, .ref n0, .int (nI gh), .int (nI (u_1 9))])), (k0, .inr (9, [.ref k1, .ref k2, .int (nI ts), .int (nI th), .int (nI (u_1 0)), .int (nI (u_1 1)), .int (nI (u_1 2)), .int (nI (u_1 3))])), (k1, .inl (ax 1, 400, .inl tb)), (k2, .inl (ax 0, 401, .inl (fun j => nI (tk j)))), (n0, .inr (4, [.ref (u_1 4), .ref (u_1 5), .ref (u_1 6), .int (nI (u_1 7))])), ((u_1 4), .inl (ax 1, u_1 8, .inl x_20)), ((u_1 5), .inl (ax 0, u_1 8, .inl x_21)), ((u_1 6), .inl (ax 0, u_1 8, .inl x_22))]) hP hD [0, 1, 2, 3, 4, 5, 6, 7] [] hCs (by decide) (by decide) hk1 hFc hP1 hD1 rfl
  clear hP1 hD1
  clear hPc hDc hFc hCs hz hz1 hk1 ht hvm
  clear hP hD hS
  have hS := hS1
  obtain ⟨hP, hD⟩ := hjn
  clear hS1
  refine wk_narrow (k := u_1 8 - cp) (n := 6 * (u_1 8 - cp)) (by first | assumption | omega) (by first | assumption | omega) ?_
  clear hk8 hk9 hg8 hg9
  refine lv_istore_n (lv' := [(2, .int (nI (u_1 10))), (0, .ref r0), (1, .int (nI dp9))]) hx hb d_Reader_ors_5 rfl hl1 (by decide) rfl (fun ls hl2 => ?_)
  clear hl1; have hl1 := hl2; clear hl2
  refine lv_iconst (v := 0) hx hb d_Reader_ors_6 (by decide) ?_
  refine lv_istore_n (lv' := [(3, .int 0), (2, .int (nI (u_1 10))), (0, .ref r0), (1, .int (nI dp9))]) hx hb d_Reader_ors_7 rfl hl1 (by decide) rfl (fun ls hl2 => ?_)
  clear hl1; have hl1 := hl2; clear hl2
  suffices key_30 : ∀ (k : Nat) (i1 ta1 tf1 nx1 am1 at1 z1 cp1 q1 h1 h2 h3 : Nat) (fo1 fl1 fr1 : Nat → Int32) (m1 : List sgT), 8 - i1 < k → i1 ≤ 8 → rst tk tf1 nx1 am1 ta1 cn → ta1 ≤ cn → nx1 < 128 → am1 < 1024 → ta ≤ ta1 → ftf tf ≤ ftf tf1 → z9 ≤ z1 → z1 + ta ≤ z9 + ta1 + ftf tf1 → z1 ≤ cp1 → cp ≤ cp1 → cp1 ≤ MX → at1 ≤ 8 → okf tf1 (q1 + 1 = z1) → okf tf1 (ndv fo1 fl1 fr1 z1) → bts fo1 cp1 → ftf tf1 ≤ 1 → okf tf1 (tsn fo1 fl1 fr1 q1 ≤ z1 - z9) → okf tf1 (∀ i, i < z9 → tsn fo1 fl1 fr1 i = tsn fo fl fr i) → smk q1 → cpg tk gh tf ta at9 sg m1 tf1 ta1 at1 → okf tf1 (at9 + 1 + i1 ≤ at1) → okf tf1 (¬ nx1 = 38) → okf tf1 (ndl fo1 fl1 fr1 (l0 ++ m1) ∧ z1 = z9 + m1.length) → ∀ (H : Heap) (locs : List Loc) (ls : Array Slot), va_P D classes [(r0, .inr (7, [.ref k0, vl, .ref n0, .int (nI gh), .int (nI at1)])), (k0, .inr (9, [.ref k1, .ref k2, .int (nI ts), .int (nI th), .int (nI ta1), .int (nI tf1), .int (nI nx1), .int (nI am1)])), (k1, .inl (ax 1, 400, .inl tb)), (k2, .inl (ax 0, 401, .inl (fun j => nI (tk j)))), (n0, .inr (4, [.ref h1, .ref h2, .ref h3, .int (nI z1)])), (h1, .inl (ax 1, cp1, .inl fo1)), (h2, .inl (ax 0, cp1, .inl fl1)), (h3, .inl (ax 0, cp1, .inl fr1))] H → va_D A [(r0, .inr (7, [.ref k0, vl, .ref n0, .int (nI gh), .int (nI at1)])), (k0, .inr (9, [.ref k1, .ref k2, .int (nI ts), .int (nI th), .int (nI ta1), .int (nI tf1), .int (nI nx1), .int (nI am1)])), (k1, .inl (ax 1, 400, .inl tb)), (k2, .inl (ax 0, 401, .inl (fun j => nI (tk j)))), (n0, .inr (4, [.ref h1, .ref h2, .ref h3, .int (nI z1)])), (h1, .inl (ax 1, cp1, .inl fo1)), (h2, .inl (ax 0, cp1, .inl fl1)), (h3, .inl (ax 0, cp1, .inl fr1))] → va_S A s.heap H locs → lv_has ls 4 [(0, .ref r0), (1, .int (nI dp9)), (2, .int (nI q1)), (3, .int (nI i1))] → W p l e (headSpec (xws (.code y_Reader_ors b_Reader_ors 4 (some .int))) ({ frames := 44 + 10 * (11 - dp9), cells := MX - cp, slots := 6 * (MX - cp), locals := 1800 + 400 * (11 - dp9) })).room s m ([.ref r0, .int (nI dp9)] : List Value).toArray below meth c H locs (cp1 - cp) (6 * (cp1 - cp)) Z9 (F0 m 8 ls []) from key_30 (8 - 0 + 1) 0 (u_1 0) (u_1 1) (u_1 2) (u_1 3) (u_1 9) (u_1 7) (u_1 8) (u_1 10) (u_1 4) (u_1 5) (u_1 6) x_20 x_21 x_22 x_23 (Nat.lt_succ_self _) (by first | assumption | omega) hs_4 (by first | assumption | omega) (by first | assumption | omega) (by first | assumption | omega) (by first | assumption | omega) (by first | assumption | omega) (by first | assumption | omega) (by first | assumption | omega) (by first | assumption | omega) (by first | assumption | omega) (by first | assumption | omega) (by first | assumption | omega) hs_16 hx_24 hx_25 (by first | assumption | omega) hx_26 hx_27 hs_18 hx_29 (fun q => by have h9 := cpg.ge hx_29 (okf.of hs_9 q) q; omega) hs_19 hx_28 _ _ _ (hP) (hD) hS (lv_sub hl1 [2, 3, 1, 0] rfl)
  intro k_31
  induction k_31 with
  | zero =>
    intro i1 ta1 tf1 nx1 am1 at1 z1 cp1 q1 h1 h2 h3 fo1 fl1 fr1 m1 hk_33
    exact absurd hk_33 (Nat.not_lt_zero _)
  | succ k_31 ih_32 =>
    clear hP hD hS hl1
    intro i1 ta1 tf1 nx1 am1 at1 z1 cp1 q1 h1 h2 h3 fo1 fl1 fr1 m1 hk_33 g0 ga gb gc gd ge gf gg gh1 gi gj gk gl gm gn go gp gq gr gs gt gu gv gw H locs ls hP hD hS hl1
    refine lv_iload_n hx hb d_Reader_ors_8 rfl (lv_at hl1 3 rfl) ?_
    refine lv_bipush (v := 8) hx hb d_Reader_ors_9 (by decide) ?_
    refine lv_icmp_ge (tgt := 55) hx hb d_Reader_ors_11 (by decide) (fun c_34 => ?_) (fun c_34 => ?_)
    · replace c_34 : 8 ≤ i1 := (nI_leI (a := 8) (b := i1) (by decide) (by first | exact Nat.lt_of_lt_of_le (by assumption) (by decide) | exact Nat.lt_of_le_of_lt (by assumption) (by decide) | omega)).mp c_34
      refine lv_iload_n hx hb d_Reader_ors_55 rfl (lv_at hl1 2 rfl) ?_
      rw [← hQe]
      refine wk_know (fun hk8 hk9 => ?_)
      refine W.widen (k := MX - cp) (n := 6 * (MX - cp)) (by first | assumption | omega) (by first | assumption | omega) ?_
      obtain ⟨hP9, hD9⟩ := xw_sub2 (wc := (fun (u : Nat → Nat) (xfo : Nat → Int32) (xfl : Nat → Int32) (xfr : Nat → Int32) (xm : List sgT) => [(r0, .inr (7, [.ref k0, vl, .ref n0, .int (nI gh), .int (nI (u 9))])), (k0, .inr (9, [.ref k1, .ref k2, .int (nI ts), .int (nI th), .int (nI (u 0)), .int (nI (u 1)), .int (nI (u 2)), .int (nI (u 3))])), (k1, .inl (ax 1, 400, .inl tb)), (k2, .inl (ax 0, 401, .inl (fun j => nI (tk j)))), (n0, .inr (4, [.ref (u 4), .ref (u 5), .ref (u 6), .int (nI (u 7))])), (u 4, .inl (ax 1, u 8, .inl xfo)), (u 5, .inl (ax 0, u 8, .inl xfl)), (u 6, .inl (ax 0, u 8, .inl xfr))]) (ixn [ta1, tf1, nx1, am1, h1, h2, h3, z1, cp1, at1, q1]) fo1 fl1 fr1 m1) hP hD [0, 1, 2, 3, 4, 5, 6, 7] (by decide) rfl
      have hex0 : okf (tf1) (ndv fo1 fl1 fr1 (z1)) := (by assumption)
      have hex1 : bts fo1 (cp1) := (by assumption)
      have hex2 : okf (tf1) (tsn fo1 fl1 fr1 (q1) ≤ z1 - z9) := (by assumption)
      have hex3 : okf (tf1) (∀ i, i < z9 → tsn fo1 fl1 fr1 i = tsn fo fl fr i) := (by assumption)
      have hex4 : okf (tf1) (ndl fo1 fl1 fr1 (l0 ++ m1) ∧ z1 = z9 + m1.length) := gw
      have hex5 : cpg tk gh tf ta at9 sg m1 (tf1) (ta1) (at1) := gt
      have hg8 : H.size ≤ s.heap.size + (cp1 - cp) := by omega
      have hg9 : tsl H ≤ tsl s.heap + (6 * (cp1 - cp)) := by omega
      have hsp0 : rst tk (tf1) (nx1) (am1) (ta1) cn := (by assumption)
      have hsp1 : ta1 ≤ cn := (by first | assumption | omega)
      have hsp2 : nx1 < 128 := (by first | assumption | omega)
      have hsp3 : am1 < 1024 := (by first | assumption | omega)
      have hsp4 : ta ≤ ta1 := (by first | assumption | omega)
      have hsp5 : ftf tf ≤ ftf (tf1) := (by first | assumption | omega)
      have hsp6 : z9 ≤ z1 := (by first | assumption | omega)
      have hsp7 : z1 + ta ≤ z9 + ta1 + ftf (tf1) := (by first | assumption | omega)
      have hsp8 : z1 ≤ cp1 := (by first | assumption | omega)
      have hsp9 : cp ≤ cp1 := (by first | assumption | omega)
      have hsp10 : cp1 ≤ MX := (by first | assumption | omega)
      have hsp11 : at1 ≤ 8 := (by first | assumption | omega)
      have hsp12 : okf (tf1) (q1 + 1 = z1) := (by assumption)
      have hsp13 : ftf (tf1) ≤ 1 := (by first | assumption | omega)
      have hsp14 : smk (q1) := (by assumption)
      have hsp15 : okf (tf1) (¬ nx1 = 38 ∧ ¬ nx1 = 124) := (fun q => ⟨gv q, by have h9 := gu q; omega⟩)
      exact W.iret (v := nI q1) hx hb hr (fun t ht hW => ⟨⟨nI q1, ixn [ta1, tf1, nx1, am1, h1, h2, h3, z1, cp1, at1, q1], rfl, ⟨rfl, ⟨hsp0, hsp1, hsp2, hsp3, hsp4, hsp5, hsp6, hsp7, hsp8, hsp9, hsp10, hsp11, hsp12, hsp13, hsp14, hsp15⟩⟩, ⟨fo1, fl1, fr1, m1, by rw [ht]; exact hg8, by rw [ht]; exact hg9, hex0, hex1, hex2, hex3, hex4, hex5, by rw [ht]; exact hP9, hD9⟩⟩, hS.F ht⟩) hS.2.2 d_Reader_ors_56
    · replace c_34 : ¬ 8 ≤ i1 := fun hq9 => c_34 ((nI_leI (a := 8) (b := i1) (by decide) (by first | exact Nat.lt_of_lt_of_le (by assumption) (by decide) | exact Nat.lt_of_le_of_lt (by assumption) (by decide) | omega)).mpr hq9)
      refine lv_aload_n hx hb d_Reader_ors_14 rfl (lv_at hl1 0 rfl) ?_
      refine va_get (D := D) (ci := 7) (v := .ref k0) (C := R_Reader) (T := F_Reader) (N := 5) hx hb hts i_Reader hown hK.1 hP 0 rfl rfl 0 (by decide) (hts _ wd_75) (fun _ h9 => h9) rfl d_Reader_ors_15 ?_
      refine va_get (D := D) (ci := 9) (v := .int (nI nx1)) (C := R_Tokens) (T := F_Tokens) (N := 8) hx hb hts i_Tokens hown hK.1 hP 1 rfl rfl 6 (by decide) (hts _ wd_47) (fun _ h9 => h9) rfl d_Reader_ors_18 ?_
      refine lv_bipush (v := 124) hx hb d_Reader_ors_21 (by decide) ?_
      refine lv_icmp_ne (tgt := 55) hx hb d_Reader_ors_23 (by decide) (fun c_35 => ?_) (fun c_35 => ?_)
      · replace c_35 : ¬ nx1 = 124 := fun hq9 => c_35 ((nI_eq (a := nx1) (b := 124) (by first | exact Nat.lt_of_lt_of_le (by assumption) (by decide) | exact Nat.lt_of_le_of_lt (by assumption) (by decide) | omega) (by decide)).mpr hq9)
        refine lv_iload_n hx hb d_Reader_ors_55 rfl (lv_at hl1 2 rfl) ?_
        rw [← hQe]
        refine wk_know (fun hk8 hk9 => ?_)
        refine W.widen (k := MX - cp) (n := 6 * (MX - cp)) (by first | assumption | omega) (by first | assumption | omega) ?_
        obtain ⟨hP9, hD9⟩ := xw_sub2 (wc := (fun (u : Nat → Nat) (xfo : Nat → Int32) (xfl : Nat → Int32) (xfr : Nat → Int32) (xm : List sgT) => [(r0, .inr (7, [.ref k0, vl, .ref n0, .int (nI gh), .int (nI (u 9))])), (k0, .inr (9, [.ref k1, .ref k2, .int (nI ts), .int (nI th), .int (nI (u 0)), .int (nI (u 1)), .int (nI (u 2)), .int (nI (u 3))])), (k1, .inl (ax 1, 400, .inl tb)), (k2, .inl (ax 0, 401, .inl (fun j => nI (tk j)))), (n0, .inr (4, [.ref (u 4), .ref (u 5), .ref (u 6), .int (nI (u 7))])), (u 4, .inl (ax 1, u 8, .inl xfo)), (u 5, .inl (ax 0, u 8, .inl xfl)), (u 6, .inl (ax 0, u 8, .inl xfr))]) (ixn [ta1, tf1, nx1, am1, h1, h2, h3, z1, cp1, at1, q1]) fo1 fl1 fr1 m1) hP hD [0, 1, 2, 3, 4, 5, 6, 7] (by decide) rfl
        have hex0 : okf (tf1) (ndv fo1 fl1 fr1 (z1)) := (by assumption)
        have hex1 : bts fo1 (cp1) := (by assumption)
        have hex2 : okf (tf1) (tsn fo1 fl1 fr1 (q1) ≤ z1 - z9) := (by assumption)
        have hex3 : okf (tf1) (∀ i, i < z9 → tsn fo1 fl1 fr1 i = tsn fo fl fr i) := (by assumption)
        have hex4 : okf (tf1) (ndl fo1 fl1 fr1 (l0 ++ m1) ∧ z1 = z9 + m1.length) := gw
        have hex5 : cpg tk gh tf ta at9 sg m1 (tf1) (ta1) (at1) := gt
        have hg8 : H.size ≤ s.heap.size + (cp1 - cp) := by omega
        have hg9 : tsl H ≤ tsl s.heap + (6 * (cp1 - cp)) := by omega
        have hsp0 : rst tk (tf1) (nx1) (am1) (ta1) cn := (by assumption)
        have hsp1 : ta1 ≤ cn := (by first | assumption | omega)
        have hsp2 : nx1 < 128 := (by first | assumption | omega)
        have hsp3 : am1 < 1024 := (by first | assumption | omega)
        have hsp4 : ta ≤ ta1 := (by first | assumption | omega)
        have hsp5 : ftf tf ≤ ftf (tf1) := (by first | assumption | omega)
        have hsp6 : z9 ≤ z1 := (by first | assumption | omega)
        have hsp7 : z1 + ta ≤ z9 + ta1 + ftf (tf1) := (by first | assumption | omega)
        have hsp8 : z1 ≤ cp1 := (by first | assumption | omega)
        have hsp9 : cp ≤ cp1 := (by first | assumption | omega)
        have hsp10 : cp1 ≤ MX := (by first | assumption | omega)
        have hsp11 : at1 ≤ 8 := (by first | assumption | omega)
        have hsp12 : okf (tf1) (q1 + 1 = z1) := (by assumption)
        have hsp13 : ftf (tf1) ≤ 1 := (by first | assumption | omega)
        have hsp14 : smk (q1) := (by assumption)
        have hsp15 : okf (tf1) (¬ nx1 = 38 ∧ ¬ nx1 = 124) := (fun q => ⟨gv q, by have h9 := gu q; omega⟩)
        exact W.iret (v := nI q1) hx hb hr (fun t ht hW => ⟨⟨nI q1, ixn [ta1, tf1, nx1, am1, h1, h2, h3, z1, cp1, at1, q1], rfl, ⟨rfl, ⟨hsp0, hsp1, hsp2, hsp3, hsp4, hsp5, hsp6, hsp7, hsp8, hsp9, hsp10, hsp11, hsp12, hsp13, hsp14, hsp15⟩⟩, ⟨fo1, fl1, fr1, m1, by rw [ht]; exact hg8, by rw [ht]; exact hg9, hex0, hex1, hex2, hex3, hex4, hex5, by rw [ht]; exact hP9, hD9⟩⟩, hS.F ht⟩) hS.2.2 d_Reader_ors_56
      · replace c_35 : nx1 = 124 := (nI_eq (a := nx1) (b := 124) (by first | exact Nat.lt_of_lt_of_le (by assumption) (by decide) | exact Nat.lt_of_le_of_lt (by assumption) (by decide) | omega) (by decide)).mp c_35
        obtain ⟨hok, hts9⟩ := ga.go (by first | assumption | omega) (by first | assumption | omega)
        have hlt9 : ta1 < cn := hts9.1.resolve_left (by first | assumption | omega)
        have hq0 := gm hok
        have hnv := gn hok
        have hf9 : ftf tf1 = 0 := by rw [hok]; rfl
        obtain ⟨hw9, hw8⟩ := gw hok
        refine lv_aload_n hx hb d_Reader_ors_26 rfl (lv_at hl1 0 rfl) ?_
        refine va_get (D := D) (ci := 7) (v := .ref k0) (C := R_Reader) (T := F_Reader) (N := 5) hx hb hts i_Reader hown hK.1 hP 0 rfl rfl 0 (by decide) (hts _ wd_75) (fun _ h9 => h9) rfl d_Reader_ors_27 ?_
        obtain ⟨hPc, hDc, hFc, hCs⟩ := xw_sub3 (wc := [(k0, .inr (9, [.ref k1, .ref k2, .int (nI ts), .int (nI th), .int (nI ta1), .int (nI tf1), .int (nI nx1), .int (nI am1)])), (k1, .inl (ax 1, 400, .inl tb)), (k2, .inl (ax 0, 401, .inl (fun j => nI (tk j))))]) hP hD hS hA [1, 2, 3] (by decide) rfl
        have hz := xz_of hN hS
        refine va_callv (va_runV (As := []) (rest := []) ⟨hx, hb, hml, hown, hts⟩ (c_K_pass l D ax k0 k1 k2 tb tk ta1 tf1 nx1 am1 cn ts th H.size hkz (by assumption) (by first | assumption | omega) (by first | assumption | omega) (by first | assumption | omega) (by first | assumption | omega)) (xcV (n := 0) hts wd_531 wd_2 wd_564 wd_529 wd_530 rfl rfl (by decide +kernel) ⟨(show (10) + 1 ≤ (44 + 10 * (11 - dp9)) by omega), (show 8 + (1 + 11) + (400) ≤ (1800 + 400 * (11 - dp9)) by omega)⟩) (xpV (ci := 9) (q0 := 0) (As := []) hPc hK hz hDc rfl rfl) rfl rfl hl1.1 rfl (lv_room (Nat.le_of_ble_eq_true rfl)) d_Reader_ors_30 ⟨(show (cp1 - cp) + (0) ≤ (MX - cp) by omega), (show (6 * (cp1 - cp)) + (0) ≤ (6 * (MX - cp)) by omega)⟩) hS (fun q _ h => hFc q h) hFc (fun u_36 t H_37 locs ht hvm hw hB hz1 hk1 hS1 => ?_)
        try dsimp only at hw
        obtain ⟨hs_39, hs_40, hs_41, hs_42, hs_43, hs_44, hs_45, hs_46, hs_47, hs_48⟩ := hw
        obtain ⟨hP1, hD1⟩ := hB
        rw [ht] at hP1
        have hjn := xw_join3 (wl := [(r0, .inr (7, [.ref k0, vl, .ref n0, .int (nI gh), .int (nI at1)])), (n0, .inr (4, [.ref h1, .ref h2, .ref h3, .int (nI z1)])), (h1, .inl (ax 1, cp1, .inl fo1)), (h2, .inl (ax 0, cp1, .inl fl1)), (h3, .inl (ax 0, cp1, .inl fr1)), (k0, .inr (9, [.ref k1, .ref k2, .int (nI ts), .int (nI th), .int (nI (u_36 0)), .int (nI (u_36 1)), .int (nI (u_36 2)), .int (nI (u_36 3))])), (k1, .inl (ax 1, 400, .inl tb)), (k2, .inl (ax 0, 401, .inl (fun j => nI (tk j))))]) hP hD [1, 2, 3] [0, 4, 5, 6, 7] hCs (by decide) (by decide) hk1 hFc hP1 hD1 rfl
        clear hP1 hD1
        clear hPc hDc hFc hCs hz hz1 hk1 ht hvm
        clear hP hD hS
        have hS := hS1
        obtain ⟨hP, hD⟩ := hjn
        clear hS1
        have hp9 := hs_46 hok
        have hnv2 : okf (u_36 1) (ndv fo1 fl1 fr1 z1) := fun _ => hnv
        have hlv2 : okf (u_36 1) (ndl fo1 fl1 fr1 (l0 ++ m1) ∧ (l0 ++ m1).length = z1) := fun q => ⟨hw9, by rw [List.length_append, (hL9 (okf.of (by first | assumption | omega) q)).2]; omega⟩
        refine lv_aload_n hx hb d_Reader_ors_33 rfl (lv_at hl1 0 rfl) ?_
        refine va_get (D := D) (ci := 7) (v := .ref n0) (C := R_Reader) (T := F_Reader) (N := 5) hx hb hts i_Reader hown hK.1 hP 0 rfl rfl 2 (by decide) (hts _ wd_77) (fun _ h9 => h9) rfl d_Reader_ors_34 ?_
        refine lv_bipush (v := 8) hx hb d_Reader_ors_37 (by decide) ?_
        refine lv_iload_n hx hb d_Reader_ors_39 rfl (lv_at hl1 2 rfl) ?_
        refine lv_aload_n hx hb d_Reader_ors_40 rfl (lv_at hl1 0 rfl) ?_
        refine lv_iload_n hx hb d_Reader_ors_41 rfl (lv_at hl1 1 rfl) ?_
        obtain ⟨hPc, hDc, hFc, hCs⟩ := xw_sub3 (wc := [(r0, .inr (7, [.ref k0, vl, .ref n0, .int (nI gh), .int (nI at1)])), (k0, .inr (9, [.ref k1, .ref k2, .int (nI ts), .int (nI th), .int (nI (u_36 0)), .int (nI (u_36 1)), .int (nI (u_36 2)), .int (nI (u_36 3))])), (k1, .inl (ax 1, 400, .inl tb)), (k2, .inl (ax 0, 401, .inl (fun j => nI (tk j)))), (n0, .inr (4, [.ref h1, .ref h2, .ref h3, .int (nI z1)])), (h1, .inl (ax 1, cp1, .inl fo1)), (h2, .inl (ax 0, cp1, .inl fl1)), (h3, .inl (ax 0, cp1, .inl fr1))]) hP hD hS hA [0, 5, 6, 7, 1, 2, 3, 4] (by decide) rfl
        have hz := xz_of hN hS
        refine wk_know (fun hk8 hk9 => ?_)
        refine va_calli (va_runV (As := [.int (nI dp9)]) (rest := [.int (nI q1), .int 8, .ref n0]) ⟨hx, hb, hml, hown, hts⟩ (c_R_ands l dp9 hdp hpart D ax r0 k0 k1 k2 vl tb tk (u_36 0) (u_36 1) (u_36 2) (u_36 3) cn ts th gh at1 n0 h1 h2 h3 cp1 z1 fo1 fl1 fr1 MX (l0 ++ m1) (3 :: sg) H_37.size (tsl H_37) hkz (by assumption) (by first | assumption | omega) (by first | assumption | omega) (by first | assumption | omega) (by first | assumption | omega) (by first | assumption | omega) (by first | assumption | omega) (by first | assumption | omega) (by first | assumption | omega) (by first | assumption | omega) (by first | assumption | omega) (by assumption) (by assumption) (by assumption) hsl hda_3) (xcV (n := 1) hts wd_547 wd_3 wd_544 wd_546 ps_9 rfl rfl (by decide +kernel) ⟨(show (42 + 10 * (11 - dp9)) + 1 ≤ (44 + 10 * (11 - dp9)) by omega), (show 8 + (4 + 11) + (1700 + 400 * (11 - dp9)) ≤ (1800 + 400 * (11 - dp9)) by omega)⟩) (xpV3 (ci := 7) (q0 := 0) (As := [.int (nI dp9)]) hPc hK hz hDc rfl rfl) rfl rfl hl1.1 rfl (lv_room (Nat.le_of_ble_eq_true rfl)) d_Reader_ors_42 ⟨(show (cp1 - cp) + (MX - cp1) ≤ (MX - cp) by omega), (show (6 * (cp1 - cp)) + (6 * (MX - cp1)) ≤ (6 * (MX - cp)) by omega)⟩) hS (fun q _ h => hFc q h) hFc (fun r_51 u_49 t H_50 locs ht hvm hw hB hz1 hk1 hS1 => ?_)
        try dsimp only at hw
        obtain ⟨hw, hs_52, hs_53, hs_54, hs_55, hs_56, hs_57, hs_58, hs_59, hs_60, hs_61, hs_62, hs_63, hs_64, hs_65, hs_66, hs_67⟩ := hw
        subst hw
        obtain ⟨x_68, x_69, x_70, x_71, hg8, hg9, hx_72, hx_73, hx_74, hx_75, hx_76, hx_77, hP1, hD1⟩ := hB
        rw [ht] at hg8 hg9 hP1
        have hjn := xw_join3 (wl := [(r0, .inr (7, [.ref k0, vl, .ref n0, .int (nI gh), .int (nI (u_49 9))])), (k0, .inr (9, [.ref k1, .ref k2, .int (nI ts), .int (nI th), .int (nI (u_49 0)), .int (nI (u_49 1)), .int (nI (u_49 2)), .int (nI (u_49 3))])), (k1, .inl (ax 1, 400, .inl tb)), (k2, .inl (ax 0, 401, .inl (fun j => nI (tk j)))), (n0, .inr (4, [.ref (u_49 4), .ref (u_49 5), .ref (u_49 6), .int (nI (u_49 7))])), ((u_49 4), .inl (ax 1, u_49 8, .inl x_68)), ((u_49 5), .inl (ax 0, u_49 8, .inl x_69)), ((u_49 6), .inl (ax 0, u_49 8, .inl x_70))]) hP hD [0, 5, 6, 7, 1, 2, 3, 4] [] hCs (by decide) (by decide) hk1 hFc hP1 hD1 rfl
        clear hP1 hD1
        clear hPc hDc hFc hCs hz hz1 hk1 ht hvm
        clear hP hD hS
        have hS := hS1
        obtain ⟨hP, hD⟩ := hjn
        clear hS1
        refine wk_narrow (k := cp1 - cp + (u_49 8 - cp1)) (n := 6 * (cp1 - cp) + (6 * (u_49 8 - cp1))) (by first | assumption | omega) (by first | assumption | omega) ?_
        clear hk8 hk9 hg8 hg9
        obtain ⟨hPc, hDc, hFc, hCs⟩ := xw_sub3 (wc := [(n0, .inr (4, [.ref (u_49 4), .ref (u_49 5), .ref (u_49 6), .int (nI (u_49 7))])), ((u_49 4), .inl (ax 1, u_49 8, .inl x_68)), ((u_49 5), .inl (ax 0, u_49 8, .inl x_69)), ((u_49 6), .inl (ax 0, u_49 8, .inl x_70))]) hP hD hS hA [4, 5, 6, 7] (by decide) rfl
        have hz := xz_of hN hS
        refine wk_know (fun hk8 hk9 => ?_)
        refine va_calli (va_runV (As := [.int 8, .int (nI q1), .int (nI (u_49 10))]) (rest := []) ⟨hx, hb, hml, hown, hts⟩ (c_Nodes_add l D ax n0 (u_49 4) (u_49 5) (u_49 6) (u_49 8) (u_49 7) x_68 x_69 x_70 MX 8 (nI q1) (nI (u_49 10)) H_50.size (tsl H_50) (by first | assumption | omega) (by first | assumption | omega) (by first | assumption | omega) (by first | assumption | omega) (by first | assumption | omega) (by assumption)) (xcV (n := 3) hts wd_350 wd_5 wd_573 wd_348 wd_349 rfl rfl (by decide +kernel) ⟨(show (30) + 1 ≤ (44 + 10 * (11 - dp9)) by omega), (show 8 + (4 + 11) + (1200) ≤ (1800 + 400 * (11 - dp9)) by omega)⟩) (xpV3 (ci := 4) (q0 := 0) (As := [.int 8, .int (nI q1), .int (nI (u_49 10))]) hPc hK hz hDc rfl rfl) rfl rfl hl1.1 rfl (lv_room (Nat.le_of_ble_eq_true rfl)) d_Reader_ors_45 ⟨(show (cp1 - cp + (u_49 8 - cp1)) + (MX - (u_49 8)) ≤ (MX - cp) by omega), (show (6 * (cp1 - cp) + (6 * (u_49 8 - cp1))) + (6 * (MX - (u_49 8))) ≤ (6 * (MX - cp)) by omega)⟩) hS (fun q _ h => hFc q h) hFc (fun r_80 u_78 t H_79 locs ht hvm hw hB hz1 hk1 hS1 => ?_)
        try dsimp only at hw
        obtain ⟨hw, hs_81, hs_82, hs_83, hs_84⟩ := hw
        subst hw
        obtain ⟨x_85, x_86, x_87, hg8, hg9, hx_88, hx_89, hP1, hD1⟩ := hB
        rw [ht] at hg8 hg9 hP1
        have hjn := xw_join3 (wl := [(r0, .inr (7, [.ref k0, vl, .ref n0, .int (nI gh), .int (nI (u_49 9))])), (k0, .inr (9, [.ref k1, .ref k2, .int (nI ts), .int (nI th), .int (nI (u_49 0)), .int (nI (u_49 1)), .int (nI (u_49 2)), .int (nI (u_49 3))])), (k1, .inl (ax 1, 400, .inl tb)), (k2, .inl (ax 0, 401, .inl (fun j => nI (tk j)))), (n0, .inr (4, [.ref (u_78 0), .ref (u_78 1), .ref (u_78 2), .int (nI ((u_49 7) + 1))])), ((u_78 0), .inl (ax 1, u_78 3, .inl x_85)), ((u_78 1), .inl (ax 0, u_78 3, .inl x_86)), ((u_78 2), .inl (ax 0, u_78 3, .inl x_87))]) hP hD [4, 5, 6, 7] [0, 1, 2, 3] hCs (by decide) (by decide) hk1 hFc hP1 hD1 rfl
        clear hP1 hD1
        clear hPc hDc hFc hCs hz hz1 hk1 ht hvm
        clear hP hD hS
        have hS := hS1
        obtain ⟨hP, hD⟩ := hjn
        clear hS1
        refine wk_narrow (k := cp1 - cp + (u_49 8 - cp1) + (u_78 3 - (u_49 8))) (n := 6 * (cp1 - cp) + (6 * (u_49 8 - cp1)) + (6 * (u_78 3 - (u_49 8)))) (by first | assumption | omega) (by first | assumption | omega) ?_
        clear hk8 hk9 hg8 hg9
        refine lv_istore_n (lv' := [(2, .int (nI (u_49 7))), (0, .ref r0), (1, .int (nI dp9)), (3, .int (nI i1))]) hx hb d_Reader_ors_48 rfl hl1 (by decide) rfl (fun ls hl2 => ?_)
        clear hl1; have hl1 := hl2; clear hl2
        refine lv_iinc (v := nI (i1 + 1)) (lv' := [(3, .int (nI (i1 + 1))), (2, .int (nI (u_49 7))), (0, .ref r0), (1, .int (nI dp9))]) hx hb d_Reader_ors_49 hl1 (k := 3) rfl (nI_add i1 1) (by decide) rfl (fun ls hl2 => ?_)
        clear hl1; have hl1 := hl2; clear hl2
        refine lv_goto (tgt := 8) hx hb d_Reader_ors_52 (by decide) ?_
        refine W.widen (k := (u_78 3) - cp) (n := 6 * ((u_78 3) - cp)) (by first | assumption | omega) (by first | assumption | omega) ?_
        exact ih_32 (i1 + 1) (u_49 0) (u_49 1) (u_49 2) (u_49 3) (u_49 9) ((u_49 7) + 1) (u_78 3) (u_49 7) (u_78 0) (u_78 1) (u_78 2) x_85 x_86 x_87 (m1 ++ x_71 ++ [opS 3]) (by first | assumption | omega) (by first | assumption | omega) (by assumption) (by first | assumption | omega) (by first | assumption | omega) (by first | assumption | omega) (by first | assumption | omega) (by first | assumption | omega) (by first | assumption | omega) (by first | assumption | omega) (by first | assumption | omega) (by first | assumption | omega) (by first | assumption | omega) (by first | assumption | omega) (fun q => by omega) (fun q => (hx_72 q).add hx_88 (nd_bin (o := 8) (by decide) (by first | assumption | omega) (Nat.lt_of_succ_le (Nat.le_of_eq (hs_64 q))))) (by assumption) (by first | assumption | omega) (fun q => by rw [nad.bin (o := 8) (by first | assumption | omega) (hx_72 q) (by decide) (by first | assumption | omega) (Nat.lt_of_succ_le (Nat.le_of_eq (hs_64 q))) hx_88, hx_75 q _ (Nat.lt_of_succ_le (Nat.le_of_eq hq0))]; have h8 := gq hok; have h9 := hx_74 q; omega) (fun q i hi => ((nad.keep (by first | assumption | omega) (hx_72 q) hx_88 (by first | assumption | omega)).trans (hx_75 q i (by first | assumption | omega))).trans (gr hok i hi)) (Or.inl (by first | assumption | omega)) (cpg_bin (o := 3) (by decide) gt hok ga (by first | assumption | omega) hpn (hs_46 hok) hs_47 hx_77 hs_52 (fun q => Or.inr (hs_67 q))) (fun q => by have h9 := cpg.ge hx_77 (hs_47.trans hok) q; have h8 := gu hok; omega) hs_67 (fun q => ⟨ndl_bi (o := 3) (by decide) (hx_76 q).1 (cpg.cm hx_77 (hs_47.trans hok) q) (by have h9 := (hx_76 q).2; rw [List.length_append, List.length_append, (hL9 (okf.of gf hok)).2]; omega) (by rw [(hL9 (okf.of gf hok)).2]; omega) (hs_64 q) hx_88, by have h9 := (hx_76 q).2; rw [List.length_append, List.length_append]; show _ = z9 + (m1.length + List.length x_71 + 1); omega⟩) _ _ _ (hP.sub [0, 1, 2, 3, 4, 5, 6, 7] rfl) (hD.sub [0, 1, 2, 3, 4, 5, 6, 7] (by decide) rfl) hS (lv_sub hl1 [2, 3, 1, 0] rfl)
