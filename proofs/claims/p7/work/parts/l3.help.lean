theorem wd_896 : ((Jvm.Cond.methodLink "TripleDeskLaw" (25 : Nat) ({ cls := "TripleDesk", name := "proved", desc := "()Z" } : Jvm.MethodName))) ∈ lw_gd := lw_gd_in (i := 896) (by decide +kernel) rfl
theorem wd_897 : ((Jvm.Cond.instanceMethod ({ cls := "TripleDesk", name := "proved", desc := "()Z" } : Jvm.MethodName))) ∈ lw_gd := lw_gd_in (i := 897) (by decide +kernel) rfl
theorem wd_898 : ((Jvm.Cond.selects "TripleDesk" ({ cls := "TripleDesk", name := "proved", desc := "()Z" } : Jvm.MethodName) ({ cls := "TripleDesk", name := "proved", desc := "()Z" } : Jvm.MethodName))) ∈ lw_gd := lw_gd_in (i := 898) (by decide +kernel) rfl
theorem wd_899 : ((Jvm.Cond.code ({ cls := "TripleDesk", name := "proved", desc := "()Z" } : Jvm.MethodName) prog_1_method_9_code (3 : Nat) (Option.some Jvm.ClassFile.FieldType.boolean))) ∈ lw_gd := lw_gd_in (i := 899) (by decide +kernel) rfl
theorem wd_914 : ((Jvm.Cond.methodLink "TripleDeskLaw" (32 : Nat) ({ cls := "TripleDesk", name := "say", desc := "(I)I" } : Jvm.MethodName))) ∈ lw_gd := lw_gd_in (i := 914) (by decide +kernel) rfl
theorem wd_915 : ((Jvm.Cond.instanceMethod ({ cls := "TripleDesk", name := "say", desc := "(I)I" } : Jvm.MethodName))) ∈ lw_gd := lw_gd_in (i := 915) (by decide +kernel) rfl
theorem wd_916 : ((Jvm.Cond.selects "TripleDesk" ({ cls := "TripleDesk", name := "say", desc := "(I)I" } : Jvm.MethodName) ({ cls := "TripleDesk", name := "say", desc := "(I)I" } : Jvm.MethodName))) ∈ lw_gd := lw_gd_in (i := 916) (by decide +kernel) rfl
theorem wd_917 : ((Jvm.Cond.code ({ cls := "TripleDesk", name := "say", desc := "(I)I" } : Jvm.MethodName) prog_1_method_11_code (2 : Nat) (Option.some Jvm.ClassFile.FieldType.int))) ∈ lw_gd := lw_gd_in (i := 917) (by decide +kernel) rfl
theorem wd_951 : ((Jvm.Cond.methodLink "TripleDeskLaw" (35 : Nat) ({ cls := "TripleDesk", name := "out", desc := "(I)I" } : Jvm.MethodName))) ∈ lw_gd := lw_gd_in (i := 951) (by decide +kernel) rfl
theorem wd_952 : ((Jvm.Cond.instanceMethod ({ cls := "TripleDesk", name := "out", desc := "(I)I" } : Jvm.MethodName))) ∈ lw_gd := lw_gd_in (i := 952) (by decide +kernel) rfl
theorem wd_953 : ((Jvm.Cond.selects "TripleDesk" ({ cls := "TripleDesk", name := "out", desc := "(I)I" } : Jvm.MethodName) ({ cls := "TripleDesk", name := "out", desc := "(I)I" } : Jvm.MethodName))) ∈ lw_gd := lw_gd_in (i := 953) (by decide +kernel) rfl
theorem wd_954 : ((Jvm.Cond.code ({ cls := "TripleDesk", name := "out", desc := "(I)I" } : Jvm.MethodName) prog_1_method_12_code (2 : Nat) (Option.some Jvm.ClassFile.FieldType.int))) ∈ lw_gd := lw_gd_in (i := 954) (by decide +kernel) rfl
theorem wd_958 : ((Jvm.Cond.methodLink "TripleDeskLaw" (38 : Nat) ({ cls := "TripleDesk", name := "start", desc := "(II)V" } : Jvm.MethodName))) ∈ lw_gd := lw_gd_in (i := 958) (by decide +kernel) rfl
theorem wd_959 : ((Jvm.Cond.instanceMethod ({ cls := "TripleDesk", name := "start", desc := "(II)V" } : Jvm.MethodName))) ∈ lw_gd := lw_gd_in (i := 959) (by decide +kernel) rfl
theorem wd_960 : ((Jvm.Cond.selects "TripleDesk" ({ cls := "TripleDesk", name := "start", desc := "(II)V" } : Jvm.MethodName) ({ cls := "TripleDesk", name := "start", desc := "(II)V" } : Jvm.MethodName))) ∈ lw_gd := lw_gd_in (i := 960) (by decide +kernel) rfl
theorem wd_961 : ((Jvm.Cond.code ({ cls := "TripleDesk", name := "start", desc := "(II)V" } : Jvm.MethodName) prog_1_method_13_code (3 : Nat) (Option.none : Option Jvm.ClassFile.FieldType))) ∈ lw_gd := lw_gd_in (i := 961) (by decide +kernel) rfl
theorem wd_969 : ((Jvm.Cond.classLink "TripleDeskLaw" (45 : Nat) "java/lang/IllegalArgumentException")) ∈ lw_gd := lw_gd_in (i := 969) (by decide +kernel) rfl
theorem wd_970 : ((Jvm.Cond.methodLink "TripleDeskLaw" (42 : Nat) ({ cls := "TripleDesk", name := "run", desc := "(I)I" } : Jvm.MethodName))) ∈ lw_gd := lw_gd_in (i := 970) (by decide +kernel) rfl
theorem wd_971 : ((Jvm.Cond.instanceMethod ({ cls := "TripleDesk", name := "run", desc := "(I)I" } : Jvm.MethodName))) ∈ lw_gd := lw_gd_in (i := 971) (by decide +kernel) rfl
theorem wd_972 : ((Jvm.Cond.selects "TripleDesk" ({ cls := "TripleDesk", name := "run", desc := "(I)I" } : Jvm.MethodName) ({ cls := "TripleDesk", name := "run", desc := "(I)I" } : Jvm.MethodName))) ∈ lw_gd := lw_gd_in (i := 972) (by decide +kernel) rfl
theorem wd_973 : ((Jvm.Cond.code ({ cls := "TripleDesk", name := "run", desc := "(I)I" } : Jvm.MethodName) prog_1_method_14_code (2 : Nat) (Option.some Jvm.ClassFile.FieldType.int))) ∈ lw_gd := lw_gd_in (i := 973) (by decide +kernel) rfl
theorem wd_1012 : ((Jvm.Cond.methodLink "TripleDeskLaw" (47 : Nat) ({ cls := "TripleDesk", name := "value", desc := "(I)J" } : Jvm.MethodName))) ∈ lw_gd := lw_gd_in (i := 1012) (by decide +kernel) rfl
theorem wd_1013 : ((Jvm.Cond.instanceMethod ({ cls := "TripleDesk", name := "value", desc := "(I)J" } : Jvm.MethodName))) ∈ lw_gd := lw_gd_in (i := 1013) (by decide +kernel) rfl
theorem wd_1014 : ((Jvm.Cond.selects "TripleDesk" ({ cls := "TripleDesk", name := "value", desc := "(I)J" } : Jvm.MethodName) ({ cls := "TripleDesk", name := "value", desc := "(I)J" } : Jvm.MethodName))) ∈ lw_gd := lw_gd_in (i := 1014) (by decide +kernel) rfl
theorem wd_1015 : ((Jvm.Cond.code ({ cls := "TripleDesk", name := "value", desc := "(I)J" } : Jvm.MethodName) prog_1_method_15_code (2 : Nat) (Option.some Jvm.ClassFile.FieldType.long))) ∈ lw_gd := lw_gd_in (i := 1015) (by decide +kernel) rfl
theorem wd_1019 : ((Jvm.Cond.methodLink "TripleDeskLaw" (51 : Nat) ({ cls := "TripleDesk", name := "holds", desc := "(I)Z" } : Jvm.MethodName))) ∈ lw_gd := lw_gd_in (i := 1019) (by decide +kernel) rfl
theorem wd_1020 : ((Jvm.Cond.instanceMethod ({ cls := "TripleDesk", name := "holds", desc := "(I)Z" } : Jvm.MethodName))) ∈ lw_gd := lw_gd_in (i := 1020) (by decide +kernel) rfl
theorem wd_1021 : ((Jvm.Cond.selects "TripleDesk" ({ cls := "TripleDesk", name := "holds", desc := "(I)Z" } : Jvm.MethodName) ({ cls := "TripleDesk", name := "holds", desc := "(I)Z" } : Jvm.MethodName))) ∈ lw_gd := lw_gd_in (i := 1021) (by decide +kernel) rfl
theorem wd_1022 : ((Jvm.Cond.code ({ cls := "TripleDesk", name := "holds", desc := "(I)Z" } : Jvm.MethodName) prog_1_method_16_code (3 : Nat) (Option.some Jvm.ClassFile.FieldType.boolean))) ∈ lw_gd := lw_gd_in (i := 1022) (by decide +kernel) rfl
abbrev b_law_proved : ByteArray := method_6_code
def y_law_proved : MethodName := ⟨R_law, "proved", "(LTripleDesk;[J)I"⟩
theorem d_law_proved_0 : decode b_law_proved 0 = .ok (.aload_n 1, 1) := by decide +kernel
theorem d_law_proved_1 : decode b_law_proved 1 = .ok (.iconst 0, 1) := by decide +kernel
theorem d_law_proved_2 : decode b_law_proved 2 = .ok (.aload_n 0, 1) := by decide +kernel
theorem d_law_proved_3 : decode b_law_proved 3 = .ok (.invokevirtual 25, 3) := by decide +kernel
theorem d_law_proved_6 : decode b_law_proved 6 = .ok (.ifCond .eq 7, 3) := by decide +kernel
theorem d_law_proved_9 : decode b_law_proved 9 = .ok (.lconst 1, 1) := by decide +kernel
theorem d_law_proved_10 : decode b_law_proved 10 = .ok (.goto 4, 3) := by decide +kernel
theorem d_law_proved_13 : decode b_law_proved 13 = .ok (.lconst 0, 1) := by decide +kernel
theorem d_law_proved_14 : decode b_law_proved 14 = .ok (.lastore, 1) := by decide +kernel
theorem d_law_proved_15 : decode b_law_proved 15 = .ok (.goto 6, 3) := by decide +kernel
theorem d_law_proved_18 : decode b_law_proved 18 = .ok (.astore_n 2, 1) := by decide +kernel
theorem d_law_proved_19 : decode b_law_proved 19 = .ok (.iconst 1, 1) := by decide +kernel
theorem d_law_proved_20 : decode b_law_proved 20 = .ok (.ireturn, 1) := by decide +kernel
theorem d_law_proved_21 : decode b_law_proved 21 = .ok (.iconst 0, 1) := by decide +kernel
theorem d_law_proved_22 : decode b_law_proved 22 = .ok (.ireturn, 1) := by decide +kernel
set_option maxHeartbeats 40000000 in
set_option maxRecDepth 100000 in
theorem c_law_proved (l : Launch) (hl : l.stackTraces = false) (D : va_G) (ax : Nat → ClassId) (d0 k0 r0 c0 p0 fd0 w0 e0 b0 a0 y0 g0 i0 ld fd1 fd2 fd3 fd4 c1 n0 n1 n2 n3 cp z9 o0 q1 q2 q3 wt rl o1 o2 o3 bn h0 g1 g2 g3 g4 g5 g6 g7 g8 g9 ga gb cl ln br lp va h1 h2 h3 zs cs b1 b2 b3 zb cb a1 a2 a3 za ca : Nat) (s_made s_rows s_atoms s_first : Int32) (ml mf vf : Value) (rw aa ff nb sd fo fl fr ro ix lv mo tm so sl sr bo bl bq ao al ar : Nat → Int32) (dm bw kd ow sb f1 f2 te kp nm ck co : Nat → Nat) (ot0 : Nat) (ov : Nat → Int64) (gpr gpo : List sgT) (gpl : List itT) (sz tz : Nat) (hld : ld ≤ 1) (hcp : 8 ≤ cp) (hz9 : z9 ≤ cp) (hmx : cp ≤ 65536) (hfo : bts fo cp) (hsd : ∀ j, j ≤ 10 → trm (sd j)) (hfm : fmk s_made z9 fo fl fr) (hzs : zs ≤ cs) (hcs : cs ≤ 1024) (hza : za ≤ ca) (hca : ca ≤ 1024) (hz1 : 1 ≤ za) (hz4 : za ≤ 450) (hav : ndv ao al ar za) (hat : tsn ao al ar (za - 1) ≤ 450) (hzb : zb ≤ cb) (hcb : cb ≤ 1024) (hb1 : 1 ≤ zb) (hb4 : zb ≤ 450) (hbv : ndv bo bl bq zb) (hbt : tsn bo bl bq (zb - 1) ≤ 450) (hlo : lod ld cl ln br zs kd ow sb f1 f2 te kp nm ck co tm so sl sr) (hlE : imp1 ld (lgE so sl sr ao al ar bo bl bq zs za zb ln cl kd ow sb f1 f2 te kp nm ck co tm gpr gpo gpl)) (hf8 : imp1 ld (fqm8 s_made z9 fo fl fr gpr gpo gpl)) (hrlo : rlo rl cp) (hbw : bnv mo bw bn) (hwt : wt ≤ 64) (hcv : bcv8 mo bw bn) (hfn : imp1 ld (fnQ8 rw aa ff nb gpr gpo gpl))  : xt_Met l y_law_proved (xws (.codeWith y_law_proved b_law_proved 3 (some .int) [(0, 15, 18, 13)])) ({ frames := 1220, cells := 65536 - cp + (131073 - rl) + 1, slots := 6 * (65536 - cp) + 2 * (131072 - rl) + 131072 + 6, locals := 28200 }) (va_Pc [.ref d0, .ref ot0] (xo5 D ax [(d0, .inr (10, [.ref k0, .ref r0, .ref c0, .ref p0, .ref fd0, .ref w0, .ref e0, .ref b0, .ref a0, .ref y0, .ref g0, .ref i0, .int (nI ld)])), (fd0, .inr (1, [.ref fd1, .ref fd2, .ref fd3, .ref fd4])), (fd1, .inl (ax 2, 29, .inl rw)), (fd2, .inl (ax 2, 29, .inl aa)), (fd3, .inl (ax 2, 29, .inl ff)), (fd4, .inl (ax 0, 290, .inl nb)), (c0, .inr (3, [.ref n0, .ref c1, ml, mf, .int s_made])), (c1, .inl (ax 0, 16, .inl sd)), (n0, .inr (4, [.ref n1, .ref n2, .ref n3, .int (nI z9)])), (n1, .inl (ax 1, cp, .inl fo)), (n2, .inl (ax 0, cp, .inl fl)), (n3, .inl (ax 0, cp, .inl fr)), (p0, .inr (6, [.ref o0, .int s_rows, .int s_atoms, .int s_first, vf, .ref q1, .ref q2, .ref q3, .int (nI wt)])), (q1, .inl (ax 2, rl, .inl ro)), (q2, .inl (ax 0, 64, .inl (fun j => nI (dm j)))), (q3, .inl (ax 0, 64, .inl ix)), (o0, .inr (0, [.ref o1, .ref o2, .ref o3, .int (nI bn)])), (o1, .inl (ax 0, 11, .inl lv)), (o2, .inl (ax 0, 121, .inl mo)), (o3, .inl (ax 0, 121, .inl (fun j => nI (bw j)))), (g0, .inr (2, [.ref h0, .ref g1, .ref g2, .ref g3, .ref g4, .ref g5, .ref g6, .ref g7, .ref g8, .ref g9, .ref ga, .ref gb, .int (nI cl), .int (nI ln), .int (nI br), .int (nI lp), .int (nI va)])), (g1, .inl (ax 1, 20, .inl (fun j => nI (kd j)))), (g2, .inl (ax 1, 20, .inl (fun j => nI (ow j)))), (g3, .inl (ax 1, 20, .inl (fun j => nI (sb j)))), (g4, .inl (ax 1, 20, .inl (fun j => nI (f1 j)))), (g5, .inl (ax 1, 20, .inl (fun j => nI (f2 j)))), (g6, .inl (ax 2, 20, .inl (fun j => nI (te j)))), (g7, .inl (ax 2, 20, .inl (fun j => nI (kp j)))), (g8, .inl (ax 0, 20, .inl tm)), (g9, .inl (ax 1, 20, .inl (fun j => nI (nm j)))), (ga, .inl (ax 1, 29, .inl (fun j => nI (ck j)))), (gb, .inl (ax 1, 29, .inl (fun j => nI (co j)))), (h0, .inr (4, [.ref h1, .ref h2, .ref h3, .int (nI zs)])), (h1, .inl (ax 1, cs, .inl so)), (h2, .inl (ax 0, cs, .inl sl)), (h3, .inl (ax 0, cs, .inl sr)), (b0, .inr (4, [.ref b1, .ref b2, .ref b3, .int (nI zb)])), (b1, .inl (ax 1, cb, .inl bo)), (b2, .inl (ax 0, cb, .inl bl)), (b3, .inl (ax 0, cb, .inl bq)), (a0, .inr (4, [.ref a1, .ref a2, .ref a3, .int (nI za)])), (a1, .inl (ax 1, ca, .inl ao)), (a2, .inl (ax 0, ca, .inl al)), (a3, .inl (ax 0, ca, .inl ar)), (ot0, .inl (ax 4, 1, .inr (.inl ov)))] sz tz)) ((va_Qi (fun (r : Int32) (u : Nat → Nat) => r = nI (u 30) ∧ (u 3 ≤ u 4 ∧ cp ≤ u 4 ∧ u 4 ≤ 65536 ∧ u 6 ≤ 64 ∧ rl ≤ u 7 ∧ rlo (u 7) (u 4) ∧ u 7 ≤ 131072 ∧ u 31 = ld)) (fun (u : Nat → Nat) (t9 : State) => ∃ xrw : Nat → Int32, ∃ xaa : Nat → Int32, ∃ xff : Nat → Int32, ∃ xnb : Nat → Int32, ∃ xsd : Nat → Int32, ∃ xmd : Int32, ∃ xvl : Value, ∃ xva : Value, ∃ xfo : Nat → Int32, ∃ xfl : Nat → Int32, ∃ xfr : Nat → Int32, ∃ xrs : Int32, ∃ xat : Int32, ∃ xfi : Int32, ∃ xvf : Value, ∃ xro : Nat → Int32, ∃ xdm : Nat → Nat, ∃ xix : Nat → Int32, ∃ xlv : Nat → Int32, ∃ xmo : Nat → Int32, ∃ xbw : Nat → Nat, ∃ xov : Nat → Int64, (t9.heap.size ≤ sz + (u 4 - cp + (u 7 - rl) + 1)) ∧ (tsl t9.heap ≤ tz + (6 * (u 4 - cp) + 2 * (u 7 - rl) + 6)) ∧ (bts xfo (u 4)) ∧ (∀ j, j ≤ 10 → trm (xsd j)) ∧ (fmk xmd (u 3) xfo xfl xfr) ∧ (bnv xmo xbw (u 8)) ∧ (imp1 ld (fqm8 xmd (u 3) xfo xfl xfr gpr gpo gpl)) ∧ (bcv8 xmo xbw (u 8)) ∧ (imp1 ld (fnQ8 xrw xaa xff xnb gpr gpo gpl)) ∧ va_P D classes [(d0, .inr (10, [.ref k0, .ref r0, .ref c0, .ref p0, .ref fd0, .ref w0, .ref e0, .ref b0, .ref a0, .ref y0, .ref g0, .ref i0, .int (nI (u 31))])), (fd0, .inr (1, [.ref fd1, .ref fd2, .ref fd3, .ref fd4])), (fd1, .inl (ax 2, 29, .inl xrw)), (fd2, .inl (ax 2, 29, .inl xaa)), (fd3, .inl (ax 2, 29, .inl xff)), (fd4, .inl (ax 0, 290, .inl xnb)), (c0, .inr (3, [.ref n0, .ref c1, xvl, xva, .int xmd])), (c1, .inl (ax 0, 16, .inl xsd)), (n0, .inr (4, [.ref (u 0), .ref (u 1), .ref (u 2), .int (nI (u 3))])), (u 0, .inl (ax 1, u 4, .inl xfo)), (u 1, .inl (ax 0, u 4, .inl xfl)), (u 2, .inl (ax 0, u 4, .inl xfr)), (p0, .inr (6, [.ref o0, .int xrs, .int xat, .int xfi, xvf, .ref (u 5), .ref q2, .ref q3, .int (nI (u 6))])), (u 5, .inl (ax 2, u 7, .inl xro)), (q2, .inl (ax 0, 64, .inl (fun j => nI (xdm j)))), (q3, .inl (ax 0, 64, .inl xix)), (o0, .inr (0, [.ref o1, .ref o2, .ref o3, .int (nI (u 8))])), (o1, .inl (ax 0, 11, .inl xlv)), (o2, .inl (ax 0, 121, .inl xmo)), (o3, .inl (ax 0, 121, .inl (fun j => nI (xbw j)))), (g0, .inr (2, [.ref h0, .ref g1, .ref g2, .ref g3, .ref g4, .ref g5, .ref g6, .ref g7, .ref g8, .ref g9, .ref ga, .ref gb, .int (nI cl), .int (nI ln), .int (nI br), .int (nI lp), .int (nI va)])), (g1, .inl (ax 1, 20, .inl (fun j => nI (kd j)))), (g2, .inl (ax 1, 20, .inl (fun j => nI (ow j)))), (g3, .inl (ax 1, 20, .inl (fun j => nI (sb j)))), (g4, .inl (ax 1, 20, .inl (fun j => nI (f1 j)))), (g5, .inl (ax 1, 20, .inl (fun j => nI (f2 j)))), (g6, .inl (ax 2, 20, .inl (fun j => nI (te j)))), (g7, .inl (ax 2, 20, .inl (fun j => nI (kp j)))), (g8, .inl (ax 0, 20, .inl tm)), (g9, .inl (ax 1, 20, .inl (fun j => nI (nm j)))), (ga, .inl (ax 1, 29, .inl (fun j => nI (ck j)))), (gb, .inl (ax 1, 29, .inl (fun j => nI (co j)))), (h0, .inr (4, [.ref h1, .ref h2, .ref h3, .int (nI zs)])), (h1, .inl (ax 1, cs, .inl so)), (h2, .inl (ax 0, cs, .inl sl)), (h3, .inl (ax 0, cs, .inl sr)), (b0, .inr (4, [.ref b1, .ref b2, .ref b3, .int (nI zb)])), (b1, .inl (ax 1, cb, .inl bo)), (b2, .inl (ax 0, cb, .inl bl)), (b3, .inl (ax 0, cb, .inl bq)), (a0, .inr (4, [.ref a1, .ref a2, .ref a3, .int (nI za)])), (a1, .inl (ax 1, ca, .inl ao)), (a2, .inl (ax 0, ca, .inl al)), (a3, .inl (ax 0, ca, .inl ar)), (ot0, .inl (ax 4, 1, .inr (.inl xov)))] t9.heap ∧ va_D (va_A [(d0, .inr (10, [.ref k0, .ref r0, .ref c0, .ref p0, .ref fd0, .ref w0, .ref e0, .ref b0, .ref a0, .ref y0, .ref g0, .ref i0, .int (nI ld)])), (fd0, .inr (1, [.ref fd1, .ref fd2, .ref fd3, .ref fd4])), (fd1, .inl (ax 2, 29, .inl rw)), (fd2, .inl (ax 2, 29, .inl aa)), (fd3, .inl (ax 2, 29, .inl ff)), (fd4, .inl (ax 0, 290, .inl nb)), (c0, .inr (3, [.ref n0, .ref c1, ml, mf, .int s_made])), (c1, .inl (ax 0, 16, .inl sd)), (n0, .inr (4, [.ref n1, .ref n2, .ref n3, .int (nI z9)])), (n1, .inl (ax 1, cp, .inl fo)), (n2, .inl (ax 0, cp, .inl fl)), (n3, .inl (ax 0, cp, .inl fr)), (p0, .inr (6, [.ref o0, .int s_rows, .int s_atoms, .int s_first, vf, .ref q1, .ref q2, .ref q3, .int (nI wt)])), (q1, .inl (ax 2, rl, .inl ro)), (q2, .inl (ax 0, 64, .inl (fun j => nI (dm j)))), (q3, .inl (ax 0, 64, .inl ix)), (o0, .inr (0, [.ref o1, .ref o2, .ref o3, .int (nI bn)])), (o1, .inl (ax 0, 11, .inl lv)), (o2, .inl (ax 0, 121, .inl mo)), (o3, .inl (ax 0, 121, .inl (fun j => nI (bw j)))), (g0, .inr (2, [.ref h0, .ref g1, .ref g2, .ref g3, .ref g4, .ref g5, .ref g6, .ref g7, .ref g8, .ref g9, .ref ga, .ref gb, .int (nI cl), .int (nI ln), .int (nI br), .int (nI lp), .int (nI va)])), (g1, .inl (ax 1, 20, .inl (fun j => nI (kd j)))), (g2, .inl (ax 1, 20, .inl (fun j => nI (ow j)))), (g3, .inl (ax 1, 20, .inl (fun j => nI (sb j)))), (g4, .inl (ax 1, 20, .inl (fun j => nI (f1 j)))), (g5, .inl (ax 1, 20, .inl (fun j => nI (f2 j)))), (g6, .inl (ax 2, 20, .inl (fun j => nI (te j)))), (g7, .inl (ax 2, 20, .inl (fun j => nI (kp j)))), (g8, .inl (ax 0, 20, .inl tm)), (g9, .inl (ax 1, 20, .inl (fun j => nI (nm j)))), (ga, .inl (ax 1, 29, .inl (fun j => nI (ck j)))), (gb, .inl (ax 1, 29, .inl (fun j => nI (co j)))), (h0, .inr (4, [.ref h1, .ref h2, .ref h3, .int (nI zs)])), (h1, .inl (ax 1, cs, .inl so)), (h2, .inl (ax 0, cs, .inl sl)), (h3, .inl (ax 0, cs, .inl sr)), (b0, .inr (4, [.ref b1, .ref b2, .ref b3, .int (nI zb)])), (b1, .inl (ax 1, cb, .inl bo)), (b2, .inl (ax 0, cb, .inl bl)), (b3, .inl (ax 0, cb, .inl bq)), (a0, .inr (4, [.ref a1, .ref a2, .ref a3, .int (nI za)])), (a1, .inl (ax 1, ca, .inl ao)), (a2, .inl (ax 0, ca, .inl al)), (a3, .inl (ax 0, ca, .inl ar)), (ot0, .inl (ax 4, 1, .inr (.inl ov)))] sz) [(d0, .inr (10, [.ref k0, .ref r0, .ref c0, .ref p0, .ref fd0, .ref w0, .ref e0, .ref b0, .ref a0, .ref y0, .ref g0, .ref i0, .int (nI (u 31))])), (fd0, .inr (1, [.ref fd1, .ref fd2, .ref fd3, .ref fd4])), (fd1, .inl (ax 2, 29, .inl xrw)), (fd2, .inl (ax 2, 29, .inl xaa)), (fd3, .inl (ax 2, 29, .inl xff)), (fd4, .inl (ax 0, 290, .inl xnb)), (c0, .inr (3, [.ref n0, .ref c1, xvl, xva, .int xmd])), (c1, .inl (ax 0, 16, .inl xsd)), (n0, .inr (4, [.ref (u 0), .ref (u 1), .ref (u 2), .int (nI (u 3))])), (u 0, .inl (ax 1, u 4, .inl xfo)), (u 1, .inl (ax 0, u 4, .inl xfl)), (u 2, .inl (ax 0, u 4, .inl xfr)), (p0, .inr (6, [.ref o0, .int xrs, .int xat, .int xfi, xvf, .ref (u 5), .ref q2, .ref q3, .int (nI (u 6))])), (u 5, .inl (ax 2, u 7, .inl xro)), (q2, .inl (ax 0, 64, .inl (fun j => nI (xdm j)))), (q3, .inl (ax 0, 64, .inl xix)), (o0, .inr (0, [.ref o1, .ref o2, .ref o3, .int (nI (u 8))])), (o1, .inl (ax 0, 11, .inl xlv)), (o2, .inl (ax 0, 121, .inl xmo)), (o3, .inl (ax 0, 121, .inl (fun j => nI (xbw j)))), (g0, .inr (2, [.ref h0, .ref g1, .ref g2, .ref g3, .ref g4, .ref g5, .ref g6, .ref g7, .ref g8, .ref g9, .ref ga, .ref gb, .int (nI cl), .int (nI ln), .int (nI br), .int (nI lp), .int (nI va)])), (g1, .inl (ax 1, 20, .inl (fun j => nI (kd j)))), (g2, .inl (ax 1, 20, .inl (fun j => nI (ow j)))), (g3, .inl (ax 1, 20, .inl (fun j => nI (sb j)))), (g4, .inl (ax 1, 20, .inl (fun j => nI (f1 j)))), (g5, .inl (ax 1, 20, .inl (fun j => nI (f2 j)))), (g6, .inl (ax 2, 20, .inl (fun j => nI (te j)))), (g7, .inl (ax 2, 20, .inl (fun j => nI (kp j)))), (g8, .inl (ax 0, 20, .inl tm)), (g9, .inl (ax 1, 20, .inl (fun j => nI (nm j)))), (ga, .inl (ax 1, 29, .inl (fun j => nI (ck j)))), (gb, .inl (ax 1, 29, .inl (fun j => nI (co j)))), (h0, .inr (4, [.ref h1, .ref h2, .ref h3, .int (nI zs)])), (h1, .inl (ax 1, cs, .inl so)), (h2, .inl (ax 0, cs, .inl sl)), (h3, .inl (ax 0, cs, .inl sr)), (b0, .inr (4, [.ref b1, .ref b2, .ref b3, .int (nI zb)])), (b1, .inl (ax 1, cb, .inl bo)), (b2, .inl (ax 0, cb, .inl bl)), (b3, .inl (ax 0, cb, .inl bq)), (a0, .inr (4, [.ref a1, .ref a2, .ref a3, .int (nI za)])), (a1, .inl (ax 1, ca, .inl ao)), (a2, .inl (ax 0, ca, .inl al)), (a3, .inl (ax 0, ca, .inl ar)), (ot0, .inl (ax 4, 1, .inr (.inl xov)))]) (va_A [(d0, .inr (10, [.ref k0, .ref r0, .ref c0, .ref p0, .ref fd0, .ref w0, .ref e0, .ref b0, .ref a0, .ref y0, .ref g0, .ref i0, .int (nI ld)])), (fd0, .inr (1, [.ref fd1, .ref fd2, .ref fd3, .ref fd4])), (fd1, .inl (ax 2, 29, .inl rw)), (fd2, .inl (ax 2, 29, .inl aa)), (fd3, .inl (ax 2, 29, .inl ff)), (fd4, .inl (ax 0, 290, .inl nb)), (c0, .inr (3, [.ref n0, .ref c1, ml, mf, .int s_made])), (c1, .inl (ax 0, 16, .inl sd)), (n0, .inr (4, [.ref n1, .ref n2, .ref n3, .int (nI z9)])), (n1, .inl (ax 1, cp, .inl fo)), (n2, .inl (ax 0, cp, .inl fl)), (n3, .inl (ax 0, cp, .inl fr)), (p0, .inr (6, [.ref o0, .int s_rows, .int s_atoms, .int s_first, vf, .ref q1, .ref q2, .ref q3, .int (nI wt)])), (q1, .inl (ax 2, rl, .inl ro)), (q2, .inl (ax 0, 64, .inl (fun j => nI (dm j)))), (q3, .inl (ax 0, 64, .inl ix)), (o0, .inr (0, [.ref o1, .ref o2, .ref o3, .int (nI bn)])), (o1, .inl (ax 0, 11, .inl lv)), (o2, .inl (ax 0, 121, .inl mo)), (o3, .inl (ax 0, 121, .inl (fun j => nI (bw j)))), (g0, .inr (2, [.ref h0, .ref g1, .ref g2, .ref g3, .ref g4, .ref g5, .ref g6, .ref g7, .ref g8, .ref g9, .ref ga, .ref gb, .int (nI cl), .int (nI ln), .int (nI br), .int (nI lp), .int (nI va)])), (g1, .inl (ax 1, 20, .inl (fun j => nI (kd j)))), (g2, .inl (ax 1, 20, .inl (fun j => nI (ow j)))), (g3, .inl (ax 1, 20, .inl (fun j => nI (sb j)))), (g4, .inl (ax 1, 20, .inl (fun j => nI (f1 j)))), (g5, .inl (ax 1, 20, .inl (fun j => nI (f2 j)))), (g6, .inl (ax 2, 20, .inl (fun j => nI (te j)))), (g7, .inl (ax 2, 20, .inl (fun j => nI (kp j)))), (g8, .inl (ax 0, 20, .inl tm)), (g9, .inl (ax 1, 20, .inl (fun j => nI (nm j)))), (ga, .inl (ax 1, 29, .inl (fun j => nI (ck j)))), (gb, .inl (ax 1, 29, .inl (fun j => nI (co j)))), (h0, .inr (4, [.ref h1, .ref h2, .ref h3, .int (nI zs)])), (h1, .inl (ax 1, cs, .inl so)), (h2, .inl (ax 0, cs, .inl sl)), (h3, .inl (ax 0, cs, .inl sr)), (b0, .inr (4, [.ref b1, .ref b2, .ref b3, .int (nI zb)])), (b1, .inl (ax 1, cb, .inl bo)), (b2, .inl (ax 0, cb, .inl bl)), (b3, .inl (ax 0, cb, .inl bq)), (a0, .inr (4, [.ref a1, .ref a2, .ref a3, .int (nI za)])), (a1, .inl (ax 1, ca, .inl ao)), (a2, .inl (ax 0, ca, .inl al)), (a3, .inl (ax 0, ca, .inl ar)), (ot0, .inl (ax 4, 1, .inr (.inl ov)))] sz))) (65536 - cp + (131073 - rl) + 1) (6 * (65536 - cp) + 2 * (131072 - rl) + 131072 + 6) (va_A [(d0, .inr (10, [.ref k0, .ref r0, .ref c0, .ref p0, .ref fd0, .ref w0, .ref e0, .ref b0, .ref a0, .ref y0, .ref g0, .ref i0, .int (nI ld)])), (fd0, .inr (1, [.ref fd1, .ref fd2, .ref fd3, .ref fd4])), (fd1, .inl (ax 2, 29, .inl rw)), (fd2, .inl (ax 2, 29, .inl aa)), (fd3, .inl (ax 2, 29, .inl ff)), (fd4, .inl (ax 0, 290, .inl nb)), (c0, .inr (3, [.ref n0, .ref c1, ml, mf, .int s_made])), (c1, .inl (ax 0, 16, .inl sd)), (n0, .inr (4, [.ref n1, .ref n2, .ref n3, .int (nI z9)])), (n1, .inl (ax 1, cp, .inl fo)), (n2, .inl (ax 0, cp, .inl fl)), (n3, .inl (ax 0, cp, .inl fr)), (p0, .inr (6, [.ref o0, .int s_rows, .int s_atoms, .int s_first, vf, .ref q1, .ref q2, .ref q3, .int (nI wt)])), (q1, .inl (ax 2, rl, .inl ro)), (q2, .inl (ax 0, 64, .inl (fun j => nI (dm j)))), (q3, .inl (ax 0, 64, .inl ix)), (o0, .inr (0, [.ref o1, .ref o2, .ref o3, .int (nI bn)])), (o1, .inl (ax 0, 11, .inl lv)), (o2, .inl (ax 0, 121, .inl mo)), (o3, .inl (ax 0, 121, .inl (fun j => nI (bw j)))), (g0, .inr (2, [.ref h0, .ref g1, .ref g2, .ref g3, .ref g4, .ref g5, .ref g6, .ref g7, .ref g8, .ref g9, .ref ga, .ref gb, .int (nI cl), .int (nI ln), .int (nI br), .int (nI lp), .int (nI va)])), (g1, .inl (ax 1, 20, .inl (fun j => nI (kd j)))), (g2, .inl (ax 1, 20, .inl (fun j => nI (ow j)))), (g3, .inl (ax 1, 20, .inl (fun j => nI (sb j)))), (g4, .inl (ax 1, 20, .inl (fun j => nI (f1 j)))), (g5, .inl (ax 1, 20, .inl (fun j => nI (f2 j)))), (g6, .inl (ax 2, 20, .inl (fun j => nI (te j)))), (g7, .inl (ax 2, 20, .inl (fun j => nI (kp j)))), (g8, .inl (ax 0, 20, .inl tm)), (g9, .inl (ax 1, 20, .inl (fun j => nI (nm j)))), (ga, .inl (ax 1, 29, .inl (fun j => nI (ck j)))), (gb, .inl (ax 1, 29, .inl (fun j => nI (co j)))), (h0, .inr (4, [.ref h1, .ref h2, .ref h3, .int (nI zs)])), (h1, .inl (ax 1, cs, .inl so)), (h2, .inl (ax 0, cs, .inl sl)), (h3, .inl (ax 0, cs, .inl sr)), (b0, .inr (4, [.ref b1, .ref b2, .ref b3, .int (nI zb)])), (b1, .inl (ax 1, cb, .inl bo)), (b2, .inl (ax 0, cb, .inl bl)), (b3, .inl (ax 0, cb, .inl bq)), (a0, .inr (4, [.ref a1, .ref a2, .ref a3, .int (nI za)])), (a1, .inl (ax 1, ca, .inl ao)), (a2, .inl (ax 0, ca, .inl al)), (a3, .inl (ax 0, ca, .inl ar)), (ot0, .inl (ax 4, 1, .inr (.inl ov)))] sz) := by
  refine xt_Met.ofWith (cc := b_law_proved) (maxL := 3) (ret := (some .int)) (hs := [(0, 15, 18, 13)]) (by decide) rfl ?_
  intro p e s m args below meth c s₁ B hml htab hv
  obtain ⟨rfl, ⟨⟨hsz, hP, hK, hD0⟩, htz⟩, hnc⟩ := hv
  have hx := B.exec
  have hb := B.bytes
  have hr := B.returns
  have hts := xw_hts B.pre
  have hown : s.vm.findClass R_law = some m.cls := findClass_of_methodNamed B.named
  have hlocks := B.notSynchronized
  subst hsz
  subst htz
  have hD := hD0.self (sz := s.heap.size)
  have hN := xz_entry hP
  generalize hAe : va_A [(d0, .inr (10, [.ref k0, .ref r0, .ref c0, .ref p0, .ref fd0, .ref w0, .ref e0, .ref b0, .ref a0, .ref y0, .ref g0, .ref i0, .int (nI ld)])), (fd0, .inr (1, [.ref fd1, .ref fd2, .ref fd3, .ref fd4])), (fd1, .inl (ax 2, 29, .inl rw)), (fd2, .inl (ax 2, 29, .inl aa)), (fd3, .inl (ax 2, 29, .inl ff)), (fd4, .inl (ax 0, 290, .inl nb)), (c0, .inr (3, [.ref n0, .ref c1, ml, mf, .int s_made])), (c1, .inl (ax 0, 16, .inl sd)), (n0, .inr (4, [.ref n1, .ref n2, .ref n3, .int (nI z9)])), (n1, .inl (ax 1, cp, .inl fo)), (n2, .inl (ax 0, cp, .inl fl)), (n3, .inl (ax 0, cp, .inl fr)), (p0, .inr (6, [.ref o0, .int s_rows, .int s_atoms, .int s_first, vf, .ref q1, .ref q2, .ref q3, .int (nI wt)])), (q1, .inl (ax 2, rl, .inl ro)), (q2, .inl (ax 0, 64, .inl (fun j => nI (dm j)))), (q3, .inl (ax 0, 64, .inl ix)), (o0, .inr (0, [.ref o1, .ref o2, .ref o3, .int (nI bn)])), (o1, .inl (ax 0, 11, .inl lv)), (o2, .inl (ax 0, 121, .inl mo)), (o3, .inl (ax 0, 121, .inl (fun j => nI (bw j)))), (g0, .inr (2, [.ref h0, .ref g1, .ref g2, .ref g3, .ref g4, .ref g5, .ref g6, .ref g7, .ref g8, .ref g9, .ref ga, .ref gb, .int (nI cl), .int (nI ln), .int (nI br), .int (nI lp), .int (nI va)])), (g1, .inl (ax 1, 20, .inl (fun j => nI (kd j)))), (g2, .inl (ax 1, 20, .inl (fun j => nI (ow j)))), (g3, .inl (ax 1, 20, .inl (fun j => nI (sb j)))), (g4, .inl (ax 1, 20, .inl (fun j => nI (f1 j)))), (g5, .inl (ax 1, 20, .inl (fun j => nI (f2 j)))), (g6, .inl (ax 2, 20, .inl (fun j => nI (te j)))), (g7, .inl (ax 2, 20, .inl (fun j => nI (kp j)))), (g8, .inl (ax 0, 20, .inl tm)), (g9, .inl (ax 1, 20, .inl (fun j => nI (nm j)))), (ga, .inl (ax 1, 29, .inl (fun j => nI (ck j)))), (gb, .inl (ax 1, 29, .inl (fun j => nI (co j)))), (h0, .inr (4, [.ref h1, .ref h2, .ref h3, .int (nI zs)])), (h1, .inl (ax 1, cs, .inl so)), (h2, .inl (ax 0, cs, .inl sl)), (h3, .inl (ax 0, cs, .inl sr)), (b0, .inr (4, [.ref b1, .ref b2, .ref b3, .int (nI zb)])), (b1, .inl (ax 1, cb, .inl bo)), (b2, .inl (ax 0, cb, .inl bl)), (b3, .inl (ax 0, cb, .inl bq)), (a0, .inr (4, [.ref a1, .ref a2, .ref a3, .int (nI za)])), (a1, .inl (ax 1, ca, .inl ao)), (a2, .inl (ax 0, ca, .inl al)), (a3, .inl (ax 0, ca, .inl ar)), (ot0, .inl (ax 4, 1, .inr (.inl ov)))] s.heap.size = A at hD hN ⊢
  have hA : ∀ q : Nat, s.heap.size ≤ q → A q := fun q h => by rw [← hAe]; exact Or.inr h
  have hS : va_S A s.heap s.heap [] := va_S.rf
  have hl0 := lv_entry ([.ref d0, .ref ot0]) (n := 3) (Nat.le_of_ble_eq_true rfl)
  rw [lg_entry_eq]
  generalize (lg_sl ([.ref d0, .ref ot0]) ++ List.replicate (3 - (lg_sl ([.ref d0, .ref ot0])).length) Slot.unset).toArray = ls at hl0 ⊢
  have hl1 : lv_has ls 3 [(0, .ref d0), (1, .ref ot0)] := hl0
  have hrl8 := hrlo.le
  refine lv_aload_n hx hb d_law_proved_0 rfl (lv_at hl1 1 rfl) ?_
  refine lv_iconst (v := 0) hx hb d_law_proved_1 (by decide) ?_
  refine lv_aload_n hx hb d_law_proved_2 rfl (lv_at hl1 0 rfl) ?_
  rcases (show ld = 0 ∨ ld = 1 by omega) with hld0 | hld0
  · rw [hld0] at hP hD
    have hP7 := hP; have hD7 := hD; clear hP hD
    have hW7 : (fun w9 : va_W => va_P D classes w9 s.heap ∧ va_D A w9) [(d0, .inr (10, [.ref k0, .ref r0, .ref c0, .ref p0, .ref fd0, .ref w0, .ref e0, .ref b0, .ref a0, .ref y0, .ref g0, .ref i0, .int 0])), (fd0, .inr (1, [.ref fd1, .ref fd2, .ref fd3, .ref fd4])), (fd1, .inl (ax 2, 29, .inl rw)), (fd2, .inl (ax 2, 29, .inl aa)), (fd3, .inl (ax 2, 29, .inl ff)), (fd4, .inl (ax 0, 290, .inl nb)), (c0, .inr (3, [.ref n0, .ref c1, ml, mf, .int s_made])), (c1, .inl (ax 0, 16, .inl sd)), (n0, .inr (4, [.ref n1, .ref n2, .ref n3, .int (nI z9)])), (n1, .inl (ax 1, cp, .inl fo)), (n2, .inl (ax 0, cp, .inl fl)), (n3, .inl (ax 0, cp, .inl fr)), (p0, .inr (6, [.ref o0, .int s_rows, .int s_atoms, .int s_first, vf, .ref q1, .ref q2, .ref q3, .int (nI wt)])), (q1, .inl (ax 2, rl, .inl ro)), (q2, .inl (ax 0, 64, .inl (fun j => nI (dm j)))), (q3, .inl (ax 0, 64, .inl ix)), (o0, .inr (0, [.ref o1, .ref o2, .ref o3, .int (nI bn)])), (o1, .inl (ax 0, 11, .inl lv)), (o2, .inl (ax 0, 121, .inl mo)), (o3, .inl (ax 0, 121, .inl (fun j => nI (bw j)))), (g0, .inr (2, [.ref h0, .ref g1, .ref g2, .ref g3, .ref g4, .ref g5, .ref g6, .ref g7, .ref g8, .ref g9, .ref ga, .ref gb, .int (nI cl), .int (nI ln), .int (nI br), .int (nI lp), .int (nI va)])), (g1, .inl (ax 1, 20, .inl (fun j => nI (kd j)))), (g2, .inl (ax 1, 20, .inl (fun j => nI (ow j)))), (g3, .inl (ax 1, 20, .inl (fun j => nI (sb j)))), (g4, .inl (ax 1, 20, .inl (fun j => nI (f1 j)))), (g5, .inl (ax 1, 20, .inl (fun j => nI (f2 j)))), (g6, .inl (ax 2, 20, .inl (fun j => nI (te j)))), (g7, .inl (ax 2, 20, .inl (fun j => nI (kp j)))), (g8, .inl (ax 0, 20, .inl tm)), (g9, .inl (ax 1, 20, .inl (fun j => nI (nm j)))), (ga, .inl (ax 1, 29, .inl (fun j => nI (ck j)))), (gb, .inl (ax 1, 29, .inl (fun j => nI (co j)))), (h0, .inr (4, [.ref h1, .ref h2, .ref h3, .int (nI zs)])), (h1, .inl (ax 1, cs, .inl so)), (h2, .inl (ax 0, cs, .inl sl)), (h3, .inl (ax 0, cs, .inl sr)), (b0, .inr (4, [.ref b1, .ref b2, .ref b3, .int (nI zb)])), (b1, .inl (ax 1, cb, .inl bo)), (b2, .inl (ax 0, cb, .inl bl)), (b3, .inl (ax 0, cb, .inl bq)), (a0, .inr (4, [.ref a1, .ref a2, .ref a3, .int (nI za)])), (a1, .inl (ax 1, ca, .inl ao)), (a2, .inl (ax 0, ca, .inl al)), (a3, .inl (ax 0, ca, .inl ar)), (ot0, .inl (ax 4, 1, .inr (.inl ov)))] := ⟨hP7, hD7⟩
    obtain ⟨hP, hD⟩ := hW7
    clear hP7 hD7
    obtain ⟨hPc, hDc, hFc, hCs⟩ := xw_sub3 (wc := [(d0, .inr (10, [.ref k0, .ref r0, .ref c0, .ref p0, .ref fd0, .ref w0, .ref e0, .ref b0, .ref a0, .ref y0, .ref g0, .ref i0, .int 0]))]) hP hD hS hA [0] (by decide) rfl
    have hz := xz_of hN hS
    refine wk_know (fun hk8 hk9 => ?_)
    refine xt_catchU (xt_runV (As := []) (rest := [.int 0, .ref ot0]) ⟨hx, hb, hml, hown, hts⟩ (c_D_proved_np l hl D ax d0 k0 r0 c0 p0 fd0 w0 e0 b0 a0 y0 g0 i0 s.heap.size (tsl s.heap)) (xcV (n := 0) hts wd_899 wd_1 wd_896 wd_897 wd_898 rfl rfl (by decide +kernel) ⟨(show (20) + 1 ≤ (1220) by omega), (show 8 + (3 + 11) + (800) ≤ (28200) by omega)⟩) (xpV3 (ci := 10) (q0 := 0) (As := []) hPc hK hz hDc rfl rfl) rfl rfl hl1.1 rfl (lv_room (Nat.le_of_ble_eq_true rfl)) d_law_proved_3 ⟨(show (0) + (1) ≤ (65536 - cp + (131073 - rl) + 1) by omega), (show (0) + (6) ≤ (6 * (65536 - cp) + 2 * (131072 - rl) + 131072 + 6) by omega)⟩) (fun hrt H_1 locs9 r9 hB hz1 hk1 hL => ?_) (fun cls9 hc9 => ?_)
    · exact hrt.elim
    · simp only [List.mem_cons, List.not_mem_nil, or_false] at hc9
      subst hc9
      refine ⟨18, xt_K1 (own := R_law) (ent := ⟨0, 15, 18, 13⟩) (restT := []) htab (by decide) (by decide) hown (hts _ wd_657), fun xq H_2 locs9 hB hz1 hk1 hL => ?_⟩
      obtain ⟨u_3, hg8, hg9, hP1, hD1⟩ := hB
      have hjn := xw_join3 (wl := [(fd0, .inr (1, [.ref fd1, .ref fd2, .ref fd3, .ref fd4])), (fd1, .inl (ax 2, 29, .inl rw)), (fd2, .inl (ax 2, 29, .inl aa)), (fd3, .inl (ax 2, 29, .inl ff)), (fd4, .inl (ax 0, 290, .inl nb)), (c0, .inr (3, [.ref n0, .ref c1, ml, mf, .int s_made])), (c1, .inl (ax 0, 16, .inl sd)), (n0, .inr (4, [.ref n1, .ref n2, .ref n3, .int (nI z9)])), (n1, .inl (ax 1, cp, .inl fo)), (n2, .inl (ax 0, cp, .inl fl)), (n3, .inl (ax 0, cp, .inl fr)), (p0, .inr (6, [.ref o0, .int s_rows, .int s_atoms, .int s_first, vf, .ref q1, .ref q2, .ref q3, .int (nI wt)])), (q1, .inl (ax 2, rl, .inl ro)), (q2, .inl (ax 0, 64, .inl (fun j => nI (dm j)))), (q3, .inl (ax 0, 64, .inl ix)), (o0, .inr (0, [.ref o1, .ref o2, .ref o3, .int (nI bn)])), (o1, .inl (ax 0, 11, .inl lv)), (o2, .inl (ax 0, 121, .inl mo)), (o3, .inl (ax 0, 121, .inl (fun j => nI (bw j)))), (g0, .inr (2, [.ref h0, .ref g1, .ref g2, .ref g3, .ref g4, .ref g5, .ref g6, .ref g7, .ref g8, .ref g9, .ref ga, .ref gb, .int (nI cl), .int (nI ln), .int (nI br), .int (nI lp), .int (nI va)])), (g1, .inl (ax 1, 20, .inl (fun j => nI (kd j)))), (g2, .inl (ax 1, 20, .inl (fun j => nI (ow j)))), (g3, .inl (ax 1, 20, .inl (fun j => nI (sb j)))), (g4, .inl (ax 1, 20, .inl (fun j => nI (f1 j)))), (g5, .inl (ax 1, 20, .inl (fun j => nI (f2 j)))), (g6, .inl (ax 2, 20, .inl (fun j => nI (te j)))), (g7, .inl (ax 2, 20, .inl (fun j => nI (kp j)))), (g8, .inl (ax 0, 20, .inl tm)), (g9, .inl (ax 1, 20, .inl (fun j => nI (nm j)))), (ga, .inl (ax 1, 29, .inl (fun j => nI (ck j)))), (gb, .inl (ax 1, 29, .inl (fun j => nI (co j)))), (h0, .inr (4, [.ref h1, .ref h2, .ref h3, .int (nI zs)])), (h1, .inl (ax 1, cs, .inl so)), (h2, .inl (ax 0, cs, .inl sl)), (h3, .inl (ax 0, cs, .inl sr)), (b0, .inr (4, [.ref b1, .ref b2, .ref b3, .int (nI zb)])), (b1, .inl (ax 1, cb, .inl bo)), (b2, .inl (ax 0, cb, .inl bl)), (b3, .inl (ax 0, cb, .inl bq)), (a0, .inr (4, [.ref a1, .ref a2, .ref a3, .int (nI za)])), (a1, .inl (ax 1, ca, .inl ao)), (a2, .inl (ax 0, ca, .inl al)), (a3, .inl (ax 0, ca, .inl ar)), (ot0, .inl (ax 4, 1, .inr (.inl ov))), (d0, .inr (10, [.ref k0, .ref r0, .ref c0, .ref p0, .ref fd0, .ref w0, .ref e0, .ref b0, .ref a0, .ref y0, .ref g0, .ref i0, .int 0]))]) hP hD [0] [1, 2, 3, 4, 5, 6, 7, 8, 9, 10, 11, 12, 13, 14, 15, 16, 17, 18, 19, 20, 21, 22, 23, 24, 25, 26, 27, 28, 29, 30, 31, 32, 33, 34, 35, 36, 37, 38, 39, 40, 41, 42, 43, 44] hCs (by decide) (by decide) hk1 hFc hP1 hD1 rfl
      have hS1 := xs_catchA hS hz1 hk1 (fun q h => hFc q h) (fun q hq => hFc _ (hL q hq))
      clear hP1 hD1 hz1 hk1 hL
      clear hPc hDc hFc hCs hz
      clear hP hD hS
      have hS := hS1
      obtain ⟨hP, hD⟩ := hjn
      clear hS1
      refine wk_narrow (k := 1) (n := 6) (by first | assumption | omega) (by first | assumption | omega) ?_
      clear hk8 hk9 hg8 hg9
      refine lv_astore_n (lv' := [(2, .ref xq), (0, .ref d0), (1, .ref ot0)]) hx hb d_law_proved_18 rfl hl1 (by decide) rfl (fun ls hl2 => ?_)
      clear hl1; have hl1 := hl2; clear hl2
      refine lv_iconst (v := 1) hx hb d_law_proved_19 (by decide) ?_
      refine xt_weak (fun t h => xt_ofMQ h) ?_
      refine wk_know (fun hk8 hk9 => ?_)
      refine W.widen (k := 65536 - cp + (131073 - rl) + 1) (n := 6 * (65536 - cp) + 2 * (131072 - rl) + 131072 + 6) (by first | assumption | omega) (by first | assumption | omega) ?_
      obtain ⟨hP9, hD9⟩ := xw_sub2 (wc := (fun (u : Nat → Nat) (xrw : Nat → Int32) (xaa : Nat → Int32) (xff : Nat → Int32) (xnb : Nat → Int32) (xsd : Nat → Int32) (xmd : Int32) (xvl : Value) (xva : Value) (xfo : Nat → Int32) (xfl : Nat → Int32) (xfr : Nat → Int32) (xrs : Int32) (xat : Int32) (xfi : Int32) (xvf : Value) (xro : Nat → Int32) (xdm : Nat → Nat) (xix : Nat → Int32) (xlv : Nat → Int32) (xmo : Nat → Int32) (xbw : Nat → Nat) (xov : Nat → Int64) => [(d0, .inr (10, [.ref k0, .ref r0, .ref c0, .ref p0, .ref fd0, .ref w0, .ref e0, .ref b0, .ref a0, .ref y0, .ref g0, .ref i0, .int (nI (u 31))])), (fd0, .inr (1, [.ref fd1, .ref fd2, .ref fd3, .ref fd4])), (fd1, .inl (ax 2, 29, .inl xrw)), (fd2, .inl (ax 2, 29, .inl xaa)), (fd3, .inl (ax 2, 29, .inl xff)), (fd4, .inl (ax 0, 290, .inl xnb)), (c0, .inr (3, [.ref n0, .ref c1, xvl, xva, .int xmd])), (c1, .inl (ax 0, 16, .inl xsd)), (n0, .inr (4, [.ref (u 0), .ref (u 1), .ref (u 2), .int (nI (u 3))])), (u 0, .inl (ax 1, u 4, .inl xfo)), (u 1, .inl (ax 0, u 4, .inl xfl)), (u 2, .inl (ax 0, u 4, .inl xfr)), (p0, .inr (6, [.ref o0, .int xrs, .int xat, .int xfi, xvf, .ref (u 5), .ref q2, .ref q3, .int (nI (u 6))])), (u 5, .inl (ax 2, u 7, .inl xro)), (q2, .inl (ax 0, 64, .inl (fun j => nI (xdm j)))), (q3, .inl (ax 0, 64, .inl xix)), (o0, .inr (0, [.ref o1, .ref o2, .ref o3, .int (nI (u 8))])), (o1, .inl (ax 0, 11, .inl xlv)), (o2, .inl (ax 0, 121, .inl xmo)), (o3, .inl (ax 0, 121, .inl (fun j => nI (xbw j)))), (g0, .inr (2, [.ref h0, .ref g1, .ref g2, .ref g3, .ref g4, .ref g5, .ref g6, .ref g7, .ref g8, .ref g9, .ref ga, .ref gb, .int (nI cl), .int (nI ln), .int (nI br), .int (nI lp), .int (nI va)])), (g1, .inl (ax 1, 20, .inl (fun j => nI (kd j)))), (g2, .inl (ax 1, 20, .inl (fun j => nI (ow j)))), (g3, .inl (ax 1, 20, .inl (fun j => nI (sb j)))), (g4, .inl (ax 1, 20, .inl (fun j => nI (f1 j)))), (g5, .inl (ax 1, 20, .inl (fun j => nI (f2 j)))), (g6, .inl (ax 2, 20, .inl (fun j => nI (te j)))), (g7, .inl (ax 2, 20, .inl (fun j => nI (kp j)))), (g8, .inl (ax 0, 20, .inl tm)), (g9, .inl (ax 1, 20, .inl (fun j => nI (nm j)))), (ga, .inl (ax 1, 29, .inl (fun j => nI (ck j)))), (gb, .inl (ax 1, 29, .inl (fun j => nI (co j)))), (h0, .inr (4, [.ref h1, .ref h2, .ref h3, .int (nI zs)])), (h1, .inl (ax 1, cs, .inl so)), (h2, .inl (ax 0, cs, .inl sl)), (h3, .inl (ax 0, cs, .inl sr)), (b0, .inr (4, [.ref b1, .ref b2, .ref b3, .int (nI zb)])), (b1, .inl (ax 1, cb, .inl bo)), (b2, .inl (ax 0, cb, .inl bl)), (b3, .inl (ax 0, cb, .inl bq)), (a0, .inr (4, [.ref a1, .ref a2, .ref a3, .int (nI za)])), (a1, .inl (ax 1, ca, .inl ao)), (a2, .inl (ax 0, ca, .inl al)), (a3, .inl (ax 0, ca, .inl ar)), (ot0, .inl (ax 4, 1, .inr (.inl xov)))]) (ixn [n1, n2, n3, z9, cp, q1, wt, rl, bn, 0, 0, 0, 0, 0, 0, 0, 0, 0, 0, 0, 0, 0, 0, 0, 0, 0, 0, 0, 0, 0, 1, 0]) rw aa ff nb sd s_made ml mf fo fl fr s_rows s_atoms s_first vf ro dm ix lv mo bw ov) hP hD [44, 0, 1, 2, 3, 4, 5, 6, 7, 8, 9, 10, 11, 12, 13, 14, 15, 16, 17, 18, 19, 20, 21, 22, 23, 24, 25, 26, 27, 28, 29, 30, 31, 32, 33, 34, 35, 36, 37, 38, 39, 40, 41, 42, 43] (by decide) rfl
      have hex0 : bts fo (cp) := (by assumption)
      have hex1 : ∀ j, j ≤ 10 → trm (sd j) := (by assumption)
      have hex2 : fmk s_made (z9) fo fl fr := (by assumption)
      have hex3 : bnv mo bw (bn) := (by assumption)
      have hex4 : imp1 ld (fqm8 s_made (z9) fo fl fr gpr gpo gpl) := (by first | assumption | exact Or.inr (by assumption))
      have hex5 : bcv8 mo bw (bn) := (by assumption)
      have hex6 : imp1 ld (fnQ8 rw aa ff nb gpr gpo gpl) := (by first | assumption | exact Or.inr (by assumption))
      have hg8 : H_2.size ≤ s.heap.size + (cp - cp + (rl - rl) + 1) := by omega
      have hg9 : tsl H_2 ≤ tsl s.heap + (6 * (cp - cp) + 2 * (rl - rl) + 6) := by omega
      have hsp0 : z9 ≤ cp := (by first | assumption | omega)
      have hsp1 : cp ≤ cp := (by first | assumption | omega)
      have hsp2 : cp ≤ 65536 := (by first | assumption | omega)
      have hsp3 : wt ≤ 64 := (by first | assumption | omega)
      have hsp4 : rl ≤ rl := (by first | assumption | omega)
      have hsp5 : rlo (rl) (cp) := (by assumption)
      have hsp6 : rl ≤ 131072 := (by first | assumption | omega)
      have hsp7 : 0 = ld := (by first | assumption | omega)
      exact W.iret (v := 1) hx hb hr (fun t ht hW => ⟨⟨1, ixn [n1, n2, n3, z9, cp, q1, wt, rl, bn, 0, 0, 0, 0, 0, 0, 0, 0, 0, 0, 0, 0, 0, 0, 0, 0, 0, 0, 0, 0, 0, 1, 0], rfl, ⟨rfl, ⟨hsp0, hsp1, hsp2, hsp3, hsp4, hsp5, hsp6, hsp7⟩⟩, ⟨rw, aa, ff, nb, sd, s_made, ml, mf, fo, fl, fr, s_rows, s_atoms, s_first, vf, ro, dm, ix, lv, mo, bw, ov, by rw [ht]; exact hg8, by rw [ht]; exact hg9, hex0, hex1, hex2, hex3, hex4, hex5, hex6, by rw [ht]; exact hP9, hD9⟩⟩, hS.F ht⟩) hS.2.2 d_law_proved_20
  · rw [hld0] at hP hD
    have hP7 := hP; have hD7 := hD; clear hP hD
    have hW7 : (fun w9 : va_W => va_P D classes w9 s.heap ∧ va_D A w9) [(d0, .inr (10, [.ref k0, .ref r0, .ref c0, .ref p0, .ref fd0, .ref w0, .ref e0, .ref b0, .ref a0, .ref y0, .ref g0, .ref i0, .int 1])), (fd0, .inr (1, [.ref fd1, .ref fd2, .ref fd3, .ref fd4])), (fd1, .inl (ax 2, 29, .inl rw)), (fd2, .inl (ax 2, 29, .inl aa)), (fd3, .inl (ax 2, 29, .inl ff)), (fd4, .inl (ax 0, 290, .inl nb)), (c0, .inr (3, [.ref n0, .ref c1, ml, mf, .int s_made])), (c1, .inl (ax 0, 16, .inl sd)), (n0, .inr (4, [.ref n1, .ref n2, .ref n3, .int (nI z9)])), (n1, .inl (ax 1, cp, .inl fo)), (n2, .inl (ax 0, cp, .inl fl)), (n3, .inl (ax 0, cp, .inl fr)), (p0, .inr (6, [.ref o0, .int s_rows, .int s_atoms, .int s_first, vf, .ref q1, .ref q2, .ref q3, .int (nI wt)])), (q1, .inl (ax 2, rl, .inl ro)), (q2, .inl (ax 0, 64, .inl (fun j => nI (dm j)))), (q3, .inl (ax 0, 64, .inl ix)), (o0, .inr (0, [.ref o1, .ref o2, .ref o3, .int (nI bn)])), (o1, .inl (ax 0, 11, .inl lv)), (o2, .inl (ax 0, 121, .inl mo)), (o3, .inl (ax 0, 121, .inl (fun j => nI (bw j)))), (g0, .inr (2, [.ref h0, .ref g1, .ref g2, .ref g3, .ref g4, .ref g5, .ref g6, .ref g7, .ref g8, .ref g9, .ref ga, .ref gb, .int (nI cl), .int (nI ln), .int (nI br), .int (nI lp), .int (nI va)])), (g1, .inl (ax 1, 20, .inl (fun j => nI (kd j)))), (g2, .inl (ax 1, 20, .inl (fun j => nI (ow j)))), (g3, .inl (ax 1, 20, .inl (fun j => nI (sb j)))), (g4, .inl (ax 1, 20, .inl (fun j => nI (f1 j)))), (g5, .inl (ax 1, 20, .inl (fun j => nI (f2 j)))), (g6, .inl (ax 2, 20, .inl (fun j => nI (te j)))), (g7, .inl (ax 2, 20, .inl (fun j => nI (kp j)))), (g8, .inl (ax 0, 20, .inl tm)), (g9, .inl (ax 1, 20, .inl (fun j => nI (nm j)))), (ga, .inl (ax 1, 29, .inl (fun j => nI (ck j)))), (gb, .inl (ax 1, 29, .inl (fun j => nI (co j)))), (h0, .inr (4, [.ref h1, .ref h2, .ref h3, .int (nI zs)])), (h1, .inl (ax 1, cs, .inl so)), (h2, .inl (ax 0, cs, .inl sl)), (h3, .inl (ax 0, cs, .inl sr)), (b0, .inr (4, [.ref b1, .ref b2, .ref b3, .int (nI zb)])), (b1, .inl (ax 1, cb, .inl bo)), (b2, .inl (ax 0, cb, .inl bl)), (b3, .inl (ax 0, cb, .inl bq)), (a0, .inr (4, [.ref a1, .ref a2, .ref a3, .int (nI za)])), (a1, .inl (ax 1, ca, .inl ao)), (a2, .inl (ax 0, ca, .inl al)), (a3, .inl (ax 0, ca, .inl ar)), (ot0, .inl (ax 4, 1, .inr (.inl ov)))] := ⟨hP7, hD7⟩
    obtain ⟨hP, hD⟩ := hW7
    clear hP7 hD7
    obtain ⟨⟨en, kc, hlw⟩, hcm, hbr, hcl, hln1, hsv⟩ := hlo hld0
    have hlE1 := hlE.go (by first | assumption | omega)
    have hf81 := hf8.go (by first | assumption | omega)
    have hfn1 := hfn.go (by first | assumption | omega)
    obtain ⟨hPc, hDc, hFc, hCs⟩ := xw_sub3 (wc := [(d0, .inr (10, [.ref k0, .ref r0, .ref c0, .ref p0, .ref fd0, .ref w0, .ref e0, .ref b0, .ref a0, .ref y0, .ref g0, .ref i0, .int 1])), (fd0, .inr (1, [.ref fd1, .ref fd2, .ref fd3, .ref fd4])), (fd1, .inl (ax 2, 29, .inl rw)), (fd2, .inl (ax 2, 29, .inl aa)), (fd3, .inl (ax 2, 29, .inl ff)), (fd4, .inl (ax 0, 290, .inl nb)), (c0, .inr (3, [.ref n0, .ref c1, ml, mf, .int s_made])), (c1, .inl (ax 0, 16, .inl sd)), (n0, .inr (4, [.ref n1, .ref n2, .ref n3, .int (nI z9)])), (n1, .inl (ax 1, cp, .inl fo)), (n2, .inl (ax 0, cp, .inl fl)), (n3, .inl (ax 0, cp, .inl fr)), (p0, .inr (6, [.ref o0, .int s_rows, .int s_atoms, .int s_first, vf, .ref q1, .ref q2, .ref q3, .int (nI wt)])), (q1, .inl (ax 2, rl, .inl ro)), (q2, .inl (ax 0, 64, .inl (fun j => nI (dm j)))), (q3, .inl (ax 0, 64, .inl ix)), (o0, .inr (0, [.ref o1, .ref o2, .ref o3, .int (nI bn)])), (o1, .inl (ax 0, 11, .inl lv)), (o2, .inl (ax 0, 121, .inl mo)), (o3, .inl (ax 0, 121, .inl (fun j => nI (bw j)))), (g0, .inr (2, [.ref h0, .ref g1, .ref g2, .ref g3, .ref g4, .ref g5, .ref g6, .ref g7, .ref g8, .ref g9, .ref ga, .ref gb, .int (nI cl), .int (nI ln), .int (nI br), .int (nI lp), .int (nI va)])), (g1, .inl (ax 1, 20, .inl (fun j => nI (kd j)))), (g2, .inl (ax 1, 20, .inl (fun j => nI (ow j)))), (g3, .inl (ax 1, 20, .inl (fun j => nI (sb j)))), (g4, .inl (ax 1, 20, .inl (fun j => nI (f1 j)))), (g5, .inl (ax 1, 20, .inl (fun j => nI (f2 j)))), (g6, .inl (ax 2, 20, .inl (fun j => nI (te j)))), (g7, .inl (ax 2, 20, .inl (fun j => nI (kp j)))), (g8, .inl (ax 0, 20, .inl tm)), (g9, .inl (ax 1, 20, .inl (fun j => nI (nm j)))), (ga, .inl (ax 1, 29, .inl (fun j => nI (ck j)))), (gb, .inl (ax 1, 29, .inl (fun j => nI (co j)))), (h0, .inr (4, [.ref h1, .ref h2, .ref h3, .int (nI zs)])), (h1, .inl (ax 1, cs, .inl so)), (h2, .inl (ax 0, cs, .inl sl)), (h3, .inl (ax 0, cs, .inl sr)), (b0, .inr (4, [.ref b1, .ref b2, .ref b3, .int (nI zb)])), (b1, .inl (ax 1, cb, .inl bo)), (b2, .inl (ax 0, cb, .inl bl)), (b3, .inl (ax 0, cb, .inl bq)), (a0, .inr (4, [.ref a1, .ref a2, .ref a3, .int (nI za)])), (a1, .inl (ax 1, ca, .inl ao)), (a2, .inl (ax 0, ca, .inl al)), (a3, .inl (ax 0, ca, .inl ar))]) hP hD hS hA [0, 1, 2, 3, 4, 5, 6, 7, 8, 9, 10, 11, 12, 13, 14, 15, 16, 17, 18, 19, 20, 21, 22, 23, 24, 25, 26, 27, 28, 29, 30, 31, 32, 33, 34, 35, 36, 37, 38, 39, 40, 41, 42, 43] (by decide) rfl
    have hz := xz_of hN hS
    refine wk_know (fun hk8 hk9 => ?_)
    refine va_calli (va_runV (As := []) (rest := [.int 0, .ref ot0]) ⟨hx, hb, hml, hown, hts⟩ (c_D_proved_ok l D ax d0 k0 r0 c0 p0 fd0 w0 e0 b0 a0 y0 g0 i0 fd1 fd2 fd3 fd4 c1 n0 n1 n2 n3 cp z9 o0 q1 q2 q3 wt rl o1 o2 o3 bn h0 g1 g2 g3 g4 g5 g6 g7 g8 g9 ga gb cl ln br lp va h1 h2 h3 zs cs b1 b2 b3 zb cb a1 a2 a3 za ca s_made s_rows s_atoms s_first ml mf vf rw aa ff nb sd fo fl fr ro ix lv mo tm so sl sr bo bl bq ao al ar dm bw kd ow sb f1 f2 te kp nm ck co en kc gpr gpo gpl s.heap.size (tsl s.heap) hcp hz9 hmx hfo hsd hfm hzs (by first | assumption | omega) hsv hza (by first | assumption | omega) hz1 hz4 hav hat hzb (by first | assumption | omega) hb1 hb4 hbv hbt hlw hcm hbr hcl hln1 hlE1 hf81 hrlo hbw hwt hcv hfn1) (xcV (n := 0) hts wd_899 wd_1 wd_896 wd_897 wd_898 rfl rfl (by decide +kernel) ⟨(show (1210) + 1 ≤ (1220) by omega), (show 8 + (3 + 11) + (27900) ≤ (28200) by omega)⟩) (xpV3 (ci := 10) (q0 := 0) (As := []) hPc hK hz hDc rfl rfl) rfl rfl hl1.1 rfl (lv_room (Nat.le_of_ble_eq_true rfl)) d_law_proved_3 ⟨(show (0) + (65536 - cp + (131073 - rl)) ≤ (65536 - cp + (131073 - rl) + 1) by omega), (show (0) + (6 * (65536 - cp) + 2 * (131072 - rl) + 131072) ≤ (6 * (65536 - cp) + 2 * (131072 - rl) + 131072 + 6) by omega)⟩) hS (fun q _ h => hFc q h) hFc (fun r_6 u_4 t H_5 locs ht hvm hw hB hz1 hk1 hS1 => ?_)
    try dsimp only at hw
    obtain ⟨hw, hs_7, hs_8, hs_9, hs_10, hs_11, hs_12, hs_13⟩ := hw
    subst hw
    obtain ⟨x_14, x_15, x_16, x_17, x_18, x_19, x_20, x_21, x_22, x_23, x_24, x_25, x_26, x_27, x_28, x_29, x_30, x_31, x_32, x_33, x_34, hg8, hg9, hx_35, hx_36, hx_37, hx_38, hx_39, hx_40, hx_41, hP1, hD1⟩ := hB
    rw [ht] at hg8 hg9 hP1
    have hjn := xw_join3 (wl := [(ot0, .inl (ax 4, 1, .inr (.inl ov))), (d0, .inr (10, [.ref k0, .ref r0, .ref c0, .ref p0, .ref fd0, .ref w0, .ref e0, .ref b0, .ref a0, .ref y0, .ref g0, .ref i0, .int 1])), (fd0, .inr (1, [.ref fd1, .ref fd2, .ref fd3, .ref fd4])), (fd1, .inl (ax 2, 29, .inl x_14)), (fd2, .inl (ax 2, 29, .inl x_15)), (fd3, .inl (ax 2, 29, .inl x_16)), (fd4, .inl (ax 0, 290, .inl x_17)), (c0, .inr (3, [.ref n0, .ref c1, x_20, x_21, .int x_19])), (c1, .inl (ax 0, 16, .inl x_18)), (n0, .inr (4, [.ref (u_4 0), .ref (u_4 1), .ref (u_4 2), .int (nI (u_4 3))])), ((u_4 0), .inl (ax 1, u_4 4, .inl x_22)), ((u_4 1), .inl (ax 0, u_4 4, .inl x_23)), ((u_4 2), .inl (ax 0, u_4 4, .inl x_24)), (p0, .inr (6, [.ref o0, .int x_25, .int x_26, .int x_27, x_28, .ref (u_4 5), .ref q2, .ref q3, .int (nI (u_4 6))])), ((u_4 5), .inl (ax 2, u_4 7, .inl x_29)), (q2, .inl (ax 0, 64, .inl (fun j => nI (x_30 j)))), (q3, .inl (ax 0, 64, .inl x_31)), (o0, .inr (0, [.ref o1, .ref o2, .ref o3, .int (nI (u_4 8))])), (o1, .inl (ax 0, 11, .inl x_32)), (o2, .inl (ax 0, 121, .inl x_33)), (o3, .inl (ax 0, 121, .inl (fun j => nI (x_34 j)))), (g0, .inr (2, [.ref h0, .ref g1, .ref g2, .ref g3, .ref g4, .ref g5, .ref g6, .ref g7, .ref g8, .ref g9, .ref ga, .ref gb, .int (nI cl), .int (nI ln), .int (nI br), .int (nI lp), .int (nI va)])), (g1, .inl (ax 1, 20, .inl (fun j => nI (kd j)))), (g2, .inl (ax 1, 20, .inl (fun j => nI (ow j)))), (g3, .inl (ax 1, 20, .inl (fun j => nI (sb j)))), (g4, .inl (ax 1, 20, .inl (fun j => nI (f1 j)))), (g5, .inl (ax 1, 20, .inl (fun j => nI (f2 j)))), (g6, .inl (ax 2, 20, .inl (fun j => nI (te j)))), (g7, .inl (ax 2, 20, .inl (fun j => nI (kp j)))), (g8, .inl (ax 0, 20, .inl tm)), (g9, .inl (ax 1, 20, .inl (fun j => nI (nm j)))), (ga, .inl (ax 1, 29, .inl (fun j => nI (ck j)))), (gb, .inl (ax 1, 29, .inl (fun j => nI (co j)))), (h0, .inr (4, [.ref h1, .ref h2, .ref h3, .int (nI zs)])), (h1, .inl (ax 1, cs, .inl so)), (h2, .inl (ax 0, cs, .inl sl)), (h3, .inl (ax 0, cs, .inl sr)), (b0, .inr (4, [.ref b1, .ref b2, .ref b3, .int (nI zb)])), (b1, .inl (ax 1, cb, .inl bo)), (b2, .inl (ax 0, cb, .inl bl)), (b3, .inl (ax 0, cb, .inl bq)), (a0, .inr (4, [.ref a1, .ref a2, .ref a3, .int (nI za)])), (a1, .inl (ax 1, ca, .inl ao)), (a2, .inl (ax 0, ca, .inl al)), (a3, .inl (ax 0, ca, .inl ar))]) hP hD [0, 1, 2, 3, 4, 5, 6, 7, 8, 9, 10, 11, 12, 13, 14, 15, 16, 17, 18, 19, 20, 21, 22, 23, 24, 25, 26, 27, 28, 29, 30, 31, 32, 33, 34, 35, 36, 37, 38, 39, 40, 41, 42, 43] [44] hCs (by decide) (by decide) hk1 hFc hP1 hD1 rfl
    clear hP1 hD1
    clear hPc hDc hFc hCs hz hz1 hk1 ht hvm
    clear hP hD hS
    have hS := hS1
    obtain ⟨hP, hD⟩ := hjn
    clear hS1
    refine wk_narrow (k := u_4 4 - cp + (u_4 7 - rl)) (n := 6 * (u_4 4 - cp) + 2 * (u_4 7 - rl)) (by first | assumption | omega) (by first | assumption | omega) ?_
    clear hk8 hk9 hg8 hg9
    obtain ⟨vd_42, evd_42⟩ : ∃ y : Int32, y = nI (u_4 20) := ⟨_, rfl⟩
    refine W.eq (g2 := F0 m 6 ls [.int vd_42, .int 0, .ref ot0]) (by rw [evd_42]) ?_
    refine lv_if_eq (tgt := 13) hx hb d_law_proved_6 (by decide) (fun c_43 => ?_) (fun c_43 => ?_)
    · refine lv_lconst (v := 0) hx hb d_law_proved_13 (by decide) ?_
      refine va_last hx hb hK.1 hP hD hS 0 4 rfl rfl (by unfold vp_in; decide) d_law_proved_14 (fun H_44 locs hP1 hD1 hS1 => ?_)
      clear hP hD hS
      have hS := hS1
      have hW7 : (fun w9 : va_W => va_P D classes w9 H_44 ∧ va_D A w9) [(ot0, .inl (ax 4, 1, .inr (.inl (vp_updL ov 0 0)))), (d0, .inr (10, [.ref k0, .ref r0, .ref c0, .ref p0, .ref fd0, .ref w0, .ref e0, .ref b0, .ref a0, .ref y0, .ref g0, .ref i0, .int 1])), (fd0, .inr (1, [.ref fd1, .ref fd2, .ref fd3, .ref fd4])), (fd1, .inl (ax 2, 29, .inl x_14)), (fd2, .inl (ax 2, 29, .inl x_15)), (fd3, .inl (ax 2, 29, .inl x_16)), (fd4, .inl (ax 0, 290, .inl x_17)), (c0, .inr (3, [.ref n0, .ref c1, x_20, x_21, .int x_19])), (c1, .inl (ax 0, 16, .inl x_18)), (n0, .inr (4, [.ref (u_4 0), .ref (u_4 1), .ref (u_4 2), .int (nI (u_4 3))])), ((u_4 0), .inl (ax 1, u_4 4, .inl x_22)), ((u_4 1), .inl (ax 0, u_4 4, .inl x_23)), ((u_4 2), .inl (ax 0, u_4 4, .inl x_24)), (p0, .inr (6, [.ref o0, .int x_25, .int x_26, .int x_27, x_28, .ref (u_4 5), .ref q2, .ref q3, .int (nI (u_4 6))])), ((u_4 5), .inl (ax 2, u_4 7, .inl x_29)), (q2, .inl (ax 0, 64, .inl (fun j => nI (x_30 j)))), (q3, .inl (ax 0, 64, .inl x_31)), (o0, .inr (0, [.ref o1, .ref o2, .ref o3, .int (nI (u_4 8))])), (o1, .inl (ax 0, 11, .inl x_32)), (o2, .inl (ax 0, 121, .inl x_33)), (o3, .inl (ax 0, 121, .inl (fun j => nI (x_34 j)))), (g0, .inr (2, [.ref h0, .ref g1, .ref g2, .ref g3, .ref g4, .ref g5, .ref g6, .ref g7, .ref g8, .ref g9, .ref ga, .ref gb, .int (nI cl), .int (nI ln), .int (nI br), .int (nI lp), .int (nI va)])), (g1, .inl (ax 1, 20, .inl (fun j => nI (kd j)))), (g2, .inl (ax 1, 20, .inl (fun j => nI (ow j)))), (g3, .inl (ax 1, 20, .inl (fun j => nI (sb j)))), (g4, .inl (ax 1, 20, .inl (fun j => nI (f1 j)))), (g5, .inl (ax 1, 20, .inl (fun j => nI (f2 j)))), (g6, .inl (ax 2, 20, .inl (fun j => nI (te j)))), (g7, .inl (ax 2, 20, .inl (fun j => nI (kp j)))), (g8, .inl (ax 0, 20, .inl tm)), (g9, .inl (ax 1, 20, .inl (fun j => nI (nm j)))), (ga, .inl (ax 1, 29, .inl (fun j => nI (ck j)))), (gb, .inl (ax 1, 29, .inl (fun j => nI (co j)))), (h0, .inr (4, [.ref h1, .ref h2, .ref h3, .int (nI zs)])), (h1, .inl (ax 1, cs, .inl so)), (h2, .inl (ax 0, cs, .inl sl)), (h3, .inl (ax 0, cs, .inl sr)), (b0, .inr (4, [.ref b1, .ref b2, .ref b3, .int (nI zb)])), (b1, .inl (ax 1, cb, .inl bo)), (b2, .inl (ax 0, cb, .inl bl)), (b3, .inl (ax 0, cb, .inl bq)), (a0, .inr (4, [.ref a1, .ref a2, .ref a3, .int (nI za)])), (a1, .inl (ax 1, ca, .inl ao)), (a2, .inl (ax 0, ca, .inl al)), (a3, .inl (ax 0, ca, .inl ar))] := ⟨hP1, hD1⟩
      obtain ⟨hP, hD⟩ := hW7
      clear hP1 hD1 hS1
      refine lv_goto (tgt := 21) hx hb d_law_proved_15 (by decide) ?_
      refine lv_iconst (v := 0) hx hb d_law_proved_21 (by decide) ?_
      refine xt_weak (fun t h => xt_ofMQ h) ?_
      refine wk_know (fun hk8 hk9 => ?_)
      refine W.widen (k := 65536 - cp + (131073 - rl) + 1) (n := 6 * (65536 - cp) + 2 * (131072 - rl) + 131072 + 6) (by first | assumption | omega) (by first | assumption | omega) ?_
      obtain ⟨hP9, hD9⟩ := xw_sub2 (wc := (fun (u : Nat → Nat) (xrw : Nat → Int32) (xaa : Nat → Int32) (xff : Nat → Int32) (xnb : Nat → Int32) (xsd : Nat → Int32) (xmd : Int32) (xvl : Value) (xva : Value) (xfo : Nat → Int32) (xfl : Nat → Int32) (xfr : Nat → Int32) (xrs : Int32) (xat : Int32) (xfi : Int32) (xvf : Value) (xro : Nat → Int32) (xdm : Nat → Nat) (xix : Nat → Int32) (xlv : Nat → Int32) (xmo : Nat → Int32) (xbw : Nat → Nat) (xov : Nat → Int64) => [(d0, .inr (10, [.ref k0, .ref r0, .ref c0, .ref p0, .ref fd0, .ref w0, .ref e0, .ref b0, .ref a0, .ref y0, .ref g0, .ref i0, .int (nI (u 31))])), (fd0, .inr (1, [.ref fd1, .ref fd2, .ref fd3, .ref fd4])), (fd1, .inl (ax 2, 29, .inl xrw)), (fd2, .inl (ax 2, 29, .inl xaa)), (fd3, .inl (ax 2, 29, .inl xff)), (fd4, .inl (ax 0, 290, .inl xnb)), (c0, .inr (3, [.ref n0, .ref c1, xvl, xva, .int xmd])), (c1, .inl (ax 0, 16, .inl xsd)), (n0, .inr (4, [.ref (u 0), .ref (u 1), .ref (u 2), .int (nI (u 3))])), (u 0, .inl (ax 1, u 4, .inl xfo)), (u 1, .inl (ax 0, u 4, .inl xfl)), (u 2, .inl (ax 0, u 4, .inl xfr)), (p0, .inr (6, [.ref o0, .int xrs, .int xat, .int xfi, xvf, .ref (u 5), .ref q2, .ref q3, .int (nI (u 6))])), (u 5, .inl (ax 2, u 7, .inl xro)), (q2, .inl (ax 0, 64, .inl (fun j => nI (xdm j)))), (q3, .inl (ax 0, 64, .inl xix)), (o0, .inr (0, [.ref o1, .ref o2, .ref o3, .int (nI (u 8))])), (o1, .inl (ax 0, 11, .inl xlv)), (o2, .inl (ax 0, 121, .inl xmo)), (o3, .inl (ax 0, 121, .inl (fun j => nI (xbw j)))), (g0, .inr (2, [.ref h0, .ref g1, .ref g2, .ref g3, .ref g4, .ref g5, .ref g6, .ref g7, .ref g8, .ref g9, .ref ga, .ref gb, .int (nI cl), .int (nI ln), .int (nI br), .int (nI lp), .int (nI va)])), (g1, .inl (ax 1, 20, .inl (fun j => nI (kd j)))), (g2, .inl (ax 1, 20, .inl (fun j => nI (ow j)))), (g3, .inl (ax 1, 20, .inl (fun j => nI (sb j)))), (g4, .inl (ax 1, 20, .inl (fun j => nI (f1 j)))), (g5, .inl (ax 1, 20, .inl (fun j => nI (f2 j)))), (g6, .inl (ax 2, 20, .inl (fun j => nI (te j)))), (g7, .inl (ax 2, 20, .inl (fun j => nI (kp j)))), (g8, .inl (ax 0, 20, .inl tm)), (g9, .inl (ax 1, 20, .inl (fun j => nI (nm j)))), (ga, .inl (ax 1, 29, .inl (fun j => nI (ck j)))), (gb, .inl (ax 1, 29, .inl (fun j => nI (co j)))), (h0, .inr (4, [.ref h1, .ref h2, .ref h3, .int (nI zs)])), (h1, .inl (ax 1, cs, .inl so)), (h2, .inl (ax 0, cs, .inl sl)), (h3, .inl (ax 0, cs, .inl sr)), (b0, .inr (4, [.ref b1, .ref b2, .ref b3, .int (nI zb)])), (b1, .inl (ax 1, cb, .inl bo)), (b2, .inl (ax 0, cb, .inl bl)), (b3, .inl (ax 0, cb, .inl bq)), (a0, .inr (4, [.ref a1, .ref a2, .ref a3, .int (nI za)])), (a1, .inl (ax 1, ca, .inl ao)), (a2, .inl (ax 0, ca, .inl al)), (a3, .inl (ax 0, ca, .inl ar)), (ot0, .inl (ax 4, 1, .inr (.inl xov)))]) (ixn [(u_4 0), (u_4 1), (u_4 2), (u_4 3), (u_4 4), (u_4 5), (u_4 6), (u_4 7), (u_4 8), 0, 0, 0, 0, 0, 0, 0, 0, 0, 0, 0, 0, 0, 0, 0, 0, 0, 0, 0, 0, 0, 0, 1]) x_14 x_15 x_16 x_17 x_18 x_19 x_20 x_21 x_22 x_23 x_24 x_25 x_26 x_27 x_28 x_29 x_30 x_31 x_32 x_33 x_34 (vp_updL ov 0 0)) hP hD [1, 2, 3, 4, 5, 6, 7, 8, 9, 10, 11, 12, 13, 14, 15, 16, 17, 18, 19, 20, 21, 22, 23, 24, 25, 26, 27, 28, 29, 30, 31, 32, 33, 34, 35, 36, 37, 38, 39, 40, 41, 42, 43, 44, 0] (by decide) rfl
      have hex0 : bts x_22 ((u_4 4)) := (by assumption)
      have hex1 : ∀ j, j ≤ 10 → trm (x_18 j) := (by assumption)
      have hex2 : fmk x_19 ((u_4 3)) x_22 x_23 x_24 := (by assumption)
      have hex3 : bnv x_33 x_34 ((u_4 8)) := (by assumption)
      have hex4 : imp1 ld (fqm8 x_19 ((u_4 3)) x_22 x_23 x_24 gpr gpo gpl) := (by first | assumption | exact Or.inr (by assumption))
      have hex5 : bcv8 x_33 x_34 ((u_4 8)) := (by assumption)
      have hex6 : imp1 ld (fnQ8 x_14 x_15 x_16 x_17 gpr gpo gpl) := (by first | assumption | exact Or.inr (by assumption))
      have hg8 : H_44.size ≤ s.heap.size + ((u_4 4) - cp + ((u_4 7) - rl) + 1) := by omega
      have hg9 : tsl H_44 ≤ tsl s.heap + (6 * ((u_4 4) - cp) + 2 * ((u_4 7) - rl) + 6) := by omega
      have hsp0 : (u_4 3) ≤ (u_4 4) := (by first | assumption | omega)
      have hsp1 : cp ≤ (u_4 4) := (by first | assumption | omega)
      have hsp2 : (u_4 4) ≤ 65536 := (by first | assumption | omega)
      have hsp3 : (u_4 6) ≤ 64 := (by first | assumption | omega)
      have hsp4 : rl ≤ (u_4 7) := (by first | assumption | omega)
      have hsp5 : rlo ((u_4 7)) ((u_4 4)) := (by assumption)
      have hsp6 : (u_4 7) ≤ 131072 := (by first | assumption | omega)
      have hsp7 : 1 = ld := (by first | assumption | omega)
      exact W.iret (v := 0) hx hb hr (fun t ht hW => ⟨⟨0, ixn [(u_4 0), (u_4 1), (u_4 2), (u_4 3), (u_4 4), (u_4 5), (u_4 6), (u_4 7), (u_4 8), 0, 0, 0, 0, 0, 0, 0, 0, 0, 0, 0, 0, 0, 0, 0, 0, 0, 0, 0, 0, 0, 0, 1], rfl, ⟨rfl, ⟨hsp0, hsp1, hsp2, hsp3, hsp4, hsp5, hsp6, hsp7⟩⟩, ⟨x_14, x_15, x_16, x_17, x_18, x_19, x_20, x_21, x_22, x_23, x_24, x_25, x_26, x_27, x_28, x_29, x_30, x_31, x_32, x_33, x_34, (vp_updL ov 0 0), by rw [ht]; exact hg8, by rw [ht]; exact hg9, hex0, hex1, hex2, hex3, hex4, hex5, hex6, by rw [ht]; exact hP9, hD9⟩⟩, hS.F ht⟩) hS.2.2 d_law_proved_22
    · refine lv_lconst (v := 1) hx hb d_law_proved_9 (by decide) ?_
      refine lv_goto (tgt := 14) hx hb d_law_proved_10 (by decide) ?_
      refine va_last hx hb hK.1 hP hD hS 0 4 rfl rfl (by unfold vp_in; decide) d_law_proved_14 (fun H_45 locs hP1 hD1 hS1 => ?_)
      clear hP hD hS
      have hS := hS1
      have hW7 : (fun w9 : va_W => va_P D classes w9 H_45 ∧ va_D A w9) [(ot0, .inl (ax 4, 1, .inr (.inl (vp_updL ov 0 1)))), (d0, .inr (10, [.ref k0, .ref r0, .ref c0, .ref p0, .ref fd0, .ref w0, .ref e0, .ref b0, .ref a0, .ref y0, .ref g0, .ref i0, .int 1])), (fd0, .inr (1, [.ref fd1, .ref fd2, .ref fd3, .ref fd4])), (fd1, .inl (ax 2, 29, .inl x_14)), (fd2, .inl (ax 2, 29, .inl x_15)), (fd3, .inl (ax 2, 29, .inl x_16)), (fd4, .inl (ax 0, 290, .inl x_17)), (c0, .inr (3, [.ref n0, .ref c1, x_20, x_21, .int x_19])), (c1, .inl (ax 0, 16, .inl x_18)), (n0, .inr (4, [.ref (u_4 0), .ref (u_4 1), .ref (u_4 2), .int (nI (u_4 3))])), ((u_4 0), .inl (ax 1, u_4 4, .inl x_22)), ((u_4 1), .inl (ax 0, u_4 4, .inl x_23)), ((u_4 2), .inl (ax 0, u_4 4, .inl x_24)), (p0, .inr (6, [.ref o0, .int x_25, .int x_26, .int x_27, x_28, .ref (u_4 5), .ref q2, .ref q3, .int (nI (u_4 6))])), ((u_4 5), .inl (ax 2, u_4 7, .inl x_29)), (q2, .inl (ax 0, 64, .inl (fun j => nI (x_30 j)))), (q3, .inl (ax 0, 64, .inl x_31)), (o0, .inr (0, [.ref o1, .ref o2, .ref o3, .int (nI (u_4 8))])), (o1, .inl (ax 0, 11, .inl x_32)), (o2, .inl (ax 0, 121, .inl x_33)), (o3, .inl (ax 0, 121, .inl (fun j => nI (x_34 j)))), (g0, .inr (2, [.ref h0, .ref g1, .ref g2, .ref g3, .ref g4, .ref g5, .ref g6, .ref g7, .ref g8, .ref g9, .ref ga, .ref gb, .int (nI cl), .int (nI ln), .int (nI br), .int (nI lp), .int (nI va)])), (g1, .inl (ax 1, 20, .inl (fun j => nI (kd j)))), (g2, .inl (ax 1, 20, .inl (fun j => nI (ow j)))), (g3, .inl (ax 1, 20, .inl (fun j => nI (sb j)))), (g4, .inl (ax 1, 20, .inl (fun j => nI (f1 j)))), (g5, .inl (ax 1, 20, .inl (fun j => nI (f2 j)))), (g6, .inl (ax 2, 20, .inl (fun j => nI (te j)))), (g7, .inl (ax 2, 20, .inl (fun j => nI (kp j)))), (g8, .inl (ax 0, 20, .inl tm)), (g9, .inl (ax 1, 20, .inl (fun j => nI (nm j)))), (ga, .inl (ax 1, 29, .inl (fun j => nI (ck j)))), (gb, .inl (ax 1, 29, .inl (fun j => nI (co j)))), (h0, .inr (4, [.ref h1, .ref h2, .ref h3, .int (nI zs)])), (h1, .inl (ax 1, cs, .inl so)), (h2, .inl (ax 0, cs, .inl sl)), (h3, .inl (ax 0, cs, .inl sr)), (b0, .inr (4, [.ref b1, .ref b2, .ref b3, .int (nI zb)])), (b1, .inl (ax 1, cb, .inl bo)), (b2, .inl (ax 0, cb, .inl bl)), (b3, .inl (ax 0, cb, .inl bq)), (a0, .inr (4, [.ref a1, .ref a2, .ref a3, .int (nI za)])), (a1, .inl (ax 1, ca, .inl ao)), (a2, .inl (ax 0, ca, .inl al)), (a3, .inl (ax 0, ca, .inl ar))] := ⟨hP1, hD1⟩
      obtain ⟨hP, hD⟩ := hW7
      clear hP1 hD1 hS1
      refine lv_goto (tgt := 21) hx hb d_law_proved_15 (by decide) ?_
      refine lv_iconst (v := 0) hx hb d_law_proved_21 (by decide) ?_
      refine xt_weak (fun t h => xt_ofMQ h) ?_
      refine wk_know (fun hk8 hk9 => ?_)
      refine W.widen (k := 65536 - cp + (131073 - rl) + 1) (n := 6 * (65536 - cp) + 2 * (131072 - rl) + 131072 + 6) (by first | assumption | omega) (by first | assumption | omega) ?_
      obtain ⟨hP9, hD9⟩ := xw_sub2 (wc := (fun (u : Nat → Nat) (xrw : Nat → Int32) (xaa : Nat → Int32) (xff : Nat → Int32) (xnb : Nat → Int32) (xsd : Nat → Int32) (xmd : Int32) (xvl : Value) (xva : Value) (xfo : Nat → Int32) (xfl : Nat → Int32) (xfr : Nat → Int32) (xrs : Int32) (xat : Int32) (xfi : Int32) (xvf : Value) (xro : Nat → Int32) (xdm : Nat → Nat) (xix : Nat → Int32) (xlv : Nat → Int32) (xmo : Nat → Int32) (xbw : Nat → Nat) (xov : Nat → Int64) => [(d0, .inr (10, [.ref k0, .ref r0, .ref c0, .ref p0, .ref fd0, .ref w0, .ref e0, .ref b0, .ref a0, .ref y0, .ref g0, .ref i0, .int (nI (u 31))])), (fd0, .inr (1, [.ref fd1, .ref fd2, .ref fd3, .ref fd4])), (fd1, .inl (ax 2, 29, .inl xrw)), (fd2, .inl (ax 2, 29, .inl xaa)), (fd3, .inl (ax 2, 29, .inl xff)), (fd4, .inl (ax 0, 290, .inl xnb)), (c0, .inr (3, [.ref n0, .ref c1, xvl, xva, .int xmd])), (c1, .inl (ax 0, 16, .inl xsd)), (n0, .inr (4, [.ref (u 0), .ref (u 1), .ref (u 2), .int (nI (u 3))])), (u 0, .inl (ax 1, u 4, .inl xfo)), (u 1, .inl (ax 0, u 4, .inl xfl)), (u 2, .inl (ax 0, u 4, .inl xfr)), (p0, .inr (6, [.ref o0, .int xrs, .int xat, .int xfi, xvf, .ref (u 5), .ref q2, .ref q3, .int (nI (u 6))])), (u 5, .inl (ax 2, u 7, .inl xro)), (q2, .inl (ax 0, 64, .inl (fun j => nI (xdm j)))), (q3, .inl (ax 0, 64, .inl xix)), (o0, .inr (0, [.ref o1, .ref o2, .ref o3, .int (nI (u 8))])), (o1, .inl (ax 0, 11, .inl xlv)), (o2, .inl (ax 0, 121, .inl xmo)), (o3, .inl (ax 0, 121, .inl (fun j => nI (xbw j)))), (g0, .inr (2, [.ref h0, .ref g1, .ref g2, .ref g3, .ref g4, .ref g5, .ref g6, .ref g7, .ref g8, .ref g9, .ref ga, .ref gb, .int (nI cl), .int (nI ln), .int (nI br), .int (nI lp), .int (nI va)])), (g1, .inl (ax 1, 20, .inl (fun j => nI (kd j)))), (g2, .inl (ax 1, 20, .inl (fun j => nI (ow j)))), (g3, .inl (ax 1, 20, .inl (fun j => nI (sb j)))), (g4, .inl (ax 1, 20, .inl (fun j => nI (f1 j)))), (g5, .inl (ax 1, 20, .inl (fun j => nI (f2 j)))), (g6, .inl (ax 2, 20, .inl (fun j => nI (te j)))), (g7, .inl (ax 2, 20, .inl (fun j => nI (kp j)))), (g8, .inl (ax 0, 20, .inl tm)), (g9, .inl (ax 1, 20, .inl (fun j => nI (nm j)))), (ga, .inl (ax 1, 29, .inl (fun j => nI (ck j)))), (gb, .inl (ax 1, 29, .inl (fun j => nI (co j)))), (h0, .inr (4, [.ref h1, .ref h2, .ref h3, .int (nI zs)])), (h1, .inl (ax 1, cs, .inl so)), (h2, .inl (ax 0, cs, .inl sl)), (h3, .inl (ax 0, cs, .inl sr)), (b0, .inr (4, [.ref b1, .ref b2, .ref b3, .int (nI zb)])), (b1, .inl (ax 1, cb, .inl bo)), (b2, .inl (ax 0, cb, .inl bl)), (b3, .inl (ax 0, cb, .inl bq)), (a0, .inr (4, [.ref a1, .ref a2, .ref a3, .int (nI za)])), (a1, .inl (ax 1, ca, .inl ao)), (a2, .inl (ax 0, ca, .inl al)), (a3, .inl (ax 0, ca, .inl ar)), (ot0, .inl (ax 4, 1, .inr (.inl xov)))]) (ixn [(u_4 0), (u_4 1), (u_4 2), (u_4 3), (u_4 4), (u_4 5), (u_4 6), (u_4 7), (u_4 8), 0, 0, 0, 0, 0, 0, 0, 0, 0, 0, 0, 0, 0, 0, 0, 0, 0, 0, 0, 0, 0, 0, 1]) x_14 x_15 x_16 x_17 x_18 x_19 x_20 x_21 x_22 x_23 x_24 x_25 x_26 x_27 x_28 x_29 x_30 x_31 x_32 x_33 x_34 (vp_updL ov 0 1)) hP hD [1, 2, 3, 4, 5, 6, 7, 8, 9, 10, 11, 12, 13, 14, 15, 16, 17, 18, 19, 20, 21, 22, 23, 24, 25, 26, 27, 28, 29, 30, 31, 32, 33, 34, 35, 36, 37, 38, 39, 40, 41, 42, 43, 44, 0] (by decide) rfl
      have hex0 : bts x_22 ((u_4 4)) := (by assumption)
      have hex1 : ∀ j, j ≤ 10 → trm (x_18 j) := (by assumption)
      have hex2 : fmk x_19 ((u_4 3)) x_22 x_23 x_24 := (by assumption)
      have hex3 : bnv x_33 x_34 ((u_4 8)) := (by assumption)
      have hex4 : imp1 ld (fqm8 x_19 ((u_4 3)) x_22 x_23 x_24 gpr gpo gpl) := (by first | assumption | exact Or.inr (by assumption))
      have hex5 : bcv8 x_33 x_34 ((u_4 8)) := (by assumption)
      have hex6 : imp1 ld (fnQ8 x_14 x_15 x_16 x_17 gpr gpo gpl) := (by first | assumption | exact Or.inr (by assumption))
      have hg8 : H_45.size ≤ s.heap.size + ((u_4 4) - cp + ((u_4 7) - rl) + 1) := by omega
      have hg9 : tsl H_45 ≤ tsl s.heap + (6 * ((u_4 4) - cp) + 2 * ((u_4 7) - rl) + 6) := by omega
      have hsp0 : (u_4 3) ≤ (u_4 4) := (by first | assumption | omega)
      have hsp1 : cp ≤ (u_4 4) := (by first | assumption | omega)
      have hsp2 : (u_4 4) ≤ 65536 := (by first | assumption | omega)
      have hsp3 : (u_4 6) ≤ 64 := (by first | assumption | omega)
      have hsp4 : rl ≤ (u_4 7) := (by first | assumption | omega)
      have hsp5 : rlo ((u_4 7)) ((u_4 4)) := (by assumption)
      have hsp6 : (u_4 7) ≤ 131072 := (by first | assumption | omega)
      have hsp7 : 1 = ld := (by first | assumption | omega)
      exact W.iret (v := 0) hx hb hr (fun t ht hW => ⟨⟨0, ixn [(u_4 0), (u_4 1), (u_4 2), (u_4 3), (u_4 4), (u_4 5), (u_4 6), (u_4 7), (u_4 8), 0, 0, 0, 0, 0, 0, 0, 0, 0, 0, 0, 0, 0, 0, 0, 0, 0, 0, 0, 0, 0, 0, 1], rfl, ⟨rfl, ⟨hsp0, hsp1, hsp2, hsp3, hsp4, hsp5, hsp6, hsp7⟩⟩, ⟨x_14, x_15, x_16, x_17, x_18, x_19, x_20, x_21, x_22, x_23, x_24, x_25, x_26, x_27, x_28, x_29, x_30, x_31, x_32, x_33, x_34, (vp_updL ov 0 1), by rw [ht]; exact hg8, by rw [ht]; exact hg9, hex0, hex1, hex2, hex3, hex4, hex5, hex6, by rw [ht]; exact hP9, hD9⟩⟩, hS.F ht⟩) hS.2.2 d_law_proved_22
abbrev b_law_say : ByteArray := method_8_code
def y_law_say : MethodName := ⟨R_law, "say", "(LTripleDesk;I[J)I"⟩
theorem d_law_say_0 : decode b_law_say 0 = .ok (.aload_n 2, 1) := by decide +kernel
theorem d_law_say_1 : decode b_law_say 1 = .ok (.iconst 0, 1) := by decide +kernel
theorem d_law_say_2 : decode b_law_say 2 = .ok (.aload_n 0, 1) := by decide +kernel
theorem d_law_say_3 : decode b_law_say 3 = .ok (.iload_n 1, 1) := by decide +kernel
theorem d_law_say_4 : decode b_law_say 4 = .ok (.invokevirtual 32, 3) := by decide +kernel
theorem d_law_say_7 : decode b_law_say 7 = .ok (.i2l, 1) := by decide +kernel
theorem d_law_say_8 : decode b_law_say 8 = .ok (.lastore, 1) := by decide +kernel
theorem d_law_say_9 : decode b_law_say 9 = .ok (.goto 9, 3) := by decide +kernel
theorem d_law_say_12 : decode b_law_say 12 = .ok (.astore_n 3, 1) := by decide +kernel
theorem d_law_say_13 : decode b_law_say 13 = .ok (.iconst 1, 1) := by decide +kernel
theorem d_law_say_14 : decode b_law_say 14 = .ok (.ireturn, 1) := by decide +kernel
theorem d_law_say_15 : decode b_law_say 15 = .ok (.astore_n 3, 1) := by decide +kernel
theorem d_law_say_16 : decode b_law_say 16 = .ok (.iconst 2, 1) := by decide +kernel
theorem d_law_say_17 : decode b_law_say 17 = .ok (.ireturn, 1) := by decide +kernel
theorem d_law_say_18 : decode b_law_say 18 = .ok (.iconst 0, 1) := by decide +kernel
theorem d_law_say_19 : decode b_law_say 19 = .ok (.ireturn, 1) := by decide +kernel
set_option maxHeartbeats 40000000 in
set_option maxRecDepth 100000 in
theorem c_law_say_np (l : Launch) (hl : l.stackTraces = false) (D : va_G) (ax : Nat → ClassId) (d0 k0 r0 c0 p0 fd0 w0 e0 b0 a0 y0 g0 i0 : Nat) (ot0 : Nat) (x1 : Int32) (ov : Nat → Int64) (sz tz : Nat) : xt_Met l y_law_say (xws (.codeWith y_law_say b_law_say 4 (some .int) [(0, 9, 12, 13), (0, 9, 15, 19)])) ({ frames := 60, cells := 1, slots := 6, locals := 2400 }) (va_Pc [.ref d0, .int x1, .ref ot0] (xo5 D ax [(d0, .inr (10, [.ref k0, .ref r0, .ref c0, .ref p0, .ref fd0, .ref w0, .ref e0, .ref b0, .ref a0, .ref y0, .ref g0, .ref i0, .int 0])), (ot0, .inl (ax 4, 1, .inr (.inl ov)))] sz tz)) ((va_Qi (fun (r : Int32) (u : Nat → Nat) => r = 1) (fun (u : Nat → Nat) (t9 : State) => (t9.heap.size ≤ sz + (1)) ∧ (tsl t9.heap ≤ tz + (6)) ∧ (True) ∧ va_P D classes [(d0, .inr (10, [.ref k0, .ref r0, .ref c0, .ref p0, .ref fd0, .ref w0, .ref e0, .ref b0, .ref a0, .ref y0, .ref g0, .ref i0, .int 0])), (ot0, .inl (ax 4, 1, .inr (.inl ov)))] t9.heap ∧ va_D (va_A [(d0, .inr (10, [.ref k0, .ref r0, .ref c0, .ref p0, .ref fd0, .ref w0, .ref e0, .ref b0, .ref a0, .ref y0, .ref g0, .ref i0, .int 0])), (ot0, .inl (ax 4, 1, .inr (.inl ov)))] sz) [(d0, .inr (10, [.ref k0, .ref r0, .ref c0, .ref p0, .ref fd0, .ref w0, .ref e0, .ref b0, .ref a0, .ref y0, .ref g0, .ref i0, .int 0])), (ot0, .inl (ax 4, 1, .inr (.inl ov)))]) (va_A [(d0, .inr (10, [.ref k0, .ref r0, .ref c0, .ref p0, .ref fd0, .ref w0, .ref e0, .ref b0, .ref a0, .ref y0, .ref g0, .ref i0, .int 0])), (ot0, .inl (ax 4, 1, .inr (.inl ov)))] sz))) 1 6 (va_A [(d0, .inr (10, [.ref k0, .ref r0, .ref c0, .ref p0, .ref fd0, .ref w0, .ref e0, .ref b0, .ref a0, .ref y0, .ref g0, .ref i0, .int 0])), (ot0, .inl (ax 4, 1, .inr (.inl ov)))] sz) := by
  refine xt_Met.ofWith (cc := b_law_say) (maxL := 4) (ret := (some .int)) (hs := [(0, 9, 12, 13), (0, 9, 15, 19)]) (by decide) rfl ?_
  intro p e s m args below meth c s₁ B hml htab hv
  obtain ⟨rfl, ⟨⟨hsz, hP, hK, hD0⟩, htz⟩, hnc⟩ := hv
  have hx := B.exec
  have hb := B.bytes
  have hr := B.returns
  have hts := xw_hts B.pre
  have hown : s.vm.findClass R_law = some m.cls := findClass_of_methodNamed B.named
  have hlocks := B.notSynchronized
  subst hsz
  subst htz
  have hD := hD0.self (sz := s.heap.size)
  have hN := xz_entry hP
  generalize hAe : va_A [(d0, .inr (10, [.ref k0, .ref r0, .ref c0, .ref p0, .ref fd0, .ref w0, .ref e0, .ref b0, .ref a0, .ref y0, .ref g0, .ref i0, .int 0])), (ot0, .inl (ax 4, 1, .inr (.inl ov)))] s.heap.size = A at hD hN ⊢
  have hA : ∀ q : Nat, s.heap.size ≤ q → A q := fun q h => by rw [← hAe]; exact Or.inr h
  have hS : va_S A s.heap s.heap [] := va_S.rf
  have hl0 := lv_entry ([.ref d0, .int x1, .ref ot0]) (n := 4) (Nat.le_of_ble_eq_true rfl)
  rw [lg_entry_eq]
  generalize (lg_sl ([.ref d0, .int x1, .ref ot0]) ++ List.replicate (4 - (lg_sl ([.ref d0, .int x1, .ref ot0])).length) Slot.unset).toArray = ls at hl0 ⊢
  have hl1 : lv_has ls 4 [(0, .ref d0), (1, .int x1), (2, .ref ot0)] := hl0
  refine lv_aload_n hx hb d_law_say_0 rfl (lv_at hl1 2 rfl) ?_
  refine lv_iconst (v := 0) hx hb d_law_say_1 (by decide) ?_
  refine lv_aload_n hx hb d_law_say_2 rfl (lv_at hl1 0 rfl) ?_
  refine lv_iload_n hx hb d_law_say_3 rfl (lv_at hl1 1 rfl) ?_
  obtain ⟨hPc, hDc, hFc, hCs⟩ := xw_sub3 (wc := [(d0, .inr (10, [.ref k0, .ref r0, .ref c0, .ref p0, .ref fd0, .ref w0, .ref e0, .ref b0, .ref a0, .ref y0, .ref g0, .ref i0, .int 0]))]) hP hD hS hA [0] (by decide) rfl
  have hz := xz_of hN hS
  refine wk_know (fun hk8 hk9 => ?_)
  refine xt_catchU (xt_runV (As := [.int x1]) (rest := [.int 0, .ref ot0]) ⟨hx, hb, hml, hown, hts⟩ (c_D_say_np l hl D ax d0 k0 r0 c0 p0 fd0 w0 e0 b0 a0 y0 g0 i0 x1 s.heap.size (tsl s.heap)) (xcV (n := 1) hts wd_917 wd_1 wd_914 wd_915 wd_916 rfl rfl (by decide +kernel) ⟨Nat.le_of_ble_eq_true rfl, Nat.le_of_ble_eq_true rfl⟩) (xpV3 (ci := 10) (q0 := 0) (As := [.int x1]) hPc hK hz hDc rfl rfl) rfl rfl hl1.1 rfl (lv_room (Nat.le_of_ble_eq_true rfl)) d_law_say_4 ⟨Nat.le_of_ble_eq_true rfl, Nat.le_of_ble_eq_true rfl⟩) (fun hrt H_1 locs9 r9 hB hz1 hk1 hL => ?_) (fun cls9 hc9 => ?_)
  · exact hrt.elim
  · simp only [List.mem_cons, List.not_mem_nil, or_false] at hc9
    subst hc9
    refine ⟨12, xt_K1 (own := R_law) (ent := ⟨0, 9, 12, 13⟩) (restT := [⟨0, 9, 15, 19⟩]) htab (by decide) (by decide) hown (hts _ wd_657), fun xq H_2 locs9 hB hz1 hk1 hL => ?_⟩
    obtain ⟨u_3, hg8, hg9, hP1, hD1⟩ := hB
    have hjn := xw_join3 (wl := [(ot0, .inl (ax 4, 1, .inr (.inl ov))), (d0, .inr (10, [.ref k0, .ref r0, .ref c0, .ref p0, .ref fd0, .ref w0, .ref e0, .ref b0, .ref a0, .ref y0, .ref g0, .ref i0, .int 0]))]) hP hD [0] [1] hCs (by decide) (by decide) hk1 hFc hP1 hD1 rfl
    have hS1 := xs_catchA hS hz1 hk1 (fun q h => hFc q h) (fun q hq => hFc _ (hL q hq))
    clear hP1 hD1 hz1 hk1 hL
    clear hPc hDc hFc hCs hz
    clear hP hD hS
    have hS := hS1
    obtain ⟨hP, hD⟩ := hjn
    clear hS1
    refine wk_narrow (k := 1) (n := 6) (by first | assumption | omega) (by first | assumption | omega) ?_
    clear hk8 hk9 hg8 hg9
    refine lv_astore_n (lv' := [(3, .ref xq), (0, .ref d0), (1, .int x1), (2, .ref ot0)]) hx hb d_law_say_12 rfl hl1 (by decide) rfl (fun ls hl2 => ?_)
    clear hl1; have hl1 := hl2; clear hl2
    refine lv_iconst (v := 1) hx hb d_law_say_13 (by decide) ?_
    refine xt_weak (fun t h => xt_ofMQ h) ?_
    refine wk_know (fun hk8 hk9 => ?_)
    refine W.widen (k := 1) (n := 6) (Nat.le_of_ble_eq_true rfl) (Nat.le_of_ble_eq_true rfl) ?_
    obtain ⟨hP9, hD9⟩ := xw_sub2 (wc := (fun (u : Nat → Nat)  => [(d0, .inr (10, [.ref k0, .ref r0, .ref c0, .ref p0, .ref fd0, .ref w0, .ref e0, .ref b0, .ref a0, .ref y0, .ref g0, .ref i0, .int 0])), (ot0, .inl (ax 4, 1, .inr (.inl ov)))]) (ixn []) ) hP hD [1, 0] (by decide) rfl
    have hex0 : True := trivial
    have hg8 : H_2.size ≤ s.heap.size + (1) := by omega
    have hg9 : tsl H_2 ≤ tsl s.heap + (6) := by omega
    exact W.iret (v := 1) hx hb hr (fun t ht hW => ⟨⟨1, ixn [], rfl, rfl, ⟨by rw [ht]; exact hg8, by rw [ht]; exact hg9, hex0, by rw [ht]; exact hP9, hD9⟩⟩, hS.F ht⟩) hS.2.2 d_law_say_14
set_option maxHeartbeats 40000000 in
set_option maxRecDepth 100000 in
theorem c_law_say_nc (l : Launch) (hl : l.stackTraces = false) (D : va_G) (ax : Nat → ClassId) (d0 k0 r0 c0 p0 fd0 w0 e0 b0 a0 y0 g0 i0 h0 g1 g2 g3 g4 g5 g6 g7 g8 g9 ga gb cl ln br lp va : Nat) (ot0 : Nat) (x1 : Int32) (ov : Nat → Int64) (sz tz : Nat) (hcl : cl ≤ 29) (hno : ∀ j : Nat, j < cl → x1 ≠ nI j) : xt_Met l y_law_say (xws (.codeWith y_law_say b_law_say 4 (some .int) [(0, 9, 12, 13), (0, 9, 15, 19)])) ({ frames := 60, cells := 1, slots := 6, locals := 2400 }) (va_Pc [.ref d0, .int x1, .ref ot0] (xo5 D ax [(d0, .inr (10, [.ref k0, .ref r0, .ref c0, .ref p0, .ref fd0, .ref w0, .ref e0, .ref b0, .ref a0, .ref y0, .ref g0, .ref i0, .int 1])), (g0, .inr (2, [.ref h0, .ref g1, .ref g2, .ref g3, .ref g4, .ref g5, .ref g6, .ref g7, .ref g8, .ref g9, .ref ga, .ref gb, .int (nI cl), .int (nI ln), .int (nI br), .int (nI lp), .int (nI va)])), (ot0, .inl (ax 4, 1, .inr (.inl ov)))] sz tz)) ((va_Qi (fun (r : Int32) (u : Nat → Nat) => r = 2) (fun (u : Nat → Nat) (t9 : State) => (t9.heap.size ≤ sz + (1)) ∧ (tsl t9.heap ≤ tz + (6)) ∧ (True) ∧ va_P D classes [(d0, .inr (10, [.ref k0, .ref r0, .ref c0, .ref p0, .ref fd0, .ref w0, .ref e0, .ref b0, .ref a0, .ref y0, .ref g0, .ref i0, .int 1])), (g0, .inr (2, [.ref h0, .ref g1, .ref g2, .ref g3, .ref g4, .ref g5, .ref g6, .ref g7, .ref g8, .ref g9, .ref ga, .ref gb, .int (nI cl), .int (nI ln), .int (nI br), .int (nI lp), .int (nI va)])), (ot0, .inl (ax 4, 1, .inr (.inl ov)))] t9.heap ∧ va_D (va_A [(d0, .inr (10, [.ref k0, .ref r0, .ref c0, .ref p0, .ref fd0, .ref w0, .ref e0, .ref b0, .ref a0, .ref y0, .ref g0, .ref i0, .int 1])), (g0, .inr (2, [.ref h0, .ref g1, .ref g2, .ref g3, .ref g4, .ref g5, .ref g6, .ref g7, .ref g8, .ref g9, .ref ga, .ref gb, .int (nI cl), .int (nI ln), .int (nI br), .int (nI lp), .int (nI va)])), (ot0, .inl (ax 4, 1, .inr (.inl ov)))] sz) [(d0, .inr (10, [.ref k0, .ref r0, .ref c0, .ref p0, .ref fd0, .ref w0, .ref e0, .ref b0, .ref a0, .ref y0, .ref g0, .ref i0, .int 1])), (g0, .inr (2, [.ref h0, .ref g1, .ref g2, .ref g3, .ref g4, .ref g5, .ref g6, .ref g7, .ref g8, .ref g9, .ref ga, .ref gb, .int (nI cl), .int (nI ln), .int (nI br), .int (nI lp), .int (nI va)])), (ot0, .inl (ax 4, 1, .inr (.inl ov)))]) (va_A [(d0, .inr (10, [.ref k0, .ref r0, .ref c0, .ref p0, .ref fd0, .ref w0, .ref e0, .ref b0, .ref a0, .ref y0, .ref g0, .ref i0, .int 1])), (g0, .inr (2, [.ref h0, .ref g1, .ref g2, .ref g3, .ref g4, .ref g5, .ref g6, .ref g7, .ref g8, .ref g9, .ref ga, .ref gb, .int (nI cl), .int (nI ln), .int (nI br), .int (nI lp), .int (nI va)])), (ot0, .inl (ax 4, 1, .inr (.inl ov)))] sz))) 1 6 (va_A [(d0, .inr (10, [.ref k0, .ref r0, .ref c0, .ref p0, .ref fd0, .ref w0, .ref e0, .ref b0, .ref a0, .ref y0, .ref g0, .ref i0, .int 1])), (g0, .inr (2, [.ref h0, .ref g1, .ref g2, .ref g3, .ref g4, .ref g5, .ref g6, .ref g7, .ref g8, .ref g9, .ref ga, .ref gb, .int (nI cl), .int (nI ln), .int (nI br), .int (nI lp), .int (nI va)])), (ot0, .inl (ax 4, 1, .inr (.inl ov)))] sz) := by
  refine xt_Met.ofWith (cc := b_law_say) (maxL := 4) (ret := (some .int)) (hs := [(0, 9, 12, 13), (0, 9, 15, 19)]) (by decide) rfl ?_
  intro p e s m args below meth c s₁ B hml htab hv
  obtain ⟨rfl, ⟨⟨hsz, hP, hK, hD0⟩, htz⟩, hnc⟩ := hv
  have hx := B.exec
  have hb := B.bytes
  have hr := B.returns
  have hts := xw_hts B.pre
  have hown : s.vm.findClass R_law = some m.cls := findClass_of_methodNamed B.named
  have hlocks := B.notSynchronized
  subst hsz
  subst htz
  have hD := hD0.self (sz := s.heap.size)
  have hN := xz_entry hP
  generalize hAe : va_A [(d0, .inr (10, [.ref k0, .ref r0, .ref c0, .ref p0, .ref fd0, .ref w0, .ref e0, .ref b0, .ref a0, .ref y0, .ref g0, .ref i0, .int 1])), (g0, .inr (2, [.ref h0, .ref g1, .ref g2, .ref g3, .ref g4, .ref g5, .ref g6, .ref g7, .ref g8, .ref g9, .ref ga, .ref gb, .int (nI cl), .int (nI ln), .int (nI br), .int (nI lp), .int (nI va)])), (ot0, .inl (ax 4, 1, .inr (.inl ov)))] s.heap.size = A at hD hN ⊢
  have hA : ∀ q : Nat, s.heap.size ≤ q → A q := fun q h => by rw [← hAe]; exact Or.inr h
  have hS : va_S A s.heap s.heap [] := va_S.rf
  have hl0 := lv_entry ([.ref d0, .int x1, .ref ot0]) (n := 4) (Nat.le_of_ble_eq_true rfl)
  rw [lg_entry_eq]
  generalize (lg_sl ([.ref d0, .int x1, .ref ot0]) ++ List.replicate (4 - (lg_sl ([.ref d0, .int x1, .ref ot0])).length) Slot.unset).toArray = ls at hl0 ⊢
  have hl1 : lv_has ls 4 [(0, .ref d0), (1, .int x1), (2, .ref ot0)] := hl0
  refine lv_aload_n hx hb d_law_say_0 rfl (lv_at hl1 2 rfl) ?_
  refine lv_iconst (v := 0) hx hb d_law_say_1 (by decide) ?_
  refine lv_aload_n hx hb d_law_say_2 rfl (lv_at hl1 0 rfl) ?_
  refine lv_iload_n hx hb d_law_say_3 rfl (lv_at hl1 1 rfl) ?_
  obtain ⟨hPc, hDc, hFc, hCs⟩ := xw_sub3 (wc := [(d0, .inr (10, [.ref k0, .ref r0, .ref c0, .ref p0, .ref fd0, .ref w0, .ref e0, .ref b0, .ref a0, .ref y0, .ref g0, .ref i0, .int 1])), (g0, .inr (2, [.ref h0, .ref g1, .ref g2, .ref g3, .ref g4, .ref g5, .ref g6, .ref g7, .ref g8, .ref g9, .ref ga, .ref gb, .int (nI cl), .int (nI ln), .int (nI br), .int (nI lp), .int (nI va)]))]) hP hD hS hA [0, 1] (by decide) rfl
  have hz := xz_of hN hS
  refine wk_know (fun hk8 hk9 => ?_)
  refine xt_catchU (xt_runV (As := [.int x1]) (rest := [.int 0, .ref ot0]) ⟨hx, hb, hml, hown, hts⟩ (c_D_say_nc l hl D ax d0 k0 r0 c0 p0 fd0 w0 e0 b0 a0 y0 g0 i0 h0 g1 g2 g3 g4 g5 g6 g7 g8 g9 ga gb cl ln br lp va x1 s.heap.size (tsl s.heap) hcl hno) (xcV (n := 1) hts wd_917 wd_1 wd_914 wd_915 wd_916 rfl rfl (by decide +kernel) ⟨Nat.le_of_ble_eq_true rfl, Nat.le_of_ble_eq_true rfl⟩) (xpV3 (ci := 10) (q0 := 0) (As := [.int x1]) hPc hK hz hDc rfl rfl) rfl rfl hl1.1 rfl (lv_room (Nat.le_of_ble_eq_true rfl)) d_law_say_4 ⟨Nat.le_of_ble_eq_true rfl, Nat.le_of_ble_eq_true rfl⟩) (fun hrt H_1 locs9 r9 hB hz1 hk1 hL => ?_) (fun cls9 hc9 => ?_)
  · exact hrt.elim
  · simp only [List.mem_cons, List.not_mem_nil, or_false] at hc9
    subst hc9
    refine ⟨15, xt_K2 (own := R_law) (e1 := ⟨0, 9, 12, 13⟩) (ent := ⟨0, 9, 15, 19⟩) (restT := []) htab (by decide) (by decide) (by decide) (by decide) hown (hts _ wd_657) (hts _ wd_732) hnc.1, fun xq H_2 locs9 hB hz1 hk1 hL => ?_⟩
    obtain ⟨u_3, hg8, hg9, hP1, hD1⟩ := hB
    have hjn := xw_join3 (wl := [(ot0, .inl (ax 4, 1, .inr (.inl ov))), (d0, .inr (10, [.ref k0, .ref r0, .ref c0, .ref p0, .ref fd0, .ref w0, .ref e0, .ref b0, .ref a0, .ref y0, .ref g0, .ref i0, .int 1])), (g0, .inr (2, [.ref h0, .ref g1, .ref g2, .ref g3, .ref g4, .ref g5, .ref g6, .ref g7, .ref g8, .ref g9, .ref ga, .ref gb, .int (nI cl), .int (nI ln), .int (nI br), .int (nI lp), .int (nI va)]))]) hP hD [0, 1] [2] hCs (by decide) (by decide) hk1 hFc hP1 hD1 rfl
    have hS1 := xs_catchA hS hz1 hk1 (fun q h => hFc q h) (fun q hq => hFc _ (hL q hq))
    clear hP1 hD1 hz1 hk1 hL
    clear hPc hDc hFc hCs hz
    clear hP hD hS
    have hS := hS1
    obtain ⟨hP, hD⟩ := hjn
    clear hS1
    refine wk_narrow (k := 1) (n := 6) (by first | assumption | omega) (by first | assumption | omega) ?_
    clear hk8 hk9 hg8 hg9
    refine lv_astore_n (lv' := [(3, .ref xq), (0, .ref d0), (1, .int x1), (2, .ref ot0)]) hx hb d_law_say_15 rfl hl1 (by decide) rfl (fun ls hl2 => ?_)
    clear hl1; have hl1 := hl2; clear hl2
    refine lv_iconst (v := 2) hx hb d_law_say_16 (by decide) ?_
    refine xt_weak (fun t h => xt_ofMQ h) ?_
    refine wk_know (fun hk8 hk9 => ?_)
    refine W.widen (k := 1) (n := 6) (Nat.le_of_ble_eq_true rfl) (Nat.le_of_ble_eq_true rfl) ?_
    obtain ⟨hP9, hD9⟩ := xw_sub2 (wc := (fun (u : Nat → Nat)  => [(d0, .inr (10, [.ref k0, .ref r0, .ref c0, .ref p0, .ref fd0, .ref w0, .ref e0, .ref b0, .ref a0, .ref y0, .ref g0, .ref i0, .int 1])), (g0, .inr (2, [.ref h0, .ref g1, .ref g2, .ref g3, .ref g4, .ref g5, .ref g6, .ref g7, .ref g8, .ref g9, .ref ga, .ref gb, .int (nI cl), .int (nI ln), .int (nI br), .int (nI lp), .int (nI va)])), (ot0, .inl (ax 4, 1, .inr (.inl ov)))]) (ixn []) ) hP hD [1, 2, 0] (by decide) rfl
    have hex0 : True := trivial
    have hg8 : H_2.size ≤ s.heap.size + (1) := by omega
    have hg9 : tsl H_2 ≤ tsl s.heap + (6) := by omega
    exact W.iret (v := 2) hx hb hr (fun t ht hW => ⟨⟨2, ixn [], rfl, rfl, ⟨by rw [ht]; exact hg8, by rw [ht]; exact hg9, hex0, by rw [ht]; exact hP9, hD9⟩⟩, hS.F ht⟩) hS.2.2 d_law_say_17
set_option maxHeartbeats 40000000 in
set_option maxRecDepth 100000 in
theorem c_law_say_ok (l : Launch) (hl : l.stackTraces = false) (D : va_G) (ax : Nat → ClassId) (d0 k0 r0 c0 p0 fd0 w0 e0 b0 a0 y0 g0 i0 c1 n0 n1 n2 n3 cp z9 h0 g1 g2 g3 g4 g5 g6 g7 g8 g9 ga gb cl ln br lp va h1 h2 h3 zs cs b1 b2 b3 zb cb a1 a2 a3 za ca w1 zw cw : Nat) (s_made : Int32) (ml mf : Value) (sd fo fl fr tm so sl sr bo bl bq ao al ar by9 : Nat → Int32) (kd ow sb f1 f2 te kp nm ck co : Nat → Nat) (ot0 : Nat) (en kc : Nat → Nat) (k1 : Nat) (gpr gpo : List sgT) (gpl : List itT) (ov : Nat → Int64) (sz tz : Nat) (hcp : 8 ≤ cp) (hz9 : z9 ≤ cp) (hmx : cp ≤ 65536) (hfo : bts fo cp) (hsd : ∀ j, j ≤ 10 → trm (sd j)) (hfm : fmk s_made z9 fo fl fr) (hzs : zs ≤ cs) (hcs : cs ≤ 100000) (hsv : ndv so sl sr zs) (hza : za ≤ ca) (hca : ca ≤ 100000) (hz1 : 1 ≤ za) (hz4 : za ≤ 450) (hav : ndv ao al ar za) (hat : tsn ao al ar (za - 1) ≤ 450) (hzb : zb ≤ cb) (hcb : cb ≤ 100000) (hb1 : 1 ≤ zb) (hb4 : zb ≤ 450) (hbv : ndv bo bl bq zb) (hbt : tsn bo bl bq (zb - 1) ≤ 450) (hlw : lsw ln zs kd ow sb f1 f2 te kp nm en kc tm so sl sr) (hcm : clm br cl ck co ln kd nm) (hbr : br ≤ 4) (hcl : cl ≤ 29) (hln1 : 1 ≤ ln) (hlE : lgE so sl sr ao al ar bo bl bq zs za zb ln cl kd ow sb f1 f2 te kp nm ck co tm gpr gpo gpl) (hf8 : fqm8 s_made z9 fo fl fr gpr gpo gpl) (hcw : 8 ≤ cw) (hcw2 : cw ≤ 819300) (hby : bts by9 cw) (hk1 : k1 < cl) : xt_Met l y_law_say (xws (.codeWith y_law_say b_law_say 4 (some .int) [(0, 9, 12, 13), (0, 9, 15, 19)])) ({ frames := 1220, cells := 65536 - cp + (819300 - cw) / 8 + 1, slots := 6 * (65536 - cp) + 2 * (819300 - cw) + 6, locals := 28200 }) (va_Pc [.ref d0, .int (nI k1), .ref ot0] (xo5 D ax [(d0, .inr (10, [.ref k0, .ref r0, .ref c0, .ref p0, .ref fd0, .ref w0, .ref e0, .ref b0, .ref a0, .ref y0, .ref g0, .ref i0, .int 1])), (c0, .inr (3, [.ref n0, .ref c1, ml, mf, .int s_made])), (c1, .inl (ax 0, 16, .inl sd)), (n0, .inr (4, [.ref n1, .ref n2, .ref n3, .int (nI z9)])), (n1, .inl (ax 1, cp, .inl fo)), (n2, .inl (ax 0, cp, .inl fl)), (n3, .inl (ax 0, cp, .inl fr)), (g0, .inr (2, [.ref h0, .ref g1, .ref g2, .ref g3, .ref g4, .ref g5, .ref g6, .ref g7, .ref g8, .ref g9, .ref ga, .ref gb, .int (nI cl), .int (nI ln), .int (nI br), .int (nI lp), .int (nI va)])), (g1, .inl (ax 1, 20, .inl (fun j => nI (kd j)))), (g2, .inl (ax 1, 20, .inl (fun j => nI (ow j)))), (g3, .inl (ax 1, 20, .inl (fun j => nI (sb j)))), (g4, .inl (ax 1, 20, .inl (fun j => nI (f1 j)))), (g5, .inl (ax 1, 20, .inl (fun j => nI (f2 j)))), (g6, .inl (ax 2, 20, .inl (fun j => nI (te j)))), (g7, .inl (ax 2, 20, .inl (fun j => nI (kp j)))), (g8, .inl (ax 0, 20, .inl tm)), (g9, .inl (ax 1, 20, .inl (fun j => nI (nm j)))), (ga, .inl (ax 1, 29, .inl (fun j => nI (ck j)))), (gb, .inl (ax 1, 29, .inl (fun j => nI (co j)))), (h0, .inr (4, [.ref h1, .ref h2, .ref h3, .int (nI zs)])), (h1, .inl (ax 1, cs, .inl so)), (h2, .inl (ax 0, cs, .inl sl)), (h3, .inl (ax 0, cs, .inl sr)), (b0, .inr (4, [.ref b1, .ref b2, .ref b3, .int (nI zb)])), (b1, .inl (ax 1, cb, .inl bo)), (b2, .inl (ax 0, cb, .inl bl)), (b3, .inl (ax 0, cb, .inl bq)), (a0, .inr (4, [.ref a1, .ref a2, .ref a3, .int (nI za)])), (a1, .inl (ax 1, ca, .inl ao)), (a2, .inl (ax 0, ca, .inl al)), (a3, .inl (ax 0, ca, .inl ar)), (w0, .inr (5, [.ref w1, .int (nI zw)])), (w1, .inl (ax 1, cw, .inl by9)), (ot0, .inl (ax 4, 1, .inr (.inl ov)))] sz tz)) ((va_Qi (fun (r : Int32) (u : Nat → Nat) => r = 0 ∧ (u 3 ≤ u 4 ∧ cp ≤ u 4 ∧ u 4 ≤ 65536 ∧ u 7 ≤ u 6 ∧ cw ≤ u 6 ∧ u 6 ≤ 819300 ∧ dbl cp (u 4))) (fun (u : Nat → Nat) (t9 : State) => ∃ xsd : Nat → Int32, ∃ xmd : Int32, ∃ xvl : Value, ∃ xva : Value, ∃ xfo : Nat → Int32, ∃ xfl : Nat → Int32, ∃ xfr : Nat → Int32, ∃ xby : Nat → Int32, ∃ xov : Nat → Int64, (t9.heap.size ≤ sz + (u 4 - cp + (u 6 - cw) / 8 + 1)) ∧ (tsl t9.heap ≤ tz + (6 * (u 4 - cp) + 2 * (u 6 - cw) + 6)) ∧ (bts xfo (u 4)) ∧ (∀ j, j ≤ 10 → trm (xsd j)) ∧ (fmk xmd (u 3) xfo xfl xfr) ∧ (bts xby (u 6)) ∧ (fqm8 xmd (u 3) xfo xfl xfr gpr gpo gpl) ∧ (nbl 9999999 (cth (aLL gpr gpo gpl) k1).2.2 ∧ lsi xby (u 7) = ftx (cth (aLL gpr gpo gpl) k1).2.2 ((cth (aLL gpr gpo gpl) k1).2.2.length - 1)) ∧ (xov 0 = (nI (u 7)).toInt64) ∧ va_P D classes [(d0, .inr (10, [.ref k0, .ref r0, .ref c0, .ref p0, .ref fd0, .ref w0, .ref e0, .ref b0, .ref a0, .ref y0, .ref g0, .ref i0, .int 1])), (c0, .inr (3, [.ref n0, .ref c1, xvl, xva, .int xmd])), (c1, .inl (ax 0, 16, .inl xsd)), (n0, .inr (4, [.ref (u 0), .ref (u 1), .ref (u 2), .int (nI (u 3))])), (u 0, .inl (ax 1, u 4, .inl xfo)), (u 1, .inl (ax 0, u 4, .inl xfl)), (u 2, .inl (ax 0, u 4, .inl xfr)), (g0, .inr (2, [.ref h0, .ref g1, .ref g2, .ref g3, .ref g4, .ref g5, .ref g6, .ref g7, .ref g8, .ref g9, .ref ga, .ref gb, .int (nI cl), .int (nI ln), .int (nI br), .int (nI lp), .int (nI va)])), (g1, .inl (ax 1, 20, .inl (fun j => nI (kd j)))), (g2, .inl (ax 1, 20, .inl (fun j => nI (ow j)))), (g3, .inl (ax 1, 20, .inl (fun j => nI (sb j)))), (g4, .inl (ax 1, 20, .inl (fun j => nI (f1 j)))), (g5, .inl (ax 1, 20, .inl (fun j => nI (f2 j)))), (g6, .inl (ax 2, 20, .inl (fun j => nI (te j)))), (g7, .inl (ax 2, 20, .inl (fun j => nI (kp j)))), (g8, .inl (ax 0, 20, .inl tm)), (g9, .inl (ax 1, 20, .inl (fun j => nI (nm j)))), (ga, .inl (ax 1, 29, .inl (fun j => nI (ck j)))), (gb, .inl (ax 1, 29, .inl (fun j => nI (co j)))), (h0, .inr (4, [.ref h1, .ref h2, .ref h3, .int (nI zs)])), (h1, .inl (ax 1, cs, .inl so)), (h2, .inl (ax 0, cs, .inl sl)), (h3, .inl (ax 0, cs, .inl sr)), (b0, .inr (4, [.ref b1, .ref b2, .ref b3, .int (nI zb)])), (b1, .inl (ax 1, cb, .inl bo)), (b2, .inl (ax 0, cb, .inl bl)), (b3, .inl (ax 0, cb, .inl bq)), (a0, .inr (4, [.ref a1, .ref a2, .ref a3, .int (nI za)])), (a1, .inl (ax 1, ca, .inl ao)), (a2, .inl (ax 0, ca, .inl al)), (a3, .inl (ax 0, ca, .inl ar)), (w0, .inr (5, [.ref (u 5), .int (nI (u 7))])), (u 5, .inl (ax 1, u 6, .inl xby)), (ot0, .inl (ax 4, 1, .inr (.inl xov)))] t9.heap ∧ va_D (va_A [(d0, .inr (10, [.ref k0, .ref r0, .ref c0, .ref p0, .ref fd0, .ref w0, .ref e0, .ref b0, .ref a0, .ref y0, .ref g0, .ref i0, .int 1])), (c0, .inr (3, [.ref n0, .ref c1, ml, mf, .int s_made])), (c1, .inl (ax 0, 16, .inl sd)), (n0, .inr (4, [.ref n1, .ref n2, .ref n3, .int (nI z9)])), (n1, .inl (ax 1, cp, .inl fo)), (n2, .inl (ax 0, cp, .inl fl)), (n3, .inl (ax 0, cp, .inl fr)), (g0, .inr (2, [.ref h0, .ref g1, .ref g2, .ref g3, .ref g4, .ref g5, .ref g6, .ref g7, .ref g8, .ref g9, .ref ga, .ref gb, .int (nI cl), .int (nI ln), .int (nI br), .int (nI lp), .int (nI va)])), (g1, .inl (ax 1, 20, .inl (fun j => nI (kd j)))), (g2, .inl (ax 1, 20, .inl (fun j => nI (ow j)))), (g3, .inl (ax 1, 20, .inl (fun j => nI (sb j)))), (g4, .inl (ax 1, 20, .inl (fun j => nI (f1 j)))), (g5, .inl (ax 1, 20, .inl (fun j => nI (f2 j)))), (g6, .inl (ax 2, 20, .inl (fun j => nI (te j)))), (g7, .inl (ax 2, 20, .inl (fun j => nI (kp j)))), (g8, .inl (ax 0, 20, .inl tm)), (g9, .inl (ax 1, 20, .inl (fun j => nI (nm j)))), (ga, .inl (ax 1, 29, .inl (fun j => nI (ck j)))), (gb, .inl (ax 1, 29, .inl (fun j => nI (co j)))), (h0, .inr (4, [.ref h1, .ref h2, .ref h3, .int (nI zs)])), (h1, .inl (ax 1, cs, .inl so)), (h2, .inl (ax 0, cs, .inl sl)), (h3, .inl (ax 0, cs, .inl sr)), (b0, .inr (4, [.ref b1, .ref b2, .ref b3, .int (nI zb)])), (b1, .inl (ax 1, cb, .inl bo)), (b2, .inl (ax 0, cb, .inl bl)), (b3, .inl (ax 0, cb, .inl bq)), (a0, .inr (4, [.ref a1, .ref a2, .ref a3, .int (nI za)])), (a1, .inl (ax 1, ca, .inl ao)), (a2, .inl (ax 0, ca, .inl al)), (a3, .inl (ax 0, ca, .inl ar)), (w0, .inr (5, [.ref w1, .int (nI zw)])), (w1, .inl (ax 1, cw, .inl by9)), (ot0, .inl (ax 4, 1, .inr (.inl ov)))] sz) [(d0, .inr (10, [.ref k0, .ref r0, .ref c0, .ref p0, .ref fd0, .ref w0, .ref e0, .ref b0, .ref a0, .ref y0, .ref g0, .ref i0, .int 1])), (c0, .inr (3, [.ref n0, .ref c1, xvl, xva, .int xmd])), (c1, .inl (ax 0, 16, .inl xsd)), (n0, .inr (4, [.ref (u 0), .ref (u 1), .ref (u 2), .int (nI (u 3))])), (u 0, .inl (ax 1, u 4, .inl xfo)), (u 1, .inl (ax 0, u 4, .inl xfl)), (u 2, .inl (ax 0, u 4, .inl xfr)), (g0, .inr (2, [.ref h0, .ref g1, .ref g2, .ref g3, .ref g4, .ref g5, .ref g6, .ref g7, .ref g8, .ref g9, .ref ga, .ref gb, .int (nI cl), .int (nI ln), .int (nI br), .int (nI lp), .int (nI va)])), (g1, .inl (ax 1, 20, .inl (fun j => nI (kd j)))), (g2, .inl (ax 1, 20, .inl (fun j => nI (ow j)))), (g3, .inl (ax 1, 20, .inl (fun j => nI (sb j)))), (g4, .inl (ax 1, 20, .inl (fun j => nI (f1 j)))), (g5, .inl (ax 1, 20, .inl (fun j => nI (f2 j)))), (g6, .inl (ax 2, 20, .inl (fun j => nI (te j)))), (g7, .inl (ax 2, 20, .inl (fun j => nI (kp j)))), (g8, .inl (ax 0, 20, .inl tm)), (g9, .inl (ax 1, 20, .inl (fun j => nI (nm j)))), (ga, .inl (ax 1, 29, .inl (fun j => nI (ck j)))), (gb, .inl (ax 1, 29, .inl (fun j => nI (co j)))), (h0, .inr (4, [.ref h1, .ref h2, .ref h3, .int (nI zs)])), (h1, .inl (ax 1, cs, .inl so)), (h2, .inl (ax 0, cs, .inl sl)), (h3, .inl (ax 0, cs, .inl sr)), (b0, .inr (4, [.ref b1, .ref b2, .ref b3, .int (nI zb)])), (b1, .inl (ax 1, cb, .inl bo)), (b2, .inl (ax 0, cb, .inl bl)), (b3, .inl (ax 0, cb, .inl bq)), (a0, .inr (4, [.ref a1, .ref a2, .ref a3, .int (nI za)])), (a1, .inl (ax 1, ca, .inl ao)), (a2, .inl (ax 0, ca, .inl al)), (a3, .inl (ax 0, ca, .inl ar)), (w0, .inr (5, [.ref (u 5), .int (nI (u 7))])), (u 5, .inl (ax 1, u 6, .inl xby)), (ot0, .inl (ax 4, 1, .inr (.inl xov)))]) (va_A [(d0, .inr (10, [.ref k0, .ref r0, .ref c0, .ref p0, .ref fd0, .ref w0, .ref e0, .ref b0, .ref a0, .ref y0, .ref g0, .ref i0, .int 1])), (c0, .inr (3, [.ref n0, .ref c1, ml, mf, .int s_made])), (c1, .inl (ax 0, 16, .inl sd)), (n0, .inr (4, [.ref n1, .ref n2, .ref n3, .int (nI z9)])), (n1, .inl (ax 1, cp, .inl fo)), (n2, .inl (ax 0, cp, .inl fl)), (n3, .inl (ax 0, cp, .inl fr)), (g0, .inr (2, [.ref h0, .ref g1, .ref g2, .ref g3, .ref g4, .ref g5, .ref g6, .ref g7, .ref g8, .ref g9, .ref ga, .ref gb, .int (nI cl), .int (nI ln), .int (nI br), .int (nI lp), .int (nI va)])), (g1, .inl (ax 1, 20, .inl (fun j => nI (kd j)))), (g2, .inl (ax 1, 20, .inl (fun j => nI (ow j)))), (g3, .inl (ax 1, 20, .inl (fun j => nI (sb j)))), (g4, .inl (ax 1, 20, .inl (fun j => nI (f1 j)))), (g5, .inl (ax 1, 20, .inl (fun j => nI (f2 j)))), (g6, .inl (ax 2, 20, .inl (fun j => nI (te j)))), (g7, .inl (ax 2, 20, .inl (fun j => nI (kp j)))), (g8, .inl (ax 0, 20, .inl tm)), (g9, .inl (ax 1, 20, .inl (fun j => nI (nm j)))), (ga, .inl (ax 1, 29, .inl (fun j => nI (ck j)))), (gb, .inl (ax 1, 29, .inl (fun j => nI (co j)))), (h0, .inr (4, [.ref h1, .ref h2, .ref h3, .int (nI zs)])), (h1, .inl (ax 1, cs, .inl so)), (h2, .inl (ax 0, cs, .inl sl)), (h3, .inl (ax 0, cs, .inl sr)), (b0, .inr (4, [.ref b1, .ref b2, .ref b3, .int (nI zb)])), (b1, .inl (ax 1, cb, .inl bo)), (b2, .inl (ax 0, cb, .inl bl)), (b3, .inl (ax 0, cb, .inl bq)), (a0, .inr (4, [.ref a1, .ref a2, .ref a3, .int (nI za)])), (a1, .inl (ax 1, ca, .inl ao)), (a2, .inl (ax 0, ca, .inl al)), (a3, .inl (ax 0, ca, .inl ar)), (w0, .inr (5, [.ref w1, .int (nI zw)])), (w1, .inl (ax 1, cw, .inl by9)), (ot0, .inl (ax 4, 1, .inr (.inl ov)))] sz))) (65536 - cp + (819300 - cw) / 8 + 1) (6 * (65536 - cp) + 2 * (819300 - cw) + 6) (va_A [(d0, .inr (10, [.ref k0, .ref r0, .ref c0, .ref p0, .ref fd0, .ref w0, .ref e0, .ref b0, .ref a0, .ref y0, .ref g0, .ref i0, .int 1])), (c0, .inr (3, [.ref n0, .ref c1, ml, mf, .int s_made])), (c1, .inl (ax 0, 16, .inl sd)), (n0, .inr (4, [.ref n1, .ref n2, .ref n3, .int (nI z9)])), (n1, .inl (ax 1, cp, .inl fo)), (n2, .inl (ax 0, cp, .inl fl)), (n3, .inl (ax 0, cp, .inl fr)), (g0, .inr (2, [.ref h0, .ref g1, .ref g2, .ref g3, .ref g4, .ref g5, .ref g6, .ref g7, .ref g8, .ref g9, .ref ga, .ref gb, .int (nI cl), .int (nI ln), .int (nI br), .int (nI lp), .int (nI va)])), (g1, .inl (ax 1, 20, .inl (fun j => nI (kd j)))), (g2, .inl (ax 1, 20, .inl (fun j => nI (ow j)))), (g3, .inl (ax 1, 20, .inl (fun j => nI (sb j)))), (g4, .inl (ax 1, 20, .inl (fun j => nI (f1 j)))), (g5, .inl (ax 1, 20, .inl (fun j => nI (f2 j)))), (g6, .inl (ax 2, 20, .inl (fun j => nI (te j)))), (g7, .inl (ax 2, 20, .inl (fun j => nI (kp j)))), (g8, .inl (ax 0, 20, .inl tm)), (g9, .inl (ax 1, 20, .inl (fun j => nI (nm j)))), (ga, .inl (ax 1, 29, .inl (fun j => nI (ck j)))), (gb, .inl (ax 1, 29, .inl (fun j => nI (co j)))), (h0, .inr (4, [.ref h1, .ref h2, .ref h3, .int (nI zs)])), (h1, .inl (ax 1, cs, .inl so)), (h2, .inl (ax 0, cs, .inl sl)), (h3, .inl (ax 0, cs, .inl sr)), (b0, .inr (4, [.ref b1, .ref b2, .ref b3, .int (nI zb)])), (b1, .inl (ax 1, cb, .inl bo)), (b2, .inl (ax 0, cb, .inl bl)), (b3, .inl (ax 0, cb, .inl bq)), (a0, .inr (4, [.ref a1, .ref a2, .ref a3, .int (nI za)])), (a1, .inl (ax 1, ca, .inl ao)), (a2, .inl (ax 0, ca, .inl al)), (a3, .inl (ax 0, ca, .inl ar)), (w0, .inr (5, [.ref w1, .int (nI zw)])), (w1, .inl (ax 1, cw, .inl by9)), (ot0, .inl (ax 4, 1, .inr (.inl ov)))] sz) := by
  refine xt_Met.ofWith (cc := b_law_say) (maxL := 4) (ret := (some .int)) (hs := [(0, 9, 12, 13), (0, 9, 15, 19)]) (by decide) rfl ?_
  intro p e s m args below meth c s₁ B hml htab hv
  obtain ⟨rfl, ⟨⟨hsz, hP, hK, hD0⟩, htz⟩, hnc⟩ := hv
  have hx := B.exec
  have hb := B.bytes
  have hr := B.returns
  have hts := xw_hts B.pre
  have hown : s.vm.findClass R_law = some m.cls := findClass_of_methodNamed B.named
  have hlocks := B.notSynchronized
  subst hsz
  subst htz
  have hD := hD0.self (sz := s.heap.size)
  have hN := xz_entry hP
  generalize hAe : va_A [(d0, .inr (10, [.ref k0, .ref r0, .ref c0, .ref p0, .ref fd0, .ref w0, .ref e0, .ref b0, .ref a0, .ref y0, .ref g0, .ref i0, .int 1])), (c0, .inr (3, [.ref n0, .ref c1, ml, mf, .int s_made])), (c1, .inl (ax 0, 16, .inl sd)), (n0, .inr (4, [.ref n1, .ref n2, .ref n3, .int (nI z9)])), (n1, .inl (ax 1, cp, .inl fo)), (n2, .inl (ax 0, cp, .inl fl)), (n3, .inl (ax 0, cp, .inl fr)), (g0, .inr (2, [.ref h0, .ref g1, .ref g2, .ref g3, .ref g4, .ref g5, .ref g6, .ref g7, .ref g8, .ref g9, .ref ga, .ref gb, .int (nI cl), .int (nI ln), .int (nI br), .int (nI lp), .int (nI va)])), (g1, .inl (ax 1, 20, .inl (fun j => nI (kd j)))), (g2, .inl (ax 1, 20, .inl (fun j => nI (ow j)))), (g3, .inl (ax 1, 20, .inl (fun j => nI (sb j)))), (g4, .inl (ax 1, 20, .inl (fun j => nI (f1 j)))), (g5, .inl (ax 1, 20, .inl (fun j => nI (f2 j)))), (g6, .inl (ax 2, 20, .inl (fun j => nI (te j)))), (g7, .inl (ax 2, 20, .inl (fun j => nI (kp j)))), (g8, .inl (ax 0, 20, .inl tm)), (g9, .inl (ax 1, 20, .inl (fun j => nI (nm j)))), (ga, .inl (ax 1, 29, .inl (fun j => nI (ck j)))), (gb, .inl (ax 1, 29, .inl (fun j => nI (co j)))), (h0, .inr (4, [.ref h1, .ref h2, .ref h3, .int (nI zs)])), (h1, .inl (ax 1, cs, .inl so)), (h2, .inl (ax 0, cs, .inl sl)), (h3, .inl (ax 0, cs, .inl sr)), (b0, .inr (4, [.ref b1, .ref b2, .ref b3, .int (nI zb)])), (b1, .inl (ax 1, cb, .inl bo)), (b2, .inl (ax 0, cb, .inl bl)), (b3, .inl (ax 0, cb, .inl bq)), (a0, .inr (4, [.ref a1, .ref a2, .ref a3, .int (nI za)])), (a1, .inl (ax 1, ca, .inl ao)), (a2, .inl (ax 0, ca, .inl al)), (a3, .inl (ax 0, ca, .inl ar)), (w0, .inr (5, [.ref w1, .int (nI zw)])), (w1, .inl (ax 1, cw, .inl by9)), (ot0, .inl (ax 4, 1, .inr (.inl ov)))] s.heap.size = A at hD hN ⊢
  have hA : ∀ q : Nat, s.heap.size ≤ q → A q := fun q h => by rw [← hAe]; exact Or.inr h
  have hS : va_S A s.heap s.heap [] := va_S.rf
  have hl0 := lv_entry ([.ref d0, .int (nI k1), .ref ot0]) (n := 4) (Nat.le_of_ble_eq_true rfl)
  rw [lg_entry_eq]
  generalize (lg_sl ([.ref d0, .int (nI k1), .ref ot0]) ++ List.replicate (4 - (lg_sl ([.ref d0, .int (nI k1), .ref ot0])).length) Slot.unset).toArray = ls at hl0 ⊢
  have hl1 : lv_has ls 4 [(0, .ref d0), (1, .int (nI k1)), (2, .ref ot0)] := hl0
  refine lv_aload_n hx hb d_law_say_0 rfl (lv_at hl1 2 rfl) ?_
  refine lv_iconst (v := 0) hx hb d_law_say_1 (by decide) ?_
  refine lv_aload_n hx hb d_law_say_2 rfl (lv_at hl1 0 rfl) ?_
  refine lv_iload_n hx hb d_law_say_3 rfl (lv_at hl1 1 rfl) ?_
  obtain ⟨hPc, hDc, hFc, hCs⟩ := xw_sub3 (wc := [(d0, .inr (10, [.ref k0, .ref r0, .ref c0, .ref p0, .ref fd0, .ref w0, .ref e0, .ref b0, .ref a0, .ref y0, .ref g0, .ref i0, .int 1])), (c0, .inr (3, [.ref n0, .ref c1, ml, mf, .int s_made])), (c1, .inl (ax 0, 16, .inl sd)), (n0, .inr (4, [.ref n1, .ref n2, .ref n3, .int (nI z9)])), (n1, .inl (ax 1, cp, .inl fo)), (n2, .inl (ax 0, cp, .inl fl)), (n3, .inl (ax 0, cp, .inl fr)), (g0, .inr (2, [.ref h0, .ref g1, .ref g2, .ref g3, .ref g4, .ref g5, .ref g6, .ref g7, .ref g8, .ref g9, .ref ga, .ref gb, .int (nI cl), .int (nI ln), .int (nI br), .int (nI lp), .int (nI va)])), (g1, .inl (ax 1, 20, .inl (fun j => nI (kd j)))), (g2, .inl (ax 1, 20, .inl (fun j => nI (ow j)))), (g3, .inl (ax 1, 20, .inl (fun j => nI (sb j)))), (g4, .inl (ax 1, 20, .inl (fun j => nI (f1 j)))), (g5, .inl (ax 1, 20, .inl (fun j => nI (f2 j)))), (g6, .inl (ax 2, 20, .inl (fun j => nI (te j)))), (g7, .inl (ax 2, 20, .inl (fun j => nI (kp j)))), (g8, .inl (ax 0, 20, .inl tm)), (g9, .inl (ax 1, 20, .inl (fun j => nI (nm j)))), (ga, .inl (ax 1, 29, .inl (fun j => nI (ck j)))), (gb, .inl (ax 1, 29, .inl (fun j => nI (co j)))), (h0, .inr (4, [.ref h1, .ref h2, .ref h3, .int (nI zs)])), (h1, .inl (ax 1, cs, .inl so)), (h2, .inl (ax 0, cs, .inl sl)), (h3, .inl (ax 0, cs, .inl sr)), (b0, .inr (4, [.ref b1, .ref b2, .ref b3, .int (nI zb)])), (b1, .inl (ax 1, cb, .inl bo)), (b2, .inl (ax 0, cb, .inl bl)), (b3, .inl (ax 0, cb, .inl bq)), (a0, .inr (4, [.ref a1, .ref a2, .ref a3, .int (nI za)])), (a1, .inl (ax 1, ca, .inl ao)), (a2, .inl (ax 0, ca, .inl al)), (a3, .inl (ax 0, ca, .inl ar)), (w0, .inr (5, [.ref w1, .int (nI zw)])), (w1, .inl (ax 1, cw, .inl by9))]) hP hD hS hA [0, 1, 2, 3, 4, 5, 6, 7, 8, 9, 10, 11, 12, 13, 14, 15, 16, 17, 18, 19, 20, 21, 22, 23, 24, 25, 26, 27, 28, 29, 30, 31, 32] (by decide) rfl
  have hz := xz_of hN hS
  refine wk_know (fun hk8 hk9 => ?_)
  refine va_calli (va_runV (As := [.int (nI k1)]) (rest := [.int 0, .ref ot0]) ⟨hx, hb, hml, hown, hts⟩ (c_D_say_ok l D ax d0 k0 r0 c0 p0 fd0 w0 e0 b0 a0 y0 g0 i0 c1 n0 n1 n2 n3 cp z9 h0 g1 g2 g3 g4 g5 g6 g7 g8 g9 ga gb cl ln br lp va h1 h2 h3 zs cs b1 b2 b3 zb cb a1 a2 a3 za ca w1 zw cw s_made ml mf sd fo fl fr tm so sl sr bo bl bq ao al ar by9 kd ow sb f1 f2 te kp nm ck co en kc k1 gpr gpo gpl s.heap.size (tsl s.heap) hcp hz9 hmx hfo hsd hfm hzs hcs hsv hza hca hz1 hz4 hav hat hzb hcb hb1 hb4 hbv hbt hlw hcm hbr hcl hln1 hlE hf8 hcw hcw2 hby hk1) (xcV (n := 1) hts wd_917 wd_1 wd_914 wd_915 wd_916 rfl rfl (by decide +kernel) ⟨(show (1210) + 1 ≤ (1220) by omega), (show 8 + (2 + 11) + (27900) ≤ (28200) by omega)⟩) (xpV3 (ci := 10) (q0 := 0) (As := [.int (nI k1)]) hPc hK hz hDc rfl rfl) rfl rfl hl1.1 rfl (lv_room (Nat.le_of_ble_eq_true rfl)) d_law_say_4 ⟨(show (0) + (65536 - cp + (819300 - cw) / 8 + 1) ≤ (65536 - cp + (819300 - cw) / 8 + 1) by omega), (show (0) + (6 * (65536 - cp) + 2 * (819300 - cw)) ≤ (6 * (65536 - cp) + 2 * (819300 - cw) + 6) by omega)⟩) hS (fun q _ h => hFc q h) hFc (fun r_3 u_1 t H_2 locs ht hvm hw hB hz1 hk1 hS1 => ?_)
  try dsimp only at hw
  obtain ⟨hw, hs_4, hs_5, hs_6, hs_7, hs_8, hs_9, hs_10⟩ := hw
  subst hw
  obtain ⟨x_11, x_12, x_13, x_14, x_15, x_16, x_17, x_18, hg8, hg9, hx_19, hx_20, hx_21, hx_22, hx_23, hx_24, hP1, hD1⟩ := hB
  rw [ht] at hg8 hg9 hP1
  have hjn := xw_join3 (wl := [(ot0, .inl (ax 4, 1, .inr (.inl ov))), (d0, .inr (10, [.ref k0, .ref r0, .ref c0, .ref p0, .ref fd0, .ref w0, .ref e0, .ref b0, .ref a0, .ref y0, .ref g0, .ref i0, .int 1])), (c0, .inr (3, [.ref n0, .ref c1, x_13, x_14, .int x_12])), (c1, .inl (ax 0, 16, .inl x_11)), (n0, .inr (4, [.ref (u_1 0), .ref (u_1 1), .ref (u_1 2), .int (nI (u_1 3))])), ((u_1 0), .inl (ax 1, u_1 4, .inl x_15)), ((u_1 1), .inl (ax 0, u_1 4, .inl x_16)), ((u_1 2), .inl (ax 0, u_1 4, .inl x_17)), (g0, .inr (2, [.ref h0, .ref g1, .ref g2, .ref g3, .ref g4, .ref g5, .ref g6, .ref g7, .ref g8, .ref g9, .ref ga, .ref gb, .int (nI cl), .int (nI ln), .int (nI br), .int (nI lp), .int (nI va)])), (g1, .inl (ax 1, 20, .inl (fun j => nI (kd j)))), (g2, .inl (ax 1, 20, .inl (fun j => nI (ow j)))), (g3, .inl (ax 1, 20, .inl (fun j => nI (sb j)))), (g4, .inl (ax 1, 20, .inl (fun j => nI (f1 j)))), (g5, .inl (ax 1, 20, .inl (fun j => nI (f2 j)))), (g6, .inl (ax 2, 20, .inl (fun j => nI (te j)))), (g7, .inl (ax 2, 20, .inl (fun j => nI (kp j)))), (g8, .inl (ax 0, 20, .inl tm)), (g9, .inl (ax 1, 20, .inl (fun j => nI (nm j)))), (ga, .inl (ax 1, 29, .inl (fun j => nI (ck j)))), (gb, .inl (ax 1, 29, .inl (fun j => nI (co j)))), (h0, .inr (4, [.ref h1, .ref h2, .ref h3, .int (nI zs)])), (h1, .inl (ax 1, cs, .inl so)), (h2, .inl (ax 0, cs, .inl sl)), (h3, .inl (ax 0, cs, .inl sr)), (b0, .inr (4, [.ref b1, .ref b2, .ref b3, .int (nI zb)])), (b1, .inl (ax 1, cb, .inl bo)), (b2, .inl (ax 0, cb, .inl bl)), (b3, .inl (ax 0, cb, .inl bq)), (a0, .inr (4, [.ref a1, .ref a2, .ref a3, .int (nI za)])), (a1, .inl (ax 1, ca, .inl ao)), (a2, .inl (ax 0, ca, .inl al)), (a3, .inl (ax 0, ca, .inl ar)), (w0, .inr (5, [.ref (u_1 5), .int (nI (u_1 7))])), ((u_1 5), .inl (ax 1, u_1 6, .inl x_18))]) hP hD [0, 1, 2, 3, 4, 5, 6, 7, 8, 9, 10, 11, 12, 13, 14, 15, 16, 17, 18, 19, 20, 21, 22, 23, 24, 25, 26, 27, 28, 29, 30, 31, 32] [33] hCs (by decide) (by decide) hk1 hFc hP1 hD1 rfl
  clear hP1 hD1
  clear hPc hDc hFc hCs hz hz1 hk1 ht hvm
  clear hP hD hS
  have hS := hS1
  obtain ⟨hP, hD⟩ := hjn
  clear hS1
  refine wk_narrow (k := u_1 4 - cp + (u_1 6 - cw) / 8 + 1) (n := 6 * (u_1 4 - cp) + 2 * (u_1 6 - cw)) (by first | assumption | omega) (by first | assumption | omega) ?_
  clear hk8 hk9 hg8 hg9
  refine lv_i2l hx hb d_law_say_7 rfl ?_
  refine lv_topl (fun z_25 ez_25 => ?_)
  refine va_last hx hb hK.1 hP hD hS 0 4 rfl rfl (by unfold vp_in; decide) d_law_say_8 (fun H_26 locs hP1 hD1 hS1 => ?_)
  clear hP hD hS
  have hS := hS1
  have hW7 : (fun w9 : va_W => va_P D classes w9 H_26 ∧ va_D A w9) [(ot0, .inl (ax 4, 1, .inr (.inl (vp_updL ov 0 z_25)))), (d0, .inr (10, [.ref k0, .ref r0, .ref c0, .ref p0, .ref fd0, .ref w0, .ref e0, .ref b0, .ref a0, .ref y0, .ref g0, .ref i0, .int 1])), (c0, .inr (3, [.ref n0, .ref c1, x_13, x_14, .int x_12])), (c1, .inl (ax 0, 16, .inl x_11)), (n0, .inr (4, [.ref (u_1 0), .ref (u_1 1), .ref (u_1 2), .int (nI (u_1 3))])), ((u_1 0), .inl (ax 1, u_1 4, .inl x_15)), ((u_1 1), .inl (ax 0, u_1 4, .inl x_16)), ((u_1 2), .inl (ax 0, u_1 4, .inl x_17)), (g0, .inr (2, [.ref h0, .ref g1, .ref g2, .ref g3, .ref g4, .ref g5, .ref g6, .ref g7, .ref g8, .ref g9, .ref ga, .ref gb, .int (nI cl), .int (nI ln), .int (nI br), .int (nI lp), .int (nI va)])), (g1, .inl (ax 1, 20, .inl (fun j => nI (kd j)))), (g2, .inl (ax 1, 20, .inl (fun j => nI (ow j)))), (g3, .inl (ax 1, 20, .inl (fun j => nI (sb j)))), (g4, .inl (ax 1, 20, .inl (fun j => nI (f1 j)))), (g5, .inl (ax 1, 20, .inl (fun j => nI (f2 j)))), (g6, .inl (ax 2, 20, .inl (fun j => nI (te j)))), (g7, .inl (ax 2, 20, .inl (fun j => nI (kp j)))), (g8, .inl (ax 0, 20, .inl tm)), (g9, .inl (ax 1, 20, .inl (fun j => nI (nm j)))), (ga, .inl (ax 1, 29, .inl (fun j => nI (ck j)))), (gb, .inl (ax 1, 29, .inl (fun j => nI (co j)))), (h0, .inr (4, [.ref h1, .ref h2, .ref h3, .int (nI zs)])), (h1, .inl (ax 1, cs, .inl so)), (h2, .inl (ax 0, cs, .inl sl)), (h3, .inl (ax 0, cs, .inl sr)), (b0, .inr (4, [.ref b1, .ref b2, .ref b3, .int (nI zb)])), (b1, .inl (ax 1, cb, .inl bo)), (b2, .inl (ax 0, cb, .inl bl)), (b3, .inl (ax 0, cb, .inl bq)), (a0, .inr (4, [.ref a1, .ref a2, .ref a3, .int (nI za)])), (a1, .inl (ax 1, ca, .inl ao)), (a2, .inl (ax 0, ca, .inl al)), (a3, .inl (ax 0, ca, .inl ar)), (w0, .inr (5, [.ref (u_1 5), .int (nI (u_1 7))])), ((u_1 5), .inl (ax 1, u_1 6, .inl x_18))] := ⟨hP1, hD1⟩
  obtain ⟨hP, hD⟩ := hW7
  clear hP1 hD1 hS1
  refine lv_goto (tgt := 18) hx hb d_law_say_9 (by decide) ?_
  refine lv_iconst (v := 0) hx hb d_law_say_18 (by decide) ?_
  refine xt_weak (fun t h => xt_ofMQ h) ?_
  refine wk_know (fun hk8 hk9 => ?_)
  refine W.widen (k := 65536 - cp + (819300 - cw) / 8 + 1) (n := 6 * (65536 - cp) + 2 * (819300 - cw) + 6) (by first | assumption | omega) (by first | assumption | omega) ?_
  obtain ⟨hP9, hD9⟩ := xw_sub2 (wc := (fun (u : Nat → Nat) (xsd : Nat → Int32) (xmd : Int32) (xvl : Value) (xva : Value) (xfo : Nat → Int32) (xfl : Nat → Int32) (xfr : Nat → Int32) (xby : Nat → Int32) (xov : Nat → Int64) => [(d0, .inr (10, [.ref k0, .ref r0, .ref c0, .ref p0, .ref fd0, .ref w0, .ref e0, .ref b0, .ref a0, .ref y0, .ref g0, .ref i0, .int 1])), (c0, .inr (3, [.ref n0, .ref c1, xvl, xva, .int xmd])), (c1, .inl (ax 0, 16, .inl xsd)), (n0, .inr (4, [.ref (u 0), .ref (u 1), .ref (u 2), .int (nI (u 3))])), (u 0, .inl (ax 1, u 4, .inl xfo)), (u 1, .inl (ax 0, u 4, .inl xfl)), (u 2, .inl (ax 0, u 4, .inl xfr)), (g0, .inr (2, [.ref h0, .ref g1, .ref g2, .ref g3, .ref g4, .ref g5, .ref g6, .ref g7, .ref g8, .ref g9, .ref ga, .ref gb, .int (nI cl), .int (nI ln), .int (nI br), .int (nI lp), .int (nI va)])), (g1, .inl (ax 1, 20, .inl (fun j => nI (kd j)))), (g2, .inl (ax 1, 20, .inl (fun j => nI (ow j)))), (g3, .inl (ax 1, 20, .inl (fun j => nI (sb j)))), (g4, .inl (ax 1, 20, .inl (fun j => nI (f1 j)))), (g5, .inl (ax 1, 20, .inl (fun j => nI (f2 j)))), (g6, .inl (ax 2, 20, .inl (fun j => nI (te j)))), (g7, .inl (ax 2, 20, .inl (fun j => nI (kp j)))), (g8, .inl (ax 0, 20, .inl tm)), (g9, .inl (ax 1, 20, .inl (fun j => nI (nm j)))), (ga, .inl (ax 1, 29, .inl (fun j => nI (ck j)))), (gb, .inl (ax 1, 29, .inl (fun j => nI (co j)))), (h0, .inr (4, [.ref h1, .ref h2, .ref h3, .int (nI zs)])), (h1, .inl (ax 1, cs, .inl so)), (h2, .inl (ax 0, cs, .inl sl)), (h3, .inl (ax 0, cs, .inl sr)), (b0, .inr (4, [.ref b1, .ref b2, .ref b3, .int (nI zb)])), (b1, .inl (ax 1, cb, .inl bo)), (b2, .inl (ax 0, cb, .inl bl)), (b3, .inl (ax 0, cb, .inl bq)), (a0, .inr (4, [.ref a1, .ref a2, .ref a3, .int (nI za)])), (a1, .inl (ax 1, ca, .inl ao)), (a2, .inl (ax 0, ca, .inl al)), (a3, .inl (ax 0, ca, .inl ar)), (w0, .inr (5, [.ref (u 5), .int (nI (u 7))])), (u 5, .inl (ax 1, u 6, .inl xby)), (ot0, .inl (ax 4, 1, .inr (.inl xov)))]) (ixn [(u_1 0), (u_1 1), (u_1 2), (u_1 3), (u_1 4), (u_1 5), (u_1 6), (u_1 7)]) x_11 x_12 x_13 x_14 x_15 x_16 x_17 x_18 (vp_updL ov 0 z_25)) hP hD [1, 2, 3, 4, 5, 6, 7, 8, 9, 10, 11, 12, 13, 14, 15, 16, 17, 18, 19, 20, 21, 22, 23, 24, 25, 26, 27, 28, 29, 30, 31, 32, 33, 0] (by decide) rfl
  have hex0 : bts x_15 ((u_1 4)) := (by assumption)
  have hex1 : ∀ j, j ≤ 10 → trm (x_11 j) := (by assumption)
  have hex2 : fmk x_12 ((u_1 3)) x_15 x_16 x_17 := (by assumption)
  have hex3 : bts x_18 ((u_1 6)) := (by assumption)
  have hex4 : fqm8 x_12 ((u_1 3)) x_15 x_16 x_17 gpr gpo gpl := (by assumption)
  have hex5 : nbl 9999999 (cth (aLL gpr gpo gpl) k1).2.2 ∧ lsi x_18 ((u_1 7)) = ftx (cth (aLL gpr gpo gpl) k1).2.2 ((cth (aLL gpr gpo gpl) k1).2.2.length - 1) := (by assumption)
  have hex6 : (vp_updL ov 0 z_25) 0 = (nI ((u_1 7))).toInt64 := ((if_pos rfl).trans ez_25)
  have hg8 : H_26.size ≤ s.heap.size + ((u_1 4) - cp + ((u_1 6) - cw) / 8 + 1) := by omega
  have hg9 : tsl H_26 ≤ tsl s.heap + (6 * ((u_1 4) - cp) + 2 * ((u_1 6) - cw) + 6) := by omega
  have hsp0 : (u_1 3) ≤ (u_1 4) := (by first | assumption | omega)
  have hsp1 : cp ≤ (u_1 4) := (by first | assumption | omega)
  have hsp2 : (u_1 4) ≤ 65536 := (by first | assumption | omega)
  have hsp3 : (u_1 7) ≤ (u_1 6) := (by first | assumption | omega)
  have hsp4 : cw ≤ (u_1 6) := (by first | assumption | omega)
  have hsp5 : (u_1 6) ≤ 819300 := (by first | assumption | omega)
  have hsp6 : dbl cp ((u_1 4)) := (by assumption)
  exact W.iret (v := 0) hx hb hr (fun t ht hW => ⟨⟨0, ixn [(u_1 0), (u_1 1), (u_1 2), (u_1 3), (u_1 4), (u_1 5), (u_1 6), (u_1 7)], rfl, ⟨rfl, ⟨hsp0, hsp1, hsp2, hsp3, hsp4, hsp5, hsp6⟩⟩, ⟨x_11, x_12, x_13, x_14, x_15, x_16, x_17, x_18, (vp_updL ov 0 z_25), by rw [ht]; exact hg8, by rw [ht]; exact hg9, hex0, hex1, hex2, hex3, hex4, hex5, hex6, by rw [ht]; exact hP9, hD9⟩⟩, hS.F ht⟩) hS.2.2 d_law_say_19
abbrev b_law_out : ByteArray := method_9_code
def y_law_out : MethodName := ⟨R_law, "out", "(LTripleDesk;I[J)I"⟩
theorem d_law_out_0 : decode b_law_out 0 = .ok (.aload_n 2, 1) := by decide +kernel
theorem d_law_out_1 : decode b_law_out 1 = .ok (.iconst 0, 1) := by decide +kernel
theorem d_law_out_2 : decode b_law_out 2 = .ok (.aload_n 0, 1) := by decide +kernel
theorem d_law_out_3 : decode b_law_out 3 = .ok (.iload_n 1, 1) := by decide +kernel
theorem d_law_out_4 : decode b_law_out 4 = .ok (.invokevirtual 35, 3) := by decide +kernel
theorem d_law_out_7 : decode b_law_out 7 = .ok (.i2l, 1) := by decide +kernel
theorem d_law_out_8 : decode b_law_out 8 = .ok (.lastore, 1) := by decide +kernel
theorem d_law_out_9 : decode b_law_out 9 = .ok (.goto 6, 3) := by decide +kernel
theorem d_law_out_12 : decode b_law_out 12 = .ok (.astore_n 3, 1) := by decide +kernel
theorem d_law_out_13 : decode b_law_out 13 = .ok (.iconst 1, 1) := by decide +kernel
theorem d_law_out_14 : decode b_law_out 14 = .ok (.ireturn, 1) := by decide +kernel
theorem d_law_out_15 : decode b_law_out 15 = .ok (.iconst 0, 1) := by decide +kernel
theorem d_law_out_16 : decode b_law_out 16 = .ok (.ireturn, 1) := by decide +kernel
set_option maxHeartbeats 40000000 in
set_option maxRecDepth 100000 in
theorem c_law_out (l : Launch) (hl : l.stackTraces = false) (D : va_G) (ax : Nat → ClassId) (d0 k0 r0 c0 p0 fd0 w0 e0 b0 a0 y0 g0 i0 ld w1 zw cw : Nat) (by9 : Nat → Int32) (ot0 : Nat) (x1 : Int32) (ov : Nat → Int64) (sz tz : Nat) (hzw : zw ≤ cw) (hcw2 : cw ≤ 819300) : xt_Met l y_law_out (xws (.codeWith y_law_out b_law_out 4 (some .int) [(0, 9, 12, 19)])) ({ frames := 60, cells := 1, slots := 6, locals := 2400 }) (va_Pc [.ref d0, .int x1, .ref ot0] (xo5 D ax [(d0, .inr (10, [.ref k0, .ref r0, .ref c0, .ref p0, .ref fd0, .ref w0, .ref e0, .ref b0, .ref a0, .ref y0, .ref g0, .ref i0, .int (nI ld)])), (w0, .inr (5, [.ref w1, .int (nI zw)])), (w1, .inl (ax 1, cw, .inl by9)), (ot0, .inl (ax 4, 1, .inr (.inl ov)))] sz tz)) ((va_Qi (fun (r : Int32) (u : Nat → Nat) => r = nI (u 30)) (fun (u : Nat → Nat) (t9 : State) => ∃ xov : Nat → Int64, (t9.heap.size ≤ sz + (1)) ∧ (tsl t9.heap ≤ tz + (6)) ∧ (True) ∧ va_P D classes [(d0, .inr (10, [.ref k0, .ref r0, .ref c0, .ref p0, .ref fd0, .ref w0, .ref e0, .ref b0, .ref a0, .ref y0, .ref g0, .ref i0, .int (nI ld)])), (w0, .inr (5, [.ref w1, .int (nI zw)])), (w1, .inl (ax 1, cw, .inl by9)), (ot0, .inl (ax 4, 1, .inr (.inl xov)))] t9.heap ∧ va_D (va_A [(d0, .inr (10, [.ref k0, .ref r0, .ref c0, .ref p0, .ref fd0, .ref w0, .ref e0, .ref b0, .ref a0, .ref y0, .ref g0, .ref i0, .int (nI ld)])), (w0, .inr (5, [.ref w1, .int (nI zw)])), (w1, .inl (ax 1, cw, .inl by9)), (ot0, .inl (ax 4, 1, .inr (.inl ov)))] sz) [(d0, .inr (10, [.ref k0, .ref r0, .ref c0, .ref p0, .ref fd0, .ref w0, .ref e0, .ref b0, .ref a0, .ref y0, .ref g0, .ref i0, .int (nI ld)])), (w0, .inr (5, [.ref w1, .int (nI zw)])), (w1, .inl (ax 1, cw, .inl by9)), (ot0, .inl (ax 4, 1, .inr (.inl xov)))]) (va_A [(d0, .inr (10, [.ref k0, .ref r0, .ref c0, .ref p0, .ref fd0, .ref w0, .ref e0, .ref b0, .ref a0, .ref y0, .ref g0, .ref i0, .int (nI ld)])), (w0, .inr (5, [.ref w1, .int (nI zw)])), (w1, .inl (ax 1, cw, .inl by9)), (ot0, .inl (ax 4, 1, .inr (.inl ov)))] sz))) 1 6 (va_A [(d0, .inr (10, [.ref k0, .ref r0, .ref c0, .ref p0, .ref fd0, .ref w0, .ref e0, .ref b0, .ref a0, .ref y0, .ref g0, .ref i0, .int (nI ld)])), (w0, .inr (5, [.ref w1, .int (nI zw)])), (w1, .inl (ax 1, cw, .inl by9)), (ot0, .inl (ax 4, 1, .inr (.inl ov)))] sz) := by
  refine xt_Met.ofWith (cc := b_law_out) (maxL := 4) (ret := (some .int)) (hs := [(0, 9, 12, 19)]) (by decide) rfl ?_
  intro p e s m args below meth c s₁ B hml htab hv
  obtain ⟨rfl, ⟨⟨hsz, hP, hK, hD0⟩, htz⟩, hnc⟩ := hv
  have hx := B.exec
  have hb := B.bytes
  have hr := B.returns
  have hts := xw_hts B.pre
  have hown : s.vm.findClass R_law = some m.cls := findClass_of_methodNamed B.named
  have hlocks := B.notSynchronized
  subst hsz
  subst htz
  have hD := hD0.self (sz := s.heap.size)
  have hN := xz_entry hP
  generalize hAe : va_A [(d0, .inr (10, [.ref k0, .ref r0, .ref c0, .ref p0, .ref fd0, .ref w0, .ref e0, .ref b0, .ref a0, .ref y0, .ref g0, .ref i0, .int (nI ld)])), (w0, .inr (5, [.ref w1, .int (nI zw)])), (w1, .inl (ax 1, cw, .inl by9)), (ot0, .inl (ax 4, 1, .inr (.inl ov)))] s.heap.size = A at hD hN ⊢
  have hA : ∀ q : Nat, s.heap.size ≤ q → A q := fun q h => by rw [← hAe]; exact Or.inr h
  have hS : va_S A s.heap s.heap [] := va_S.rf
  have hl0 := lv_entry ([.ref d0, .int x1, .ref ot0]) (n := 4) (Nat.le_of_ble_eq_true rfl)
  rw [lg_entry_eq]
  generalize (lg_sl ([.ref d0, .int x1, .ref ot0]) ++ List.replicate (4 - (lg_sl ([.ref d0, .int x1, .ref ot0])).length) Slot.unset).toArray = ls at hl0 ⊢
  have hl1 : lv_has ls 4 [(0, .ref d0), (1, .int x1), (2, .ref ot0)] := hl0
  refine lv_aload_n hx hb d_law_out_0 rfl (lv_at hl1 2 rfl) ?_
  refine lv_iconst (v := 0) hx hb d_law_out_1 (by decide) ?_
  refine lv_aload_n hx hb d_law_out_2 rfl (lv_at hl1 0 rfl) ?_
  refine lv_iload_n hx hb d_law_out_3 rfl (lv_at hl1 1 rfl) ?_
  rcases Classical.em (∃ j : Nat, j < zw ∧ x1 = nI j) with ⟨k1, hk1, ej1⟩ | hno
  · subst ej1
    obtain ⟨hPc, hDc, hFc, hCs⟩ := xw_sub3 (wc := [(d0, .inr (10, [.ref k0, .ref r0, .ref c0, .ref p0, .ref fd0, .ref w0, .ref e0, .ref b0, .ref a0, .ref y0, .ref g0, .ref i0, .int (nI ld)])), (w0, .inr (5, [.ref w1, .int (nI zw)])), (w1, .inl (ax 1, cw, .inl by9))]) hP hD hS hA [0, 1, 2] (by decide) rfl
    have hz := xz_of hN hS
    refine va_calli (va_runV (As := [.int (nI k1)]) (rest := [.int 0, .ref ot0]) ⟨hx, hb, hml, hown, hts⟩ (c_D_out_ok l D ax d0 k0 r0 c0 p0 fd0 w0 e0 b0 a0 y0 g0 i0 ld w1 zw cw by9 k1 s.heap.size hzw hcw2 hk1) (xcV (n := 1) hts wd_954 wd_1 wd_951 wd_952 wd_953 rfl rfl (by decide +kernel) ⟨Nat.le_of_ble_eq_true rfl, Nat.le_of_ble_eq_true rfl⟩) (xpV (ci := 10) (q0 := 0) (As := [.int (nI k1)]) hPc hK hz hDc rfl rfl) rfl rfl hl1.1 rfl (lv_room (Nat.le_of_ble_eq_true rfl)) d_law_out_4 ⟨Nat.le_of_ble_eq_true rfl, Nat.le_of_ble_eq_true rfl⟩) hS (fun q _ h => hFc q h) hFc (fun r_3 u_1 t H_2 locs ht hvm hw hB hz1 hk1 hS1 => ?_)
    try dsimp only at hw
    subst hw
    obtain ⟨hP1, hD1⟩ := hB
    rw [ht] at hP1
    have hjn := xw_join3 (wl := [(ot0, .inl (ax 4, 1, .inr (.inl ov))), (d0, .inr (10, [.ref k0, .ref r0, .ref c0, .ref p0, .ref fd0, .ref w0, .ref e0, .ref b0, .ref a0, .ref y0, .ref g0, .ref i0, .int (nI ld)])), (w0, .inr (5, [.ref w1, .int (nI zw)])), (w1, .inl (ax 1, cw, .inl by9))]) hP hD [0, 1, 2] [3] hCs (by decide) (by decide) hk1 hFc hP1 hD1 rfl
    clear hP1 hD1
    clear hPc hDc hFc hCs hz hz1 hk1 ht hvm
    clear hP hD hS
    have hS := hS1
    obtain ⟨hP, hD⟩ := hjn
    clear hS1
    refine lv_i2l hx hb d_law_out_7 rfl ?_
    refine lv_topl (fun z_4 ez_4 => ?_)
    refine va_last hx hb hK.1 hP hD hS 0 4 rfl rfl (by unfold vp_in; decide) d_law_out_8 (fun H_5 locs hP1 hD1 hS1 => ?_)
    clear hP hD hS
    have hS := hS1
    have hW7 : (fun w9 : va_W => va_P D classes w9 H_5 ∧ va_D A w9) [(ot0, .inl (ax 4, 1, .inr (.inl (vp_updL ov 0 z_4)))), (d0, .inr (10, [.ref k0, .ref r0, .ref c0, .ref p0, .ref fd0, .ref w0, .ref e0, .ref b0, .ref a0, .ref y0, .ref g0, .ref i0, .int (nI ld)])), (w0, .inr (5, [.ref w1, .int (nI zw)])), (w1, .inl (ax 1, cw, .inl by9))] := ⟨hP1, hD1⟩
    obtain ⟨hP, hD⟩ := hW7
    clear hP1 hD1 hS1
    refine lv_goto (tgt := 15) hx hb d_law_out_9 (by decide) ?_
    refine lv_iconst (v := 0) hx hb d_law_out_15 (by decide) ?_
    refine xt_weak (fun t h => xt_ofMQ h) ?_
    refine wk_know (fun hk8 hk9 => ?_)
    refine W.widen (k := 1) (n := 6) (Nat.le_of_ble_eq_true rfl) (Nat.le_of_ble_eq_true rfl) ?_
    obtain ⟨hP9, hD9⟩ := xw_sub2 (wc := (fun (u : Nat → Nat) (xov : Nat → Int64) => [(d0, .inr (10, [.ref k0, .ref r0, .ref c0, .ref p0, .ref fd0, .ref w0, .ref e0, .ref b0, .ref a0, .ref y0, .ref g0, .ref i0, .int (nI ld)])), (w0, .inr (5, [.ref w1, .int (nI zw)])), (w1, .inl (ax 1, cw, .inl by9)), (ot0, .inl (ax 4, 1, .inr (.inl xov)))]) (ixn [0, 0, 0, 0, 0, 0, 0, 0, 0, 0, 0, 0, 0, 0, 0, 0, 0, 0, 0, 0, 0, 0, 0, 0, 0, 0, 0, 0, 0, 0, 0]) (vp_updL ov 0 z_4)) hP hD [1, 2, 3, 0] (by decide) rfl
    have hex0 : True := trivial
    have hg8 : H_5.size ≤ s.heap.size + (1) := by omega
    have hg9 : tsl H_5 ≤ tsl s.heap + (6) := by omega
    exact W.iret (v := 0) hx hb hr (fun t ht hW => ⟨⟨0, ixn [0, 0, 0, 0, 0, 0, 0, 0, 0, 0, 0, 0, 0, 0, 0, 0, 0, 0, 0, 0, 0, 0, 0, 0, 0, 0, 0, 0, 0, 0, 0], rfl, rfl, ⟨(vp_updL ov 0 z_4), by rw [ht]; exact hg8, by rw [ht]; exact hg9, hex0, by rw [ht]; exact hP9, hD9⟩⟩, hS.F ht⟩) hS.2.2 d_law_out_16
  · have hno2 : ∀ j : Nat, j < zw → x1 ≠ nI j := fun j h e => hno ⟨j, h, e⟩
    obtain ⟨hPc, hDc, hFc, hCs⟩ := xw_sub3 (wc := [(d0, .inr (10, [.ref k0, .ref r0, .ref c0, .ref p0, .ref fd0, .ref w0, .ref e0, .ref b0, .ref a0, .ref y0, .ref g0, .ref i0, .int (nI ld)])), (w0, .inr (5, [.ref w1, .int (nI zw)])), (w1, .inl (ax 1, cw, .inl by9))]) hP hD hS hA [0, 1, 2] (by decide) rfl
    have hz := xz_of hN hS
    refine wk_know (fun hk8 hk9 => ?_)
    refine xt_catchU (xt_runV (As := [.int x1]) (rest := [.int 0, .ref ot0]) ⟨hx, hb, hml, hown, hts⟩ (c_D_out_no l hl D ax d0 k0 r0 c0 p0 fd0 w0 e0 b0 a0 y0 g0 i0 ld w1 zw cw by9 x1 s.heap.size (tsl s.heap) (by first | assumption | omega) hno2) (xcV (n := 1) hts wd_954 wd_1 wd_951 wd_952 wd_953 rfl rfl (by decide +kernel) ⟨Nat.le_of_ble_eq_true rfl, Nat.le_of_ble_eq_true rfl⟩) (xpV3 (ci := 10) (q0 := 0) (As := [.int x1]) hPc hK hz hDc rfl rfl) rfl rfl hl1.1 rfl (lv_room (Nat.le_of_ble_eq_true rfl)) d_law_out_4 ⟨Nat.le_of_ble_eq_true rfl, Nat.le_of_ble_eq_true rfl⟩) (fun hrt H_6 locs9 r9 hB hz1 hk1 hL => ?_) (fun cls9 hc9 => ?_)
    · exact hrt.elim
    · simp only [List.mem_cons, List.not_mem_nil, or_false] at hc9
      subst hc9
      refine ⟨12, xt_K1 (own := R_law) (ent := ⟨0, 9, 12, 19⟩) (restT := []) htab (by decide) (by decide) hown (hts _ wd_732), fun xq H_7 locs9 hB hz1 hk1 hL => ?_⟩
      obtain ⟨u_8, hg8, hg9, hP1, hD1⟩ := hB
      have hjn := xw_join3 (wl := [(ot0, .inl (ax 4, 1, .inr (.inl ov))), (d0, .inr (10, [.ref k0, .ref r0, .ref c0, .ref p0, .ref fd0, .ref w0, .ref e0, .ref b0, .ref a0, .ref y0, .ref g0, .ref i0, .int (nI ld)])), (w0, .inr (5, [.ref w1, .int (nI zw)])), (w1, .inl (ax 1, cw, .inl by9))]) hP hD [0, 1, 2] [3] hCs (by decide) (by decide) hk1 hFc hP1 hD1 rfl
      have hS1 := xs_catchA hS hz1 hk1 (fun q h => hFc q h) (fun q hq => hFc _ (hL q hq))
      clear hP1 hD1 hz1 hk1 hL
      clear hPc hDc hFc hCs hz
      clear hP hD hS
      have hS := hS1
      obtain ⟨hP, hD⟩ := hjn
      clear hS1
      refine wk_narrow (k := 1) (n := 6) (by first | assumption | omega) (by first | assumption | omega) ?_
      clear hk8 hk9 hg8 hg9
      refine lv_astore_n (lv' := [(3, .ref xq), (0, .ref d0), (1, .int x1), (2, .ref ot0)]) hx hb d_law_out_12 rfl hl1 (by decide) rfl (fun ls hl2 => ?_)
      clear hl1; have hl1 := hl2; clear hl2
      refine lv_iconst (v := 1) hx hb d_law_out_13 (by decide) ?_
      refine xt_weak (fun t h => xt_ofMQ h) ?_
      refine wk_know (fun hk8 hk9 => ?_)
      refine W.widen (k := 1) (n := 6) (Nat.le_of_ble_eq_true rfl) (Nat.le_of_ble_eq_true rfl) ?_
      obtain ⟨hP9, hD9⟩ := xw_sub2 (wc := (fun (u : Nat → Nat) (xov : Nat → Int64) => [(d0, .inr (10, [.ref k0, .ref r0, .ref c0, .ref p0, .ref fd0, .ref w0, .ref e0, .ref b0, .ref a0, .ref y0, .ref g0, .ref i0, .int (nI ld)])), (w0, .inr (5, [.ref w1, .int (nI zw)])), (w1, .inl (ax 1, cw, .inl by9)), (ot0, .inl (ax 4, 1, .inr (.inl xov)))]) (ixn [0, 0, 0, 0, 0, 0, 0, 0, 0, 0, 0, 0, 0, 0, 0, 0, 0, 0, 0, 0, 0, 0, 0, 0, 0, 0, 0, 0, 0, 0, 1]) ov) hP hD [1, 2, 3, 0] (by decide) rfl
      have hex0 : True := trivial
      have hg8 : H_7.size ≤ s.heap.size + (1) := by omega
      have hg9 : tsl H_7 ≤ tsl s.heap + (6) := by omega
      exact W.iret (v := 1) hx hb hr (fun t ht hW => ⟨⟨1, ixn [0, 0, 0, 0, 0, 0, 0, 0, 0, 0, 0, 0, 0, 0, 0, 0, 0, 0, 0, 0, 0, 0, 0, 0, 0, 0, 0, 0, 0, 0, 1], rfl, rfl, ⟨ov, by rw [ht]; exact hg8, by rw [ht]; exact hg9, hex0, by rw [ht]; exact hP9, hD9⟩⟩, hS.F ht⟩) hS.2.2 d_law_out_14
abbrev b_law_start : ByteArray := method_10_code
def y_law_start : MethodName := ⟨R_law, "start", "(LTripleDesk;II)I"⟩
theorem d_law_start_0 : decode b_law_start 0 = .ok (.aload_n 0, 1) := by decide +kernel
theorem d_law_start_1 : decode b_law_start 1 = .ok (.iload_n 1, 1) := by decide +kernel
theorem d_law_start_2 : decode b_law_start 2 = .ok (.iload_n 2, 1) := by decide +kernel
theorem d_law_start_3 : decode b_law_start 3 = .ok (.invokevirtual 38, 3) := by decide +kernel
theorem d_law_start_6 : decode b_law_start 6 = .ok (.goto 6, 3) := by decide +kernel
theorem d_law_start_9 : decode b_law_start 9 = .ok (.astore_n 3, 1) := by decide +kernel
theorem d_law_start_10 : decode b_law_start 10 = .ok (.iconst 1, 1) := by decide +kernel
theorem d_law_start_11 : decode b_law_start 11 = .ok (.ireturn, 1) := by decide +kernel
theorem d_law_start_12 : decode b_law_start 12 = .ok (.iconst 0, 1) := by decide +kernel
theorem d_law_start_13 : decode b_law_start 13 = .ok (.ireturn, 1) := by decide +kernel
set_option maxHeartbeats 40000000 in
set_option maxRecDepth 100000 in
theorem c_law_start_ok (l : Launch) (hl : l.stackTraces = false) (D : va_G) (ax : Nat → ClassId) (d0 k0 r0 c0 p0 fd0 w0 e0 b0 a0 y0 g0 i0 ld e1 : Nat) (vs : Nat → Int64) (k1 : Nat) (x2 : Int32) (sz tz : Nat) (hk1 : k1 < 6) : xt_Met l y_law_start (xws (.codeWith y_law_start b_law_start 4 (some .int) [(0, 6, 9, 19)])) ({ frames := 60, cells := 1, slots := 6, locals := 2400 }) (va_Pc [.ref d0, .int (nI k1), .int x2] (xo5 D ax [(d0, .inr (10, [.ref k0, .ref r0, .ref c0, .ref p0, .ref fd0, .ref w0, .ref e0, .ref b0, .ref a0, .ref y0, .ref g0, .ref i0, .int (nI ld)])), (e0, .inr (8, [.ref e1])), (e1, .inl (ax 4, 6, .inr (.inl vs)))] sz tz)) ((va_Qi (fun (r : Int32) (u : Nat → Nat) => r = 0) (fun (u : Nat → Nat) (t9 : State) => ∃ xvs : Nat → Int64, (t9.heap.size ≤ sz + (1)) ∧ (tsl t9.heap ≤ tz + (6)) ∧ (True) ∧ va_P D classes [(d0, .inr (10, [.ref k0, .ref r0, .ref c0, .ref p0, .ref fd0, .ref w0, .ref e0, .ref b0, .ref a0, .ref y0, .ref g0, .ref i0, .int (nI ld)])), (e0, .inr (8, [.ref e1])), (e1, .inl (ax 4, 6, .inr (.inl xvs)))] t9.heap ∧ va_D (va_A [(d0, .inr (10, [.ref k0, .ref r0, .ref c0, .ref p0, .ref fd0, .ref w0, .ref e0, .ref b0, .ref a0, .ref y0, .ref g0, .ref i0, .int (nI ld)])), (e0, .inr (8, [.ref e1])), (e1, .inl (ax 4, 6, .inr (.inl vs)))] sz) [(d0, .inr (10, [.ref k0, .ref r0, .ref c0, .ref p0, .ref fd0, .ref w0, .ref e0, .ref b0, .ref a0, .ref y0, .ref g0, .ref i0, .int (nI ld)])), (e0, .inr (8, [.ref e1])), (e1, .inl (ax 4, 6, .inr (.inl xvs)))]) (va_A [(d0, .inr (10, [.ref k0, .ref r0, .ref c0, .ref p0, .ref fd0, .ref w0, .ref e0, .ref b0, .ref a0, .ref y0, .ref g0, .ref i0, .int (nI ld)])), (e0, .inr (8, [.ref e1])), (e1, .inl (ax 4, 6, .inr (.inl vs)))] sz))) 1 6 (va_A [(d0, .inr (10, [.ref k0, .ref r0, .ref c0, .ref p0, .ref fd0, .ref w0, .ref e0, .ref b0, .ref a0, .ref y0, .ref g0, .ref i0, .int (nI ld)])), (e0, .inr (8, [.ref e1])), (e1, .inl (ax 4, 6, .inr (.inl vs)))] sz) := by
  refine xt_Met.ofWith (cc := b_law_start) (maxL := 4) (ret := (some .int)) (hs := [(0, 6, 9, 19)]) (by decide) rfl ?_
  intro p e s m args below meth c s₁ B hml htab hv
  obtain ⟨rfl, ⟨⟨hsz, hP, hK, hD0⟩, htz⟩, hnc⟩ := hv
  have hx := B.exec
  have hb := B.bytes
  have hr := B.returns
  have hts := xw_hts B.pre
  have hown : s.vm.findClass R_law = some m.cls := findClass_of_methodNamed B.named
  have hlocks := B.notSynchronized
  subst hsz
  subst htz
  have hD := hD0.self (sz := s.heap.size)
  have hN := xz_entry hP
  generalize hAe : va_A [(d0, .inr (10, [.ref k0, .ref r0, .ref c0, .ref p0, .ref fd0, .ref w0, .ref e0, .ref b0, .ref a0, .ref y0, .ref g0, .ref i0, .int (nI ld)])), (e0, .inr (8, [.ref e1])), (e1, .inl (ax 4, 6, .inr (.inl vs)))] s.heap.size = A at hD hN ⊢
  have hA : ∀ q : Nat, s.heap.size ≤ q → A q := fun q h => by rw [← hAe]; exact Or.inr h
  have hS : va_S A s.heap s.heap [] := va_S.rf
  have hl0 := lv_entry ([.ref d0, .int (nI k1), .int x2]) (n := 4) (Nat.le_of_ble_eq_true rfl)
  rw [lg_entry_eq]
  generalize (lg_sl ([.ref d0, .int (nI k1), .int x2]) ++ List.replicate (4 - (lg_sl ([.ref d0, .int (nI k1), .int x2])).length) Slot.unset).toArray = ls at hl0 ⊢
  have hl1 : lv_has ls 4 [(0, .ref d0), (1, .int (nI k1)), (2, .int x2)] := hl0
  refine lv_aload_n hx hb d_law_start_0 rfl (lv_at hl1 0 rfl) ?_
  refine lv_iload_n hx hb d_law_start_1 rfl (lv_at hl1 1 rfl) ?_
  refine lv_iload_n hx hb d_law_start_2 rfl (lv_at hl1 2 rfl) ?_
  obtain ⟨hPc, hDc, hFc, hCs⟩ := xw_sub3 (wc := [(d0, .inr (10, [.ref k0, .ref r0, .ref c0, .ref p0, .ref fd0, .ref w0, .ref e0, .ref b0, .ref a0, .ref y0, .ref g0, .ref i0, .int (nI ld)])), (e0, .inr (8, [.ref e1])), (e1, .inl (ax 4, 6, .inr (.inl vs)))]) hP hD hS hA [0, 1, 2] (by decide) rfl
  have hz := xz_of hN hS
  refine va_callv (va_runV (As := [.int (nI k1), .int x2]) (rest := []) ⟨hx, hb, hml, hown, hts⟩ (c_D_start_ok l D ax d0 k0 r0 c0 p0 fd0 w0 e0 b0 a0 y0 g0 i0 ld e1 vs k1 x2 s.heap.size hk1) (xcV (n := 2) hts wd_961 wd_1 wd_958 wd_959 wd_960 rfl rfl (by decide +kernel) ⟨Nat.le_of_ble_eq_true rfl, Nat.le_of_ble_eq_true rfl⟩) (xpV (ci := 10) (q0 := 0) (As := [.int (nI k1), .int x2]) hPc hK hz hDc rfl rfl) rfl rfl hl1.1 rfl (lv_room (Nat.le_of_ble_eq_true rfl)) d_law_start_3 ⟨Nat.le_of_ble_eq_true rfl, Nat.le_of_ble_eq_true rfl⟩) hS (fun q _ h => hFc q h) hFc (fun u_1 t H_2 locs ht hvm hw hB hz1 hk1 hS1 => ?_)
  try dsimp only at hw
  obtain ⟨x_4, hx_5, hP1, hD1⟩ := hB
  rw [ht] at hP1
  have hjn := xw_join3 (wl := [(d0, .inr (10, [.ref k0, .ref r0, .ref c0, .ref p0, .ref fd0, .ref w0, .ref e0, .ref b0, .ref a0, .ref y0, .ref g0, .ref i0, .int (nI ld)])), (e0, .inr (8, [.ref e1])), (e1, .inl (ax 4, 6, .inr (.inl x_4)))]) hP hD [0, 1, 2] [] hCs (by decide) (by decide) hk1 hFc hP1 hD1 rfl
  clear hP1 hD1
  clear hPc hDc hFc hCs hz hz1 hk1 ht hvm
  clear hP hD hS
  have hS := hS1
  obtain ⟨hP, hD⟩ := hjn
  clear hS1
  refine lv_goto (tgt := 12) hx hb d_law_start_6 (by decide) ?_
  refine lv_iconst (v := 0) hx hb d_law_start_12 (by decide) ?_
  refine xt_weak (fun t h => xt_ofMQ h) ?_
  refine wk_know (fun hk8 hk9 => ?_)
  refine W.widen (k := 1) (n := 6) (Nat.le_of_ble_eq_true rfl) (Nat.le_of_ble_eq_true rfl) ?_
  obtain ⟨hP9, hD9⟩ := xw_sub2 (wc := (fun (u : Nat → Nat) (xvs : Nat → Int64) => [(d0, .inr (10, [.ref k0, .ref r0, .ref c0, .ref p0, .ref fd0, .ref w0, .ref e0, .ref b0, .ref a0, .ref y0, .ref g0, .ref i0, .int (nI ld)])), (e0, .inr (8, [.ref e1])), (e1, .inl (ax 4, 6, .inr (.inl xvs)))]) (ixn []) x_4) hP hD [0, 1, 2] (by decide) rfl
  have hex0 : True := trivial
  have hg8 : H_2.size ≤ s.heap.size + (1) := by omega
  have hg9 : tsl H_2 ≤ tsl s.heap + (6) := by omega
  exact W.iret (v := 0) hx hb hr (fun t ht hW => ⟨⟨0, ixn [], rfl, rfl, ⟨x_4, by rw [ht]; exact hg8, by rw [ht]; exact hg9, hex0, by rw [ht]; exact hP9, hD9⟩⟩, hS.F ht⟩) hS.2.2 d_law_start_13
set_option maxHeartbeats 40000000 in
set_option maxRecDepth 100000 in
theorem c_law_start_no (l : Launch) (hl : l.stackTraces = false) (D : va_G) (ax : Nat → ClassId) (d0 k0 r0 c0 p0 fd0 w0 e0 b0 a0 y0 g0 i0 ld e1 : Nat) (vs : Nat → Int64) (x1 x2 : Int32) (sz tz : Nat) (hno : ∀ j : Nat, j < 6 → x1 ≠ nI j) : xt_Met l y_law_start (xws (.codeWith y_law_start b_law_start 4 (some .int) [(0, 6, 9, 19)])) ({ frames := 60, cells := 1, slots := 6, locals := 2400 }) (va_Pc [.ref d0, .int x1, .int x2] (xo5 D ax [(d0, .inr (10, [.ref k0, .ref r0, .ref c0, .ref p0, .ref fd0, .ref w0, .ref e0, .ref b0, .ref a0, .ref y0, .ref g0, .ref i0, .int (nI ld)])), (e0, .inr (8, [.ref e1])), (e1, .inl (ax 4, 6, .inr (.inl vs)))] sz tz)) ((va_Qi (fun (r : Int32) (u : Nat → Nat) => r = 1) (fun (u : Nat → Nat) (t9 : State) => (t9.heap.size ≤ sz + (1)) ∧ (tsl t9.heap ≤ tz + (6)) ∧ (True) ∧ va_P D classes [(d0, .inr (10, [.ref k0, .ref r0, .ref c0, .ref p0, .ref fd0, .ref w0, .ref e0, .ref b0, .ref a0, .ref y0, .ref g0, .ref i0, .int (nI ld)])), (e0, .inr (8, [.ref e1])), (e1, .inl (ax 4, 6, .inr (.inl vs)))] t9.heap ∧ va_D (va_A [(d0, .inr (10, [.ref k0, .ref r0, .ref c0, .ref p0, .ref fd0, .ref w0, .ref e0, .ref b0, .ref a0, .ref y0, .ref g0, .ref i0, .int (nI ld)])), (e0, .inr (8, [.ref e1])), (e1, .inl (ax 4, 6, .inr (.inl vs)))] sz) [(d0, .inr (10, [.ref k0, .ref r0, .ref c0, .ref p0, .ref fd0, .ref w0, .ref e0, .ref b0, .ref a0, .ref y0, .ref g0, .ref i0, .int (nI ld)])), (e0, .inr (8, [.ref e1])), (e1, .inl (ax 4, 6, .inr (.inl vs)))]) (va_A [(d0, .inr (10, [.ref k0, .ref r0, .ref c0, .ref p0, .ref fd0, .ref w0, .ref e0, .ref b0, .ref a0, .ref y0, .ref g0, .ref i0, .int (nI ld)])), (e0, .inr (8, [.ref e1])), (e1, .inl (ax 4, 6, .inr (.inl vs)))] sz))) 1 6 (va_A [(d0, .inr (10, [.ref k0, .ref r0, .ref c0, .ref p0, .ref fd0, .ref w0, .ref e0, .ref b0, .ref a0, .ref y0, .ref g0, .ref i0, .int (nI ld)])), (e0, .inr (8, [.ref e1])), (e1, .inl (ax 4, 6, .inr (.inl vs)))] sz) := by
  refine xt_Met.ofWith (cc := b_law_start) (maxL := 4) (ret := (some .int)) (hs := [(0, 6, 9, 19)]) (by decide) rfl ?_
  intro p e s m args below meth c s₁ B hml htab hv
  obtain ⟨rfl, ⟨⟨hsz, hP, hK, hD0⟩, htz⟩, hnc⟩ := hv
  have hx := B.exec
  have hb := B.bytes
  have hr := B.returns
  have hts := xw_hts B.pre
  have hown : s.vm.findClass R_law = some m.cls := findClass_of_methodNamed B.named
  have hlocks := B.notSynchronized
  subst hsz
  subst htz
  have hD := hD0.self (sz := s.heap.size)
  have hN := xz_entry hP
  generalize hAe : va_A [(d0, .inr (10, [.ref k0, .ref r0, .ref c0, .ref p0, .ref fd0, .ref w0, .ref e0, .ref b0, .ref a0, .ref y0, .ref g0, .ref i0, .int (nI ld)])), (e0, .inr (8, [.ref e1])), (e1, .inl (ax 4, 6, .inr (.inl vs)))] s.heap.size = A at hD hN ⊢
  have hA : ∀ q : Nat, s.heap.size ≤ q → A q := fun q h => by rw [← hAe]; exact Or.inr h
  have hS : va_S A s.heap s.heap [] := va_S.rf
  have hl0 := lv_entry ([.ref d0, .int x1, .int x2]) (n := 4) (Nat.le_of_ble_eq_true rfl)
  rw [lg_entry_eq]
  generalize (lg_sl ([.ref d0, .int x1, .int x2]) ++ List.replicate (4 - (lg_sl ([.ref d0, .int x1, .int x2])).length) Slot.unset).toArray = ls at hl0 ⊢
  have hl1 : lv_has ls 4 [(0, .ref d0), (1, .int x1), (2, .int x2)] := hl0
  refine lv_aload_n hx hb d_law_start_0 rfl (lv_at hl1 0 rfl) ?_
  refine lv_iload_n hx hb d_law_start_1 rfl (lv_at hl1 1 rfl) ?_
  refine lv_iload_n hx hb d_law_start_2 rfl (lv_at hl1 2 rfl) ?_
  obtain ⟨hPc, hDc, hFc, hCs⟩ := xw_sub3 (wc := [(d0, .inr (10, [.ref k0, .ref r0, .ref c0, .ref p0, .ref fd0, .ref w0, .ref e0, .ref b0, .ref a0, .ref y0, .ref g0, .ref i0, .int (nI ld)]))]) hP hD hS hA [0] (by decide) rfl
  have hz := xz_of hN hS
  refine wk_know (fun hk8 hk9 => ?_)
  refine xt_catchU (xt_runV (As := [.int x1, .int x2]) (rest := []) ⟨hx, hb, hml, hown, hts⟩ (c_D_start_no l hl D ax d0 k0 r0 c0 p0 fd0 w0 e0 b0 a0 y0 g0 i0 ld x1 x2 s.heap.size (tsl s.heap) hno) (xcV (n := 2) hts wd_961 wd_1 wd_958 wd_959 wd_960 rfl rfl (by decide +kernel) ⟨Nat.le_of_ble_eq_true rfl, Nat.le_of_ble_eq_true rfl⟩) (xpV3 (ci := 10) (q0 := 0) (As := [.int x1, .int x2]) hPc hK hz hDc rfl rfl) rfl rfl hl1.1 rfl (lv_room (Nat.le_of_ble_eq_true rfl)) d_law_start_3 ⟨Nat.le_of_ble_eq_true rfl, Nat.le_of_ble_eq_true rfl⟩) (fun hrt H_1 locs9 r9 hB hz1 hk1 hL => ?_) (fun cls9 hc9 => ?_)
  · exact hrt.elim
  · simp only [List.mem_cons, List.not_mem_nil, or_false] at hc9
    subst hc9
    refine ⟨9, xt_K1 (own := R_law) (ent := ⟨0, 6, 9, 19⟩) (restT := []) htab (by decide) (by decide) hown (hts _ wd_732), fun xq H_2 locs9 hB hz1 hk1 hL => ?_⟩
    obtain ⟨u_3, hg8, hg9, hP1, hD1⟩ := hB
    have hjn := xw_join3 (wl := [(e0, .inr (8, [.ref e1])), (e1, .inl (ax 4, 6, .inr (.inl vs))), (d0, .inr (10, [.ref k0, .ref r0, .ref c0, .ref p0, .ref fd0, .ref w0, .ref e0, .ref b0, .ref a0, .ref y0, .ref g0, .ref i0, .int (nI ld)]))]) hP hD [0] [1, 2] hCs (by decide) (by decide) hk1 hFc hP1 hD1 rfl
    have hS1 := xs_catchA hS hz1 hk1 (fun q h => hFc q h) (fun q hq => hFc _ (hL q hq))
    clear hP1 hD1 hz1 hk1 hL
    clear hPc hDc hFc hCs hz
    clear hP hD hS
    have hS := hS1
    obtain ⟨hP, hD⟩ := hjn
    clear hS1
    refine wk_narrow (k := 1) (n := 6) (by first | assumption | omega) (by first | assumption | omega) ?_
    clear hk8 hk9 hg8 hg9
    refine lv_astore_n (lv' := [(3, .ref xq), (0, .ref d0), (1, .int x1), (2, .int x2)]) hx hb d_law_start_9 rfl hl1 (by decide) rfl (fun ls hl2 => ?_)
    clear hl1; have hl1 := hl2; clear hl2
    refine lv_iconst (v := 1) hx hb d_law_start_10 (by decide) ?_
    refine xt_weak (fun t h => xt_ofMQ h) ?_
    refine wk_know (fun hk8 hk9 => ?_)
    refine W.widen (k := 1) (n := 6) (Nat.le_of_ble_eq_true rfl) (Nat.le_of_ble_eq_true rfl) ?_
    obtain ⟨hP9, hD9⟩ := xw_sub2 (wc := (fun (u : Nat → Nat)  => [(d0, .inr (10, [.ref k0, .ref r0, .ref c0, .ref p0, .ref fd0, .ref w0, .ref e0, .ref b0, .ref a0, .ref y0, .ref g0, .ref i0, .int (nI ld)])), (e0, .inr (8, [.ref e1])), (e1, .inl (ax 4, 6, .inr (.inl vs)))]) (ixn []) ) hP hD [2, 0, 1] (by decide) rfl
    have hex0 : True := trivial
    have hg8 : H_2.size ≤ s.heap.size + (1) := by omega
    have hg9 : tsl H_2 ≤ tsl s.heap + (6) := by omega
    exact W.iret (v := 1) hx hb hr (fun t ht hW => ⟨⟨1, ixn [], rfl, rfl, ⟨by rw [ht]; exact hg8, by rw [ht]; exact hg9, hex0, by rw [ht]; exact hP9, hD9⟩⟩, hS.F ht⟩) hS.2.2 d_law_start_11
abbrev b_law_value : ByteArray := method_12_code
def y_law_value : MethodName := ⟨R_law, "value", "(LTripleDesk;I[J)I"⟩
theorem d_law_value_0 : decode b_law_value 0 = .ok (.aload_n 2, 1) := by decide +kernel
theorem d_law_value_1 : decode b_law_value 1 = .ok (.iconst 0, 1) := by decide +kernel
theorem d_law_value_2 : decode b_law_value 2 = .ok (.aload_n 0, 1) := by decide +kernel
theorem d_law_value_3 : decode b_law_value 3 = .ok (.iload_n 1, 1) := by decide +kernel
theorem d_law_value_4 : decode b_law_value 4 = .ok (.invokevirtual 47, 3) := by decide +kernel
theorem d_law_value_7 : decode b_law_value 7 = .ok (.lastore, 1) := by decide +kernel
theorem d_law_value_8 : decode b_law_value 8 = .ok (.goto 6, 3) := by decide +kernel
theorem d_law_value_11 : decode b_law_value 11 = .ok (.astore_n 3, 1) := by decide +kernel
theorem d_law_value_12 : decode b_law_value 12 = .ok (.iconst 1, 1) := by decide +kernel
theorem d_law_value_13 : decode b_law_value 13 = .ok (.ireturn, 1) := by decide +kernel
theorem d_law_value_14 : decode b_law_value 14 = .ok (.iconst 0, 1) := by decide +kernel
theorem d_law_value_15 : decode b_law_value 15 = .ok (.ireturn, 1) := by decide +kernel
set_option maxHeartbeats 40000000 in
set_option maxRecDepth 100000 in
theorem c_law_value (l : Launch) (hl : l.stackTraces = false) (D : va_G) (ax : Nat → ClassId) (d0 k0 r0 c0 p0 fd0 w0 e0 b0 a0 y0 g0 i0 ld e1 : Nat) (vs : Nat → Int64) (ot0 : Nat) (x1 : Int32) (ov : Nat → Int64) (sz tz : Nat) : xt_Met l y_law_value (xws (.codeWith y_law_value b_law_value 4 (some .int) [(0, 8, 11, 19)])) ({ frames := 60, cells := 1, slots := 6, locals := 2400 }) (va_Pc [.ref d0, .int x1, .ref ot0] (xo5 D ax [(d0, .inr (10, [.ref k0, .ref r0, .ref c0, .ref p0, .ref fd0, .ref w0, .ref e0, .ref b0, .ref a0, .ref y0, .ref g0, .ref i0, .int (nI ld)])), (e0, .inr (8, [.ref e1])), (e1, .inl (ax 4, 6, .inr (.inl vs))), (ot0, .inl (ax 4, 1, .inr (.inl ov)))] sz tz)) ((va_Qi (fun (r : Int32) (u : Nat → Nat) => r = nI (u 30)) (fun (u : Nat → Nat) (t9 : State) => ∃ xov : Nat → Int64, (t9.heap.size ≤ sz + (1)) ∧ (tsl t9.heap ≤ tz + (6)) ∧ (True) ∧ va_P D classes [(d0, .inr (10, [.ref k0, .ref r0, .ref c0, .ref p0, .ref fd0, .ref w0, .ref e0, .ref b0, .ref a0, .ref y0, .ref g0, .ref i0, .int (nI ld)])), (e0, .inr (8, [.ref e1])), (e1, .inl (ax 4, 6, .inr (.inl vs))), (ot0, .inl (ax 4, 1, .inr (.inl xov)))] t9.heap ∧ va_D (va_A [(d0, .inr (10, [.ref k0, .ref r0, .ref c0, .ref p0, .ref fd0, .ref w0, .ref e0, .ref b0, .ref a0, .ref y0, .ref g0, .ref i0, .int (nI ld)])), (e0, .inr (8, [.ref e1])), (e1, .inl (ax 4, 6, .inr (.inl vs))), (ot0, .inl (ax 4, 1, .inr (.inl ov)))] sz) [(d0, .inr (10, [.ref k0, .ref r0, .ref c0, .ref p0, .ref fd0, .ref w0, .ref e0, .ref b0, .ref a0, .ref y0, .ref g0, .ref i0, .int (nI ld)])), (e0, .inr (8, [.ref e1])), (e1, .inl (ax 4, 6, .inr (.inl vs))), (ot0, .inl (ax 4, 1, .inr (.inl xov)))]) (va_A [(d0, .inr (10, [.ref k0, .ref r0, .ref c0, .ref p0, .ref fd0, .ref w0, .ref e0, .ref b0, .ref a0, .ref y0, .ref g0, .ref i0, .int (nI ld)])), (e0, .inr (8, [.ref e1])), (e1, .inl (ax 4, 6, .inr (.inl vs))), (ot0, .inl (ax 4, 1, .inr (.inl ov)))] sz))) 1 6 (va_A [(d0, .inr (10, [.ref k0, .ref r0, .ref c0, .ref p0, .ref fd0, .ref w0, .ref e0, .ref b0, .ref a0, .ref y0, .ref g0, .ref i0, .int (nI ld)])), (e0, .inr (8, [.ref e1])), (e1, .inl (ax 4, 6, .inr (.inl vs))), (ot0, .inl (ax 4, 1, .inr (.inl ov)))] sz) := by
  refine xt_Met.ofWith (cc := b_law_value) (maxL := 4) (ret := (some .int)) (hs := [(0, 8, 11, 19)]) (by decide) rfl ?_
  intro p e s m args below meth c s₁ B hml htab hv
  obtain ⟨rfl, ⟨⟨hsz, hP, hK, hD0⟩, htz⟩, hnc⟩ := hv
  have hx := B.exec
  have hb := B.bytes
  have hr := B.returns
  have hts := xw_hts B.pre
  have hown : s.vm.findClass R_law = some m.cls := findClass_of_methodNamed B.named
  have hlocks := B.notSynchronized
  subst hsz
  subst htz
  have hD := hD0.self (sz := s.heap.size)
  have hN := xz_entry hP
  generalize hAe : va_A [(d0, .inr (10, [.ref k0, .ref r0, .ref c0, .ref p0, .ref fd0, .ref w0, .ref e0, .ref b0, .ref a0, .ref y0, .ref g0, .ref i0, .int (nI ld)])), (e0, .inr (8, [.ref e1])), (e1, .inl (ax 4, 6, .inr (.inl vs))), (ot0, .inl (ax 4, 1, .inr (.inl ov)))] s.heap.size = A at hD hN ⊢
  have hA : ∀ q : Nat, s.heap.size ≤ q → A q := fun q h => by rw [← hAe]; exact Or.inr h
  have hS : va_S A s.heap s.heap [] := va_S.rf
  have hl0 := lv_entry ([.ref d0, .int x1, .ref ot0]) (n := 4) (Nat.le_of_ble_eq_true rfl)
  rw [lg_entry_eq]
  generalize (lg_sl ([.ref d0, .int x1, .ref ot0]) ++ List.replicate (4 - (lg_sl ([.ref d0, .int x1, .ref ot0])).length) Slot.unset).toArray = ls at hl0 ⊢
  have hl1 : lv_has ls 4 [(0, .ref d0), (1, .int x1), (2, .ref ot0)] := hl0
  refine lv_aload_n hx hb d_law_value_0 rfl (lv_at hl1 2 rfl) ?_
  refine lv_iconst (v := 0) hx hb d_law_value_1 (by decide) ?_
  refine lv_aload_n hx hb d_law_value_2 rfl (lv_at hl1 0 rfl) ?_
  refine lv_iload_n hx hb d_law_value_3 rfl (lv_at hl1 1 rfl) ?_
  rcases Classical.em (∃ j : Nat, j < 6 ∧ x1 = nI j) with ⟨k1, hk1, ej1⟩ | hno
  · subst ej1
    obtain ⟨hPc, hDc, hFc, hCs⟩ := xw_sub3 (wc := [(d0, .inr (10, [.ref k0, .ref r0, .ref c0, .ref p0, .ref fd0, .ref w0, .ref e0, .ref b0, .ref a0, .ref y0, .ref g0, .ref i0, .int (nI ld)])), (e0, .inr (8, [.ref e1])), (e1, .inl (ax 4, 6, .inr (.inl vs)))]) hP hD hS hA [0, 1, 2] (by decide) rfl
    have hz := xz_of hN hS
    refine va_calll (va_runV (As := [.int (nI k1)]) (rest := [.int 0, .ref ot0]) ⟨hx, hb, hml, hown, hts⟩ (c_D_value_ok l D ax d0 k0 r0 c0 p0 fd0 w0 e0 b0 a0 y0 g0 i0 ld e1 vs k1 s.heap.size hk1) (xcV (n := 1) hts wd_1015 wd_1 wd_1012 wd_1013 wd_1014 rfl rfl (by decide +kernel) ⟨Nat.le_of_ble_eq_true rfl, Nat.le_of_ble_eq_true rfl⟩) (xpV (ci := 10) (q0 := 0) (As := [.int (nI k1)]) hPc hK hz hDc rfl rfl) rfl rfl hl1.1 rfl (lv_room (Nat.le_of_ble_eq_true rfl)) d_law_value_4 ⟨Nat.le_of_ble_eq_true rfl, Nat.le_of_ble_eq_true rfl⟩) hS (fun q _ h => hFc q h) hFc (fun r_3 u_1 t H_2 locs ht hvm hw hB hz1 hk1 hS1 => ?_)
    try dsimp only at hw
    subst hw
    obtain ⟨hP1, hD1⟩ := hB
    rw [ht] at hP1
    have hjn := xw_join3 (wl := [(ot0, .inl (ax 4, 1, .inr (.inl ov))), (d0, .inr (10, [.ref k0, .ref r0, .ref c0, .ref p0, .ref fd0, .ref w0, .ref e0, .ref b0, .ref a0, .ref y0, .ref g0, .ref i0, .int (nI ld)])), (e0, .inr (8, [.ref e1])), (e1, .inl (ax 4, 6, .inr (.inl vs)))]) hP hD [0, 1, 2] [3] hCs (by decide) (by decide) hk1 hFc hP1 hD1 rfl
    clear hP1 hD1
    clear hPc hDc hFc hCs hz hz1 hk1 ht hvm
    clear hP hD hS
    have hS := hS1
    obtain ⟨hP, hD⟩ := hjn
    clear hS1
    refine va_last hx hb hK.1 hP hD hS 0 4 rfl rfl (by unfold vp_in; decide) d_law_value_7 (fun H_4 locs hP1 hD1 hS1 => ?_)
    clear hP hD hS
    have hS := hS1
    have hW7 : (fun w9 : va_W => va_P D classes w9 H_4 ∧ va_D A w9) [(ot0, .inl (ax 4, 1, .inr (.inl (vp_updL ov 0 (vs k1))))), (d0, .inr (10, [.ref k0, .ref r0, .ref c0, .ref p0, .ref fd0, .ref w0, .ref e0, .ref b0, .ref a0, .ref y0, .ref g0, .ref i0, .int (nI ld)])), (e0, .inr (8, [.ref e1])), (e1, .inl (ax 4, 6, .inr (.inl vs)))] := ⟨hP1, hD1⟩
    obtain ⟨hP, hD⟩ := hW7
    clear hP1 hD1 hS1
    refine lv_goto (tgt := 14) hx hb d_law_value_8 (by decide) ?_
    refine lv_iconst (v := 0) hx hb d_law_value_14 (by decide) ?_
    refine xt_weak (fun t h => xt_ofMQ h) ?_
    refine wk_know (fun hk8 hk9 => ?_)
    refine W.widen (k := 1) (n := 6) (Nat.le_of_ble_eq_true rfl) (Nat.le_of_ble_eq_true rfl) ?_
    obtain ⟨hP9, hD9⟩ := xw_sub2 (wc := (fun (u : Nat → Nat) (xov : Nat → Int64) => [(d0, .inr (10, [.ref k0, .ref r0, .ref c0, .ref p0, .ref fd0, .ref w0, .ref e0, .ref b0, .ref a0, .ref y0, .ref g0, .ref i0, .int (nI ld)])), (e0, .inr (8, [.ref e1])), (e1, .inl (ax 4, 6, .inr (.inl vs))), (ot0, .inl (ax 4, 1, .inr (.inl xov)))]) (ixn [0, 0, 0, 0, 0, 0, 0, 0, 0, 0, 0, 0, 0, 0, 0, 0, 0, 0, 0, 0, 0, 0, 0, 0, 0, 0, 0, 0, 0, 0, 0]) (vp_updL ov 0 (vs k1))) hP hD [1, 2, 3, 0] (by decide) rfl
    have hex0 : True := trivial
    have hg8 : H_4.size ≤ s.heap.size + (1) := by omega
    have hg9 : tsl H_4 ≤ tsl s.heap + (6) := by omega
    exact W.iret (v := 0) hx hb hr (fun t ht hW => ⟨⟨0, ixn [0, 0, 0, 0, 0, 0, 0, 0, 0, 0, 0, 0, 0, 0, 0, 0, 0, 0, 0, 0, 0, 0, 0, 0, 0, 0, 0, 0, 0, 0, 0], rfl, rfl, ⟨(vp_updL ov 0 (vs k1)), by rw [ht]; exact hg8, by rw [ht]; exact hg9, hex0, by rw [ht]; exact hP9, hD9⟩⟩, hS.F ht⟩) hS.2.2 d_law_value_15
  · have hno2 : ∀ j : Nat, j < 6 → x1 ≠ nI j := fun j h e => hno ⟨j, h, e⟩
    obtain ⟨hPc, hDc, hFc, hCs⟩ := xw_sub3 (wc := [(d0, .inr (10, [.ref k0, .ref r0, .ref c0, .ref p0, .ref fd0, .ref w0, .ref e0, .ref b0, .ref a0, .ref y0, .ref g0, .ref i0, .int (nI ld)]))]) hP hD hS hA [0] (by decide) rfl
    have hz := xz_of hN hS
    refine wk_know (fun hk8 hk9 => ?_)
    refine xt_catchU (xt_runV (As := [.int x1]) (rest := [.int 0, .ref ot0]) ⟨hx, hb, hml, hown, hts⟩ (c_D_value_no l hl D ax d0 k0 r0 c0 p0 fd0 w0 e0 b0 a0 y0 g0 i0 ld x1 s.heap.size (tsl s.heap) hno2) (xcV (n := 1) hts wd_1015 wd_1 wd_1012 wd_1013 wd_1014 rfl rfl (by decide +kernel) ⟨Nat.le_of_ble_eq_true rfl, Nat.le_of_ble_eq_true rfl⟩) (xpV3 (ci := 10) (q0 := 0) (As := [.int x1]) hPc hK hz hDc rfl rfl) rfl rfl hl1.1 rfl (lv_room (Nat.le_of_ble_eq_true rfl)) d_law_value_4 ⟨Nat.le_of_ble_eq_true rfl, Nat.le_of_ble_eq_true rfl⟩) (fun hrt H_5 locs9 r9 hB hz1 hk1 hL => ?_) (fun cls9 hc9 => ?_)
    · exact hrt.elim
    · simp only [List.mem_cons, List.not_mem_nil, or_false] at hc9
      subst hc9
      refine ⟨11, xt_K1 (own := R_law) (ent := ⟨0, 8, 11, 19⟩) (restT := []) htab (by decide) (by decide) hown (hts _ wd_732), fun xq H_6 locs9 hB hz1 hk1 hL => ?_⟩
      obtain ⟨u_7, hg8, hg9, hP1, hD1⟩ := hB
      have hjn := xw_join3 (wl := [(e0, .inr (8, [.ref e1])), (e1, .inl (ax 4, 6, .inr (.inl vs))), (ot0, .inl (ax 4, 1, .inr (.inl ov))), (d0, .inr (10, [.ref k0, .ref r0, .ref c0, .ref p0, .ref fd0, .ref w0, .ref e0, .ref b0, .ref a0, .ref y0, .ref g0, .ref i0, .int (nI ld)]))]) hP hD [0] [1, 2, 3] hCs (by decide) (by decide) hk1 hFc hP1 hD1 rfl
      have hS1 := xs_catchA hS hz1 hk1 (fun q h => hFc q h) (fun q hq => hFc _ (hL q hq))
      clear hP1 hD1 hz1 hk1 hL
      clear hPc hDc hFc hCs hz
      clear hP hD hS
      have hS := hS1
      obtain ⟨hP, hD⟩ := hjn
      clear hS1
      refine wk_narrow (k := 1) (n := 6) (by first | assumption | omega) (by first | assumption | omega) ?_
      clear hk8 hk9 hg8 hg9
      refine lv_astore_n (lv' := [(3, .ref xq), (0, .ref d0), (1, .int x1), (2, .ref ot0)]) hx hb d_law_value_11 rfl hl1 (by decide) rfl (fun ls hl2 => ?_)
      clear hl1; have hl1 := hl2; clear hl2
      refine lv_iconst (v := 1) hx hb d_law_value_12 (by decide) ?_
      refine xt_weak (fun t h => xt_ofMQ h) ?_
      refine wk_know (fun hk8 hk9 => ?_)
      refine W.widen (k := 1) (n := 6) (Nat.le_of_ble_eq_true rfl) (Nat.le_of_ble_eq_true rfl) ?_
      obtain ⟨hP9, hD9⟩ := xw_sub2 (wc := (fun (u : Nat → Nat) (xov : Nat → Int64) => [(d0, .inr (10, [.ref k0, .ref r0, .ref c0, .ref p0, .ref fd0, .ref w0, .ref e0, .ref b0, .ref a0, .ref y0, .ref g0, .ref i0, .int (nI ld)])), (e0, .inr (8, [.ref e1])), (e1, .inl (ax 4, 6, .inr (.inl vs))), (ot0, .inl (ax 4, 1, .inr (.inl xov)))]) (ixn [0, 0, 0, 0, 0, 0, 0, 0, 0, 0, 0, 0, 0, 0, 0, 0, 0, 0, 0, 0, 0, 0, 0, 0, 0, 0, 0, 0, 0, 0, 1]) ov) hP hD [3, 0, 1, 2] (by decide) rfl
      have hex0 : True := trivial
      have hg8 : H_6.size ≤ s.heap.size + (1) := by omega
      have hg9 : tsl H_6 ≤ tsl s.heap + (6) := by omega
      exact W.iret (v := 1) hx hb hr (fun t ht hW => ⟨⟨1, ixn [0, 0, 0, 0, 0, 0, 0, 0, 0, 0, 0, 0, 0, 0, 0, 0, 0, 0, 0, 0, 0, 0, 0, 0, 0, 0, 0, 0, 0, 0, 1], rfl, rfl, ⟨ov, by rw [ht]; exact hg8, by rw [ht]; exact hg9, hex0, by rw [ht]; exact hP9, hD9⟩⟩, hS.F ht⟩) hS.2.2 d_law_value_13
abbrev b_law_run : ByteArray := method_11_code
def y_law_run : MethodName := ⟨R_law, "run", "(LTripleDesk;I[J)I"⟩
theorem d_law_run_0 : decode b_law_run 0 = .ok (.aload_n 2, 1) := by decide +kernel
theorem d_law_run_1 : decode b_law_run 1 = .ok (.iconst 0, 1) := by decide +kernel
theorem d_law_run_2 : decode b_law_run 2 = .ok (.aload_n 0, 1) := by decide +kernel
theorem d_law_run_3 : decode b_law_run 3 = .ok (.iload_n 1, 1) := by decide +kernel
theorem d_law_run_4 : decode b_law_run 4 = .ok (.invokevirtual 42, 3) := by decide +kernel
theorem d_law_run_7 : decode b_law_run 7 = .ok (.i2l, 1) := by decide +kernel
theorem d_law_run_8 : decode b_law_run 8 = .ok (.lastore, 1) := by decide +kernel
theorem d_law_run_9 : decode b_law_run 9 = .ok (.goto 9, 3) := by decide +kernel
theorem d_law_run_12 : decode b_law_run 12 = .ok (.astore_n 3, 1) := by decide +kernel
theorem d_law_run_13 : decode b_law_run 13 = .ok (.iconst 1, 1) := by decide +kernel
theorem d_law_run_14 : decode b_law_run 14 = .ok (.ireturn, 1) := by decide +kernel
theorem d_law_run_15 : decode b_law_run 15 = .ok (.astore_n 3, 1) := by decide +kernel
theorem d_law_run_16 : decode b_law_run 16 = .ok (.iconst 2, 1) := by decide +kernel
theorem d_law_run_17 : decode b_law_run 17 = .ok (.ireturn, 1) := by decide +kernel
theorem d_law_run_18 : decode b_law_run 18 = .ok (.iconst 0, 1) := by decide +kernel
theorem d_law_run_19 : decode b_law_run 19 = .ok (.ireturn, 1) := by decide +kernel
set_option maxHeartbeats 40000000 in
set_option maxRecDepth 100000 in
theorem c_law_run (l : Launch) (hl : l.stackTraces = false) (D : va_G) (ax : Nat → ClassId) (d0 k0 r0 c0 p0 fd0 w0 e0 b0 a0 y0 g0 i0 ld e1 h0 g1 g2 g3 g4 g5 g6 g7 g8 g9 ga gb cl ln br lp va h1 h2 h3 zs cs : Nat) (tm so sl sr : Nat → Int32) (kd ow sb f1 f2 te kp nm ck co : Nat → Nat) (vs : Nat → Int64) (ot0 : Nat) (x1 : Int32) (ov : Nat → Int64) (sz tz : Nat) (hld : ld ≤ 1) (hzs : zs ≤ cs) (hcs : cs ≤ 1024) (hlo : lod ld cl ln br zs kd ow sb f1 f2 te kp nm ck co tm so sl sr) : xt_Met l y_law_run (xws (.codeWith y_law_run b_law_run 4 (some .int) [(0, 9, 12, 13), (0, 9, 15, 45)])) ({ frames := 1330, cells := 1, slots := 6, locals := 27700 }) (va_Pc [.ref d0, .int x1, .ref ot0] (xo5 D ax [(d0, .inr (10, [.ref k0, .ref r0, .ref c0, .ref p0, .ref fd0, .ref w0, .ref e0, .ref b0, .ref a0, .ref y0, .ref g0, .ref i0, .int (nI ld)])), (e0, .inr (8, [.ref e1])), (e1, .inl (ax 4, 6, .inr (.inl vs))), (g0, .inr (2, [.ref h0, .ref g1, .ref g2, .ref g3, .ref g4, .ref g5, .ref g6, .ref g7, .ref g8, .ref g9, .ref ga, .ref gb, .int (nI cl), .int (nI ln), .int (nI br), .int (nI lp), .int (nI va)])), (g1, .inl (ax 1, 20, .inl (fun j => nI (kd j)))), (g2, .inl (ax 1, 20, .inl (fun j => nI (ow j)))), (g3, .inl (ax 1, 20, .inl (fun j => nI (sb j)))), (g4, .inl (ax 1, 20, .inl (fun j => nI (f1 j)))), (g5, .inl (ax 1, 20, .inl (fun j => nI (f2 j)))), (g6, .inl (ax 2, 20, .inl (fun j => nI (te j)))), (g7, .inl (ax 2, 20, .inl (fun j => nI (kp j)))), (g8, .inl (ax 0, 20, .inl tm)), (g9, .inl (ax 1, 20, .inl (fun j => nI (nm j)))), (ga, .inl (ax 1, 29, .inl (fun j => nI (ck j)))), (gb, .inl (ax 1, 29, .inl (fun j => nI (co j)))), (h0, .inr (4, [.ref h1, .ref h2, .ref h3, .int (nI zs)])), (h1, .inl (ax 1, cs, .inl so)), (h2, .inl (ax 0, cs, .inl sl)), (h3, .inl (ax 0, cs, .inl sr)), (ot0, .inl (ax 4, 1, .inr (.inl ov)))] sz tz)) ((va_Qi (fun (r : Int32) (u : Nat → Nat) => r = nI (u 30) ∧ (u 31 = ld)) (fun (u : Nat → Nat) (t9 : State) => ∃ xvs : Nat → Int64, ∃ xov : Nat → Int64, (t9.heap.size ≤ sz + (1)) ∧ (tsl t9.heap ≤ tz + (6)) ∧ (True) ∧ va_P D classes [(d0, .inr (10, [.ref k0, .ref r0, .ref c0, .ref p0, .ref fd0, .ref w0, .ref e0, .ref b0, .ref a0, .ref y0, .ref g0, .ref i0, .int (nI (u 31))])), (e0, .inr (8, [.ref e1])), (e1, .inl (ax 4, 6, .inr (.inl xvs))), (g0, .inr (2, [.ref h0, .ref g1, .ref g2, .ref g3, .ref g4, .ref g5, .ref g6, .ref g7, .ref g8, .ref g9, .ref ga, .ref gb, .int (nI cl), .int (nI ln), .int (nI br), .int (nI lp), .int (nI va)])), (g1, .inl (ax 1, 20, .inl (fun j => nI (kd j)))), (g2, .inl (ax 1, 20, .inl (fun j => nI (ow j)))), (g3, .inl (ax 1, 20, .inl (fun j => nI (sb j)))), (g4, .inl (ax 1, 20, .inl (fun j => nI (f1 j)))), (g5, .inl (ax 1, 20, .inl (fun j => nI (f2 j)))), (g6, .inl (ax 2, 20, .inl (fun j => nI (te j)))), (g7, .inl (ax 2, 20, .inl (fun j => nI (kp j)))), (g8, .inl (ax 0, 20, .inl tm)), (g9, .inl (ax 1, 20, .inl (fun j => nI (nm j)))), (ga, .inl (ax 1, 29, .inl (fun j => nI (ck j)))), (gb, .inl (ax 1, 29, .inl (fun j => nI (co j)))), (h0, .inr (4, [.ref h1, .ref h2, .ref h3, .int (nI zs)])), (h1, .inl (ax 1, cs, .inl so)), (h2, .inl (ax 0, cs, .inl sl)), (h3, .inl (ax 0, cs, .inl sr)), (ot0, .inl (ax 4, 1, .inr (.inl xov)))] t9.heap ∧ va_D (va_A [(d0, .inr (10, [.ref k0, .ref r0, .ref c0, .ref p0, .ref fd0, .ref w0, .ref e0, .ref b0, .ref a0, .ref y0, .ref g0, .ref i0, .int (nI ld)])), (e0, .inr (8, [.ref e1])), (e1, .inl (ax 4, 6, .inr (.inl vs))), (g0, .inr (2, [.ref h0, .ref g1, .ref g2, .ref g3, .ref g4, .ref g5, .ref g6, .ref g7, .ref g8, .ref g9, .ref ga, .ref gb, .int (nI cl), .int (nI ln), .int (nI br), .int (nI lp), .int (nI va)])), (g1, .inl (ax 1, 20, .inl (fun j => nI (kd j)))), (g2, .inl (ax 1, 20, .inl (fun j => nI (ow j)))), (g3, .inl (ax 1, 20, .inl (fun j => nI (sb j)))), (g4, .inl (ax 1, 20, .inl (fun j => nI (f1 j)))), (g5, .inl (ax 1, 20, .inl (fun j => nI (f2 j)))), (g6, .inl (ax 2, 20, .inl (fun j => nI (te j)))), (g7, .inl (ax 2, 20, .inl (fun j => nI (kp j)))), (g8, .inl (ax 0, 20, .inl tm)), (g9, .inl (ax 1, 20, .inl (fun j => nI (nm j)))), (ga, .inl (ax 1, 29, .inl (fun j => nI (ck j)))), (gb, .inl (ax 1, 29, .inl (fun j => nI (co j)))), (h0, .inr (4, [.ref h1, .ref h2, .ref h3, .int (nI zs)])), (h1, .inl (ax 1, cs, .inl so)), (h2, .inl (ax 0, cs, .inl sl)), (h3, .inl (ax 0, cs, .inl sr)), (ot0, .inl (ax 4, 1, .inr (.inl ov)))] sz) [(d0, .inr (10, [.ref k0, .ref r0, .ref c0, .ref p0, .ref fd0, .ref w0, .ref e0, .ref b0, .ref a0, .ref y0, .ref g0, .ref i0, .int (nI (u 31))])), (e0, .inr (8, [.ref e1])), (e1, .inl (ax 4, 6, .inr (.inl xvs))), (g0, .inr (2, [.ref h0, .ref g1, .ref g2, .ref g3, .ref g4, .ref g5, .ref g6, .ref g7, .ref g8, .ref g9, .ref ga, .ref gb, .int (nI cl), .int (nI ln), .int (nI br), .int (nI lp), .int (nI va)])), (g1, .inl (ax 1, 20, .inl (fun j => nI (kd j)))), (g2, .inl (ax 1, 20, .inl (fun j => nI (ow j)))), (g3, .inl (ax 1, 20, .inl (fun j => nI (sb j)))), (g4, .inl (ax 1, 20, .inl (fun j => nI (f1 j)))), (g5, .inl (ax 1, 20, .inl (fun j => nI (f2 j)))), (g6, .inl (ax 2, 20, .inl (fun j => nI (te j)))), (g7, .inl (ax 2, 20, .inl (fun j => nI (kp j)))), (g8, .inl (ax 0, 20, .inl tm)), (g9, .inl (ax 1, 20, .inl (fun j => nI (nm j)))), (ga, .inl (ax 1, 29, .inl (fun j => nI (ck j)))), (gb, .inl (ax 1, 29, .inl (fun j => nI (co j)))), (h0, .inr (4, [.ref h1, .ref h2, .ref h3, .int (nI zs)])), (h1, .inl (ax 1, cs, .inl so)), (h2, .inl (ax 0, cs, .inl sl)), (h3, .inl (ax 0, cs, .inl sr)), (ot0, .inl (ax 4, 1, .inr (.inl xov)))]) (va_A [(d0, .inr (10, [.ref k0, .ref r0, .ref c0, .ref p0, .ref fd0, .ref w0, .ref e0, .ref b0, .ref a0, .ref y0, .ref g0, .ref i0, .int (nI ld)])), (e0, .inr (8, [.ref e1])), (e1, .inl (ax 4, 6, .inr (.inl vs))), (g0, .inr (2, [.ref h0, .ref g1, .ref g2, .ref g3, .ref g4, .ref g5, .ref g6, .ref g7, .ref g8, .ref g9, .ref ga, .ref gb, .int (nI cl), .int (nI ln), .int (nI br), .int (nI lp), .int (nI va)])), (g1, .inl (ax 1, 20, .inl (fun j => nI (kd j)))), (g2, .inl (ax 1, 20, .inl (fun j => nI (ow j)))), (g3, .inl (ax 1, 20, .inl (fun j => nI (sb j)))), (g4, .inl (ax 1, 20, .inl (fun j => nI (f1 j)))), (g5, .inl (ax 1, 20, .inl (fun j => nI (f2 j)))), (g6, .inl (ax 2, 20, .inl (fun j => nI (te j)))), (g7, .inl (ax 2, 20, .inl (fun j => nI (kp j)))), (g8, .inl (ax 0, 20, .inl tm)), (g9, .inl (ax 1, 20, .inl (fun j => nI (nm j)))), (ga, .inl (ax 1, 29, .inl (fun j => nI (ck j)))), (gb, .inl (ax 1, 29, .inl (fun j => nI (co j)))), (h0, .inr (4, [.ref h1, .ref h2, .ref h3, .int (nI zs)])), (h1, .inl (ax 1, cs, .inl so)), (h2, .inl (ax 0, cs, .inl sl)), (h3, .inl (ax 0, cs, .inl sr)), (ot0, .inl (ax 4, 1, .inr (.inl ov)))] sz))) 1 6 (va_A [(d0, .inr (10, [.ref k0, .ref r0, .ref c0, .ref p0, .ref fd0, .ref w0, .ref e0, .ref b0, .ref a0, .ref y0, .ref g0, .ref i0, .int (nI ld)])), (e0, .inr (8, [.ref e1])), (e1, .inl (ax 4, 6, .inr (.inl vs))), (g0, .inr (2, [.ref h0, .ref g1, .ref g2, .ref g3, .ref g4, .ref g5, .ref g6, .ref g7, .ref g8, .ref g9, .ref ga, .ref gb, .int (nI cl), .int (nI ln), .int (nI br), .int (nI lp), .int (nI va)])), (g1, .inl (ax 1, 20, .inl (fun j => nI (kd j)))), (g2, .inl (ax 1, 20, .inl (fun j => nI (ow j)))), (g3, .inl (ax 1, 20, .inl (fun j => nI (sb j)))), (g4, .inl (ax 1, 20, .inl (fun j => nI (f1 j)))), (g5, .inl (ax 1, 20, .inl (fun j => nI (f2 j)))), (g6, .inl (ax 2, 20, .inl (fun j => nI (te j)))), (g7, .inl (ax 2, 20, .inl (fun j => nI (kp j)))), (g8, .inl (ax 0, 20, .inl tm)), (g9, .inl (ax 1, 20, .inl (fun j => nI (nm j)))), (ga, .inl (ax 1, 29, .inl (fun j => nI (ck j)))), (gb, .inl (ax 1, 29, .inl (fun j => nI (co j)))), (h0, .inr (4, [.ref h1, .ref h2, .ref h3, .int (nI zs)])), (h1, .inl (ax 1, cs, .inl so)), (h2, .inl (ax 0, cs, .inl sl)), (h3, .inl (ax 0, cs, .inl sr)), (ot0, .inl (ax 4, 1, .inr (.inl ov)))] sz) := by
  refine xt_Met.ofWith (cc := b_law_run) (maxL := 4) (ret := (some .int)) (hs := [(0, 9, 12, 13), (0, 9, 15, 45)]) (by decide) rfl ?_
  intro p e s m args below meth c s₁ B hml htab hv
  obtain ⟨rfl, ⟨⟨hsz, hP, hK, hD0⟩, htz⟩, hnc⟩ := hv
  have hx := B.exec
  have hb := B.bytes
  have hr := B.returns
  have hts := xw_hts B.pre
  have hown : s.vm.findClass R_law = some m.cls := findClass_of_methodNamed B.named
  have hlocks := B.notSynchronized
  subst hsz
  subst htz
  have hD := hD0.self (sz := s.heap.size)
  have hN := xz_entry hP
  generalize hAe : va_A [(d0, .inr (10, [.ref k0, .ref r0, .ref c0, .ref p0, .ref fd0, .ref w0, .ref e0, .ref b0, .ref a0, .ref y0, .ref g0, .ref i0, .int (nI ld)])), (e0, .inr (8, [.ref e1])), (e1, .inl (ax 4, 6, .inr (.inl vs))), (g0, .inr (2, [.ref h0, .ref g1, .ref g2, .ref g3, .ref g4, .ref g5, .ref g6, .ref g7, .ref g8, .ref g9, .ref ga, .ref gb, .int (nI cl), .int (nI ln), .int (nI br), .int (nI lp), .int (nI va)])), (g1, .inl (ax 1, 20, .inl (fun j => nI (kd j)))), (g2, .inl (ax 1, 20, .inl (fun j => nI (ow j)))), (g3, .inl (ax 1, 20, .inl (fun j => nI (sb j)))), (g4, .inl (ax 1, 20, .inl (fun j => nI (f1 j)))), (g5, .inl (ax 1, 20, .inl (fun j => nI (f2 j)))), (g6, .inl (ax 2, 20, .inl (fun j => nI (te j)))), (g7, .inl (ax 2, 20, .inl (fun j => nI (kp j)))), (g8, .inl (ax 0, 20, .inl tm)), (g9, .inl (ax 1, 20, .inl (fun j => nI (nm j)))), (ga, .inl (ax 1, 29, .inl (fun j => nI (ck j)))), (gb, .inl (ax 1, 29, .inl (fun j => nI (co j)))), (h0, .inr (4, [.ref h1, .ref h2, .ref h3, .int (nI zs)])), (h1, .inl (ax 1, cs, .inl so)), (h2, .inl (ax 0, cs, .inl sl)), (h3, .inl (ax 0, cs, .inl sr)), (ot0, .inl (ax 4, 1, .inr (.inl ov)))] s.heap.size = A at hD hN ⊢
  have hA : ∀ q : Nat, s.heap.size ≤ q → A q := fun q h => by rw [← hAe]; exact Or.inr h
  have hS : va_S A s.heap s.heap [] := va_S.rf
  have hl0 := lv_entry ([.ref d0, .int x1, .ref ot0]) (n := 4) (Nat.le_of_ble_eq_true rfl)
  rw [lg_entry_eq]
  generalize (lg_sl ([.ref d0, .int x1, .ref ot0]) ++ List.replicate (4 - (lg_sl ([.ref d0, .int x1, .ref ot0])).length) Slot.unset).toArray = ls at hl0 ⊢
  have hl1 : lv_has ls 4 [(0, .ref d0), (1, .int x1), (2, .ref ot0)] := hl0
  refine lv_aload_n hx hb d_law_run_0 rfl (lv_at hl1 2 rfl) ?_
  refine lv_iconst (v := 0) hx hb d_law_run_1 (by decide) ?_
  refine lv_aload_n hx hb d_law_run_2 rfl (lv_at hl1 0 rfl) ?_
  refine lv_iload_n hx hb d_law_run_3 rfl (lv_at hl1 1 rfl) ?_
  rcases (show ld = 0 ∨ ld = 1 by omega) with hld0 | hld0
  · rw [hld0] at hP hD
    have hP7 := hP; have hD7 := hD; clear hP hD
    have hW7 : (fun w9 : va_W => va_P D classes w9 s.heap ∧ va_D A w9) [(d0, .inr (10, [.ref k0, .ref r0, .ref c0, .ref p0, .ref fd0, .ref w0, .ref e0, .ref b0, .ref a0, .ref y0, .ref g0, .ref i0, .int 0])), (e0, .inr (8, [.ref e1])), (e1, .inl (ax 4, 6, .inr (.inl vs))), (g0, .inr (2, [.ref h0, .ref g1, .ref g2, .ref g3, .ref g4, .ref g5, .ref g6, .ref g7, .ref g8, .ref g9, .ref ga, .ref gb, .int (nI cl), .int (nI ln), .int (nI br), .int (nI lp), .int (nI va)])), (g1, .inl (ax 1, 20, .inl (fun j => nI (kd j)))), (g2, .inl (ax 1, 20, .inl (fun j => nI (ow j)))), (g3, .inl (ax 1, 20, .inl (fun j => nI (sb j)))), (g4, .inl (ax 1, 20, .inl (fun j => nI (f1 j)))), (g5, .inl (ax 1, 20, .inl (fun j => nI (f2 j)))), (g6, .inl (ax 2, 20, .inl (fun j => nI (te j)))), (g7, .inl (ax 2, 20, .inl (fun j => nI (kp j)))), (g8, .inl (ax 0, 20, .inl tm)), (g9, .inl (ax 1, 20, .inl (fun j => nI (nm j)))), (ga, .inl (ax 1, 29, .inl (fun j => nI (ck j)))), (gb, .inl (ax 1, 29, .inl (fun j => nI (co j)))), (h0, .inr (4, [.ref h1, .ref h2, .ref h3, .int (nI zs)])), (h1, .inl (ax 1, cs, .inl so)), (h2, .inl (ax 0, cs, .inl sl)), (h3, .inl (ax 0, cs, .inl sr)), (ot0, .inl (ax 4, 1, .inr (.inl ov)))] := ⟨hP7, hD7⟩
    obtain ⟨hP, hD⟩ := hW7
    clear hP7 hD7
    obtain ⟨hPc, hDc, hFc, hCs⟩ := xw_sub3 (wc := [(d0, .inr (10, [.ref k0, .ref r0, .ref c0, .ref p0, .ref fd0, .ref w0, .ref e0, .ref b0, .ref a0, .ref y0, .ref g0, .ref i0, .int 0]))]) hP hD hS hA [0] (by decide) rfl
    have hz := xz_of hN hS
    refine wk_know (fun hk8 hk9 => ?_)
    refine xt_catchU (xt_runV (As := [.int x1]) (rest := [.int 0, .ref ot0]) ⟨hx, hb, hml, hown, hts⟩ (c_D_run_np l hl D ax d0 k0 r0 c0 p0 fd0 w0 e0 b0 a0 y0 g0 i0 x1 s.heap.size (tsl s.heap)) (xcV (n := 1) hts wd_973 wd_1 wd_970 wd_971 wd_972 rfl rfl (by decide +kernel) ⟨(show (20) + 1 ≤ (1330) by omega), (show 8 + (2 + 11) + (800) ≤ (27700) by omega)⟩) (xpV3 (ci := 10) (q0 := 0) (As := [.int x1]) hPc hK hz hDc rfl rfl) rfl rfl hl1.1 rfl (lv_room (Nat.le_of_ble_eq_true rfl)) d_law_run_4 ⟨Nat.le_of_ble_eq_true rfl, Nat.le_of_ble_eq_true rfl⟩) (fun hrt H_1 locs9 r9 hB hz1 hk1 hL => ?_) (fun cls9 hc9 => ?_)
    · exact hrt.elim
    · simp only [List.mem_cons, List.not_mem_nil, or_false] at hc9
      subst hc9
      refine ⟨12, xt_K1 (own := R_law) (ent := ⟨0, 9, 12, 13⟩) (restT := [⟨0, 9, 15, 45⟩]) htab (by decide) (by decide) hown (hts _ wd_657), fun xq H_2 locs9 hB hz1 hk1 hL => ?_⟩
      obtain ⟨u_3, hg8, hg9, hP1, hD1⟩ := hB
      have hjn := xw_join3 (wl := [(e0, .inr (8, [.ref e1])), (e1, .inl (ax 4, 6, .inr (.inl vs))), (g0, .inr (2, [.ref h0, .ref g1, .ref g2, .ref g3, .ref g4, .ref g5, .ref g6, .ref g7, .ref g8, .ref g9, .ref ga, .ref gb, .int (nI cl), .int (nI ln), .int (nI br), .int (nI lp), .int (nI va)])), (g1, .inl (ax 1, 20, .inl (fun j => nI (kd j)))), (g2, .inl (ax 1, 20, .inl (fun j => nI (ow j)))), (g3, .inl (ax 1, 20, .inl (fun j => nI (sb j)))), (g4, .inl (ax 1, 20, .inl (fun j => nI (f1 j)))), (g5, .inl (ax 1, 20, .inl (fun j => nI (f2 j)))), (g6, .inl (ax 2, 20, .inl (fun j => nI (te j)))), (g7, .inl (ax 2, 20, .inl (fun j => nI (kp j)))), (g8, .inl (ax 0, 20, .inl tm)), (g9, .inl (ax 1, 20, .inl (fun j => nI (nm j)))), (ga, .inl (ax 1, 29, .inl (fun j => nI (ck j)))), (gb, .inl (ax 1, 29, .inl (fun j => nI (co j)))), (h0, .inr (4, [.ref h1, .ref h2, .ref h3, .int (nI zs)])), (h1, .inl (ax 1, cs, .inl so)), (h2, .inl (ax 0, cs, .inl sl)), (h3, .inl (ax 0, cs, .inl sr)), (ot0, .inl (ax 4, 1, .inr (.inl ov))), (d0, .inr (10, [.ref k0, .ref r0, .ref c0, .ref p0, .ref fd0, .ref w0, .ref e0, .ref b0, .ref a0, .ref y0, .ref g0, .ref i0, .int 0]))]) hP hD [0] [1, 2, 3, 4, 5, 6, 7, 8, 9, 10, 11, 12, 13, 14, 15, 16, 17, 18, 19] hCs (by decide) (by decide) hk1 hFc hP1 hD1 rfl
      have hS1 := xs_catchA hS hz1 hk1 (fun q h => hFc q h) (fun q hq => hFc _ (hL q hq))
      clear hP1 hD1 hz1 hk1 hL
      clear hPc hDc hFc hCs hz
      clear hP hD hS
      have hS := hS1
      obtain ⟨hP, hD⟩ := hjn
      clear hS1
      refine wk_narrow (k := 1) (n := 6) (by first | assumption | omega) (by first | assumption | omega) ?_
      clear hk8 hk9 hg8 hg9
      refine lv_astore_n (lv' := [(3, .ref xq), (0, .ref d0), (1, .int x1), (2, .ref ot0)]) hx hb d_law_run_12 rfl hl1 (by decide) rfl (fun ls hl2 => ?_)
      clear hl1; have hl1 := hl2; clear hl2
      refine lv_iconst (v := 1) hx hb d_law_run_13 (by decide) ?_
      refine xt_weak (fun t h => xt_ofMQ h) ?_
      refine wk_know (fun hk8 hk9 => ?_)
      refine W.widen (k := 1) (n := 6) (Nat.le_of_ble_eq_true rfl) (Nat.le_of_ble_eq_true rfl) ?_
      obtain ⟨hP9, hD9⟩ := xw_sub2 (wc := (fun (u : Nat → Nat) (xvs : Nat → Int64) (xov : Nat → Int64) => [(d0, .inr (10, [.ref k0, .ref r0, .ref c0, .ref p0, .ref fd0, .ref w0, .ref e0, .ref b0, .ref a0, .ref y0, .ref g0, .ref i0, .int (nI (u 31))])), (e0, .inr (8, [.ref e1])), (e1, .inl (ax 4, 6, .inr (.inl xvs))), (g0, .inr (2, [.ref h0, .ref g1, .ref g2, .ref g3, .ref g4, .ref g5, .ref g6, .ref g7, .ref g8, .ref g9, .ref ga, .ref gb, .int (nI cl), .int (nI ln), .int (nI br), .int (nI lp), .int (nI va)])), (g1, .inl (ax 1, 20, .inl (fun j => nI (kd j)))), (g2, .inl (ax 1, 20, .inl (fun j => nI (ow j)))), (g3, .inl (ax 1, 20, .inl (fun j => nI (sb j)))), (g4, .inl (ax 1, 20, .inl (fun j => nI (f1 j)))), (g5, .inl (ax 1, 20, .inl (fun j => nI (f2 j)))), (g6, .inl (ax 2, 20, .inl (fun j => nI (te j)))), (g7, .inl (ax 2, 20, .inl (fun j => nI (kp j)))), (g8, .inl (ax 0, 20, .inl tm)), (g9, .inl (ax 1, 20, .inl (fun j => nI (nm j)))), (ga, .inl (ax 1, 29, .inl (fun j => nI (ck j)))), (gb, .inl (ax 1, 29, .inl (fun j => nI (co j)))), (h0, .inr (4, [.ref h1, .ref h2, .ref h3, .int (nI zs)])), (h1, .inl (ax 1, cs, .inl so)), (h2, .inl (ax 0, cs, .inl sl)), (h3, .inl (ax 0, cs, .inl sr)), (ot0, .inl (ax 4, 1, .inr (.inl xov)))]) (ixn [0, 0, 0, 0, 0, 0, 0, 0, 0, 0, 0, 0, 0, 0, 0, 0, 0, 0, 0, 0, 0, 0, 0, 0, 0, 0, 0, 0, 0, 0, 1, 0]) vs ov) hP hD [19, 0, 1, 2, 3, 4, 5, 6, 7, 8, 9, 10, 11, 12, 13, 14, 15, 16, 17, 18] (by decide) rfl
      have hex0 : True := trivial
      have hg8 : H_2.size ≤ s.heap.size + (1) := by omega
      have hg9 : tsl H_2 ≤ tsl s.heap + (6) := by omega
      have hsp0 : 0 = ld := (by first | assumption | omega)
      exact W.iret (v := 1) hx hb hr (fun t ht hW => ⟨⟨1, ixn [0, 0, 0, 0, 0, 0, 0, 0, 0, 0, 0, 0, 0, 0, 0, 0, 0, 0, 0, 0, 0, 0, 0, 0, 0, 0, 0, 0, 0, 0, 1, 0], rfl, ⟨rfl, hsp0⟩, ⟨vs, ov, by rw [ht]; exact hg8, by rw [ht]; exact hg9, hex0, by rw [ht]; exact hP9, hD9⟩⟩, hS.F ht⟩) hS.2.2 d_law_run_14
  · rw [hld0] at hP hD
    have hP7 := hP; have hD7 := hD; clear hP hD
    have hW7 : (fun w9 : va_W => va_P D classes w9 s.heap ∧ va_D A w9) [(d0, .inr (10, [.ref k0, .ref r0, .ref c0, .ref p0, .ref fd0, .ref w0, .ref e0, .ref b0, .ref a0, .ref y0, .ref g0, .ref i0, .int 1])), (e0, .inr (8, [.ref e1])), (e1, .inl (ax 4, 6, .inr (.inl vs))), (g0, .inr (2, [.ref h0, .ref g1, .ref g2, .ref g3, .ref g4, .ref g5, .ref g6, .ref g7, .ref g8, .ref g9, .ref ga, .ref gb, .int (nI cl), .int (nI ln), .int (nI br), .int (nI lp), .int (nI va)])), (g1, .inl (ax 1, 20, .inl (fun j => nI (kd j)))), (g2, .inl (ax 1, 20, .inl (fun j => nI (ow j)))), (g3, .inl (ax 1, 20, .inl (fun j => nI (sb j)))), (g4, .inl (ax 1, 20, .inl (fun j => nI (f1 j)))), (g5, .inl (ax 1, 20, .inl (fun j => nI (f2 j)))), (g6, .inl (ax 2, 20, .inl (fun j => nI (te j)))), (g7, .inl (ax 2, 20, .inl (fun j => nI (kp j)))), (g8, .inl (ax 0, 20, .inl tm)), (g9, .inl (ax 1, 20, .inl (fun j => nI (nm j)))), (ga, .inl (ax 1, 29, .inl (fun j => nI (ck j)))), (gb, .inl (ax 1, 29, .inl (fun j => nI (co j)))), (h0, .inr (4, [.ref h1, .ref h2, .ref h3, .int (nI zs)])), (h1, .inl (ax 1, cs, .inl so)), (h2, .inl (ax 0, cs, .inl sl)), (h3, .inl (ax 0, cs, .inl sr)), (ot0, .inl (ax 4, 1, .inr (.inl ov)))] := ⟨hP7, hD7⟩
    obtain ⟨hP, hD⟩ := hW7
    clear hP7 hD7
    obtain ⟨⟨en, kc, hlw⟩, hcm, hbr, hcl, hln1, hsv⟩ := hlo hld0
    rcases Classical.em (∃ j : Nat, j ≤ 2000 ∧ x1 = nI j) with ⟨k1, hk1, ej1⟩ | hno
    · subst ej1
      obtain ⟨hPc, hDc, hFc, hCs⟩ := xw_sub3 (wc := [(d0, .inr (10, [.ref k0, .ref r0, .ref c0, .ref p0, .ref fd0, .ref w0, .ref e0, .ref b0, .ref a0, .ref y0, .ref g0, .ref i0, .int 1])), (e0, .inr (8, [.ref e1])), (e1, .inl (ax 4, 6, .inr (.inl vs))), (g0, .inr (2, [.ref h0, .ref g1, .ref g2, .ref g3, .ref g4, .ref g5, .ref g6, .ref g7, .ref g8, .ref g9, .ref ga, .ref gb, .int (nI cl), .int (nI ln), .int (nI br), .int (nI lp), .int (nI va)])), (g1, .inl (ax 1, 20, .inl (fun j => nI (kd j)))), (g2, .inl (ax 1, 20, .inl (fun j => nI (ow j)))), (g3, .inl (ax 1, 20, .inl (fun j => nI (sb j)))), (g4, .inl (ax 1, 20, .inl (fun j => nI (f1 j)))), (g5, .inl (ax 1, 20, .inl (fun j => nI (f2 j)))), (g6, .inl (ax 2, 20, .inl (fun j => nI (te j)))), (g7, .inl (ax 2, 20, .inl (fun j => nI (kp j)))), (g8, .inl (ax 0, 20, .inl tm)), (g9, .inl (ax 1, 20, .inl (fun j => nI (nm j)))), (ga, .inl (ax 1, 29, .inl (fun j => nI (ck j)))), (gb, .inl (ax 1, 29, .inl (fun j => nI (co j)))), (h0, .inr (4, [.ref h1, .ref h2, .ref h3, .int (nI zs)])), (h1, .inl (ax 1, cs, .inl so)), (h2, .inl (ax 0, cs, .inl sl)), (h3, .inl (ax 0, cs, .inl sr))]) hP hD hS hA [0, 1, 2, 3, 4, 5, 6, 7, 8, 9, 10, 11, 12, 13, 14, 15, 16, 17, 18] (by decide) rfl
      have hz := xz_of hN hS
      refine va_calli (va_runV (As := [.int (nI k1)]) (rest := [.int 0, .ref ot0]) ⟨hx, hb, hml, hown, hts⟩ (c_D_run_ok l D ax d0 k0 r0 c0 p0 fd0 w0 e0 b0 a0 y0 g0 i0 e1 h0 g1 g2 g3 g4 g5 g6 g7 g8 g9 ga gb cl ln br lp va h1 h2 h3 zs cs tm so sl sr kd ow sb f1 f2 te kp nm ck co vs en kc k1 s.heap.size hzs (by first | assumption | omega) hsv hlw hln1 hk1) (xcV (n := 1) hts wd_973 wd_1 wd_970 wd_971 wd_972 rfl rfl (by decide +kernel) ⟨(show (1320) + 1 ≤ (1330) by omega), (show 8 + (2 + 11) + (27300) ≤ (27700) by omega)⟩) (xpV (ci := 10) (q0 := 0) (As := [.int (nI k1)]) hPc hK hz hDc rfl rfl) rfl rfl hl1.1 rfl (lv_room (Nat.le_of_ble_eq_true rfl)) d_law_run_4 ⟨Nat.le_of_ble_eq_true rfl, Nat.le_of_ble_eq_true rfl⟩) hS (fun q _ h => hFc q h) hFc (fun r_6 u_4 t H_5 locs ht hvm hw hB hz1 hk1 hS1 => ?_)
      try dsimp only at hw
      subst hw
      obtain ⟨x_7, hx_8, hP1, hD1⟩ := hB
      rw [ht] at hP1
      have hjn := xw_join3 (wl := [(ot0, .inl (ax 4, 1, .inr (.inl ov))), (d0, .inr (10, [.ref k0, .ref r0, .ref c0, .ref p0, .ref fd0, .ref w0, .ref e0, .ref b0, .ref a0, .ref y0, .ref g0, .ref i0, .int 1])), (e0, .inr (8, [.ref e1])), (e1, .inl (ax 4, 6, .inr (.inl x_7))), (g0, .inr (2, [.ref h0, .ref g1, .ref g2, .ref g3, .ref g4, .ref g5, .ref g6, .ref g7, .ref g8, .ref g9, .ref ga, .ref gb, .int (nI cl), .int (nI ln), .int (nI br), .int (nI lp), .int (nI va)])), (g1, .inl (ax 1, 20, .inl (fun j => nI (kd j)))), (g2, .inl (ax 1, 20, .inl (fun j => nI (ow j)))), (g3, .inl (ax 1, 20, .inl (fun j => nI (sb j)))), (g4, .inl (ax 1, 20, .inl (fun j => nI (f1 j)))), (g5, .inl (ax 1, 20, .inl (fun j => nI (f2 j)))), (g6, .inl (ax 2, 20, .inl (fun j => nI (te j)))), (g7, .inl (ax 2, 20, .inl (fun j => nI (kp j)))), (g8, .inl (ax 0, 20, .inl tm)), (g9, .inl (ax 1, 20, .inl (fun j => nI (nm j)))), (ga, .inl (ax 1, 29, .inl (fun j => nI (ck j)))), (gb, .inl (ax 1, 29, .inl (fun j => nI (co j)))), (h0, .inr (4, [.ref h1, .ref h2, .ref h3, .int (nI zs)])), (h1, .inl (ax 1, cs, .inl so)), (h2, .inl (ax 0, cs, .inl sl)), (h3, .inl (ax 0, cs, .inl sr))]) hP hD [0, 1, 2, 3, 4, 5, 6, 7, 8, 9, 10, 11, 12, 13, 14, 15, 16, 17, 18] [19] hCs (by decide) (by decide) hk1 hFc hP1 hD1 rfl
      clear hP1 hD1
      clear hPc hDc hFc hCs hz hz1 hk1 ht hvm
      clear hP hD hS
      have hS := hS1
      obtain ⟨hP, hD⟩ := hjn
      clear hS1
      refine lv_i2l hx hb d_law_run_7 rfl ?_
      refine lv_topl (fun z_9 ez_9 => ?_)
      refine va_last hx hb hK.1 hP hD hS 0 4 rfl rfl (by unfold vp_in; decide) d_law_run_8 (fun H_10 locs hP1 hD1 hS1 => ?_)
      clear hP hD hS
      have hS := hS1
      have hW7 : (fun w9 : va_W => va_P D classes w9 H_10 ∧ va_D A w9) [(ot0, .inl (ax 4, 1, .inr (.inl (vp_updL ov 0 z_9)))), (d0, .inr (10, [.ref k0, .ref r0, .ref c0, .ref p0, .ref fd0, .ref w0, .ref e0, .ref b0, .ref a0, .ref y0, .ref g0, .ref i0, .int 1])), (e0, .inr (8, [.ref e1])), (e1, .inl (ax 4, 6, .inr (.inl x_7))), (g0, .inr (2, [.ref h0, .ref g1, .ref g2, .ref g3, .ref g4, .ref g5, .ref g6, .ref g7, .ref g8, .ref g9, .ref ga, .ref gb, .int (nI cl), .int (nI ln), .int (nI br), .int (nI lp), .int (nI va)])), (g1, .inl (ax 1, 20, .inl (fun j => nI (kd j)))), (g2, .inl (ax 1, 20, .inl (fun j => nI (ow j)))), (g3, .inl (ax 1, 20, .inl (fun j => nI (sb j)))), (g4, .inl (ax 1, 20, .inl (fun j => nI (f1 j)))), (g5, .inl (ax 1, 20, .inl (fun j => nI (f2 j)))), (g6, .inl (ax 2, 20, .inl (fun j => nI (te j)))), (g7, .inl (ax 2, 20, .inl (fun j => nI (kp j)))), (g8, .inl (ax 0, 20, .inl tm)), (g9, .inl (ax 1, 20, .inl (fun j => nI (nm j)))), (ga, .inl (ax 1, 29, .inl (fun j => nI (ck j)))), (gb, .inl (ax 1, 29, .inl (fun j => nI (co j)))), (h0, .inr (4, [.ref h1, .ref h2, .ref h3, .int (nI zs)])), (h1, .inl (ax 1, cs, .inl so)), (h2, .inl (ax 0, cs, .inl sl)), (h3, .inl (ax 0, cs, .inl sr))] := ⟨hP1, hD1⟩
      obtain ⟨hP, hD⟩ := hW7
      clear hP1 hD1 hS1
      refine lv_goto (tgt := 18) hx hb d_law_run_9 (by decide) ?_
      refine lv_iconst (v := 0) hx hb d_law_run_18 (by decide) ?_
      refine xt_weak (fun t h => xt_ofMQ h) ?_
      refine wk_know (fun hk8 hk9 => ?_)
      refine W.widen (k := 1) (n := 6) (Nat.le_of_ble_eq_true rfl) (Nat.le_of_ble_eq_true rfl) ?_
      obtain ⟨hP9, hD9⟩ := xw_sub2 (wc := (fun (u : Nat → Nat) (xvs : Nat → Int64) (xov : Nat → Int64) => [(d0, .inr (10, [.ref k0, .ref r0, .ref c0, .ref p0, .ref fd0, .ref w0, .ref e0, .ref b0, .ref a0, .ref y0, .ref g0, .ref i0, .int (nI (u 31))])), (e0, .inr (8, [.ref e1])), (e1, .inl (ax 4, 6, .inr (.inl xvs))), (g0, .inr (2, [.ref h0, .ref g1, .ref g2, .ref g3, .ref g4, .ref g5, .ref g6, .ref g7, .ref g8, .ref g9, .ref ga, .ref gb, .int (nI cl), .int (nI ln), .int (nI br), .int (nI lp), .int (nI va)])), (g1, .inl (ax 1, 20, .inl (fun j => nI (kd j)))), (g2, .inl (ax 1, 20, .inl (fun j => nI (ow j)))), (g3, .inl (ax 1, 20, .inl (fun j => nI (sb j)))), (g4, .inl (ax 1, 20, .inl (fun j => nI (f1 j)))), (g5, .inl (ax 1, 20, .inl (fun j => nI (f2 j)))), (g6, .inl (ax 2, 20, .inl (fun j => nI (te j)))), (g7, .inl (ax 2, 20, .inl (fun j => nI (kp j)))), (g8, .inl (ax 0, 20, .inl tm)), (g9, .inl (ax 1, 20, .inl (fun j => nI (nm j)))), (ga, .inl (ax 1, 29, .inl (fun j => nI (ck j)))), (gb, .inl (ax 1, 29, .inl (fun j => nI (co j)))), (h0, .inr (4, [.ref h1, .ref h2, .ref h3, .int (nI zs)])), (h1, .inl (ax 1, cs, .inl so)), (h2, .inl (ax 0, cs, .inl sl)), (h3, .inl (ax 0, cs, .inl sr)), (ot0, .inl (ax 4, 1, .inr (.inl xov)))]) (ixn [0, 0, 0, 0, 0, 0, 0, 0, 0, 0, 0, 0, 0, 0, 0, 0, 0, 0, 0, 0, 0, 0, 0, 0, 0, 0, 0, 0, 0, 0, 0, 1]) x_7 (vp_updL ov 0 z_9)) hP hD [1, 2, 3, 4, 5, 6, 7, 8, 9, 10, 11, 12, 13, 14, 15, 16, 17, 18, 19, 0] (by decide) rfl
      have hex0 : True := trivial
      have hg8 : H_10.size ≤ s.heap.size + (1) := by omega
      have hg9 : tsl H_10 ≤ tsl s.heap + (6) := by omega
      have hsp0 : 1 = ld := (by first | assumption | omega)
      exact W.iret (v := 0) hx hb hr (fun t ht hW => ⟨⟨0, ixn [0, 0, 0, 0, 0, 0, 0, 0, 0, 0, 0, 0, 0, 0, 0, 0, 0, 0, 0, 0, 0, 0, 0, 0, 0, 0, 0, 0, 0, 0, 0, 1], rfl, ⟨rfl, hsp0⟩, ⟨x_7, (vp_updL ov 0 z_9), by rw [ht]; exact hg8, by rw [ht]; exact hg9, hex0, by rw [ht]; exact hP9, hD9⟩⟩, hS.F ht⟩) hS.2.2 d_law_run_19
    · have hno2 : ∀ j : Nat, j ≤ 2000 → x1 ≠ nI j := fun j h e => hno ⟨j, h, e⟩
      obtain ⟨hPc, hDc, hFc, hCs⟩ := xw_sub3 (wc := [(d0, .inr (10, [.ref k0, .ref r0, .ref c0, .ref p0, .ref fd0, .ref w0, .ref e0, .ref b0, .ref a0, .ref y0, .ref g0, .ref i0, .int 1]))]) hP hD hS hA [0] (by decide) rfl
      have hz := xz_of hN hS
      refine wk_know (fun hk8 hk9 => ?_)
      refine xt_catchU (xt_runV (As := [.int x1]) (rest := [.int 0, .ref ot0]) ⟨hx, hb, hml, hown, hts⟩ (c_D_run_ns l hl D ax d0 k0 r0 c0 p0 fd0 w0 e0 b0 a0 y0 g0 i0 x1 s.heap.size (tsl s.heap) hno2) (xcV (n := 1) hts wd_973 wd_1 wd_970 wd_971 wd_972 rfl rfl (by decide +kernel) ⟨(show (20) + 1 ≤ (1330) by omega), (show 8 + (2 + 11) + (800) ≤ (27700) by omega)⟩) (xpV3 (ci := 10) (q0 := 0) (As := [.int x1]) hPc hK hz hDc rfl rfl) rfl rfl hl1.1 rfl (lv_room (Nat.le_of_ble_eq_true rfl)) d_law_run_4 ⟨Nat.le_of_ble_eq_true rfl, Nat.le_of_ble_eq_true rfl⟩) (fun hrt H_11 locs9 r9 hB hz1 hk1 hL => ?_) (fun cls9 hc9 => ?_)
      · exact hrt.elim
      · simp only [List.mem_cons, List.not_mem_nil, or_false] at hc9
        subst hc9
        refine ⟨15, xt_K2 (own := R_law) (e1 := ⟨0, 9, 12, 13⟩) (ent := ⟨0, 9, 15, 45⟩) (restT := []) htab (by decide) (by decide) (by decide) (by decide) hown (hts _ wd_657) (hts _ wd_969) hnc.2, fun xq H_12 locs9 hB hz1 hk1 hL => ?_⟩
        obtain ⟨u_13, hg8, hg9, hP1, hD1⟩ := hB
        have hjn := xw_join3 (wl := [(e0, .inr (8, [.ref e1])), (e1, .inl (ax 4, 6, .inr (.inl vs))), (g0, .inr (2, [.ref h0, .ref g1, .ref g2, .ref g3, .ref g4, .ref g5, .ref g6, .ref g7, .ref g8, .ref g9, .ref ga, .ref gb, .int (nI cl), .int (nI ln), .int (nI br), .int (nI lp), .int (nI va)])), (g1, .inl (ax 1, 20, .inl (fun j => nI (kd j)))), (g2, .inl (ax 1, 20, .inl (fun j => nI (ow j)))), (g3, .inl (ax 1, 20, .inl (fun j => nI (sb j)))), (g4, .inl (ax 1, 20, .inl (fun j => nI (f1 j)))), (g5, .inl (ax 1, 20, .inl (fun j => nI (f2 j)))), (g6, .inl (ax 2, 20, .inl (fun j => nI (te j)))), (g7, .inl (ax 2, 20, .inl (fun j => nI (kp j)))), (g8, .inl (ax 0, 20, .inl tm)), (g9, .inl (ax 1, 20, .inl (fun j => nI (nm j)))), (ga, .inl (ax 1, 29, .inl (fun j => nI (ck j)))), (gb, .inl (ax 1, 29, .inl (fun j => nI (co j)))), (h0, .inr (4, [.ref h1, .ref h2, .ref h3, .int (nI zs)])), (h1, .inl (ax 1, cs, .inl so)), (h2, .inl (ax 0, cs, .inl sl)), (h3, .inl (ax 0, cs, .inl sr)), (ot0, .inl (ax 4, 1, .inr (.inl ov))), (d0, .inr (10, [.ref k0, .ref r0, .ref c0, .ref p0, .ref fd0, .ref w0, .ref e0, .ref b0, .ref a0, .ref y0, .ref g0, .ref i0, .int 1]))]) hP hD [0] [1, 2, 3, 4, 5, 6, 7, 8, 9, 10, 11, 12, 13, 14, 15, 16, 17, 18, 19] hCs (by decide) (by decide) hk1 hFc hP1 hD1 rfl
        have hS1 := xs_catchA hS hz1 hk1 (fun q h => hFc q h) (fun q hq => hFc _ (hL q hq))
        clear hP1 hD1 hz1 hk1 hL
        clear hPc hDc hFc hCs hz
        clear hP hD hS
        have hS := hS1
        obtain ⟨hP, hD⟩ := hjn
        clear hS1
        refine wk_narrow (k := 1) (n := 6) (by first | assumption | omega) (by first | assumption | omega) ?_
        clear hk8 hk9 hg8 hg9
        refine lv_astore_n (lv' := [(3, .ref xq), (0, .ref d0), (1, .int x1), (2, .ref ot0)]) hx hb d_law_run_15 rfl hl1 (by decide) rfl (fun ls hl2 => ?_)
        clear hl1; have hl1 := hl2; clear hl2
        refine lv_iconst (v := 2) hx hb d_law_run_16 (by decide) ?_
        refine xt_weak (fun t h => xt_ofMQ h) ?_
        refine wk_know (fun hk8 hk9 => ?_)
        refine W.widen (k := 1) (n := 6) (Nat.le_of_ble_eq_true rfl) (Nat.le_of_ble_eq_true rfl) ?_
        obtain ⟨hP9, hD9⟩ := xw_sub2 (wc := (fun (u : Nat → Nat) (xvs : Nat → Int64) (xov : Nat → Int64) => [(d0, .inr (10, [.ref k0, .ref r0, .ref c0, .ref p0, .ref fd0, .ref w0, .ref e0, .ref b0, .ref a0, .ref y0, .ref g0, .ref i0, .int (nI (u 31))])), (e0, .inr (8, [.ref e1])), (e1, .inl (ax 4, 6, .inr (.inl xvs))), (g0, .inr (2, [.ref h0, .ref g1, .ref g2, .ref g3, .ref g4, .ref g5, .ref g6, .ref g7, .ref g8, .ref g9, .ref ga, .ref gb, .int (nI cl), .int (nI ln), .int (nI br), .int (nI lp), .int (nI va)])), (g1, .inl (ax 1, 20, .inl (fun j => nI (kd j)))), (g2, .inl (ax 1, 20, .inl (fun j => nI (ow j)))), (g3, .inl (ax 1, 20, .inl (fun j => nI (sb j)))), (g4, .inl (ax 1, 20, .inl (fun j => nI (f1 j)))), (g5, .inl (ax 1, 20, .inl (fun j => nI (f2 j)))), (g6, .inl (ax 2, 20, .inl (fun j => nI (te j)))), (g7, .inl (ax 2, 20, .inl (fun j => nI (kp j)))), (g8, .inl (ax 0, 20, .inl tm)), (g9, .inl (ax 1, 20, .inl (fun j => nI (nm j)))), (ga, .inl (ax 1, 29, .inl (fun j => nI (ck j)))), (gb, .inl (ax 1, 29, .inl (fun j => nI (co j)))), (h0, .inr (4, [.ref h1, .ref h2, .ref h3, .int (nI zs)])), (h1, .inl (ax 1, cs, .inl so)), (h2, .inl (ax 0, cs, .inl sl)), (h3, .inl (ax 0, cs, .inl sr)), (ot0, .inl (ax 4, 1, .inr (.inl xov)))]) (ixn [0, 0, 0, 0, 0, 0, 0, 0, 0, 0, 0, 0, 0, 0, 0, 0, 0, 0, 0, 0, 0, 0, 0, 0, 0, 0, 0, 0, 0, 0, 2, 1]) vs ov) hP hD [19, 0, 1, 2, 3, 4, 5, 6, 7, 8, 9, 10, 11, 12, 13, 14, 15, 16, 17, 18] (by decide) rfl
        have hex0 : True := trivial
        have hg8 : H_12.size ≤ s.heap.size + (1) := by omega
        have hg9 : tsl H_12 ≤ tsl s.heap + (6) := by omega
        have hsp0 : 1 = ld := (by first | assumption | omega)
        exact W.iret (v := 2) hx hb hr (fun t ht hW => ⟨⟨2, ixn [0, 0, 0, 0, 0, 0, 0, 0, 0, 0, 0, 0, 0, 0, 0, 0, 0, 0, 0, 0, 0, 0, 0, 0, 0, 0, 0, 0, 0, 0, 2, 1], rfl, ⟨rfl, hsp0⟩, ⟨vs, ov, by rw [ht]; exact hg8, by rw [ht]; exact hg9, hex0, by rw [ht]; exact hP9, hD9⟩⟩, hS.F ht⟩) hS.2.2 d_law_run_17
abbrev b_law_holds : ByteArray := method_13_code
def y_law_holds : MethodName := ⟨R_law, "holds", "(LTripleDesk;I[J)I"⟩
theorem d_law_holds_0 : decode b_law_holds 0 = .ok (.aload_n 2, 1) := by decide +kernel
theorem d_law_holds_1 : decode b_law_holds 1 = .ok (.iconst 0, 1) := by decide +kernel
theorem d_law_holds_2 : decode b_law_holds 2 = .ok (.aload_n 0, 1) := by decide +kernel
theorem d_law_holds_3 : decode b_law_holds 3 = .ok (.iload_n 1, 1) := by decide +kernel
theorem d_law_holds_4 : decode b_law_holds 4 = .ok (.invokevirtual 51, 3) := by decide +kernel
theorem d_law_holds_7 : decode b_law_holds 7 = .ok (.ifCond .eq 7, 3) := by decide +kernel
theorem d_law_holds_10 : decode b_law_holds 10 = .ok (.lconst 1, 1) := by decide +kernel
theorem d_law_holds_11 : decode b_law_holds 11 = .ok (.goto 4, 3) := by decide +kernel
theorem d_law_holds_14 : decode b_law_holds 14 = .ok (.lconst 0, 1) := by decide +kernel
theorem d_law_holds_15 : decode b_law_holds 15 = .ok (.lastore, 1) := by decide +kernel
theorem d_law_holds_16 : decode b_law_holds 16 = .ok (.goto 6, 3) := by decide +kernel
theorem d_law_holds_19 : decode b_law_holds 19 = .ok (.astore_n 3, 1) := by decide +kernel
theorem d_law_holds_20 : decode b_law_holds 20 = .ok (.iconst 1, 1) := by decide +kernel
theorem d_law_holds_21 : decode b_law_holds 21 = .ok (.ireturn, 1) := by decide +kernel
theorem d_law_holds_22 : decode b_law_holds 22 = .ok (.iconst 0, 1) := by decide +kernel
theorem d_law_holds_23 : decode b_law_holds 23 = .ok (.ireturn, 1) := by decide +kernel
set_option maxHeartbeats 40000000 in
set_option maxRecDepth 100000 in
theorem c_law_holds (l : Launch) (hl : l.stackTraces = false) (D : va_G) (ax : Nat → ClassId) (d0 k0 r0 c0 p0 fd0 w0 e0 b0 a0 y0 g0 i0 ld e1 b1 b2 b3 zb cb a1 a2 a3 za ca : Nat) (bo bl bq ao al ar : Nat → Int32) (vs : Nat → Int64) (ot0 : Nat) (x1 : Int32) (ov : Nat → Int64) (sz tz : Nat) (hza : za ≤ ca) (hca : ca ≤ 1024) (hz1 : 1 ≤ za) (hz4 : za ≤ 450) (hav : ndv ao al ar za) (hzb : zb ≤ cb) (hcb : cb ≤ 1024) (hb1 : 1 ≤ zb) (hb4 : zb ≤ 450) (hbv : ndv bo bl bq zb) : xt_Met l y_law_holds (xws (.codeWith y_law_holds b_law_holds 4 (some .int) [(0, 16, 19, 19)])) ({ frames := 1010, cells := 1, slots := 6, locals := 20900 }) (va_Pc [.ref d0, .int x1, .ref ot0] (xo5 D ax [(d0, .inr (10, [.ref k0, .ref r0, .ref c0, .ref p0, .ref fd0, .ref w0, .ref e0, .ref b0, .ref a0, .ref y0, .ref g0, .ref i0, .int (nI ld)])), (e0, .inr (8, [.ref e1])), (e1, .inl (ax 4, 6, .inr (.inl vs))), (b0, .inr (4, [.ref b1, .ref b2, .ref b3, .int (nI zb)])), (b1, .inl (ax 1, cb, .inl bo)), (b2, .inl (ax 0, cb, .inl bl)), (b3, .inl (ax 0, cb, .inl bq)), (a0, .inr (4, [.ref a1, .ref a2, .ref a3, .int (nI za)])), (a1, .inl (ax 1, ca, .inl ao)), (a2, .inl (ax 0, ca, .inl al)), (a3, .inl (ax 0, ca, .inl ar)), (ot0, .inl (ax 4, 1, .inr (.inl ov)))] sz tz)) ((va_Qi (fun (r : Int32) (u : Nat → Nat) => r = nI (u 30)) (fun (u : Nat → Nat) (t9 : State) => ∃ xov : Nat → Int64, (t9.heap.size ≤ sz + (1)) ∧ (tsl t9.heap ≤ tz + (6)) ∧ (True) ∧ va_P D classes [(d0, .inr (10, [.ref k0, .ref r0, .ref c0, .ref p0, .ref fd0, .ref w0, .ref e0, .ref b0, .ref a0, .ref y0, .ref g0, .ref i0, .int (nI ld)])), (e0, .inr (8, [.ref e1])), (e1, .inl (ax 4, 6, .inr (.inl vs))), (b0, .inr (4, [.ref b1, .ref b2, .ref b3, .int (nI zb)])), (b1, .inl (ax 1, cb, .inl bo)), (b2, .inl (ax 0, cb, .inl bl)), (b3, .inl (ax 0, cb, .inl bq)), (a0, .inr (4, [.ref a1, .ref a2, .ref a3, .int (nI za)])), (a1, .inl (ax 1, ca, .inl ao)), (a2, .inl (ax 0, ca, .inl al)), (a3, .inl (ax 0, ca, .inl ar)), (ot0, .inl (ax 4, 1, .inr (.inl xov)))] t9.heap ∧ va_D (va_A [(d0, .inr (10, [.ref k0, .ref r0, .ref c0, .ref p0, .ref fd0, .ref w0, .ref e0, .ref b0, .ref a0, .ref y0, .ref g0, .ref i0, .int (nI ld)])), (e0, .inr (8, [.ref e1])), (e1, .inl (ax 4, 6, .inr (.inl vs))), (b0, .inr (4, [.ref b1, .ref b2, .ref b3, .int (nI zb)])), (b1, .inl (ax 1, cb, .inl bo)), (b2, .inl (ax 0, cb, .inl bl)), (b3, .inl (ax 0, cb, .inl bq)), (a0, .inr (4, [.ref a1, .ref a2, .ref a3, .int (nI za)])), (a1, .inl (ax 1, ca, .inl ao)), (a2, .inl (ax 0, ca, .inl al)), (a3, .inl (ax 0, ca, .inl ar)), (ot0, .inl (ax 4, 1, .inr (.inl ov)))] sz) [(d0, .inr (10, [.ref k0, .ref r0, .ref c0, .ref p0, .ref fd0, .ref w0, .ref e0, .ref b0, .ref a0, .ref y0, .ref g0, .ref i0, .int (nI ld)])), (e0, .inr (8, [.ref e1])), (e1, .inl (ax 4, 6, .inr (.inl vs))), (b0, .inr (4, [.ref b1, .ref b2, .ref b3, .int (nI zb)])), (b1, .inl (ax 1, cb, .inl bo)), (b2, .inl (ax 0, cb, .inl bl)), (b3, .inl (ax 0, cb, .inl bq)), (a0, .inr (4, [.ref a1, .ref a2, .ref a3, .int (nI za)])), (a1, .inl (ax 1, ca, .inl ao)), (a2, .inl (ax 0, ca, .inl al)), (a3, .inl (ax 0, ca, .inl ar)), (ot0, .inl (ax 4, 1, .inr (.inl xov)))]) (va_A [(d0, .inr (10, [.ref k0, .ref r0, .ref c0, .ref p0, .ref fd0, .ref w0, .ref e0, .ref b0, .ref a0, .ref y0, .ref g0, .ref i0, .int (nI ld)])), (e0, .inr (8, [.ref e1])), (e1, .inl (ax 4, 6, .inr (.inl vs))), (b0, .inr (4, [.ref b1, .ref b2, .ref b3, .int (nI zb)])), (b1, .inl (ax 1, cb, .inl bo)), (b2, .inl (ax 0, cb, .inl bl)), (b3, .inl (ax 0, cb, .inl bq)), (a0, .inr (4, [.ref a1, .ref a2, .ref a3, .int (nI za)])), (a1, .inl (ax 1, ca, .inl ao)), (a2, .inl (ax 0, ca, .inl al)), (a3, .inl (ax 0, ca, .inl ar)), (ot0, .inl (ax 4, 1, .inr (.inl ov)))] sz))) 1 6 (va_A [(d0, .inr (10, [.ref k0, .ref r0, .ref c0, .ref p0, .ref fd0, .ref w0, .ref e0, .ref b0, .ref a0, .ref y0, .ref g0, .ref i0, .int (nI ld)])), (e0, .inr (8, [.ref e1])), (e1, .inl (ax 4, 6, .inr (.inl vs))), (b0, .inr (4, [.ref b1, .ref b2, .ref b3, .int (nI zb)])), (b1, .inl (ax 1, cb, .inl bo)), (b2, .inl (ax 0, cb, .inl bl)), (b3, .inl (ax 0, cb, .inl bq)), (a0, .inr (4, [.ref a1, .ref a2, .ref a3, .int (nI za)])), (a1, .inl (ax 1, ca, .inl ao)), (a2, .inl (ax 0, ca, .inl al)), (a3, .inl (ax 0, ca, .inl ar)), (ot0, .inl (ax 4, 1, .inr (.inl ov)))] sz) := by
  refine xt_Met.ofWith (cc := b_law_holds) (maxL := 4) (ret := (some .int)) (hs := [(0, 16, 19, 19)]) (by decide) rfl ?_
  intro p e s m args below meth c s₁ B hml htab hv
  obtain ⟨rfl, ⟨⟨hsz, hP, hK, hD0⟩, htz⟩, hnc⟩ := hv
  have hx := B.exec
  have hb := B.bytes
  have hr := B.returns
  have hts := xw_hts B.pre
  have hown : s.vm.findClass R_law = some m.cls := findClass_of_methodNamed B.named
  have hlocks := B.notSynchronized
  subst hsz
  subst htz
  have hD := hD0.self (sz := s.heap.size)
  have hN := xz_entry hP
  generalize hAe : va_A [(d0, .inr (10, [.ref k0, .ref r0, .ref c0, .ref p0, .ref fd0, .ref w0, .ref e0, .ref b0, .ref a0, .ref y0, .ref g0, .ref i0, .int (nI ld)])), (e0, .inr (8, [.ref e1])), (e1, .inl (ax 4, 6, .inr (.inl vs))), (b0, .inr (4, [.ref b1, .ref b2, .ref b3, .int (nI zb)])), (b1, .inl (ax 1, cb, .inl bo)), (b2, .inl (ax 0, cb, .inl bl)), (b3, .inl (ax 0, cb, .inl bq)), (a0, .inr (4, [.ref a1, .ref a2, .ref a3, .int (nI za)])), (a1, .inl (ax 1, ca, .inl ao)), (a2, .inl (ax 0, ca, .inl al)), (a3, .inl (ax 0, ca, .inl ar)), (ot0, .inl (ax 4, 1, .inr (.inl ov)))] s.heap.size = A at hD hN ⊢
  have hA : ∀ q : Nat, s.heap.size ≤ q → A q := fun q h => by rw [← hAe]; exact Or.inr h
  have hS : va_S A s.heap s.heap [] := va_S.rf
  have hl0 := lv_entry ([.ref d0, .int x1, .ref ot0]) (n := 4) (Nat.le_of_ble_eq_true rfl)
  rw [lg_entry_eq]
  generalize (lg_sl ([.ref d0, .int x1, .ref ot0]) ++ List.replicate (4 - (lg_sl ([.ref d0, .int x1, .ref ot0])).length) Slot.unset).toArray = ls at hl0 ⊢
  have hl1 : lv_has ls 4 [(0, .ref d0), (1, .int x1), (2, .ref ot0)] := hl0
  refine lv_aload_n hx hb d_law_holds_0 rfl (lv_at hl1 2 rfl) ?_
  refine lv_iconst (v := 0) hx hb d_law_holds_1 (by decide) ?_
  refine lv_aload_n hx hb d_law_holds_2 rfl (lv_at hl1 0 rfl) ?_
  refine lv_iload_n hx hb d_law_holds_3 rfl (lv_at hl1 1 rfl) ?_
  rcases Classical.em (x1 = 0) with hx0 | hx0
  · subst hx0
    obtain ⟨hPc, hDc, hFc, hCs⟩ := xw_sub3 (wc := [(d0, .inr (10, [.ref k0, .ref r0, .ref c0, .ref p0, .ref fd0, .ref w0, .ref e0, .ref b0, .ref a0, .ref y0, .ref g0, .ref i0, .int (nI ld)])), (e0, .inr (8, [.ref e1])), (e1, .inl (ax 4, 6, .inr (.inl vs))), (b0, .inr (4, [.ref b1, .ref b2, .ref b3, .int (nI zb)])), (b1, .inl (ax 1, cb, .inl bo)), (b2, .inl (ax 0, cb, .inl bl)), (b3, .inl (ax 0, cb, .inl bq))]) hP hD hS hA [0, 1, 2, 3, 4, 5, 6] (by decide) rfl
    have hz := xz_of hN hS
    refine va_calli (va_runV (As := [.int 0]) (rest := [.int 0, .ref ot0]) ⟨hx, hb, hml, hown, hts⟩ (c_D_holds_0 l D ax d0 k0 r0 c0 p0 fd0 w0 e0 b0 a0 y0 g0 i0 ld e1 b1 b2 b3 zb cb bo bl bq vs s.heap.size hb1 hzb (by first | assumption | omega) hbv hb4) (xcV (n := 1) hts wd_1022 wd_1 wd_1019 wd_1020 wd_1021 rfl rfl (by decide +kernel) ⟨(show (1000) + 1 ≤ (1010) by omega), (show 8 + (3 + 11) + (20500) ≤ (20900) by omega)⟩) (xpV (ci := 10) (q0 := 0) (As := [.int 0]) hPc hK hz hDc rfl rfl) rfl rfl hl1.1 rfl (lv_room (Nat.le_of_ble_eq_true rfl)) d_law_holds_4 ⟨Nat.le_of_ble_eq_true rfl, Nat.le_of_ble_eq_true rfl⟩) hS (fun q _ h => hFc q h) hFc (fun r_3 u_1 t H_2 locs ht hvm hw hB hz1 hk1 hS1 => ?_)
    try dsimp only at hw
    obtain ⟨hw, hs_4⟩ := hw
    subst hw
    obtain ⟨hP1, hD1⟩ := hB
    rw [ht] at hP1
    have hjn := xw_join3 (wl := [(a0, .inr (4, [.ref a1, .ref a2, .ref a3, .int (nI za)])), (a1, .inl (ax 1, ca, .inl ao)), (a2, .inl (ax 0, ca, .inl al)), (a3, .inl (ax 0, ca, .inl ar)), (ot0, .inl (ax 4, 1, .inr (.inl ov))), (d0, .inr (10, [.ref k0, .ref r0, .ref c0, .ref p0, .ref fd0, .ref w0, .ref e0, .ref b0, .ref a0, .ref y0, .ref g0, .ref i0, .int (nI ld)])), (e0, .inr (8, [.ref e1])), (e1, .inl (ax 4, 6, .inr (.inl vs))), (b0, .inr (4, [.ref b1, .ref b2, .ref b3, .int (nI zb)])), (b1, .inl (ax 1, cb, .inl bo)), (b2, .inl (ax 0, cb, .inl bl)), (b3, .inl (ax 0, cb, .inl bq))]) hP hD [0, 1, 2, 3, 4, 5, 6] [7, 8, 9, 10, 11] hCs (by decide) (by decide) hk1 hFc hP1 hD1 rfl
    clear hP1 hD1
    clear hPc hDc hFc hCs hz hz1 hk1 ht hvm
    clear hP hD hS
    have hS := hS1
    obtain ⟨hP, hD⟩ := hjn
    clear hS1
    obtain ⟨vd_5, evd_5⟩ : ∃ y : Int32, y = nI (u_1 0) := ⟨_, rfl⟩
    refine W.eq (g2 := F0 m 7 ls [.int vd_5, .int 0, .ref ot0]) (by rw [evd_5]) ?_
    refine lv_if_eq (tgt := 14) hx hb d_law_holds_7 (by decide) (fun c_6 => ?_) (fun c_6 => ?_)
    · refine lv_lconst (v := 0) hx hb d_law_holds_14 (by decide) ?_
      refine va_last hx hb hK.1 hP hD hS 4 4 rfl rfl (by unfold vp_in; decide) d_law_holds_15 (fun H_7 locs hP1 hD1 hS1 => ?_)
      clear hP hD hS
      have hS := hS1
      have hW7 : (fun w9 : va_W => va_P D classes w9 H_7 ∧ va_D A w9) [(a0, .inr (4, [.ref a1, .ref a2, .ref a3, .int (nI za)])), (a1, .inl (ax 1, ca, .inl ao)), (a2, .inl (ax 0, ca, .inl al)), (a3, .inl (ax 0, ca, .inl ar)), (ot0, .inl (ax 4, 1, .inr (.inl (vp_updL ov 0 0)))), (d0, .inr (10, [.ref k0, .ref r0, .ref c0, .ref p0, .ref fd0, .ref w0, .ref e0, .ref b0, .ref a0, .ref y0, .ref g0, .ref i0, .int (nI ld)])), (e0, .inr (8, [.ref e1])), (e1, .inl (ax 4, 6, .inr (.inl vs))), (b0, .inr (4, [.ref b1, .ref b2, .ref b3, .int (nI zb)])), (b1, .inl (ax 1, cb, .inl bo)), (b2, .inl (ax 0, cb, .inl bl)), (b3, .inl (ax 0, cb, .inl bq))] := ⟨hP1, hD1⟩
      obtain ⟨hP, hD⟩ := hW7
      clear hP1 hD1 hS1
      refine lv_goto (tgt := 22) hx hb d_law_holds_16 (by decide) ?_
      refine lv_iconst (v := 0) hx hb d_law_holds_22 (by decide) ?_
      refine xt_weak (fun t h => xt_ofMQ h) ?_
      refine wk_know (fun hk8 hk9 => ?_)
      refine W.widen (k := 1) (n := 6) (Nat.le_of_ble_eq_true rfl) (Nat.le_of_ble_eq_true rfl) ?_
      obtain ⟨hP9, hD9⟩ := xw_sub2 (wc := (fun (u : Nat → Nat) (xov : Nat → Int64) => [(d0, .inr (10, [.ref k0, .ref r0, .ref c0, .ref p0, .ref fd0, .ref w0, .ref e0, .ref b0, .ref a0, .ref y0, .ref g0, .ref i0, .int (nI ld)])), (e0, .inr (8, [.ref e1])), (e1, .inl (ax 4, 6, .inr (.inl vs))), (b0, .inr (4, [.ref b1, .ref b2, .ref b3, .int (nI zb)])), (b1, .inl (ax 1, cb, .inl bo)), (b2, .inl (ax 0, cb, .inl bl)), (b3, .inl (ax 0, cb, .inl bq)), (a0, .inr (4, [.ref a1, .ref a2, .ref a3, .int (nI za)])), (a1, .inl (ax 1, ca, .inl ao)), (a2, .inl (ax 0, ca, .inl al)), (a3, .inl (ax 0, ca, .inl ar)), (ot0, .inl (ax 4, 1, .inr (.inl xov)))]) (ixn [0, 0, 0, 0, 0, 0, 0, 0, 0, 0, 0, 0, 0, 0, 0, 0, 0, 0, 0, 0, 0, 0, 0, 0, 0, 0, 0, 0, 0, 0, 0]) (vp_updL ov 0 0)) hP hD [5, 6, 7, 8, 9, 10, 11, 0, 1, 2, 3, 4] (by decide) rfl
      have hex0 : True := trivial
      have hg8 : H_7.size ≤ s.heap.size + (1) := by omega
      have hg9 : tsl H_7 ≤ tsl s.heap + (6) := by omega
      exact W.iret (v := 0) hx hb hr (fun t ht hW => ⟨⟨0, ixn [0, 0, 0, 0, 0, 0, 0, 0, 0, 0, 0, 0, 0, 0, 0, 0, 0, 0, 0, 0, 0, 0, 0, 0, 0, 0, 0, 0, 0, 0, 0], rfl, rfl, ⟨(vp_updL ov 0 0), by rw [ht]; exact hg8, by rw [ht]; exact hg9, hex0, by rw [ht]; exact hP9, hD9⟩⟩, hS.F ht⟩) hS.2.2 d_law_holds_23
    · refine lv_lconst (v := 1) hx hb d_law_holds_10 (by decide) ?_
      refine lv_goto (tgt := 15) hx hb d_law_holds_11 (by decide) ?_
      refine va_last hx hb hK.1 hP hD hS 4 4 rfl rfl (by unfold vp_in; decide) d_law_holds_15 (fun H_8 locs hP1 hD1 hS1 => ?_)
      clear hP hD hS
      have hS := hS1
      have hW7 : (fun w9 : va_W => va_P D classes w9 H_8 ∧ va_D A w9) [(a0, .inr (4, [.ref a1, .ref a2, .ref a3, .int (nI za)])), (a1, .inl (ax 1, ca, .inl ao)), (a2, .inl (ax 0, ca, .inl al)), (a3, .inl (ax 0, ca, .inl ar)), (ot0, .inl (ax 4, 1, .inr (.inl (vp_updL ov 0 1)))), (d0, .inr (10, [.ref k0, .ref r0, .ref c0, .ref p0, .ref fd0, .ref w0, .ref e0, .ref b0, .ref a0, .ref y0, .ref g0, .ref i0, .int (nI ld)])), (e0, .inr (8, [.ref e1])), (e1, .inl (ax 4, 6, .inr (.inl vs))), (b0, .inr (4, [.ref b1, .ref b2, .ref b3, .int (nI zb)])), (b1, .inl (ax 1, cb, .inl bo)), (b2, .inl (ax 0, cb, .inl bl)), (b3, .inl (ax 0, cb, .inl bq))] := ⟨hP1, hD1⟩
      obtain ⟨hP, hD⟩ := hW7
      clear hP1 hD1 hS1
      refine lv_goto (tgt := 22) hx hb d_law_holds_16 (by decide) ?_
      refine lv_iconst (v := 0) hx hb d_law_holds_22 (by decide) ?_
      refine xt_weak (fun t h => xt_ofMQ h) ?_
      refine wk_know (fun hk8 hk9 => ?_)
      refine W.widen (k := 1) (n := 6) (Nat.le_of_ble_eq_true rfl) (Nat.le_of_ble_eq_true rfl) ?_
      obtain ⟨hP9, hD9⟩ := xw_sub2 (wc := (fun (u : Nat → Nat) (xov : Nat → Int64) => [(d0, .inr (10, [.ref k0, .ref r0, .ref c0, .ref p0, .ref fd0, .ref w0, .ref e0, .ref b0, .ref a0, .ref y0, .ref g0, .ref i0, .int (nI ld)])), (e0, .inr (8, [.ref e1])), (e1, .inl (ax 4, 6, .inr (.inl vs))), (b0, .inr (4, [.ref b1, .ref b2, .ref b3, .int (nI zb)])), (b1, .inl (ax 1, cb, .inl bo)), (b2, .inl (ax 0, cb, .inl bl)), (b3, .inl (ax 0, cb, .inl bq)), (a0, .inr (4, [.ref a1, .ref a2, .ref a3, .int (nI za)])), (a1, .inl (ax 1, ca, .inl ao)), (a2, .inl (ax 0, ca, .inl al)), (a3, .inl (ax 0, ca, .inl ar)), (ot0, .inl (ax 4, 1, .inr (.inl xov)))]) (ixn [0, 0, 0, 0, 0, 0, 0, 0, 0, 0, 0, 0, 0, 0, 0, 0, 0, 0, 0, 0, 0, 0, 0, 0, 0, 0, 0, 0, 0, 0, 0]) (vp_updL ov 0 1)) hP hD [5, 6, 7, 8, 9, 10, 11, 0, 1, 2, 3, 4] (by decide) rfl
      have hex0 : True := trivial
      have hg8 : H_8.size ≤ s.heap.size + (1) := by omega
      have hg9 : tsl H_8 ≤ tsl s.heap + (6) := by omega
      exact W.iret (v := 0) hx hb hr (fun t ht hW => ⟨⟨0, ixn [0, 0, 0, 0, 0, 0, 0, 0, 0, 0, 0, 0, 0, 0, 0, 0, 0, 0, 0, 0, 0, 0, 0, 0, 0, 0, 0, 0, 0, 0, 0], rfl, rfl, ⟨(vp_updL ov 0 1), by rw [ht]; exact hg8, by rw [ht]; exact hg9, hex0, by rw [ht]; exact hP9, hD9⟩⟩, hS.F ht⟩) hS.2.2 d_law_holds_23
  · rcases Classical.em (x1 = 1) with hx0 | hx1
    · subst hx0
      obtain ⟨hPc, hDc, hFc, hCs⟩ := xw_sub3 (wc := [(d0, .inr (10, [.ref k0, .ref r0, .ref c0, .ref p0, .ref fd0, .ref w0, .ref e0, .ref b0, .ref a0, .ref y0, .ref g0, .ref i0, .int (nI ld)])), (e0, .inr (8, [.ref e1])), (e1, .inl (ax 4, 6, .inr (.inl vs))), (a0, .inr (4, [.ref a1, .ref a2, .ref a3, .int (nI za)])), (a1, .inl (ax 1, ca, .inl ao)), (a2, .inl (ax 0, ca, .inl al)), (a3, .inl (ax 0, ca, .inl ar))]) hP hD hS hA [0, 1, 2, 7, 8, 9, 10] (by decide) rfl
      have hz := xz_of hN hS
      refine va_calli (va_runV (As := [.int 1]) (rest := [.int 0, .ref ot0]) ⟨hx, hb, hml, hown, hts⟩ (c_D_holds_1 l D ax d0 k0 r0 c0 p0 fd0 w0 e0 b0 a0 y0 g0 i0 ld e1 a1 a2 a3 za ca ao al ar vs s.heap.size hz1 hza (by first | assumption | omega) hav hz4) (xcV (n := 1) hts wd_1022 wd_1 wd_1019 wd_1020 wd_1021 rfl rfl (by decide +kernel) ⟨(show (1000) + 1 ≤ (1010) by omega), (show 8 + (3 + 11) + (20500) ≤ (20900) by omega)⟩) (xpV (ci := 10) (q0 := 0) (As := [.int 1]) hPc hK hz hDc rfl rfl) rfl rfl hl1.1 rfl (lv_room (Nat.le_of_ble_eq_true rfl)) d_law_holds_4 ⟨Nat.le_of_ble_eq_true rfl, Nat.le_of_ble_eq_true rfl⟩) hS (fun q _ h => hFc q h) hFc (fun r_11 u_9 t H_10 locs ht hvm hw hB hz1 hk1 hS1 => ?_)
      try dsimp only at hw
      obtain ⟨hw, hs_12⟩ := hw
      subst hw
      obtain ⟨hP1, hD1⟩ := hB
      rw [ht] at hP1
      have hjn := xw_join3 (wl := [(b0, .inr (4, [.ref b1, .ref b2, .ref b3, .int (nI zb)])), (b1, .inl (ax 1, cb, .inl bo)), (b2, .inl (ax 0, cb, .inl bl)), (b3, .inl (ax 0, cb, .inl bq)), (ot0, .inl (ax 4, 1, .inr (.inl ov))), (d0, .inr (10, [.ref k0, .ref r0, .ref c0, .ref p0, .ref fd0, .ref w0, .ref e0, .ref b0, .ref a0, .ref y0, .ref g0, .ref i0, .int (nI ld)])), (e0, .inr (8, [.ref e1])), (e1, .inl (ax 4, 6, .inr (.inl vs))), (a0, .inr (4, [.ref a1, .ref a2, .ref a3, .int (nI za)])), (a1, .inl (ax 1, ca, .inl ao)), (a2, .inl (ax 0, ca, .inl al)), (a3, .inl (ax 0, ca, .inl ar))]) hP hD [0, 1, 2, 7, 8, 9, 10] [3, 4, 5, 6, 11] hCs (by decide) (by decide) hk1 hFc hP1 hD1 rfl
      clear hP1 hD1
      clear hPc hDc hFc hCs hz hz1 hk1 ht hvm
      clear hP hD hS
      have hS := hS1
      obtain ⟨hP, hD⟩ := hjn
      clear hS1
      obtain ⟨vd_13, evd_13⟩ : ∃ y : Int32, y = nI (u_9 0) := ⟨_, rfl⟩
      refine W.eq (g2 := F0 m 7 ls [.int vd_13, .int 0, .ref ot0]) (by rw [evd_13]) ?_
      refine lv_if_eq (tgt := 14) hx hb d_law_holds_7 (by decide) (fun c_14 => ?_) (fun c_14 => ?_)
      · refine lv_lconst (v := 0) hx hb d_law_holds_14 (by decide) ?_
        refine va_last hx hb hK.1 hP hD hS 4 4 rfl rfl (by unfold vp_in; decide) d_law_holds_15 (fun H_15 locs hP1 hD1 hS1 => ?_)
        clear hP hD hS
        have hS := hS1
        have hW7 : (fun w9 : va_W => va_P D classes w9 H_15 ∧ va_D A w9) [(b0, .inr (4, [.ref b1, .ref b2, .ref b3, .int (nI zb)])), (b1, .inl (ax 1, cb, .inl bo)), (b2, .inl (ax 0, cb, .inl bl)), (b3, .inl (ax 0, cb, .inl bq)), (ot0, .inl (ax 4, 1, .inr (.inl (vp_updL ov 0 0)))), (d0, .inr (10, [.ref k0, .ref r0, .ref c0, .ref p0, .ref fd0, .ref w0, .ref e0, .ref b0, .ref a0, .ref y0, .ref g0, .ref i0, .int (nI ld)])), (e0, .inr (8, [.ref e1])), (e1, .inl (ax 4, 6, .inr (.inl vs))), (a0, .inr (4, [.ref a1, .ref a2, .ref a3, .int (nI za)])), (a1, .inl (ax 1, ca, .inl ao)), (a2, .inl (ax 0, ca, .inl al)), (a3, .inl (ax 0, ca, .inl ar))] := ⟨hP1, hD1⟩
        obtain ⟨hP, hD⟩ := hW7
        clear hP1 hD1 hS1
        refine lv_goto (tgt := 22) hx hb d_law_holds_16 (by decide) ?_
        refine lv_iconst (v := 0) hx hb d_law_holds_22 (by decide) ?_
        refine xt_weak (fun t h => xt_ofMQ h) ?_
        refine wk_know (fun hk8 hk9 => ?_)
        refine W.widen (k := 1) (n := 6) (Nat.le_of_ble_eq_true rfl) (Nat.le_of_ble_eq_true rfl) ?_
        obtain ⟨hP9, hD9⟩ := xw_sub2 (wc := (fun (u : Nat → Nat) (xov : Nat → Int64) => [(d0, .inr (10, [.ref k0, .ref r0, .ref c0, .ref p0, .ref fd0, .ref w0, .ref e0, .ref b0, .ref a0, .ref y0, .ref g0, .ref i0, .int (nI ld)])), (e0, .inr (8, [.ref e1])), (e1, .inl (ax 4, 6, .inr (.inl vs))), (b0, .inr (4, [.ref b1, .ref b2, .ref b3, .int (nI zb)])), (b1, .inl (ax 1, cb, .inl bo)), (b2, .inl (ax 0, cb, .inl bl)), (b3, .inl (ax 0, cb, .inl bq)), (a0, .inr (4, [.ref a1, .ref a2, .ref a3, .int (nI za)])), (a1, .inl (ax 1, ca, .inl ao)), (a2, .inl (ax 0, ca, .inl al)), (a3, .inl (ax 0, ca, .inl ar)), (ot0, .inl (ax 4, 1, .inr (.inl xov)))]) (ixn [0, 0, 0, 0, 0, 0, 0, 0, 0, 0, 0, 0, 0, 0, 0, 0, 0, 0, 0, 0, 0, 0, 0, 0, 0, 0, 0, 0, 0, 0, 0]) (vp_updL ov 0 0)) hP hD [5, 6, 7, 0, 1, 2, 3, 8, 9, 10, 11, 4] (by decide) rfl
        have hex0 : True := trivial
        have hg8 : H_15.size ≤ s.heap.size + (1) := by omega
        have hg9 : tsl H_15 ≤ tsl s.heap + (6) := by omega
        exact W.iret (v := 0) hx hb hr (fun t ht hW => ⟨⟨0, ixn [0, 0, 0, 0, 0, 0, 0, 0, 0, 0, 0, 0, 0, 0, 0, 0, 0, 0, 0, 0, 0, 0, 0, 0, 0, 0, 0, 0, 0, 0, 0], rfl, rfl, ⟨(vp_updL ov 0 0), by rw [ht]; exact hg8, by rw [ht]; exact hg9, hex0, by rw [ht]; exact hP9, hD9⟩⟩, hS.F ht⟩) hS.2.2 d_law_holds_23
      · refine lv_lconst (v := 1) hx hb d_law_holds_10 (by decide) ?_
        refine lv_goto (tgt := 15) hx hb d_law_holds_11 (by decide) ?_
        refine va_last hx hb hK.1 hP hD hS 4 4 rfl rfl (by unfold vp_in; decide) d_law_holds_15 (fun H_16 locs hP1 hD1 hS1 => ?_)
        clear hP hD hS
        have hS := hS1
        have hW7 : (fun w9 : va_W => va_P D classes w9 H_16 ∧ va_D A w9) [(b0, .inr (4, [.ref b1, .ref b2, .ref b3, .int (nI zb)])), (b1, .inl (ax 1, cb, .inl bo)), (b2, .inl (ax 0, cb, .inl bl)), (b3, .inl (ax 0, cb, .inl bq)), (ot0, .inl (ax 4, 1, .inr (.inl (vp_updL ov 0 1)))), (d0, .inr (10, [.ref k0, .ref r0, .ref c0, .ref p0, .ref fd0, .ref w0, .ref e0, .ref b0, .ref a0, .ref y0, .ref g0, .ref i0, .int (nI ld)])), (e0, .inr (8, [.ref e1])), (e1, .inl (ax 4, 6, .inr (.inl vs))), (a0, .inr (4, [.ref a1, .ref a2, .ref a3, .int (nI za)])), (a1, .inl (ax 1, ca, .inl ao)), (a2, .inl (ax 0, ca, .inl al)), (a3, .inl (ax 0, ca, .inl ar))] := ⟨hP1, hD1⟩
        obtain ⟨hP, hD⟩ := hW7
        clear hP1 hD1 hS1
        refine lv_goto (tgt := 22) hx hb d_law_holds_16 (by decide) ?_
        refine lv_iconst (v := 0) hx hb d_law_holds_22 (by decide) ?_
        refine xt_weak (fun t h => xt_ofMQ h) ?_
        refine wk_know (fun hk8 hk9 => ?_)
        refine W.widen (k := 1) (n := 6) (Nat.le_of_ble_eq_true rfl) (Nat.le_of_ble_eq_true rfl) ?_
        obtain ⟨hP9, hD9⟩ := xw_sub2 (wc := (fun (u : Nat → Nat) (xov : Nat → Int64) => [(d0, .inr (10, [.ref k0, .ref r0, .ref c0, .ref p0, .ref fd0, .ref w0, .ref e0, .ref b0, .ref a0, .ref y0, .ref g0, .ref i0, .int (nI ld)])), (e0, .inr (8, [.ref e1])), (e1, .inl (ax 4, 6, .inr (.inl vs))), (b0, .inr (4, [.ref b1, .ref b2, .ref b3, .int (nI zb)])), (b1, .inl (ax 1, cb, .inl bo)), (b2, .inl (ax 0, cb, .inl bl)), (b3, .inl (ax 0, cb, .inl bq)), (a0, .inr (4, [.ref a1, .ref a2, .ref a3, .int (nI za)])), (a1, .inl (ax 1, ca, .inl ao)), (a2, .inl (ax 0, ca, .inl al)), (a3, .inl (ax 0, ca, .inl ar)), (ot0, .inl (ax 4, 1, .inr (.inl xov)))]) (ixn [0, 0, 0, 0, 0, 0, 0, 0, 0, 0, 0, 0, 0, 0, 0, 0, 0, 0, 0, 0, 0, 0, 0, 0, 0, 0, 0, 0, 0, 0, 0]) (vp_updL ov 0 1)) hP hD [5, 6, 7, 0, 1, 2, 3, 8, 9, 10, 11, 4] (by decide) rfl
        have hex0 : True := trivial
        have hg8 : H_16.size ≤ s.heap.size + (1) := by omega
        have hg9 : tsl H_16 ≤ tsl s.heap + (6) := by omega
        exact W.iret (v := 0) hx hb hr (fun t ht hW => ⟨⟨0, ixn [0, 0, 0, 0, 0, 0, 0, 0, 0, 0, 0, 0, 0, 0, 0, 0, 0, 0, 0, 0, 0, 0, 0, 0, 0, 0, 0, 0, 0, 0, 0], rfl, rfl, ⟨(vp_updL ov 0 1), by rw [ht]; exact hg8, by rw [ht]; exact hg9, hex0, by rw [ht]; exact hP9, hD9⟩⟩, hS.F ht⟩) hS.2.2 d_law_holds_23
    · obtain ⟨hPc, hDc, hFc, hCs⟩ := xw_sub3 (wc := [(d0, .inr (10, [.ref k0, .ref r0, .ref c0, .ref p0, .ref fd0, .ref w0, .ref e0, .ref b0, .ref a0, .ref y0, .ref g0, .ref i0, .int (nI ld)]))]) hP hD hS hA [0] (by decide) rfl
      have hz := xz_of hN hS
      refine wk_know (fun hk8 hk9 => ?_)
      refine xt_catchU (xt_runV (As := [.int x1]) (rest := [.int 0, .ref ot0]) ⟨hx, hb, hml, hown, hts⟩ (c_D_holds_no l hl D ax d0 k0 r0 c0 p0 fd0 w0 e0 b0 a0 y0 g0 i0 ld x1 s.heap.size (tsl s.heap) hx0 hx1) (xcV (n := 1) hts wd_1022 wd_1 wd_1019 wd_1020 wd_1021 rfl rfl (by decide +kernel) ⟨(show (10) + 1 ≤ (1010) by omega), (show 8 + (3 + 11) + (400) ≤ (20900) by omega)⟩) (xpV3 (ci := 10) (q0 := 0) (As := [.int x1]) hPc hK hz hDc rfl rfl) rfl rfl hl1.1 rfl (lv_room (Nat.le_of_ble_eq_true rfl)) d_law_holds_4 ⟨Nat.le_of_ble_eq_true rfl, Nat.le_of_ble_eq_true rfl⟩) (fun hrt H_17 locs9 r9 hB hz1 hk1 hL => ?_) (fun cls9 hc9 => ?_)
      · exact hrt.elim
      · simp only [List.mem_cons, List.not_mem_nil, or_false] at hc9
        subst hc9
        refine ⟨19, xt_K1 (own := R_law) (ent := ⟨0, 16, 19, 19⟩) (restT := []) htab (by decide) (by decide) hown (hts _ wd_732), fun xq H_18 locs9 hB hz1 hk1 hL => ?_⟩
        obtain ⟨u_19, hg8, hg9, hP1, hD1⟩ := hB
        have hjn := xw_join3 (wl := [(e0, .inr (8, [.ref e1])), (e1, .inl (ax 4, 6, .inr (.inl vs))), (b0, .inr (4, [.ref b1, .ref b2, .ref b3, .int (nI zb)])), (b1, .inl (ax 1, cb, .inl bo)), (b2, .inl (ax 0, cb, .inl bl)), (b3, .inl (ax 0, cb, .inl bq)), (a0, .inr (4, [.ref a1, .ref a2, .ref a3, .int (nI za)])), (a1, .inl (ax 1, ca, .inl ao)), (a2, .inl (ax 0, ca, .inl al)), (a3, .inl (ax 0, ca, .inl ar)), (ot0, .inl (ax 4, 1, .inr (.inl ov))), (d0, .inr (10, [.ref k0, .ref r0, .ref c0, .ref p0, .ref fd0, .ref w0, .ref e0, .ref b0, .ref a0, .ref y0, .ref g0, .ref i0, .int (nI ld)]))]) hP hD [0] [1, 2, 3, 4, 5, 6, 7, 8, 9, 10, 11] hCs (by decide) (by decide) hk1 hFc hP1 hD1 rfl
        have hS1 := xs_catchA hS hz1 hk1 (fun q h => hFc q h) (fun q hq => hFc _ (hL q hq))
        clear hP1 hD1 hz1 hk1 hL
        clear hPc hDc hFc hCs hz
        clear hP hD hS
        have hS := hS1
        obtain ⟨hP, hD⟩ := hjn
        clear hS1
        refine wk_narrow (k := 1) (n := 6) (by first | assumption | omega) (by first | assumption | omega) ?_
        clear hk8 hk9 hg8 hg9
        refine lv_astore_n (lv' := [(3, .ref xq), (0, .ref d0), (1, .int x1), (2, .ref ot0)]) hx hb d_law_holds_19 rfl hl1 (by decide) rfl (fun ls hl2 => ?_)
        clear hl1; have hl1 := hl2; clear hl2
        refine lv_iconst (v := 1) hx hb d_law_holds_20 (by decide) ?_
        refine xt_weak (fun t h => xt_ofMQ h) ?_
        refine wk_know (fun hk8 hk9 => ?_)
        refine W.widen (k := 1) (n := 6) (Nat.le_of_ble_eq_true rfl) (Nat.le_of_ble_eq_true rfl) ?_
        obtain ⟨hP9, hD9⟩ := xw_sub2 (wc := (fun (u : Nat → Nat) (xov : Nat → Int64) => [(d0, .inr (10, [.ref k0, .ref r0, .ref c0, .ref p0, .ref fd0, .ref w0, .ref e0, .ref b0, .ref a0, .ref y0, .ref g0, .ref i0, .int (nI ld)])), (e0, .inr (8, [.ref e1])), (e1, .inl (ax 4, 6, .inr (.inl vs))), (b0, .inr (4, [.ref b1, .ref b2, .ref b3, .int (nI zb)])), (b1, .inl (ax 1, cb, .inl bo)), (b2, .inl (ax 0, cb, .inl bl)), (b3, .inl (ax 0, cb, .inl bq)), (a0, .inr (4, [.ref a1, .ref a2, .ref a3, .int (nI za)])), (a1, .inl (ax 1, ca, .inl ao)), (a2, .inl (ax 0, ca, .inl al)), (a3, .inl (ax 0, ca, .inl ar)), (ot0, .inl (ax 4, 1, .inr (.inl xov)))]) (ixn [0, 0, 0, 0, 0, 0, 0, 0, 0, 0, 0, 0, 0, 0, 0, 0, 0, 0, 0, 0, 0, 0, 0, 0, 0, 0, 0, 0, 0, 0, 1]) ov) hP hD [11, 0, 1, 2, 3, 4, 5, 6, 7, 8, 9, 10] (by decide) rfl
        have hex0 : True := trivial
        have hg8 : H_18.size ≤ s.heap.size + (1) := by omega
        have hg9 : tsl H_18 ≤ tsl s.heap + (6) := by omega
        exact W.iret (v := 1) hx hb hr (fun t ht hW => ⟨⟨1, ixn [0, 0, 0, 0, 0, 0, 0, 0, 0, 0, 0, 0, 0, 0, 0, 0, 0, 0, 0, 0, 0, 0, 0, 0, 0, 0, 0, 0, 0, 0, 1], rfl, rfl, ⟨ov, by rw [ht]; exact hg8, by rw [ht]; exact hg9, hex0, by rw [ht]; exact hP9, hD9⟩⟩, hS.F ht⟩) hS.2.2 d_law_holds_21
