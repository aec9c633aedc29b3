theorem ps_16 : Cond.selects "TripleDesk$Reader" ⟨"TripleDesk$Reader", "assignment", "(II)V"⟩ ⟨"TripleDesk$Reader", "assignment", "(II)V"⟩ ∈ lw_gd := ps_in (q := (⟨"TripleDesk$Reader", "assignment", "(II)V"⟩, 5)) (i := 16) (by decide +kernel)
theorem ps_17 : Cond.selects "TripleDesk$Reader" ⟨"TripleDesk$Reader", "branch", "(I)V"⟩ ⟨"TripleDesk$Reader", "branch", "(I)V"⟩ ∈ lw_gd := ps_in (q := (⟨"TripleDesk$Reader", "branch", "(I)V"⟩, 5)) (i := 17) (by decide +kernel)
theorem ps_18 : Cond.selects "TripleDesk$Reader" ⟨"TripleDesk$Reader", "loop", "(I)V"⟩ ⟨"TripleDesk$Reader", "loop", "(I)V"⟩ ∈ lw_gd := ps_in (q := (⟨"TripleDesk$Reader", "loop", "(I)V"⟩, 5)) (i := 18) (by decide +kernel)
theorem wd_622 : ((Jvm.Cond.methodLink "TripleDesk$Reader" (63 : Nat) ({ cls := "TripleDesk$Listing", name := "admits", desc := "(I)Z" } : Jvm.MethodName))) ∈ lw_gd := lw_gd_in (i := 622) (by decide +kernel) rfl
theorem wd_623 : ((Jvm.Cond.instanceMethod ({ cls := "TripleDesk$Listing", name := "admits", desc := "(I)Z" } : Jvm.MethodName))) ∈ lw_gd := lw_gd_in (i := 623) (by decide +kernel) rfl
theorem wd_624 : ((Jvm.Cond.selects "TripleDesk$Listing" ({ cls := "TripleDesk$Listing", name := "admits", desc := "(I)Z" } : Jvm.MethodName) ({ cls := "TripleDesk$Listing", name := "admits", desc := "(I)Z" } : Jvm.MethodName))) ∈ lw_gd := lw_gd_in (i := 624) (by decide +kernel) rfl
theorem wd_625 : ((Jvm.Cond.code ({ cls := "TripleDesk$Listing", name := "admits", desc := "(I)Z" } : Jvm.MethodName) prog_4_method_3_code (2 : Nat) (Option.some Jvm.ClassFile.FieldType.boolean))) ∈ lw_gd := lw_gd_in (i := 625) (by decide +kernel) rfl
theorem wd_626 : ((Jvm.Cond.methodLink "TripleDesk$Reader" (70 : Nat) ({ cls := "TripleDesk$Listing", name := "add", desc := "(II)I" } : Jvm.MethodName))) ∈ lw_gd := lw_gd_in (i := 626) (by decide +kernel) rfl
theorem wd_627 : ((Jvm.Cond.instanceMethod ({ cls := "TripleDesk$Listing", name := "add", desc := "(II)I" } : Jvm.MethodName))) ∈ lw_gd := lw_gd_in (i := 627) (by decide +kernel) rfl
theorem wd_628 : ((Jvm.Cond.selects "TripleDesk$Listing" ({ cls := "TripleDesk$Listing", name := "add", desc := "(II)I" } : Jvm.MethodName) ({ cls := "TripleDesk$Listing", name := "add", desc := "(II)I" } : Jvm.MethodName))) ∈ lw_gd := lw_gd_in (i := 628) (by decide +kernel) rfl
theorem wd_629 : ((Jvm.Cond.code ({ cls := "TripleDesk$Listing", name := "add", desc := "(II)I" } : Jvm.MethodName) prog_4_method_4_code (3 : Nat) (Option.some Jvm.ClassFile.FieldType.int))) ∈ lw_gd := lw_gd_in (i := 629) (by decide +kernel) rfl
theorem wd_630 : ((Jvm.Cond.methodLink "TripleDesk$Reader" (77 : Nat) ({ cls := "TripleDesk$Reader", name := "assignment", desc := "(II)V" } : Jvm.MethodName))) ∈ lw_gd := lw_gd_in (i := 630) (by decide +kernel) rfl
theorem wd_632 : ((Jvm.Cond.instanceMethod ({ cls := "TripleDesk$Reader", name := "assignment", desc := "(II)V" } : Jvm.MethodName))) ∈ lw_gd := lw_gd_in (i := 632) (by decide +kernel) rfl
theorem wd_633 : ((Jvm.Cond.code ({ cls := "TripleDesk$Reader", name := "assignment", desc := "(II)V" } : Jvm.MethodName) prog_9_method_6_code (3 : Nat) (Option.none : Option Jvm.ClassFile.FieldType))) ∈ lw_gd := lw_gd_in (i := 633) (by decide +kernel) rfl
theorem wd_634 : ((Jvm.Cond.methodLink "TripleDesk$Reader" (81 : Nat) ({ cls := "TripleDesk$Reader", name := "branch", desc := "(I)V" } : Jvm.MethodName))) ∈ lw_gd := lw_gd_in (i := 634) (by decide +kernel) rfl
theorem wd_636 : ((Jvm.Cond.instanceMethod ({ cls := "TripleDesk$Reader", name := "branch", desc := "(I)V" } : Jvm.MethodName))) ∈ lw_gd := lw_gd_in (i := 636) (by decide +kernel) rfl
theorem wd_637 : ((Jvm.Cond.code ({ cls := "TripleDesk$Reader", name := "branch", desc := "(I)V" } : Jvm.MethodName) prog_9_method_7_code (2 : Nat) (Option.none : Option Jvm.ClassFile.FieldType))) ∈ lw_gd := lw_gd_in (i := 637) (by decide +kernel) rfl
theorem wd_638 : ((Jvm.Cond.methodLink "TripleDesk$Reader" (85 : Nat) ({ cls := "TripleDesk$Reader", name := "loop", desc := "(I)V" } : Jvm.MethodName))) ∈ lw_gd := lw_gd_in (i := 638) (by decide +kernel) rfl
theorem wd_640 : ((Jvm.Cond.instanceMethod ({ cls := "TripleDesk$Reader", name := "loop", desc := "(I)V" } : Jvm.MethodName))) ∈ lw_gd := lw_gd_in (i := 640) (by decide +kernel) rfl
theorem wd_641 : ((Jvm.Cond.code ({ cls := "TripleDesk$Reader", name := "loop", desc := "(I)V" } : Jvm.MethodName) prog_9_method_8_code (2 : Nat) (Option.none : Option Jvm.ClassFile.FieldType))) ∈ lw_gd := lw_gd_in (i := 641) (by decide +kernel) rfl
theorem d_Reader_statement_0 : decode b_Reader_statement 0 = .ok (.aload_n 0, 1) := by decide +kernel
theorem d_Reader_statement_1 : decode b_Reader_statement 1 = .ok (.getfield 9, 3) := by decide +kernel
theorem d_Reader_statement_4 : decode b_Reader_statement 4 = .ok (.getfield 52, 3) := by decide +kernel
theorem d_Reader_statement_7 : decode b_Reader_statement 7 = .ok (.istore_n 2, 1) := by decide +kernel
theorem d_Reader_statement_8 : decode b_Reader_statement 8 = .ok (.aload_n 0, 1) := by decide +kernel
theorem d_Reader_statement_9 : decode b_Reader_statement 9 = .ok (.getfield 40, 3) := by decide +kernel
theorem d_Reader_statement_12 : decode b_Reader_statement 12 = .ok (.iload_n 2, 1) := by decide +kernel
theorem d_Reader_statement_13 : decode b_Reader_statement 13 = .ok (.invokevirtual 63, 3) := by decide +kernel
theorem d_Reader_statement_16 : decode b_Reader_statement 16 = .ok (.ifCond .ne 12, 3) := by decide +kernel
theorem d_Reader_statement_19 : decode b_Reader_statement 19 = .ok (.aload_n 0, 1) := by decide +kernel
theorem d_Reader_statement_20 : decode b_Reader_statement 20 = .ok (.getfield 9, 3) := by decide +kernel
theorem d_Reader_statement_23 : decode b_Reader_statement 23 = .ok (.invokevirtual 67, 3) := by decide +kernel
theorem d_Reader_statement_26 : decode b_Reader_statement 26 = .ok (.iconst (-1), 1) := by decide +kernel
theorem d_Reader_statement_27 : decode b_Reader_statement 27 = .ok (.ireturn, 1) := by decide +kernel
theorem d_Reader_statement_28 : decode b_Reader_statement 28 = .ok (.aload_n 0, 1) := by decide +kernel
theorem d_Reader_statement_29 : decode b_Reader_statement 29 = .ok (.getfield 40, 3) := by decide +kernel
theorem d_Reader_statement_32 : decode b_Reader_statement 32 = .ok (.iload_n 2, 1) := by decide +kernel
theorem d_Reader_statement_33 : decode b_Reader_statement 33 = .ok (.iload_n 1, 1) := by decide +kernel
theorem d_Reader_statement_34 : decode b_Reader_statement 34 = .ok (.invokevirtual 70, 3) := by decide +kernel
theorem d_Reader_statement_37 : decode b_Reader_statement 37 = .ok (.istore_n 3, 1) := by decide +kernel
theorem d_Reader_statement_38 : decode b_Reader_statement 38 = .ok (.aload_n 0, 1) := by decide +kernel
theorem d_Reader_statement_39 : decode b_Reader_statement 39 = .ok (.getfield 9, 3) := by decide +kernel
theorem d_Reader_statement_42 : decode b_Reader_statement 42 = .ok (.getfield 74, 3) := by decide +kernel
theorem d_Reader_statement_45 : decode b_Reader_statement 45 = .ok (.istore 4, 2) := by decide +kernel
theorem d_Reader_statement_47 : decode b_Reader_statement 47 = .ok (.aload_n 0, 1) := by decide +kernel
theorem d_Reader_statement_48 : decode b_Reader_statement 48 = .ok (.getfield 9, 3) := by decide +kernel
theorem d_Reader_statement_51 : decode b_Reader_statement 51 = .ok (.invokevirtual 56, 3) := by decide +kernel
theorem d_Reader_statement_54 : decode b_Reader_statement 54 = .ok (.iload_n 2, 1) := by decide +kernel
theorem d_Reader_statement_55 : decode b_Reader_statement 55 = .ok (.lookupswitch 129 #[(2, 49), (8, 59), (12, 67), (17, 75), (123, 93)], 49) := by decide +kernel
theorem d_Reader_statement_104 : decode b_Reader_statement 104 = .ok (.aload_n 0, 1) := by decide +kernel
theorem d_Reader_statement_105 : decode b_Reader_statement 105 = .ok (.iload_n 3, 1) := by decide +kernel
theorem d_Reader_statement_106 : decode b_Reader_statement 106 = .ok (.iload 4, 2) := by decide +kernel
theorem d_Reader_statement_108 : decode b_Reader_statement 108 = .ok (.invokevirtual 77, 3) := by decide +kernel
theorem d_Reader_statement_111 : decode b_Reader_statement 111 = .ok (.goto 73, 3) := by decide +kernel
theorem d_Reader_statement_114 : decode b_Reader_statement 114 = .ok (.aload_n 0, 1) := by decide +kernel
theorem d_Reader_statement_115 : decode b_Reader_statement 115 = .ok (.iload_n 3, 1) := by decide +kernel
theorem d_Reader_statement_116 : decode b_Reader_statement 116 = .ok (.invokevirtual 81, 3) := by decide +kernel
theorem d_Reader_statement_119 : decode b_Reader_statement 119 = .ok (.goto 65, 3) := by decide +kernel
theorem d_Reader_statement_122 : decode b_Reader_statement 122 = .ok (.aload_n 0, 1) := by decide +kernel
theorem d_Reader_statement_123 : decode b_Reader_statement 123 = .ok (.iload_n 3, 1) := by decide +kernel
theorem d_Reader_statement_124 : decode b_Reader_statement 124 = .ok (.invokevirtual 85, 3) := by decide +kernel
theorem d_Reader_statement_127 : decode b_Reader_statement 127 = .ok (.goto 57, 3) := by decide +kernel
theorem d_Reader_statement_130 : decode b_Reader_statement 130 = .ok (.aload_n 0, 1) := by decide +kernel
theorem d_Reader_statement_131 : decode b_Reader_statement 131 = .ok (.getfield 40, 3) := by decide +kernel
theorem d_Reader_statement_134 : decode b_Reader_statement 134 = .ok (.getfield 88, 3) := by decide +kernel
theorem d_Reader_statement_137 : decode b_Reader_statement 137 = .ok (.iload_n 3, 1) := by decide +kernel
theorem d_Reader_statement_138 : decode b_Reader_statement 138 = .ok (.aload_n 0, 1) := by decide +kernel
theorem d_Reader_statement_139 : decode b_Reader_statement 139 = .ok (.iconst 0, 1) := by decide +kernel
theorem d_Reader_statement_140 : decode b_Reader_statement 140 = .ok (.invokevirtual 29, 3) := by decide +kernel
theorem d_Reader_statement_143 : decode b_Reader_statement 143 = .ok (.i2s, 1) := by decide +kernel
theorem d_Reader_statement_144 : decode b_Reader_statement 144 = .ok (.sastore, 1) := by decide +kernel
theorem d_Reader_statement_145 : decode b_Reader_statement 145 = .ok (.goto 39, 3) := by decide +kernel
theorem d_Reader_statement_148 : decode b_Reader_statement 148 = .ok (.aload_n 0, 1) := by decide +kernel
theorem d_Reader_statement_149 : decode b_Reader_statement 149 = .ok (.getfield 40, 3) := by decide +kernel
theorem d_Reader_statement_152 : decode b_Reader_statement 152 = .ok (.iconst 4, 1) := by decide +kernel
theorem d_Reader_statement_153 : decode b_Reader_statement 153 = .ok (.iload_n 3, 1) := by decide +kernel
theorem d_Reader_statement_154 : decode b_Reader_statement 154 = .ok (.invokevirtual 92, 3) := by decide +kernel
theorem d_Reader_statement_157 : decode b_Reader_statement 157 = .ok (.aload_n 0, 1) := by decide +kernel
theorem d_Reader_statement_158 : decode b_Reader_statement 158 = .ok (.getfield 40, 3) := by decide +kernel
theorem d_Reader_statement_161 : decode b_Reader_statement 161 = .ok (.getfield 88, 3) := by decide +kernel
theorem d_Reader_statement_164 : decode b_Reader_statement 164 = .ok (.iload_n 3, 1) := by decide +kernel
theorem d_Reader_statement_165 : decode b_Reader_statement 165 = .ok (.aload_n 0, 1) := by decide +kernel
theorem d_Reader_statement_166 : decode b_Reader_statement 166 = .ok (.iconst 1, 1) := by decide +kernel
theorem d_Reader_statement_167 : decode b_Reader_statement 167 = .ok (.invokevirtual 29, 3) := by decide +kernel
theorem d_Reader_statement_170 : decode b_Reader_statement 170 = .ok (.i2s, 1) := by decide +kernel
theorem d_Reader_statement_171 : decode b_Reader_statement 171 = .ok (.sastore, 1) := by decide +kernel
theorem d_Reader_statement_172 : decode b_Reader_statement 172 = .ok (.aload_n 0, 1) := by decide +kernel
theorem d_Reader_statement_173 : decode b_Reader_statement 173 = .ok (.getfield 9, 3) := by decide +kernel
theorem d_Reader_statement_176 : decode b_Reader_statement 176 = .ok (.bipush 125, 2) := by decide +kernel
theorem d_Reader_statement_178 : decode b_Reader_statement 178 = .ok (.invokevirtual 95, 3) := by decide +kernel
theorem d_Reader_statement_181 : decode b_Reader_statement 181 = .ok (.goto 3, 3) := by decide +kernel
theorem d_Reader_statement_184 : decode b_Reader_statement 184 = .ok (.iload_n 3, 1) := by decide +kernel
theorem d_Reader_statement_185 : decode b_Reader_statement 185 = .ok (.ireturn, 1) := by decide +kernel
set_option maxHeartbeats 40000000 in
set_option maxRecDepth 100000 in
theorem c_R_statement (l : Launch) (kf : Nat) (hrec : ∀ j, j + 1 = kf → CStm l j) (D : va_G) (ax : Nat → ClassId) (r0 k0 k1 k2 : Nat) (tb : Nat → Int32) (tk : Nat → Nat) (ta tf nx am cn ts th : Nat) (gh at9 : Nat) (n0 n1 n2 n3 cp z9 : Nat) (fo fl fr : Nat → Int32) (g0 g1 g2 g3 g4 g5 g6 g7 g8 g9 ga gb cl ln br lp va : Nat) (kd ow sb f1 f2 te kp nm ck co : Nat → Nat) (tm : Nat → Int32) (MX : Nat) (en kc : Nat → Nat) (sg pl : List itT) (L0 : List sgT) (o9 : Nat) (sz tz : Nat) (hkz : tkz tk cn) (hrs : rst tk tf nx am ta cn) (hta : ta ≤ cn) (hnx : nx < 128) (ham : am < 1024) (hgh : gh ≤ 1) (hcp : 8 ≤ cp) (hz9 : z9 ≤ cp) (hmx : cp ≤ MX) (hMX : MX ≤ 60000) (hfo : bts fo cp) (hnd : okf tf (ndv fo fl fr z9)) (hln : ln ≤ 20) (hbr : br ≤ 4) (hlp : lp ≤ 4) (hva : va ≤ lp) (hcl : cl ≤ 1 + 2 * lp + ln) (hls : okf tf (lst ln z9 kd ow sb f1 f2 te kp nm en kc tm fo fl fr)) (hcm : okf tf (clm br cl ck co ln kd nm)) (hnl : okf tf (nlq fo fl fr z9 L0)) (hvc : okf tf (va = vct pl)) (hcq : okf tf (cll ck co cl = (0, 0) :: cln pl)) (hbd : 2 * (z9 + (cn - ta) + 2 * (20 - ln) + 2) ≤ MX) (hsm : smn o9) (how : okf tf (o9 = 4294967295 ∨ (o9 < ln ∧ en o9 = 100))) (hkf : 8 ≤ br + lp + kf) : Met l y_Reader_statement (xws (.code y_Reader_statement b_Reader_statement 5 (some .int))) ({ frames := 200 + 20 * kf, cells := MX - cp, slots := 6 * (MX - cp), locals := 8000 + 800 * kf }) (va_Pc [.ref r0, .int (nI o9)] (xo3 D ax [(r0, .inr (7, [.ref k0, .ref g0, .ref n0, .int (nI gh), .int (nI at9)])), (k0, .inr (9, [.ref k1, .ref k2, .int (nI ts), .int (nI th), .int (nI ta), .int (nI tf), .int (nI nx), .int (nI am)])), (k1, .inl (ax 1, 400, .inl tb)), (k2, .inl (ax 0, 401, .inl (fun j => nI (tk j)))), (n0, .inr (4, [.ref n1, .ref n2, .ref n3, .int (nI z9)])), (n1, .inl (ax 1, cp, .inl fo)), (n2, .inl (ax 0, cp, .inl fl)), (n3, .inl (ax 0, cp, .inl fr)), (g0, .inr (2, [.ref n0, .ref g1, .ref g2, .ref g3, .ref g4, .ref g5, .ref g6, .ref g7, .ref g8, .ref g9, .ref ga, .ref gb, .int (nI cl), .int (nI ln), .int (nI br), .int (nI lp), .int (nI va)])), (g1, .inl (ax 1, 20, .inl (fun j => nI (kd j)))), (g2, .inl (ax 1, 20, .inl (fun j => nI (ow j)))), (g3, .inl (ax 1, 20, .inl (fun j => nI (sb j)))), (g4, .inl (ax 1, 20, .inl (fun j => nI (f1 j)))), (g5, .inl (ax 1, 20, .inl (fun j => nI (f2 j)))), (g6, .inl (ax 2, 20, .inl (fun j => nI (te j)))), (g7, .inl (ax 2, 20, .inl (fun j => nI (kp j)))), (g8, .inl (ax 0, 20, .inl tm)), (g9, .inl (ax 1, 20, .inl (fun j => nI (nm j)))), (ga, .inl (ax 1, 29, .inl (fun j => nI (ck j)))), (gb, .inl (ax 1, 29, .inl (fun j => nI (co j))))] sz tz)) ((va_Qi (fun (r : Int32) (u : Nat → Nat) => r = nI (u 10) ∧ (rst tk (u 1) (u 2) (u 3) (u 0) cn ∧ u 0 ≤ cn ∧ u 2 < 128 ∧ u 3 < 1024 ∧ ta ≤ u 0 ∧ ftf tf ≤ ftf (u 1) ∧ z9 ≤ u 7 ∧ u 7 + ta ≤ z9 + u 0 + 2 * (u 13 - ln) ∧ u 7 ≤ u 8 ∧ cp ≤ u 8 ∧ u 8 ≤ MX ∧ u 11 ≤ 1 ∧ u 12 ≤ 1 + 2 * u 15 + u 13 ∧ ln ≤ u 13 ∧ u 13 ≤ 20 ∧ br ≤ u 14 ∧ u 14 ≤ 4 ∧ lp ≤ u 15 ∧ u 15 ≤ 4 ∧ u 16 ≤ u 15 ∧ smn (u 10))) (fun (u : Nat → Nat) (t9 : State) => ∃ xkd : Nat → Nat, ∃ xow : Nat → Nat, ∃ xsb : Nat → Nat, ∃ xf1 : Nat → Nat, ∃ xf2 : Nat → Nat, ∃ xte : Nat → Nat, ∃ xkp : Nat → Nat, ∃ xnm : Nat → Nat, ∃ xck : Nat → Nat, ∃ xco : Nat → Nat, ∃ xtm : Nat → Int32, ∃ xfo : Nat → Int32, ∃ xfl : Nat → Int32, ∃ xfr : Nat → Int32, ∃ xen : Nat → Nat, ∃ xkc : Nat → Nat, ∃ xpl : List itT, ∃ xL : List sgT, (t9.heap.size ≤ sz + (u 8 - cp)) ∧ (tsl t9.heap ≤ tz + (6 * (u 8 - cp))) ∧ (okf (u 1) (lst (u 13) (u 7) xkd xow xsb xf1 xf2 xte xkp xnm xen xkc xtm xfo xfl xfr)) ∧ (okf (u 1) (cls ln (u 13) xen)) ∧ (okf (u 1) (sam ln kd ow sb f1 f2 te kp nm en kc xkd xow xsb xf1 xf2 xte xkp xnm xen xkc tm xtm)) ∧ (okf (u 1) (u 10 = ln ∧ ln < u 13)) ∧ (okf (u 1) (clm (u 14) (u 12) xck xco (u 13) xkd xnm)) ∧ (okf (u 1) (ndv xfo xfl xfr (u 7))) ∧ (bts xfo (u 8)) ∧ (okf (u 1) (∀ i, i < z9 → tsn xfo xfl xfr i = tsn fo fl fr i)) ∧ (psS tk tf ta sg ln br lp pl (u 1) (u 0) (u 13) (u 14) (u 15) xpl) ∧ (okf (u 1) (bk9 ln (u 13) xkd xow xsb xf1 xf2 xte xkp xnm xtm xL o9 ln pl xpl)) ∧ (okf (u 1) (nlq xfo xfl xfr (u 7) xL ∧ prx L0 xL)) ∧ (okf (u 1) (u 16 = vct xpl)) ∧ (okf (u 1) (cll xck xco (u 12) = (0, 0) :: cln xpl)) ∧ va_P D classes [(r0, .inr (7, [.ref k0, .ref g0, .ref n0, .int (nI (u 11)), .int (nI (u 9))])), (k0, .inr (9, [.ref k1, .ref k2, .int (nI ts), .int (nI th), .int (nI (u 0)), .int (nI (u 1)), .int (nI (u 2)), .int (nI (u 3))])), (k1, .inl (ax 1, 400, .inl tb)), (k2, .inl (ax 0, 401, .inl (fun j => nI (tk j)))), (n0, .inr (4, [.ref (u 4), .ref (u 5), .ref (u 6), .int (nI (u 7))])), (u 4, .inl (ax 1, u 8, .inl xfo)), (u 5, .inl (ax 0, u 8, .inl xfl)), (u 6, .inl (ax 0, u 8, .inl xfr)), (g0, .inr (2, [.ref n0, .ref g1, .ref g2, .ref g3, .ref g4, .ref g5, .ref g6, .ref g7, .ref g8, .ref g9, .ref ga, .ref gb, .int (nI (u 12)), .int (nI (u 13)), .int (nI (u 14)), .int (nI (u 15)), .int (nI (u 16))])), (g1, .inl (ax 1, 20, .inl (fun j => nI (xkd j)))), (g2, .inl (ax 1, 20, .inl (fun j => nI (xow j)))), (g3, .inl (ax 1, 20, .inl (fun j => nI (xsb j)))), (g4, .inl (ax 1, 20, .inl (fun j => nI (xf1 j)))), (g5, .inl (ax 1, 20, .inl (fun j => nI (xf2 j)))), (g6, .inl (ax 2, 20, .inl (fun j => nI (xte j)))), (g7, .inl (ax 2, 20, .inl (fun j => nI (xkp j)))), (g8, .inl (ax 0, 20, .inl xtm)), (g9, .inl (ax 1, 20, .inl (fun j => nI (xnm j)))), (ga, .inl (ax 1, 29, .inl (fun j => nI (xck j)))), (gb, .inl (ax 1, 29, .inl (fun j => nI (xco j))))] t9.heap ∧ va_D (va_A [(r0, .inr (7, [.ref k0, .ref g0, .ref n0, .int (nI gh), .int (nI at9)])), (k0, .inr (9, [.ref k1, .ref k2, .int (nI ts), .int (nI th), .int (nI ta), .int (nI tf), .int (nI nx), .int (nI am)])), (k1, .inl (ax 1, 400, .inl tb)), (k2, .inl (ax 0, 401, .inl (fun j => nI (tk j)))), (n0, .inr (4, [.ref n1, .ref n2, .ref n3, .int (nI z9)])), (n1, .inl (ax 1, cp, .inl fo)), (n2, .inl (ax 0, cp, .inl fl)), (n3, .inl (ax 0, cp, .inl fr)), (g0, .inr (2, [.ref n0, .ref g1, .ref g2, .ref g3, .ref g4, .ref g5, .ref g6, .ref g7, .ref g8, .ref g9, .ref ga, .ref gb, .int (nI cl), .int (nI ln), .int (nI br), .int (nI lp), .int (nI va)])), (g1, .inl (ax 1, 20, .inl (fun j => nI (kd j)))), (g2, .inl (ax 1, 20, .inl (fun j => nI (ow j)))), (g3, .inl (ax 1, 20, .inl (fun j => nI (sb j)))), (g4, .inl (ax 1, 20, .inl (fun j => nI (f1 j)))), (g5, .inl (ax 1, 20, .inl (fun j => nI (f2 j)))), (g6, .inl (ax 2, 20, .inl (fun j => nI (te j)))), (g7, .inl (ax 2, 20, .inl (fun j => nI (kp j)))), (g8, .inl (ax 0, 20, .inl tm)), (g9, .inl (ax 1, 20, .inl (fun j => nI (nm j)))), (ga, .inl (ax 1, 29, .inl (fun j => nI (ck j)))), (gb, .inl (ax 1, 29, .inl (fun j => nI (co j))))] sz) [(r0, .inr (7, [.ref k0, .ref g0, .ref n0, .int (nI (u 11)), .int (nI (u 9))])), (k0, .inr (9, [.ref k1, .ref k2, .int (nI ts), .int (nI th), .int (nI (u 0)), .int (nI (u 1)), .int (nI (u 2)), .int (nI (u 3))])), (k1, .inl (ax 1, 400, .inl tb)), (k2, .inl (ax 0, 401, .inl (fun j => nI (tk j)))), (n0, .inr (4, [.ref (u 4), .ref (u 5), .ref (u 6), .int (nI (u 7))])), (u 4, .inl (ax 1, u 8, .inl xfo)), (u 5, .inl (ax 0, u 8, .inl xfl)), (u 6, .inl (ax 0, u 8, .inl xfr)), (g0, .inr (2, [.ref n0, .ref g1, .ref g2, .ref g3, .ref g4, .ref g5, .ref g6, .ref g7, .ref g8, .ref g9, .ref ga, .ref gb, .int (nI (u 12)), .int (nI (u 13)), .int (nI (u 14)), .int (nI (u 15)), .int (nI (u 16))])), (g1, .inl (ax 1, 20, .inl (fun j => nI (xkd j)))), (g2, .inl (ax 1, 20, .inl (fun j => nI (xow j)))), (g3, .inl (ax 1, 20, .inl (fun j => nI (xsb j)))), (g4, .inl (ax 1, 20, .inl (fun j => nI (xf1 j)))), (g5, .inl (ax 1, 20, .inl (fun j => nI (xf2 j)))), (g6, .inl (ax 2, 20, .inl (fun j => nI (xte j)))), (g7, .inl (ax 2, 20, .inl (fun j => nI (xkp j)))), (g8, .inl (ax 0, 20, .inl xtm)), (g9, .inl (ax 1, 20, .inl (fun j => nI (xnm j)))), (ga, .inl (ax 1, 29, .inl (fun j => nI (xck j)))), (gb, .inl (ax 1, 29, .inl (fun j => nI (xco j))))]) (va_A [(r0, .inr (7, [.ref k0, .ref g0, .ref n0, .int (nI gh), .int (nI at9)])), (k0, .inr (9, [.ref k1, .ref k2, .int (nI ts), .int (nI th), .int (nI ta), .int (nI tf), .int (nI nx), .int (nI am)])), (k1, .inl (ax 1, 400, .inl tb)), (k2, .inl (ax 0, 401, .inl (fun j => nI (tk j)))), (n0, .inr (4, [.ref n1, .ref n2, .ref n3, .int (nI z9)])), (n1, .inl (ax 1, cp, .inl fo)), (n2, .inl (ax 0, cp, .inl fl)), (n3, .inl (ax 0, cp, .inl fr)), (g0, .inr (2, [.ref n0, .ref g1, .ref g2, .ref g3, .ref g4, .ref g5, .ref g6, .ref g7, .ref g8, .ref g9, .ref ga, .ref gb, .int (nI cl), .int (nI ln), .int (nI br), .int (nI lp), .int (nI va)])), (g1, .inl (ax 1, 20, .inl (fun j => nI (kd j)))), (g2, .inl (ax 1, 20, .inl (fun j => nI (ow j)))), (g3, .inl (ax 1, 20, .inl (fun j => nI (sb j)))), (g4, .inl (ax 1, 20, .inl (fun j => nI (f1 j)))), (g5, .inl (ax 1, 20, .inl (fun j => nI (f2 j)))), (g6, .inl (ax 2, 20, .inl (fun j => nI (te j)))), (g7, .inl (ax 2, 20, .inl (fun j => nI (kp j)))), (g8, .inl (ax 0, 20, .inl tm)), (g9, .inl (ax 1, 20, .inl (fun j => nI (nm j)))), (ga, .inl (ax 1, 29, .inl (fun j => nI (ck j)))), (gb, .inl (ax 1, 29, .inl (fun j => nI (co j))))] sz))) (MX - cp) (6 * (MX - cp)) (va_A [(r0, .inr (7, [.ref k0, .ref g0, .ref n0, .int (nI gh), .int (nI at9)])), (k0, .inr (9, [.ref k1, .ref k2, .int (nI ts), .int (nI th), .int (nI ta), .int (nI tf), .int (nI nx), .int (nI am)])), (k1, .inl (ax 1, 400, .inl tb)), (k2, .inl (ax 0, 401, .inl (fun j => nI (tk j)))), (n0, .inr (4, [.ref n1, .ref n2, .ref n3, .int (nI z9)])), (n1, .inl (ax 1, cp, .inl fo)), (n2, .inl (ax 0, cp, .inl fl)), (n3, .inl (ax 0, cp, .inl fr)), (g0, .inr (2, [.ref n0, .ref g1, .ref g2, .ref g3, .ref g4, .ref g5, .ref g6, .ref g7, .ref g8, .ref g9, .ref ga, .ref gb, .int (nI cl), .int (nI ln), .int (nI br), .int (nI lp), .int (nI va)])), (g1, .inl (ax 1, 20, .inl (fun j => nI (kd j)))), (g2, .inl (ax 1, 20, .inl (fun j => nI (ow j)))), (g3, .inl (ax 1, 20, .inl (fun j => nI (sb j)))), (g4, .inl (ax 1, 20, .inl (fun j => nI (f1 j)))), (g5, .inl (ax 1, 20, .inl (fun j => nI (f2 j)))), (g6, .inl (ax 2, 20, .inl (fun j => nI (te j)))), (g7, .inl (ax 2, 20, .inl (fun j => nI (kp j)))), (g8, .inl (ax 0, 20, .inl tm)), (g9, .inl (ax 1, 20, .inl (fun j => nI (nm j)))), (ga, .inl (ax 1, 29, .inl (fun j => nI (ck j)))), (gb, .inl (ax 1, 29, .inl (fun j => nI (co j))))] sz) := by
  refine Met.ofW (cc := b_Reader_statement) (maxL := 5) (ret := (some .int)) (by decide) rfl ?_
  intro p e s m args below meth c s₁ B hml hv
  obtain ⟨rfl, ⟨hsz, hP, hK, hD0⟩, htz⟩ := hv
  have hx := B.exec
  have hb := B.bytes
  have hr := B.returns
  have hts := xw_hts B.pre
  have hown : s.vm.findClass R_Reader = some m.cls := findClass_of_methodNamed B.named
  have hlocks := B.notSynchronized
  subst hsz
  subst htz
  have hD := hD0.self (sz := s.heap.size)
  have hN := xz_entry hP
  generalize hAe : va_A [(r0, .inr (7, [.ref k0, .ref g0, .ref n0, .int (nI gh), .int (nI at9)])), (k0, .inr (9, [.ref k1, .ref k2, .int (nI ts), .int (nI th), .int (nI ta), .int (nI tf), .int (nI nx), .int (nI am)])), (k1, .inl (ax 1, 400, .inl tb)), (k2, .inl (ax 0, 401, .inl (fun j => nI (tk j)))), (n0, .inr (4, [.ref n1, .ref n2, .ref n3, .int (nI z9)])), (n1, .inl (ax 1, cp, .inl fo)), (n2, .inl (ax 0, cp, .inl fl)), (n3, .inl (ax 0, cp, .inl fr)), (g0, .inr (2, [.ref n0, .ref g1, .ref g2, .ref g3, .ref g4, .ref g5, .ref g6, .ref g7, .ref g8, .ref g9, .ref ga, .ref gb, .int (nI cl), .int (nI ln), .int (nI br), .int (nI lp), .int (nI va)])), (g1, .inl (ax 1, 20, .inl (fun j => nI (kd j)))), (g2, .inl (ax 1, 20, .inl (fun j => nI (ow j)))), (g3, .inl (ax 1, 20, .inl (fun j => nI (sb j)))), (g4, .inl (ax 1, 20, .inl (fun j => nI (f1 j)))), (g5, .inl (ax 1, 20, .inl (fun j => nI (f2 j)))), (g6, .inl (ax 2, 20, .inl (fun j => nI (te j)))), (g7, .inl (ax 2, 20, .inl (fun j => nI (kp j)))), (g8, .inl (ax 0, 20, .inl tm)), (g9, .inl (ax 1, 20, .inl (fun j => nI (nm j)))), (ga, .inl (ax 1, 29, .inl (fun j => nI (ck j)))), (gb, .inl (ax 1, 29, .inl (fun j => nI (co j))))] s.heap.size = A at hD hN ⊢
  have hA : ∀ q : Nat, s.heap.size ≤ q → A q := fun q h => by rw [← hAe]; exact Or.inr h
  have hS : va_S A s.heap s.heap [] := va_S.rf
  have hl0 := lv_entry ([.ref r0, .int (nI o9)]) (n := 5) (Nat.le_of_ble_eq_true rfl)
  rw [lg_entry_eq]
  generalize (lg_sl ([.ref r0, .int (nI o9)]) ++ List.replicate (5 - (lg_sl ([.ref r0, .int (nI o9)])).length) Slot.unset).toArray = ls at hl0 ⊢
  have hl1 : lv_has ls 5 [(0, .ref r0), (1, .int (nI o9))] := hl0
  refine xw_gen (fun Z9 hQe => ?_)
  refine lv_aload_n hx hb d_Reader_statement_0 rfl (lv_at hl1 0 rfl) ?_
  refine va_get (D := D) (ci := 7) (v := .ref k0) (C := R_Reader) (T := F_Reader) (N := 5) hx hb hts i_Reader hown hK.1 hP 0 rfl rfl 0 (by decide) (hts _ wd_75) (fun _ h9 => h9) rfl d_Reader_statement_1 ?_
  refine va_get (D := D) (ci := 9) (v := .int (nI nx)) (C := R_Tokens) (T := F_Tokens) (N := 8) hx hb hts i_Tokens hown hK.1 hP 1 rfl rfl 6 (by decide) (hts _ wd_47) (fun _ h9 => h9) rfl d_Reader_statement_4 ?_
  refine lv_istore_n (lv' := [(2, .int (nI nx)), (0, .ref r0), (1, .int (nI o9))]) hx hb d_Reader_statement_7 rfl hl1 (by decide) rfl (fun ls hl2 => ?_)
  clear hl1; have hl1 := hl2; clear hl2
  refine lv_aload_n hx hb d_Reader_statement_8 rfl (lv_at hl1 1 rfl) ?_
  refine va_get (D := D) (ci := 7) (v := .ref g0) (C := R_Reader) (T := F_Reader) (N := 5) hx hb hts i_Reader hown hK.1 hP 0 rfl rfl 1 (by decide) (hts _ wd_76) (fun _ h9 => h9) rfl d_Reader_statement_9 ?_
  refine lv_iload_n hx hb d_Reader_statement_12 rfl (lv_at hl1 0 rfl) ?_
  obtain ⟨hPc, hDc, hFc, hCs⟩ := xw_sub3 (wc := [(g0, .inr (2, [.ref n0, .ref g1, .ref g2, .ref g3, .ref g4, .ref g5, .ref g6, .ref g7, .ref g8, .ref g9, .ref ga, .ref gb, .int (nI cl), .int (nI ln), .int (nI br), .int (nI lp), .int (nI va)])), (g1, .inl (ax 1, 20, .inl (fun j => nI (kd j)))), (g2, .inl (ax 1, 20, .inl (fun j => nI (ow j)))), (g3, .inl (ax 1, 20, .inl (fun j => nI (sb j)))), (g4, .inl (ax 1, 20, .inl (fun j => nI (f1 j)))), (g5, .inl (ax 1, 20, .inl (fun j => nI (f2 j)))), (g6, .inl (ax 2, 20, .inl (fun j => nI (te j)))), (g7, .inl (ax 2, 20, .inl (fun j => nI (kp j)))), (g8, .inl (ax 0, 20, .inl tm)), (g9, .inl (ax 1, 20, .inl (fun j => nI (nm j)))), (ga, .inl (ax 1, 29, .inl (fun j => nI (ck j)))), (gb, .inl (ax 1, 29, .inl (fun j => nI (co j))))]) hP hD hS hA [8, 9, 10, 11, 12, 13, 14, 15, 16, 17, 18, 19] (by decide) rfl
  have hz := xz_of hN hS
  refine va_calli (va_runV (As := [.int (nI nx)]) (rest := []) ⟨hx, hb, hml, hown, hts⟩ (c_L_admits l D ax g0 g1 g2 g3 g4 g5 g6 g7 g8 g9 ga gb cl ln br lp va kd ow sb f1 f2 te kp nm ck co tm n0 nx s.heap.size (by first | assumption | omega) (by first | assumption | omega) (by first | assumption | omega) (by first | assumption | omega)) (xcV (n := 1) hts wd_625 wd_12 wd_622 wd_623 wd_624 rfl rfl (by decide +kernel) ⟨(show (10) + 1 ≤ (200 + 20 * kf) by omega), (show 8 + (2 + 11) + (400) ≤ (8000 + 800 * kf) by omega)⟩) (xpV (ci := 2) (q0 := 0) (As := [.int (nI nx)]) hPc hK hz hDc rfl rfl) rfl rfl hl1.1 rfl (lv_room (Nat.le_of_ble_eq_true rfl)) d_Reader_statement_13 ⟨(show (0) + (0) ≤ (MX - cp) by omega), (show (0) + (0) ≤ (6 * (MX - cp)) by omega)⟩) hS (fun q _ h => hFc q h) hFc (fun r_3 u_1 t H_2 locs ht hvm hw hB hz1 hk1 hS1 => ?_)
  try dsimp only at hw
  obtain ⟨hw, hs_4, hs_5, hs_6⟩ := hw
  subst hw
  obtain ⟨hP1, hD1⟩ := hB
  rw [ht] at hP1
  have hjn := xw_join3 (wl := [(r0, .inr (7, [.ref k0, .ref g0, .ref n0, .int (nI gh), .int (nI at9)])), (k0, .inr (9, [.ref k1, .ref k2, .int (nI ts), .int (nI th), .int (nI ta), .int (nI tf), .int (nI nx), .int (nI am)])), (k1, .inl (ax 1, 400, .inl tb)), (k2, .inl (ax 0, 401, .inl (fun j => nI (tk j)))), (n0, .inr (4, [.ref n1, .ref n2, .ref n3, .int (nI z9)])), (n1, .inl (ax 1, cp, .inl fo)), (n2, .inl (ax 0, cp, .inl fl)), (n3, .inl (ax 0, cp, .inl fr)), (g0, .inr (2, [.ref n0, .ref g1, .ref g2, .ref g3, .ref g4, .ref g5, .ref g6, .ref g7, .ref g8, .ref g9, .ref ga, .ref gb, .int (nI cl), .int (nI ln), .int (nI br), .int (nI lp), .int (nI va)])), (g1, .inl (ax 1, 20, .inl (fun j => nI (kd j)))), (g2, .inl (ax 1, 20, .inl (fun j => nI (ow j)))), (g3, .inl (ax 1, 20, .inl (fun j => nI (sb j)))), (g4, .inl (ax 1, 20, .inl (fun j => nI (f1 j)))), (g5, .inl (ax 1, 20, .inl (fun j => nI (f2 j)))), (g6, .inl (ax 2, 20, .inl (fun j => nI (te j)))), (g7, .inl (ax 2, 20, .inl (fun j => nI (kp j)))), (g8, .inl (ax 0, 20, .inl tm)), (g9, .inl (ax 1, 20, .inl (fun j => nI (nm j)))), (ga, .inl (ax 1, 29, .inl (fun j => nI (ck j)))), (gb, .inl (ax 1, 29, .inl (fun j => nI (co j))))]) hP hD [8, 9, 10, 11, 12, 13, 14, 15, 16, 17, 18, 19] [0, 1, 2, 3, 4, 5, 6, 7] hCs (by decide) (by decide) hk1 hFc hP1 hD1 rfl
  clear hP1 hD1
  clear hPc hDc hFc hCs hz hz1 hk1 ht hvm
  clear hP hD hS
  have hS := hS1
  obtain ⟨hP, hD⟩ := hjn
  clear hS1
  refine lv_if_ne (tgt := 28) hx hb d_Reader_statement_16 (by decide) (fun c_7 => ?_) (fun c_7 => ?_)
  · replace c_7 : ¬ u_1 0 = 0 := fun hq9 => c_7 ((nI_eq (a := u_1 0) (b := 0) (by first | exact Nat.lt_of_lt_of_le (by assumption) (by decide) | exact Nat.lt_of_le_of_lt (by assumption) (by decide) | omega) (by decide)).mpr hq9)
    obtain ⟨hkn, hl20, hb4, hl4⟩ := hs_5.go (by first | assumption | omega)
    have hk2 : 2 ≤ nx := by unfold knd at hkn; omega
    obtain ⟨hok, hts9⟩ := hrs.go (by first | assumption | omega) (by first | assumption | omega)
    have hlt9 : ta < cn := hts9.1.resolve_left (by first | assumption | omega)
    have hf9 : ftf tf = 0 := by rw [hok]; rfl
    have hsml : smn ln := Or.inl (by first | assumption | omega)
    have hN5 := st_ok hrs hok (by unfold knd at hkn; omega) hl20 hb4 hl4
    refine lv_aload_n hx hb d_Reader_statement_28 rfl (lv_at hl1 1 rfl) ?_
    refine va_get (D := D) (ci := 7) (v := .ref g0) (C := R_Reader) (T := F_Reader) (N := 5) hx hb hts i_Reader hown hK.1 hP 0 rfl rfl 1 (by decide) (hts _ wd_76) (fun _ h9 => h9) rfl d_Reader_statement_29 ?_
    refine lv_iload_n hx hb d_Reader_statement_32 rfl (lv_at hl1 0 rfl) ?_
    refine lv_iload_n hx hb d_Reader_statement_33 rfl (lv_at hl1 2 rfl) ?_
    obtain ⟨hPc, hDc, hFc, hCs⟩ := xw_sub3 (wc := [(g0, .inr (2, [.ref n0, .ref g1, .ref g2, .ref g3, .ref g4, .ref g5, .ref g6, .ref g7, .ref g8, .ref g9, .ref ga, .ref gb, .int (nI cl), .int (nI ln), .int (nI br), .int (nI lp), .int (nI va)])), (g1, .inl (ax 1, 20, .inl (fun j => nI (kd j)))), (g2, .inl (ax 1, 20, .inl (fun j => nI (ow j)))), (g3, .inl (ax 1, 20, .inl (fun j => nI (sb j)))), (g4, .inl (ax 1, 20, .inl (fun j => nI (f1 j)))), (g5, .inl (ax 1, 20, .inl (fun j => nI (f2 j)))), (g6, .inl (ax 2, 20, .inl (fun j => nI (te j)))), (g7, .inl (ax 2, 20, .inl (fun j => nI (kp j)))), (g8, .inl (ax 0, 20, .inl tm)), (g9, .inl (ax 1, 20, .inl (fun j => nI (nm j)))), (ga, .inl (ax 1, 29, .inl (fun j => nI (ck j)))), (gb, .inl (ax 1, 29, .inl (fun j => nI (co j))))]) hP hD hS hA [8, 9, 10, 11, 12, 13, 14, 15, 16, 17, 18, 19] (by decide) rfl
    have hz := xz_of hN hS
    refine va_calli (va_runV (As := [.int (nI nx), .int (nI o9)]) (rest := []) ⟨hx, hb, hml, hown, hts⟩ (c_L_add l D ax g0 g1 g2 g3 g4 g5 g6 g7 g8 g9 ga gb cl ln br lp va kd ow sb f1 f2 te kp nm ck co tm n0 nx o9 H_2.size hkn hsm (by first | assumption | omega) (by first | assumption | omega) (by first | assumption | omega)) (xcV (n := 2) hts wd_629 wd_12 wd_626 wd_627 wd_628 rfl rfl (by decide +kernel) ⟨(show (10) + 1 ≤ (200 + 20 * kf) by omega), (show 8 + (3 + 11) + (400) ≤ (8000 + 800 * kf) by omega)⟩) (xpV (ci := 2) (q0 := 0) (As := [.int (nI nx), .int (nI o9)]) hPc hK hz hDc rfl rfl) rfl rfl hl1.1 rfl (lv_room (Nat.le_of_ble_eq_true rfl)) d_Reader_statement_34 ⟨(show (0) + (0) ≤ (MX - cp) by omega), (show (0) + (0) ≤ (6 * (MX - cp)) by omega)⟩) hS (fun q _ h => hFc q h) hFc (fun r_10 u_8 t H_9 locs ht hvm hw hB hz1 hk1 hS1 => ?_)
    try dsimp only at hw
    obtain ⟨hw, hs_11, hs_12⟩ := hw
    subst hw
    obtain ⟨hP1, hD1⟩ := hB
    rw [ht] at hP1
    have hjn := xw_join3 (wl := [(r0, .inr (7, [.ref k0, .ref g0, .ref n0, .int (nI gh), .int (nI at9)])), (k0, .inr (9, [.ref k1, .ref k2, .int (nI ts), .int (nI th), .int (nI ta), .int (nI tf), .int (nI nx), .int (nI am)])), (k1, .inl (ax 1, 400, .inl tb)), (k2, .inl (ax 0, 401, .inl (fun j => nI (tk j)))), (n0, .inr (4, [.ref n1, .ref n2, .ref n3, .int (nI z9)])), (n1, .inl (ax 1, cp, .inl fo)), (n2, .inl (ax 0, cp, .inl fl)), (n3, .inl (ax 0, cp, .inl fr)), (g0, .inr (2, [.ref n0, .ref g1, .ref g2, .ref g3, .ref g4, .ref g5, .ref g6, .ref g7, .ref g8, .ref g9, .ref ga, .ref gb, .int (nI cl), .int (nI (ln + 1)), .int (nI (u_8 0)), .int (nI (u_8 1)), .int (nI va)])), (g1, .inl (ax 1, 20, .inl (fun j => nI (sup kd ln nx j)))), (g2, .inl (ax 1, 20, .inl (fun j => nI (sup ow ln o9 j)))), (g3, .inl (ax 1, 20, .inl (fun j => nI (sup sb ln 4294967295 j)))), (g4, .inl (ax 1, 20, .inl (fun j => nI (sup f1 ln 4294967295 j)))), (g5, .inl (ax 1, 20, .inl (fun j => nI (sup f2 ln 4294967295 j)))), (g6, .inl (ax 2, 20, .inl (fun j => nI (te j)))), (g7, .inl (ax 2, 20, .inl (fun j => nI (kp j)))), (g8, .inl (ax 0, 20, .inl tm)), (g9, .inl (ax 1, 20, .inl (fun j => nI (sup nm ln 4294967295 j)))), (ga, .inl (ax 1, 29, .inl (fun j => nI (ck j)))), (gb, .inl (ax 1, 29, .inl (fun j => nI (co j))))]) hP hD [8, 9, 10, 11, 12, 13, 14, 15, 16, 17, 18, 19] [0, 1, 2, 3, 4, 5, 6, 7] hCs (by decide) (by decide) hk1 hFc hP1 hD1 rfl
    clear hP1 hD1
    clear hPc hDc hFc hCs hz hz1 hk1 ht hvm
    clear hP hD hS
    have hS := hS1
    obtain ⟨hP, hD⟩ := hjn
    clear hS1
    have hL_13 : okf (tf) (lst (ln + 1) z9 (sup kd ln nx) (sup ow ln o9) (sup sb ln 4294967295) (sup f1 ln 4294967295) (sup f2 ln 4294967295) te kp (sup nm ln 4294967295) (sup en ln 100) (sup kc ln 0) tm fo fl fr) := (fun q => (hls q).add hl20 hkn (how q))
    have hC_14 : okf (tf) (clm (u_8 0) cl ck co (ln + 1) (sup kd ln nx) (sup nm ln 4294967295)) := (fun q => (hcm q).add hs_11)
    have hi8 := hs_11; have hi12 := hs_12
    refine lv_istore_n (lv' := [(3, .int (nI ln)), (2, .int (nI nx)), (0, .ref r0), (1, .int (nI o9))]) hx hb d_Reader_statement_37 rfl hl1 (by decide) rfl (fun ls hl2 => ?_)
    clear hl1; have hl1 := hl2; clear hl2
    refine lv_aload_n hx hb d_Reader_statement_38 rfl (lv_at hl1 2 rfl) ?_
    refine va_get (D := D) (ci := 7) (v := .ref k0) (C := R_Reader) (T := F_Reader) (N := 5) hx hb hts i_Reader hown hK.1 hP 0 rfl rfl 0 (by decide) (hts _ wd_75) (fun _ h9 => h9) rfl d_Reader_statement_39 ?_
    refine va_get (D := D) (ci := 9) (v := .int (nI am)) (C := R_Tokens) (T := F_Tokens) (N := 8) hx hb hts i_Tokens hown hK.1 hP 1 rfl rfl 7 (by decide) (hts _ wd_49) (fun _ h9 => h9) rfl d_Reader_statement_42 ?_
    refine lv_istore (lv' := [(4, .int (nI am)), (3, .int (nI ln)), (2, .int (nI nx)), (0, .ref r0), (1, .int (nI o9))]) hx hb d_Reader_statement_45 hl1 (by decide) rfl (fun ls hl2 => ?_)
    clear hl1; have hl1 := hl2; clear hl2
    refine lv_aload_n hx hb d_Reader_statement_47 rfl (lv_at hl1 3 rfl) ?_
    refine va_get (D := D) (ci := 7) (v := .ref k0) (C := R_Reader) (T := F_Reader) (N := 5) hx hb hts i_Reader hown hK.1 hP 0 rfl rfl 0 (by decide) (hts _ wd_75) (fun _ h9 => h9) rfl d_Reader_statement_48 ?_
    obtain ⟨hPc, hDc, hFc, hCs⟩ := xw_sub3 (wc := [(k0, .inr (9, [.ref k1, .ref k2, .int (nI ts), .int (nI th), .int (nI ta), .int (nI tf), .int (nI nx), .int (nI am)])), (k1, .inl (ax 1, 400, .inl tb)), (k2, .inl (ax 0, 401, .inl (fun j => nI (tk j))))]) hP hD hS hA [1, 2, 3] (by decide) rfl
    have hz := xz_of hN hS
    refine va_callv (va_runV (As := []) (rest := []) ⟨hx, hb, hml, hown, hts⟩ (c_K_pass l D ax k0 k1 k2 tb tk ta tf nx am cn ts th H_9.size hkz (by assumption) (by first | assumption | omega) (by first | assumption | omega) (by first | assumption | omega) (by first | assumption | omega)) (xcV (n := 0) hts wd_531 wd_2 wd_564 wd_529 wd_530 rfl rfl (by decide +kernel) ⟨(show (10) + 1 ≤ (200 + 20 * kf) by omega), (show 8 + (1 + 11) + (400) ≤ (8000 + 800 * kf) by omega)⟩) (xpV (ci := 9) (q0 := 0) (As := []) hPc hK hz hDc rfl rfl) rfl rfl hl1.1 rfl (lv_room (Nat.le_of_ble_eq_true rfl)) d_Reader_statement_51 ⟨(show (0) + (0) ≤ (MX - cp) by omega), (show (0) + (0) ≤ (6 * (MX - cp)) by omega)⟩) hS (fun q _ h => hFc q h) hFc (fun u_15 t H_16 locs ht hvm hw hB hz1 hk1 hS1 => ?_)
    try dsimp only at hw
    obtain ⟨hs_18, hs_19, hs_20, hs_21, hs_22, hs_23, hs_24, hs_25, hs_26, hs_27⟩ := hw
    obtain ⟨hP1, hD1⟩ := hB
    rw [ht] at hP1
    have hjn := xw_join3 (wl := [(r0, .inr (7, [.ref k0, .ref g0, .ref n0, .int (nI gh), .int (nI at9)])), (n0, .inr (4, [.ref n1, .ref n2, .ref n3, .int (nI z9)])), (n1, .inl (ax 1, cp, .inl fo)), (n2, .inl (ax 0, cp, .inl fl)), (n3, .inl (ax 0, cp, .inl fr)), (g0, .inr (2, [.ref n0, .ref g1, .ref g2, .ref g3, .ref g4, .ref g5, .ref g6, .ref g7, .ref g8, .ref g9, .ref ga, .ref gb, .int (nI cl), .int (nI (ln + 1)), .int (nI (u_8 0)), .int (nI (u_8 1)), .int (nI va)])), (g1, .inl (ax 1, 20, .inl (fun j => nI (sup kd ln nx j)))), (g2, .inl (ax 1, 20, .inl (fun j => nI (sup ow ln o9 j)))), (g3, .inl (ax 1, 20, .inl (fun j => nI (sup sb ln 4294967295 j)))), (g4, .inl (ax 1, 20, .inl (fun j => nI (sup f1 ln 4294967295 j)))), (g5, .inl (ax 1, 20, .inl (fun j => nI (sup f2 ln 4294967295 j)))), (g6, .inl (ax 2, 20, .inl (fun j => nI (te j)))), (g7, .inl (ax 2, 20, .inl (fun j => nI (kp j)))), (g8, .inl (ax 0, 20, .inl tm)), (g9, .inl (ax 1, 20, .inl (fun j => nI (sup nm ln 4294967295 j)))), (ga, .inl (ax 1, 29, .inl (fun j => nI (ck j)))), (gb, .inl (ax 1, 29, .inl (fun j => nI (co j)))), (k0, .inr (9, [.ref k1, .ref k2, .int (nI ts), .int (nI th), .int (nI (u_15 0)), .int (nI (u_15 1)), .int (nI (u_15 2)), .int (nI (u_15 3))])), (k1, .inl (ax 1, 400, .inl tb)), (k2, .inl (ax 0, 401, .inl (fun j => nI (tk j))))]) hP hD [1, 2, 3] [0, 4, 5, 6, 7, 8, 9, 10, 11, 12, 13, 14, 15, 16, 17, 18, 19] hCs (by decide) (by decide) hk1 hFc hP1 hD1 rfl
    clear hP1 hD1
    clear hPc hDc hFc hCs hz hz1 hk1 ht hvm
    clear hP hD hS
    have hS := hS1
    obtain ⟨hP, hD⟩ := hjn
    clear hS1
    have hp9 := hs_25 hok
    have hL_28 : okf (u_15 1) (lst (ln + 1) z9 (sup kd ln nx) (sup ow ln o9) (sup sb ln 4294967295) (sup f1 ln 4294967295) (sup f2 ln 4294967295) te kp (sup nm ln 4294967295) (sup en ln 100) (sup kc ln 0) tm fo fl fr) := hL_13.back hs_23
    have hC_29 : okf (u_15 1) (clm (u_8 0) cl ck co (ln + 1) (sup kd ln nx) (sup nm ln 4294967295)) := hC_14.back hs_23
    have hN_30 : okf (u_15 1) (ndv fo fl fr z9) := hnd.back hs_23
    have hQ_31 : okf (u_15 1) (nlq fo fl fr z9 L0) := hnl.back hs_23
    have hV_32 : okf (u_15 1) (va = vct pl) := fun q => hvc (okf.of (by first | assumption | omega) q)
    have hK_33 : okf (u_15 1) (cll ck co cl = (0, 0) :: cln pl) := fun q => hcq (okf.of (by first | assumption | omega) q)
    refine lv_iload_n hx hb d_Reader_statement_54 rfl (lv_at hl1 2 rfl) ?_
    by_cases hw_34 : nx = 2
    · refine W.eq (g2 := F0 m 55 ls [.int 2]) (by rw [hw_34]; rfl) ?_
      refine lv_lookup (off := 49) (tgt := 104) hx hb d_Reader_statement_55 (by decide) (by decide) (by decide) ?_
      have hj8 : ifq nx 8 = 0 := ifq_n (by first | assumption | omega)
      have hj12 : ifq nx 12 = 0 := ifq_n (by first | assumption | omega)
      have ha6 := hts9.2.1 (by first | assumption | omega)
      refine lv_aload_n hx hb d_Reader_statement_104 rfl (lv_at hl1 3 rfl) ?_
      refine lv_iload_n hx hb d_Reader_statement_105 rfl (lv_at hl1 1 rfl) ?_
      refine lv_iload hx hb d_Reader_statement_106 (lv_at hl1 0 rfl) ?_
      obtain ⟨hPc, hDc, hFc, hCs⟩ := xw_sub3 (wc := [(r0, .inr (7, [.ref k0, .ref g0, .ref n0, .int (nI gh), .int (nI at9)])), (k0, .inr (9, [.ref k1, .ref k2, .int (nI ts), .int (nI th), .int (nI (u_15 0)), .int (nI (u_15 1)), .int (nI (u_15 2)), .int (nI (u_15 3))])), (k1, .inl (ax 1, 400, .inl tb)), (k2, .inl (ax 0, 401, .inl (fun j => nI (tk j)))), (g0, .inr (2, [.ref n0, .ref g1, .ref g2, .ref g3, .ref g4, .ref g5, .ref g6, .ref g7, .ref g8, .ref g9, .ref ga, .ref gb, .int (nI cl), .int (nI (ln + 1)), .int (nI (u_8 0)), .int (nI (u_8 1)), .int (nI va)])), (g1, .inl (ax 1, 20, .inl (fun j => nI ((sup kd ln nx) j)))), (g2, .inl (ax 1, 20, .inl (fun j => nI ((sup ow ln o9) j)))), (g3, .inl (ax 1, 20, .inl (fun j => nI ((sup sb ln 4294967295) j)))), (g4, .inl (ax 1, 20, .inl (fun j => nI ((sup f1 ln 4294967295) j)))), (g5, .inl (ax 1, 20, .inl (fun j => nI ((sup f2 ln 4294967295) j)))), (g6, .inl (ax 2, 20, .inl (fun j => nI (te j)))), (g7, .inl (ax 2, 20, .inl (fun j => nI (kp j)))), (g8, .inl (ax 0, 20, .inl tm)), (g9, .inl (ax 1, 20, .inl (fun j => nI ((sup nm ln 4294967295) j)))), (ga, .inl (ax 1, 29, .inl (fun j => nI (ck j)))), (gb, .inl (ax 1, 29, .inl (fun j => nI (co j))))]) hP hD hS hA [0, 17, 18, 19, 5, 6, 7, 8, 9, 10, 11, 12, 13, 14, 15, 16] (by decide) rfl
      have hz := xz_of hN hS
      refine va_callv (va_runV (As := [.int (nI ln), .int (nI am)]) (rest := []) ⟨hx, hb, hml, hown, hts⟩ (c_R_assignment l D ax r0 k0 k1 k2 tb tk (u_15 0) (u_15 1) (u_15 2) (u_15 3) cn ts th gh at9 n0 ln am g0 g1 g2 g3 g4 g5 g6 g7 g8 g9 ga gb cl (ln + 1) (u_8 0) (u_8 1) va (sup kd ln nx) (sup ow ln o9) (sup sb ln 4294967295) (sup f1 ln 4294967295) (sup f2 ln 4294967295) te kp (sup nm ln 4294967295) ck co tm H_16.size hkz (by assumption) (by first | assumption | omega) (by first | assumption | omega) (by first | assumption | omega) (by first | assumption | omega) (by first | assumption | omega) (by have := hts9.2.1 (by first | assumption | omega); omega)) (xcV (n := 2) hts wd_633 wd_3 wd_630 wd_632 ps_16 rfl rfl (by decide +kernel) ⟨(show (40) + 1 ≤ (200 + 20 * kf) by omega), (show 8 + (3 + 11) + (1600) ≤ (8000 + 800 * kf) by omega)⟩) (xpV (ci := 7) (q0 := 0) (As := [.int (nI ln), .int (nI am)]) hPc hK hz hDc rfl rfl) rfl rfl hl1.1 rfl (lv_room (Nat.le_of_ble_eq_true rfl)) d_Reader_statement_108 ⟨(show (0) + (0) ≤ (MX - cp) by omega), (show (0) + (0) ≤ (6 * (MX - cp)) by omega)⟩) hS (fun q _ h => hFc q h) hFc (fun u_35 t H_36 locs ht hvm hw hB hz1 hk1 hS1 => ?_)
      try dsimp only at hw
      obtain ⟨hs_38, hs_39, hs_40, hs_41, hs_42, hs_43, hs_44⟩ := hw
      obtain ⟨x_45, hx_46, hx_47, hx_48, hP1, hD1⟩ := hB
      rw [ht] at hP1
      have hjn := xw_join3 (wl := [(n0, .inr (4, [.ref n1, .ref n2, .ref n3, .int (nI z9)])), (n1, .inl (ax 1, cp, .inl fo)), (n2, .inl (ax 0, cp, .inl fl)), (n3, .inl (ax 0, cp, .inl fr)), (r0, .inr (7, [.ref k0, .ref g0, .ref n0, .int (nI gh), .int (nI at9)])), (k0, .inr (9, [.ref k1, .ref k2, .int (nI ts), .int (nI th), .int (nI (u_35 0)), .int (nI (u_35 1)), .int (nI (u_35 2)), .int (nI (u_35 3))])), (k1, .inl (ax 1, 400, .inl tb)), (k2, .inl (ax 0, 401, .inl (fun j => nI (tk j)))), (g0, .inr (2, [.ref n0, .ref g1, .ref g2, .ref g3, .ref g4, .ref g5, .ref g6, .ref g7, .ref g8, .ref g9, .ref ga, .ref gb, .int (nI cl), .int (nI (ln + 1)), .int (nI (u_8 0)), .int (nI (u_8 1)), .int (nI va)])), (g1, .inl (ax 1, 20, .inl (fun j => nI ((sup kd ln nx) j)))), (g2, .inl (ax 1, 20, .inl (fun j => nI ((sup ow ln o9) j)))), (g3, .inl (ax 1, 20, .inl (fun j => nI ((sup sb ln 4294967295) j)))), (g4, .inl (ax 1, 20, .inl (fun j => nI ((sup f1 ln 4294967295) j)))), (g5, .inl (ax 1, 20, .inl (fun j => nI ((sup f2 ln 4294967295) j)))), (g6, .inl (ax 2, 20, .inl (fun j => nI (te j)))), (g7, .inl (ax 2, 20, .inl (fun j => nI (kp j)))), (g8, .inl (ax 0, 20, .inl x_45)), (g9, .inl (ax 1, 20, .inl (fun j => nI (sup (sup nm ln 4294967295) ln am j)))), (ga, .inl (ax 1, 29, .inl (fun j => nI (ck j)))), (gb, .inl (ax 1, 29, .inl (fun j => nI (co j))))]) hP hD [0, 17, 18, 19, 5, 6, 7, 8, 9, 10, 11, 12, 13, 14, 15, 16] [1, 2, 3, 4] hCs (by decide) (by decide) hk1 hFc hP1 hD1 rfl
      clear hP1 hD1
      clear hPc hDc hFc hCs hz hz1 hk1 ht hvm
      clear hP hD hS
      have hS := hS1
      obtain ⟨hP, hD⟩ := hjn
      clear hS1
      have hL_49 : okf (u_35 1) (lst (ln + 1) z9 (sup kd ln nx) (sup ow ln o9) (sup sb ln 4294967295) (sup f1 ln 4294967295) (sup f2 ln 4294967295) te kp (sup (sup nm ln 4294967295) ln am) (sup en ln 100) (sup kc ln 0) x_45 fo fl fr) := (fun q => (hL_28 (okf.of hs_43 q)).same (by first | assumption | omega) sup_eq (fun i hi => rfl) (fun i hi => rfl) (fun i hi => rfl) (fun i hi => rfl) (fun i hi => sup_ne hi) hx_46)
      have hC_50 : okf (u_35 1) (clm (u_8 0) cl ck co (ln + 1) (sup kd ln nx) (sup (sup nm ln 4294967295) ln am)) := (fun q => (hC_29 (okf.of hs_43 q)).up (fun i hi => ⟨rfl, fun h => sup128 h (by first | assumption | omega)⟩))
      have hN_51 : okf (u_35 1) (ndv fo fl fr z9) := hN_30.back hs_43
      have hQ_52 : okf (u_35 1) (nlq fo fl fr z9 L0) := hQ_31.back hs_43
      refine lv_goto (tgt := 184) hx hb d_Reader_statement_111 (by decide) ?_
      have hF : okf (u_35 1) ((lst (ln + 1) z9 (sup kd ln nx) (sup ow ln o9) (sup sb ln 4294967295) (sup f1 ln 4294967295) (sup f2 ln 4294967295) te kp (sup (sup nm ln 4294967295) ln am) (sup (sup en ln 100) ln (ln + 1)) (sup kc ln 0) x_45 fo fl fr) ∧ (cls ln (ln + 1) (sup (sup en ln 100) ln (ln + 1))) ∧ (sam ln kd ow sb f1 f2 te kp nm en kc (sup kd ln nx) (sup ow ln o9) (sup sb ln 4294967295) (sup f1 ln 4294967295) (sup f2 ln 4294967295) te kp (sup (sup nm ln 4294967295) ln am) (sup (sup en ln 100) ln (ln + 1)) (sup kc ln 0) tm x_45) ∧ (∀ i, i < z9 → tsn fo fl fr i = tsn fo fl fr i)) := by
        intro q
        refine ⟨(hL_49 q).close (by first | assumption | omega) sup_eq (fun i h1 h2 => by omega) ⟨fun _ => ⟨by rw [sup_eq]; exact hts9.2.1 (by first | assumption | omega), hx_47⟩, fun h => by rw [sup_eq] at h; omega, fun h => by rw [sup_eq] at h; omega, fun h => by rw [sup_eq] at h; omega⟩, fun i h1 h2 => ?_, fun i hi => by refine ⟨?_, ?_, ?_, ?_, ?_, ?_, ?_, ?_, ?_, ?_, ?_⟩ <;> first | rfl | exact sup_ne (by first | assumption | omega) | (rw [sup_ne (by first | assumption | omega), sup_ne (by first | assumption | omega)]) | exact hx_46 i (by first | assumption | omega), (fun i hi => rfl)⟩
        rw [show i = ln by omega, sup_eq]; exact Nat.le_refl _
      have hb9 : cku tk ta = 2 := (hrs.ck hok).trans (by first | assumption | omega)
      have hI9 : okf (u_35 1) (icu tk ta (0, 0, am, (tmu tk (u_15 0 + 1)), [], [])) := fun q => ia_set hb9 (hrs.cv hok) (hs_25 hok) hx_48 (hs_26.trans hok) q
      have hB9 : okf (u_35 1) (bk9 ln (ln + 1) (sup kd ln nx) (sup ow ln o9) (sup sb ln 4294967295) (sup f1 ln 4294967295) (sup f2 ln 4294967295) te kp (sup (sup nm ln 4294967295) ln am) x_45 L0 o9 ln pl (pl ++ [(0, ln + 1, am, (tmu tk (u_15 0 + 1)), [], [])])) := fun q => by
        have sup_eq9 : (sup kd ln nx) ln = 2 := by rw [sup_eq]; omega
        exact bk9_one (by rw [sup_eq]; omega) (by rw [sup_eq, show nx = 2 by omega]; rfl) sup_eq sup_eq (itm_as sup_eq9 (by rw [sup_eq]) (hx_48 (hs_26.trans hok) (okf.of (by first | assumption | omega) q)).2.2.1 (hx_48 (hs_26.trans hok) (okf.of (by first | assumption | omega) q)).2.2.2)
      have hB8 : okf (u_35 1) (nlq fo fl fr z9 L0 ∧ prx L0 L0) := fun q => ⟨hQ_52 (okf.of (by first | assumption | omega) q), prx.rf⟩
      have hB7 : okf (u_35 1) (va = vct (pl ++ [(0, ln + 1, am, (tmu tk (u_15 0 + 1)), [], [])])) := fun q => by rw [vct_app, vct_n (x := (0, ln + 1, am, (tmu tk (u_15 0 + 1)), [], [])) (show ¬ (0 : Nat) = 5 by decide)]; exact hvc (okf.of (by first | assumption | omega) q)
      have hB6 : okf (u_35 1) (cll ck co cl = (0, 0) :: cln (pl ++ [(0, ln + 1, am, (tmu tk (u_15 0 + 1)), [], [])])) := fun q => cq_n (x := (0, ln + 1, am, (tmu tk (u_15 0 + 1)), [], [])) (hcq (okf.of (by first | assumption | omega) q)) (show ¬ (0 : Nat) = 5 by decide) (show ¬ (0 : Nat) = 8 by decide)
      refine lv_iload_n hx hb d_Reader_statement_184 rfl (lv_at hl1 1 rfl) ?_
      rw [← hQe]
      refine wk_know (fun hk8 hk9 => ?_)
      refine W.widen (k := MX - cp) (n := 6 * (MX - cp)) (by first | assumption | omega) (by first | assumption | omega) ?_
      obtain ⟨hP9, hD9⟩ := xw_sub2 (wc := (fun (u : Nat → Nat) (xkd : Nat → Nat) (xow : Nat → Nat) (xsb : Nat → Nat) (xf1 : Nat → Nat) (xf2 : Nat → Nat) (xte : Nat → Nat) (xkp : Nat → Nat) (xnm : Nat → Nat) (xck : Nat → Nat) (xco : Nat → Nat) (xtm : Nat → Int32) (xfo : Nat → Int32) (xfl : Nat → Int32) (xfr : Nat → Int32) (xen : Nat → Nat) (xkc : Nat → Nat) (xpl : List itT) (xL : List sgT) => [(r0, .inr (7, [.ref k0, .ref g0, .ref n0, .int (nI (u 11)), .int (nI (u 9))])), (k0, .inr (9, [.ref k1, .ref k2, .int (nI ts), .int (nI th), .int (nI (u 0)), .int (nI (u 1)), .int (nI (u 2)), .int (nI (u 3))])), (k1, .inl (ax 1, 400, .inl tb)), (k2, .inl (ax 0, 401, .inl (fun j => nI (tk j)))), (n0, .inr (4, [.ref (u 4), .ref (u 5), .ref (u 6), .int (nI (u 7))])), (u 4, .inl (ax 1, u 8, .inl xfo)), (u 5, .inl (ax 0, u 8, .inl xfl)), (u 6, .inl (ax 0, u 8, .inl xfr)), (g0, .inr (2, [.ref n0, .ref g1, .ref g2, .ref g3, .ref g4, .ref g5, .ref g6, .ref g7, .ref g8, .ref g9, .ref ga, .ref gb, .int (nI (u 12)), .int (nI (u 13)), .int (nI (u 14)), .int (nI (u 15)), .int (nI (u 16))])), (g1, .inl (ax 1, 20, .inl (fun j => nI (xkd j)))), (g2, .inl (ax 1, 20, .inl (fun j => nI (xow j)))), (g3, .inl (ax 1, 20, .inl (fun j => nI (xsb j)))), (g4, .inl (ax 1, 20, .inl (fun j => nI (xf1 j)))), (g5, .inl (ax 1, 20, .inl (fun j => nI (xf2 j)))), (g6, .inl (ax 2, 20, .inl (fun j => nI (xte j)))), (g7, .inl (ax 2, 20, .inl (fun j => nI (xkp j)))), (g8, .inl (ax 0, 20, .inl xtm)), (g9, .inl (ax 1, 20, .inl (fun j => nI (xnm j)))), (ga, .inl (ax 1, 29, .inl (fun j => nI (xck j)))), (gb, .inl (ax 1, 29, .inl (fun j => nI (xco j))))]) (ixn [(u_35 0), (u_35 1), (u_35 2), (u_35 3), n1, n2, n3, z9, cp, at9, ln, gh, cl, (ln + 1), (u_8 0), (u_8 1), va]) (sup kd ln nx) (sup ow ln o9) (sup sb ln 4294967295) (sup f1 ln 4294967295) (sup f2 ln 4294967295) te kp (sup (sup nm ln 4294967295) ln am) ck co x_45 fo fl fr (sup (sup en ln 100) ln (ln + 1)) (sup kc ln 0) (pl ++ [(0, ln + 1, am, (tmu tk (u_15 0 + 1)), [], [])]) L0) hP hD [4, 5, 6, 7, 0, 1, 2, 3, 8, 9, 10, 11, 12, 13, 14, 15, 16, 17, 18, 19] (by decide) rfl
      have hex0 : okf ((u_35 1)) (lst ((ln + 1)) (z9) (sup kd ln nx) (sup ow ln o9) (sup sb ln 4294967295) (sup f1 ln 4294967295) (sup f2 ln 4294967295) te kp (sup (sup nm ln 4294967295) ln am) (sup (sup en ln 100) ln (ln + 1)) (sup kc ln 0) x_45 fo fl fr) := (fun q => (hF q).1)
      have hex1 : okf ((u_35 1)) (cls ln ((ln + 1)) (sup (sup en ln 100) ln (ln + 1))) := (fun q => (hF q).2.1)
      have hex2 : okf ((u_35 1)) (sam ln kd ow sb f1 f2 te kp nm en kc (sup kd ln nx) (sup ow ln o9) (sup sb ln 4294967295) (sup f1 ln 4294967295) (sup f2 ln 4294967295) te kp (sup (sup nm ln 4294967295) ln am) (sup (sup en ln 100) ln (ln + 1)) (sup kc ln 0) tm x_45) := (fun q => (hF q).2.2.1)
      have hex3 : okf ((u_35 1)) (ln = ln ∧ ln < (ln + 1)) := (fun q => ⟨rfl, by omega⟩)
      have hex4 : okf ((u_35 1)) (clm ((u_8 0)) (cl) ck co ((ln + 1)) (sup kd ln nx) (sup (sup nm ln 4294967295) ln am)) := hC_50
      have hex5 : okf ((u_35 1)) (ndv fo fl fr (z9)) := hN_51
      have hex6 : bts fo (cp) := (by assumption)
      have hex7 : okf ((u_35 1)) (∀ i, i < z9 → tsn fo fl fr i = tsn fo fl fr i) := (fun q => (hF q).2.2.2)
      have hex8 : psS tk tf ta sg ln br lp pl ((u_35 1)) ((u_35 0)) ((ln + 1)) ((u_8 0)) ((u_8 1)) (pl ++ [(0, ln + 1, am, (tmu tk (u_15 0 + 1)), [], [])]) := (st_one hrs hok hN5 (by first | assumption | omega) (so_set hrs hok (by first | assumption | omega) (hs_25 hok) hs_26 hs_44) hI9 (by first | assumption | omega) (by first | assumption | omega) (by first | assumption | omega) (by rw [gI_n (x := (0, 0, am, (tmu tk (u_15 0 + 1)), [], [])) (show ¬ (0 : Nat) = 5 by decide)]))
      have hex9 : okf ((u_35 1)) (bk9 ln ((ln + 1)) (sup kd ln nx) (sup ow ln o9) (sup sb ln 4294967295) (sup f1 ln 4294967295) (sup f2 ln 4294967295) te kp (sup (sup nm ln 4294967295) ln am) x_45 L0 o9 ln pl (pl ++ [(0, ln + 1, am, (tmu tk (u_15 0 + 1)), [], [])])) := hB9
      have hex10 : okf ((u_35 1)) (nlq fo fl fr (z9) L0 ∧ prx L0 L0) := hB8
      have hex11 : okf ((u_35 1)) (va = vct (pl ++ [(0, ln + 1, am, (tmu tk (u_15 0 + 1)), [], [])])) := hB7
      have hex12 : okf ((u_35 1)) (cll ck co (cl) = (0, 0) :: cln (pl ++ [(0, ln + 1, am, (tmu tk (u_15 0 + 1)), [], [])])) := hB6
      have hg8 : H_36.size ≤ s.heap.size + (cp - cp) := by omega
      have hg9 : tsl H_36 ≤ tsl s.heap + (6 * (cp - cp)) := by omega
      have hsp0 : rst tk ((u_35 1)) ((u_35 2)) ((u_35 3)) ((u_35 0)) cn := (by assumption)
      have hsp1 : (u_35 0) ≤ cn := (by first | assumption | omega)
      have hsp2 : (u_35 2) < 128 := (by first | assumption | omega)
      have hsp3 : (u_35 3) < 1024 := (by first | assumption | omega)
      have hsp4 : ta ≤ (u_35 0) := (by first | assumption | omega)
      have hsp5 : ftf tf ≤ ftf ((u_35 1)) := (by first | assumption | omega)
      have hsp6 : z9 ≤ z9 := (by first | assumption | omega)
      have hsp7 : z9 + ta ≤ z9 + (u_35 0) + 2 * ((ln + 1) - ln) := (by first | assumption | omega)
      have hsp8 : z9 ≤ cp := (by first | assumption | omega)
      have hsp9 : cp ≤ cp := (by first | assumption | omega)
      have hsp10 : cp ≤ MX := (by first | assumption | omega)
      have hsp11 : gh ≤ 1 := (by first | assumption | omega)
      have hsp12 : cl ≤ 1 + 2 * (u_8 1) + (ln + 1) := (by first | assumption | omega)
      have hsp13 : ln ≤ (ln + 1) := (by first | assumption | omega)
      have hsp14 : (ln + 1) ≤ 20 := (by first | assumption | omega)
      have hsp15 : br ≤ (u_8 0) := (by first | assumption | omega)
      have hsp16 : (u_8 0) ≤ 4 := (by first | assumption | omega)
      have hsp17 : lp ≤ (u_8 1) := (by first | assumption | omega)
      have hsp18 : (u_8 1) ≤ 4 := (by first | assumption | omega)
      have hsp19 : va ≤ (u_8 1) := (by first | assumption | omega)
      have hsp20 : smn (ln) := hsml
      exact W.iret (v := nI ln) hx hb hr (fun t ht hW => ⟨⟨nI ln, ixn [(u_35 0), (u_35 1), (u_35 2), (u_35 3), n1, n2, n3, z9, cp, at9, ln, gh, cl, (ln + 1), (u_8 0), (u_8 1), va], rfl, ⟨rfl, ⟨hsp0, hsp1, hsp2, hsp3, hsp4, hsp5, hsp6, hsp7, hsp8, hsp9, hsp10, hsp11, hsp12, hsp13, hsp14, hsp15, hsp16, hsp17, hsp18, hsp19, hsp20⟩⟩, ⟨sup kd ln nx, sup ow ln o9, sup sb ln 4294967295, sup f1 ln 4294967295, sup f2 ln 4294967295, te, kp, sup (sup nm ln 4294967295) ln am, ck, co, x_45, fo, fl, fr, sup (sup en ln 100) ln (ln + 1), sup kc ln 0, (pl ++ [(0, ln + 1, am, (tmu tk (u_15 0 + 1)), [], [])]), L0, by rw [ht]; exact hg8, by rw [ht]; exact hg9, hex0, hex1, hex2, hex3, hex4, hex5, hex6, hex7, hex8, hex9, hex10, hex11, hex12, by rw [ht]; exact hP9, hD9⟩⟩, hS.F ht⟩) hS.2.2 d_Reader_statement_185
    by_cases hw_53 : nx = 8
    · refine W.eq (g2 := F0 m 55 ls [.int 8]) (by rw [hw_53]; rfl) ?_
      refine lv_lookup (off := 59) (tgt := 114) hx hb d_Reader_statement_55 (by decide) (by decide) (by decide) ?_
      have hj8 : ifq nx 8 = 1 := ifq_y (by first | assumption | omega)
      have hj12 : ifq nx 12 = 0 := ifq_n (by first | assumption | omega)
      have hbl : br < 4 := hb4 (by first | assumption | omega)
      obtain ⟨j9, hj9⟩ : ∃ j, j + 1 = kf := ⟨kf - 1, by omega⟩
      have hop9 : okf (u_15 1) (sup en ln 100 ln = 100 ∧ sup kd ln nx ln = 8) := fun _ => ⟨sup_eq, by rw [sup_eq]; omega⟩
      have hb9 : cku tk ta = 8 := (hrs.ck hok).trans (by first | assumption | omega)
      have hsb9 : okf (u_15 1) (sup sb ln 4294967295 ln = 4294967295) := fun _ => sup_eq
      refine lv_aload_n hx hb d_Reader_statement_114 rfl (lv_at hl1 3 rfl) ?_
      refine lv_iload_n hx hb d_Reader_statement_115 rfl (lv_at hl1 1 rfl) ?_
      obtain ⟨hPc, hDc, hFc, hCs⟩ := xw_sub3 (wc := [(r0, .inr (7, [.ref k0, .ref g0, .ref n0, .int (nI gh), .int (nI at9)])), (k0, .inr (9, [.ref k1, .ref k2, .int (nI ts), .int (nI th), .int (nI (u_15 0)), .int (nI (u_15 1)), .int (nI (u_15 2)), .int (nI (u_15 3))])), (k1, .inl (ax 1, 400, .inl tb)), (k2, .inl (ax 0, 401, .inl (fun j => nI (tk j)))), (n0, .inr (4, [.ref n1, .ref n2, .ref n3, .int (nI z9)])), (n1, .inl (ax 1, cp, .inl fo)), (n2, .inl (ax 0, cp, .inl fl)), (n3, .inl (ax 0, cp, .inl fr)), (g0, .inr (2, [.ref n0, .ref g1, .ref g2, .ref g3, .ref g4, .ref g5, .ref g6, .ref g7, .ref g8, .ref g9, .ref ga, .ref gb, .int (nI cl), .int (nI (ln + 1)), .int (nI (u_8 0)), .int (nI (u_8 1)), .int (nI va)])), (g1, .inl (ax 1, 20, .inl (fun j => nI ((sup kd ln nx) j)))), (g2, .inl (ax 1, 20, .inl (fun j => nI ((sup ow ln o9) j)))), (g3, .inl (ax 1, 20, .inl (fun j => nI ((sup sb ln 4294967295) j)))), (g4, .inl (ax 1, 20, .inl (fun j => nI ((sup f1 ln 4294967295) j)))), (g5, .inl (ax 1, 20, .inl (fun j => nI ((sup f2 ln 4294967295) j)))), (g6, .inl (ax 2, 20, .inl (fun j => nI (te j)))), (g7, .inl (ax 2, 20, .inl (fun j => nI (kp j)))), (g8, .inl (ax 0, 20, .inl tm)), (g9, .inl (ax 1, 20, .inl (fun j => nI ((sup nm ln 4294967295) j)))), (ga, .inl (ax 1, 29, .inl (fun j => nI (ck j)))), (gb, .inl (ax 1, 29, .inl (fun j => nI (co j))))]) hP hD hS hA [0, 17, 18, 19, 1, 2, 3, 4, 5, 6, 7, 8, 9, 10, 11, 12, 13, 14, 15, 16] (by decide) rfl
      have hz := xz_of hN hS
      refine wk_know (fun hk8 hk9 => ?_)
      refine va_callv (va_runV (As := [.int (nI ln)]) (rest := []) ⟨hx, hb, hml, hown, hts⟩ (c_R_branch l j9 (hrec j9 hj9) D ax r0 k0 k1 k2 tb tk (u_15 0) (u_15 1) (u_15 2) (u_15 3) cn ts th gh at9 n0 n1 n2 n3 cp z9 fo fl fr g0 g1 g2 g3 g4 g5 g6 g7 g8 g9 ga gb cl (ln + 1) (u_8 0) (u_8 1) va (sup kd ln nx) (sup ow ln o9) (sup sb ln 4294967295) (sup f1 ln 4294967295) (sup f2 ln 4294967295) te kp (sup nm ln 4294967295) ck co tm MX (sup en ln 100) (sup kc ln 0) sg pl L0 ln ta H_16.size (tsl H_16) hkz (by assumption) (by first | assumption | omega) (by first | assumption | omega) (by first | assumption | omega) (by first | assumption | omega) (by first | assumption | omega) (by first | assumption | omega) (by first | assumption | omega) (by first | assumption | omega) (by assumption) (by assumption) (by first | assumption | omega) (by first | assumption | omega) (by first | assumption | omega) (by first | assumption | omega) (by first | assumption | omega) (by assumption) (by assumption) (by assumption) (by assumption) (by assumption) (by first | assumption | omega) (by first | assumption | omega) hop9 (by first | assumption | omega) hb9 hp9 rfl hsb9) (xcV (n := 1) hts wd_637 wd_3 wd_634 wd_636 ps_17 rfl rfl (by decide +kernel) ⟨(show (210 + 20 * j9) + 1 ≤ (200 + 20 * kf) by omega), (show 8 + (2 + 11) + (8200 + 800 * j9) ≤ (8000 + 800 * kf) by omega)⟩) (xpV3 (ci := 7) (q0 := 0) (As := [.int (nI ln)]) hPc hK hz hDc rfl rfl) rfl rfl hl1.1 rfl (lv_room (Nat.le_of_ble_eq_true rfl)) d_Reader_statement_116 ⟨(show (0) + (MX - cp) ≤ (MX - cp) by omega), (show (0) + (6 * (MX - cp)) ≤ (6 * (MX - cp)) by omega)⟩) hS (fun q _ h => hFc q h) hFc (fun u_54 t H_55 locs ht hvm hw hB hz1 hk1 hS1 => ?_)
      try dsimp only at hw
      obtain ⟨hs_57, hs_58, hs_59, hs_60, hs_61, hs_62, hs_63, hs_64, hs_65, hs_66, hs_67, hs_68, hs_69, hs_70, hs_71, hs_72, hs_73, hs_74, hs_75, hs_76⟩ := hw
      obtain ⟨x_77, x_78, x_79, x_80, x_81, x_82, x_83, x_84, x_85, x_86, x_87, x_88, x_89, x_90, x_91, x_92, x_93, x_94, hg8, hg9, hx_95, hx_96, hx_97, hx_98, hx_99, hx_100, hx_101, hx_102, hx_103, hx_104, hx_105, hx_106, hx_107, hP1, hD1⟩ := hB
      rw [ht] at hg8 hg9 hP1
      have hjn := xw_join3 (wl := [(r0, .inr (7, [.ref k0, .ref g0, .ref n0, .int (nI (u_54 11)), .int (nI (u_54 9))])), (k0, .inr (9, [.ref k1, .ref k2, .int (nI ts), .int (nI th), .int (nI (u_54 0)), .int (nI (u_54 1)), .int (nI (u_54 2)), .int (nI (u_54 3))])), (k1, .inl (ax 1, 400, .inl tb)), (k2, .inl (ax 0, 401, .inl (fun j => nI (tk j)))), (n0, .inr (4, [.ref (u_54 4), .ref (u_54 5), .ref (u_54 6), .int (nI (u_54 7))])), ((u_54 4), .inl (ax 1, u_54 8, .inl x_88)), ((u_54 5), .inl (ax 0, u_54 8, .inl x_89)), ((u_54 6), .inl (ax 0, u_54 8, .inl x_90)), (g0, .inr (2, [.ref n0, .ref g1, .ref g2, .ref g3, .ref g4, .ref g5, .ref g6, .ref g7, .ref g8, .ref g9, .ref ga, .ref gb, .int (nI (u_54 12)), .int (nI (u_54 13)), .int (nI (u_54 14)), .int (nI (u_54 15)), .int (nI (u_54 16))])), (g1, .inl (ax 1, 20, .inl (fun j => nI (x_77 j)))), (g2, .inl (ax 1, 20, .inl (fun j => nI (x_78 j)))), (g3, .inl (ax 1, 20, .inl (fun j => nI (x_79 j)))), (g4, .inl (ax 1, 20, .inl (fun j => nI (x_80 j)))), (g5, .inl (ax 1, 20, .inl (fun j => nI (x_81 j)))), (g6, .inl (ax 2, 20, .inl (fun j => nI (x_82 j)))), (g7, .inl (ax 2, 20, .inl (fun j => nI (x_83 j)))), (g8, .inl (ax 0, 20, .inl x_87)), (g9, .inl (ax 1, 20, .inl (fun j => nI (x_84 j)))), (ga, .inl (ax 1, 29, .inl (fun j => nI (x_85 j)))), (gb, .inl (ax 1, 29, .inl (fun j => nI (x_86 j))))]) hP hD [0, 17, 18, 19, 1, 2, 3, 4, 5, 6, 7, 8, 9, 10, 11, 12, 13, 14, 15, 16] [] hCs (by decide) (by decide) hk1 hFc hP1 hD1 rfl
      clear hP1 hD1
      clear hPc hDc hFc hCs hz hz1 hk1 ht hvm
      clear hP hD hS
      have hS := hS1
      obtain ⟨hP, hD⟩ := hjn
      clear hS1
      refine wk_narrow (k := u_54 8 - cp) (n := 6 * (u_54 8 - cp)) (by first | assumption | omega) (by first | assumption | omega) ?_
      clear hk8 hk9 hg8 hg9
      refine lv_goto (tgt := 184) hx hb d_Reader_statement_119 (by decide) ?_
      have hF : okf (u_54 1) ((lst (u_54 13) (u_54 7) x_77 x_78 x_79 x_80 x_81 x_82 x_83 x_84 (sup x_91 ln (u_54 13)) x_92 x_87 x_88 x_89 x_90) ∧ (cls ln (u_54 13) (sup x_91 ln (u_54 13))) ∧ (sam ln kd ow sb f1 f2 te kp nm en kc x_77 x_78 x_79 x_80 x_81 x_82 x_83 x_84 (sup x_91 ln (u_54 13)) x_92 tm x_87) ∧ (∀ i, i < z9 → tsn x_88 x_89 x_90 i = tsn fo fl fr i)) := by
        intro q
        have hse := hx_97 q; have hcl1 := hx_96 q
        have hen := hse.2.2.2.2.trans sup_eq
        refine ⟨(hx_95 q).close (by first | assumption | omega) hen (fun i h1 h2 => hcl1 i (by first | assumption | omega) h2) (hx_98 q), fun i h1 h2 => ?_, fun i hi => ?_, hx_102 q⟩
        · by_cases e9 : i = ln
          · subst e9; rw [sup_eq]; exact Nat.le_refl _
          · rw [sup_ne e9]; exact hcl1 i (by first | assumption | omega) h2
        · obtain ⟨x1, x2, x3, x4, x5, x6, x7, x8, x9, x10, x11⟩ := hse.1 i (by first | assumption | omega) (by first | assumption | omega)
          have hne : i ≠ ln := by omega
          exact ⟨x1.trans (sup_ne hne), x2.trans (sup_ne hne), x3.trans (sup_ne hne), x4.trans (sup_ne hne), x5.trans (sup_ne hne), x6, x7, x8.trans (sup_ne hne), (sup_ne hne).trans (x9.trans (sup_ne hne)), x10.trans (sup_ne hne), x11⟩
      have hB9 : okf (u_54 1) (bk9 ln (u_54 13) x_77 x_78 x_79 x_80 x_81 x_82 x_83 x_84 x_87 x_94 o9 ln pl x_93) := fun q => by have h9 := hx_104 q; rw [sup_eq] at h9; exact h9
      refine lv_iload_n hx hb d_Reader_statement_184 rfl (lv_at hl1 1 rfl) ?_
      rw [← hQe]
      refine wk_know (fun hk8 hk9 => ?_)
      refine W.widen (k := MX - cp) (n := 6 * (MX - cp)) (by first | assumption | omega) (by first | assumption | omega) ?_
      obtain ⟨hP9, hD9⟩ := xw_sub2 (wc := (fun (u : Nat → Nat) (xkd : Nat → Nat) (xow : Nat → Nat) (xsb : Nat → Nat) (xf1 : Nat → Nat) (xf2 : Nat → Nat) (xte : Nat → Nat) (xkp : Nat → Nat) (xnm : Nat → Nat) (xck : Nat → Nat) (xco : Nat → Nat) (xtm : Nat → Int32) (xfo : Nat → Int32) (xfl : Nat → Int32) (xfr : Nat → Int32) (xen : Nat → Nat) (xkc : Nat → Nat) (xpl : List itT) (xL : List sgT) => [(r0, .inr (7, [.ref k0, .ref g0, .ref n0, .int (nI (u 11)), .int (nI (u 9))])), (k0, .inr (9, [.ref k1, .ref k2, .int (nI ts), .int (nI th), .int (nI (u 0)), .int (nI (u 1)), .int (nI (u 2)), .int (nI (u 3))])), (k1, .inl (ax 1, 400, .inl tb)), (k2, .inl (ax 0, 401, .inl (fun j => nI (tk j)))), (n0, .inr (4, [.ref (u 4), .ref (u 5), .ref (u 6), .int (nI (u 7))])), (u 4, .inl (ax 1, u 8, .inl xfo)), (u 5, .inl (ax 0, u 8, .inl xfl)), (u 6, .inl (ax 0, u 8, .inl xfr)), (g0, .inr (2, [.ref n0, .ref g1, .ref g2, .ref g3, .ref g4, .ref g5, .ref g6, .ref g7, .ref g8, .ref g9, .ref ga, .ref gb, .int (nI (u 12)), .int (nI (u 13)), .int (nI (u 14)), .int (nI (u 15)), .int (nI (u 16))])), (g1, .inl (ax 1, 20, .inl (fun j => nI (xkd j)))), (g2, .inl (ax 1, 20, .inl (fun j => nI (xow j)))), (g3, .inl (ax 1, 20, .inl (fun j => nI (xsb j)))), (g4, .inl (ax 1, 20, .inl (fun j => nI (xf1 j)))), (g5, .inl (ax 1, 20, .inl (fun j => nI (xf2 j)))), (g6, .inl (ax 2, 20, .inl (fun j => nI (xte j)))), (g7, .inl (ax 2, 20, .inl (fun j => nI (xkp j)))), (g8, .inl (ax 0, 20, .inl xtm)), (g9, .inl (ax 1, 20, .inl (fun j => nI (xnm j)))), (ga, .inl (ax 1, 29, .inl (fun j => nI (xck j)))), (gb, .inl (ax 1, 29, .inl (fun j => nI (xco j))))]) (ixn [(u_54 0), (u_54 1), (u_54 2), (u_54 3), (u_54 4), (u_54 5), (u_54 6), (u_54 7), (u_54 8), (u_54 9), ln, (u_54 11), (u_54 12), (u_54 13), (u_54 14), (u_54 15), (u_54 16)]) x_77 x_78 x_79 x_80 x_81 x_82 x_83 x_84 x_85 x_86 x_87 x_88 x_89 x_90 (sup x_91 ln (u_54 13)) x_92 x_93 x_94) hP hD [0, 1, 2, 3, 4, 5, 6, 7, 8, 9, 10, 11, 12, 13, 14, 15, 16, 17, 18, 19] (by decide) rfl
      have hex0 : okf ((u_54 1)) (lst ((u_54 13)) ((u_54 7)) x_77 x_78 x_79 x_80 x_81 x_82 x_83 x_84 (sup x_91 ln (u_54 13)) x_92 x_87 x_88 x_89 x_90) := (fun q => (hF q).1)
      have hex1 : okf ((u_54 1)) (cls ln ((u_54 13)) (sup x_91 ln (u_54 13))) := (fun q => (hF q).2.1)
      have hex2 : okf ((u_54 1)) (sam ln kd ow sb f1 f2 te kp nm en kc x_77 x_78 x_79 x_80 x_81 x_82 x_83 x_84 (sup x_91 ln (u_54 13)) x_92 tm x_87) := (fun q => (hF q).2.2.1)
      have hex3 : okf ((u_54 1)) (ln = ln ∧ ln < (u_54 13)) := (fun q => ⟨rfl, by omega⟩)
      have hex4 : okf ((u_54 1)) (clm ((u_54 14)) ((u_54 12)) x_85 x_86 ((u_54 13)) x_77 x_84) := hx_99
      have hex5 : okf ((u_54 1)) (ndv x_88 x_89 x_90 ((u_54 7))) := hx_100
      have hex6 : bts x_88 ((u_54 8)) := (by assumption)
      have hex7 : okf ((u_54 1)) (∀ i, i < z9 → tsn x_88 x_89 x_90 i = tsn fo fl fr i) := (fun q => (hF q).2.2.2)
      have hex8 : psS tk tf ta sg ln br lp pl ((u_54 1)) ((u_54 0)) ((u_54 13)) ((u_54 14)) ((u_54 15)) x_93 := (st_if hrs hok hN5 (by first | assumption | omega) (hs_25 hok) hs_26 (by first | assumption | omega) (by first | assumption | omega) (by first | assumption | omega) rfl hx_103)
      have hex9 : okf ((u_54 1)) (bk9 ln ((u_54 13)) x_77 x_78 x_79 x_80 x_81 x_82 x_83 x_84 x_87 x_94 o9 ln pl x_93) := hB9
      have hex10 : okf ((u_54 1)) (nlq x_88 x_89 x_90 ((u_54 7)) x_94 ∧ prx L0 x_94) := hx_105
      have hex11 : okf ((u_54 1)) ((u_54 16) = vct x_93) := hx_106
      have hex12 : okf ((u_54 1)) (cll x_85 x_86 ((u_54 12)) = (0, 0) :: cln x_93) := hx_107
      have hg8 : H_55.size ≤ s.heap.size + ((u_54 8) - cp) := by omega
      have hg9 : tsl H_55 ≤ tsl s.heap + (6 * ((u_54 8) - cp)) := by omega
      have hsp0 : rst tk ((u_54 1)) ((u_54 2)) ((u_54 3)) ((u_54 0)) cn := (by assumption)
      have hsp1 : (u_54 0) ≤ cn := (by first | assumption | omega)
      have hsp2 : (u_54 2) < 128 := (by first | assumption | omega)
      have hsp3 : (u_54 3) < 1024 := (by first | assumption | omega)
      have hsp4 : ta ≤ (u_54 0) := (by first | assumption | omega)
      have hsp5 : ftf tf ≤ ftf ((u_54 1)) := (by first | assumption | omega)
      have hsp6 : z9 ≤ (u_54 7) := (by first | assumption | omega)
      have hsp7 : (u_54 7) + ta ≤ z9 + (u_54 0) + 2 * ((u_54 13) - ln) := (by first | assumption | omega)
      have hsp8 : (u_54 7) ≤ (u_54 8) := (by first | assumption | omega)
      have hsp9 : cp ≤ (u_54 8) := (by first | assumption | omega)
      have hsp10 : (u_54 8) ≤ MX := (by first | assumption | omega)
      have hsp11 : (u_54 11) ≤ 1 := (by first | assumption | omega)
      have hsp12 : (u_54 12) ≤ 1 + 2 * (u_54 15) + (u_54 13) := (by first | assumption | omega)
      have hsp13 : ln ≤ (u_54 13) := (by first | assumption | omega)
      have hsp14 : (u_54 13) ≤ 20 := (by first | assumption | omega)
      have hsp15 : br ≤ (u_54 14) := (by first | assumption | omega)
      have hsp16 : (u_54 14) ≤ 4 := (by first | assumption | omega)
      have hsp17 : lp ≤ (u_54 15) := (by first | assumption | omega)
      have hsp18 : (u_54 15) ≤ 4 := (by first | assumption | omega)
      have hsp19 : (u_54 16) ≤ (u_54 15) := (by first | assumption | omega)
      have hsp20 : smn (ln) := hsml
      exact W.iret (v := nI ln) hx hb hr (fun t ht hW => ⟨⟨nI ln, ixn [(u_54 0), (u_54 1), (u_54 2), (u_54 3), (u_54 4), (u_54 5), (u_54 6), (u_54 7), (u_54 8), (u_54 9), ln, (u_54 11), (u_54 12), (u_54 13), (u_54 14), (u_54 15), (u_54 16)], rfl, ⟨rfl, ⟨hsp0, hsp1, hsp2, hsp3, hsp4, hsp5, hsp6, hsp7, hsp8, hsp9, hsp10, hsp11, hsp12, hsp13, hsp14, hsp15, hsp16, hsp17, hsp18, hsp19, hsp20⟩⟩, ⟨x_77, x_78, x_79, x_80, x_81, x_82, x_83, x_84, x_85, x_86, x_87, x_88, x_89, x_90, sup x_91 ln (u_54 13), x_92, x_93, x_94, by rw [ht]; exact hg8, by rw [ht]; exact hg9, hex0, hex1, hex2, hex3, hex4, hex5, hex6, hex7, hex8, hex9, hex10, hex11, hex12, by rw [ht]; exact hP9, hD9⟩⟩, hS.F ht⟩) hS.2.2 d_Reader_statement_185
    by_cases hw_108 : nx = 12
    · refine W.eq (g2 := F0 m 55 ls [.int 12]) (by rw [hw_108]; rfl) ?_
      refine lv_lookup (off := 67) (tgt := 122) hx hb d_Reader_statement_55 (by decide) (by decide) (by decide) ?_
      have hj8 : ifq nx 8 = 0 := ifq_n (by first | assumption | omega)
      have hj12 : ifq nx 12 = 1 := ifq_y (by first | assumption | omega)
      have hbl : lp < 4 := hl4 (by first | assumption | omega)
      obtain ⟨j9, hj9⟩ : ∃ j, j + 1 = kf := ⟨kf - 1, by omega⟩
      have hop9 : okf (u_15 1) (sup en ln 100 ln = 100 ∧ sup kd ln nx ln = 12 ∧ sup nm ln 4294967295 ln = 4294967295) := fun _ => ⟨sup_eq, by rw [sup_eq]; omega, sup_eq⟩
      have hb9 : cku tk ta = 12 := (hrs.ck hok).trans (by first | assumption | omega)
      have hsb9 : okf (u_15 1) (sup sb ln 4294967295 ln = 4294967295) := fun _ => sup_eq
      refine lv_aload_n hx hb d_Reader_statement_122 rfl (lv_at hl1 3 rfl) ?_
      refine lv_iload_n hx hb d_Reader_statement_123 rfl (lv_at hl1 1 rfl) ?_
      obtain ⟨hPc, hDc, hFc, hCs⟩ := xw_sub3 (wc := [(r0, .inr (7, [.ref k0, .ref g0, .ref n0, .int (nI gh), .int (nI at9)])), (k0, .inr (9, [.ref k1, .ref k2, .int (nI ts), .int (nI th), .int (nI (u_15 0)), .int (nI (u_15 1)), .int (nI (u_15 2)), .int (nI (u_15 3))])), (k1, .inl (ax 1, 400, .inl tb)), (k2, .inl (ax 0, 401, .inl (fun j => nI (tk j)))), (n0, .inr (4, [.ref n1, .ref n2, .ref n3, .int (nI z9)])), (n1, .inl (ax 1, cp, .inl fo)), (n2, .inl (ax 0, cp, .inl fl)), (n3, .inl (ax 0, cp, .inl fr)), (g0, .inr (2, [.ref n0, .ref g1, .ref g2, .ref g3, .ref g4, .ref g5, .ref g6, .ref g7, .ref g8, .ref g9, .ref ga, .ref gb, .int (nI cl), .int (nI (ln + 1)), .int (nI (u_8 0)), .int (nI (u_8 1)), .int (nI va)])), (g1, .inl (ax 1, 20, .inl (fun j => nI ((sup kd ln nx) j)))), (g2, .inl (ax 1, 20, .inl (fun j => nI ((sup ow ln o9) j)))), (g3, .inl (ax 1, 20, .inl (fun j => nI ((sup sb ln 4294967295) j)))), (g4, .inl (ax 1, 20, .inl (fun j => nI ((sup f1 ln 4294967295) j)))), (g5, .inl (ax 1, 20, .inl (fun j => nI ((sup f2 ln 4294967295) j)))), (g6, .inl (ax 2, 20, .inl (fun j => nI (te j)))), (g7, .inl (ax 2, 20, .inl (fun j => nI (kp j)))), (g8, .inl (ax 0, 20, .inl tm)), (g9, .inl (ax 1, 20, .inl (fun j => nI ((sup nm ln 4294967295) j)))), (ga, .inl (ax 1, 29, .inl (fun j => nI (ck j)))), (gb, .inl (ax 1, 29, .inl (fun j => nI (co j))))]) hP hD hS hA [0, 17, 18, 19, 1, 2, 3, 4, 5, 6, 7, 8, 9, 10, 11, 12, 13, 14, 15, 16] (by decide) rfl
      have hz := xz_of hN hS
      refine wk_know (fun hk8 hk9 => ?_)
      refine va_callv (va_runV (As := [.int (nI ln)]) (rest := []) ⟨hx, hb, hml, hown, hts⟩ (c_R_loop l j9 (hrec j9 hj9) D ax r0 k0 k1 k2 tb tk (u_15 0) (u_15 1) (u_15 2) (u_15 3) cn ts th gh at9 n0 n1 n2 n3 cp z9 fo fl fr g0 g1 g2 g3 g4 g5 g6 g7 g8 g9 ga gb cl (ln + 1) (u_8 0) (u_8 1) va (sup kd ln nx) (sup ow ln o9) (sup sb ln 4294967295) (sup f1 ln 4294967295) (sup f2 ln 4294967295) te kp (sup nm ln 4294967295) ck co tm MX (sup en ln 100) (sup kc ln 0) sg pl L0 ln ta H_16.size (tsl H_16) hkz (by assumption) (by first | assumption | omega) (by first | assumption | omega) (by first | assumption | omega) (by first | assumption | omega) (by first | assumption | omega) (by first | assumption | omega) (by first | assumption | omega) (by first | assumption | omega) (by assumption) (by assumption) (by first | assumption | omega) (by first | assumption | omega) (by first | assumption | omega) (by first | assumption | omega) (by first | assumption | omega) (by assumption) (by assumption) (by assumption) (by assumption) (by assumption) (by first | assumption | omega) (by first | assumption | omega) hop9 (by first | assumption | omega) hb9 hp9 rfl hsb9 (by first | assumption | omega) (by first | assumption | omega)) (xcV (n := 1) hts wd_641 wd_3 wd_638 wd_640 ps_18 rfl rfl (by decide +kernel) ⟨(show (210 + 20 * j9) + 1 ≤ (200 + 20 * kf) by omega), (show 8 + (2 + 11) + (8200 + 800 * j9) ≤ (8000 + 800 * kf) by omega)⟩) (xpV3 (ci := 7) (q0 := 0) (As := [.int (nI ln)]) hPc hK hz hDc rfl rfl) rfl rfl hl1.1 rfl (lv_room (Nat.le_of_ble_eq_true rfl)) d_Reader_statement_124 ⟨(show (0) + (MX - cp) ≤ (MX - cp) by omega), (show (0) + (6 * (MX - cp)) ≤ (6 * (MX - cp)) by omega)⟩) hS (fun q _ h => hFc q h) hFc (fun u_109 t H_110 locs ht hvm hw hB hz1 hk1 hS1 => ?_)
      try dsimp only at hw
      obtain ⟨hs_112, hs_113, hs_114, hs_115, hs_116, hs_117, hs_118, hs_119, hs_120, hs_121, hs_122, hs_123, hs_124, hs_125, hs_126, hs_127, hs_128, hs_129, hs_130, hs_131⟩ := hw
      obtain ⟨x_132, x_133, x_134, x_135, x_136, x_137, x_138, x_139, x_140, x_141, x_142, x_143, x_144, x_145, x_146, x_147, x_148, x_149, hg8, hg9, hx_150, hx_151, hx_152, hx_153, hx_154, hx_155, hx_156, hx_157, hx_158, hx_159, hx_160, hx_161, hx_162, hP1, hD1⟩ := hB
      rw [ht] at hg8 hg9 hP1
      have hjn := xw_join3 (wl := [(r0, .inr (7, [.ref k0, .ref g0, .ref n0, .int (nI (u_109 11)), .int (nI (u_109 9))])), (k0, .inr (9, [.ref k1, .ref k2, .int (nI ts), .int (nI th), .int (nI (u_109 0)), .int (nI (u_109 1)), .int (nI (u_109 2)), .int (nI (u_109 3))])), (k1, .inl (ax 1, 400, .inl tb)), (k2, .inl (ax 0, 401, .inl (fun j => nI (tk j)))), (n0, .inr (4, [.ref (u_109 4), .ref (u_109 5), .ref (u_109 6), .int (nI (u_109 7))])), ((u_109 4), .inl (ax 1, u_109 8, .inl x_143)), ((u_109 5), .inl (ax 0, u_109 8, .inl x_144)), ((u_109 6), .inl (ax 0, u_109 8, .inl x_145)), (g0, .inr (2, [.ref n0, .ref g1, .ref g2, .ref g3, .ref g4, .ref g5, .ref g6, .ref g7, .ref g8, .ref g9, .ref ga, .ref gb, .int (nI (u_109 12)), .int (nI (u_109 13)), .int (nI (u_109 14)), .int (nI (u_109 15)), .int (nI (u_109 16))])), (g1, .inl (ax 1, 20, .inl (fun j => nI (x_132 j)))), (g2, .inl (ax 1, 20, .inl (fun j => nI (x_133 j)))), (g3, .inl (ax 1, 20, .inl (fun j => nI (x_134 j)))), (g4, .inl (ax 1, 20, .inl (fun j => nI (x_135 j)))), (g5, .inl (ax 1, 20, .inl (fun j => nI (x_136 j)))), (g6, .inl (ax 2, 20, .inl (fun j => nI (x_137 j)))), (g7, .inl (ax 2, 20, .inl (fun j => nI (x_138 j)))), (g8, .inl (ax 0, 20, .inl x_142)), (g9, .inl (ax 1, 20, .inl (fun j => nI (x_139 j)))), (ga, .inl (ax 1, 29, .inl (fun j => nI (x_140 j)))), (gb, .inl (ax 1, 29, .inl (fun j => nI (x_141 j))))]) hP hD [0, 17, 18, 19, 1, 2, 3, 4, 5, 6, 7, 8, 9, 10, 11, 12, 13, 14, 15, 16] [] hCs (by decide) (by decide) hk1 hFc hP1 hD1 rfl
      clear hP1 hD1
      clear hPc hDc hFc hCs hz hz1 hk1 ht hvm
      clear hP hD hS
      have hS := hS1
      obtain ⟨hP, hD⟩ := hjn
      clear hS1
      refine wk_narrow (k := u_109 8 - cp) (n := 6 * (u_109 8 - cp)) (by first | assumption | omega) (by first | assumption | omega) ?_
      clear hk8 hk9 hg8 hg9
      refine lv_goto (tgt := 184) hx hb d_Reader_statement_127 (by decide) ?_
      have hF : okf (u_109 1) ((lst (u_109 13) (u_109 7) x_132 x_133 x_134 x_135 x_136 x_137 x_138 x_139 (sup x_146 ln (u_109 13)) x_147 x_142 x_143 x_144 x_145) ∧ (cls ln (u_109 13) (sup x_146 ln (u_109 13))) ∧ (sam ln kd ow sb f1 f2 te kp nm en kc x_132 x_133 x_134 x_135 x_136 x_137 x_138 x_139 (sup x_146 ln (u_109 13)) x_147 tm x_142) ∧ (∀ i, i < z9 → tsn x_143 x_144 x_145 i = tsn fo fl fr i)) := by
        intro q
        have hse := hx_152 q; have hcl1 := hx_151 q
        have hen := hse.2.2.2.2.trans sup_eq
        refine ⟨(hx_150 q).close (by first | assumption | omega) hen (fun i h1 h2 => hcl1 i (by first | assumption | omega) h2) (hx_153 q), fun i h1 h2 => ?_, fun i hi => ?_, hx_157 q⟩
        · by_cases e9 : i = ln
          · subst e9; rw [sup_eq]; exact Nat.le_refl _
          · rw [sup_ne e9]; exact hcl1 i (by first | assumption | omega) h2
        · obtain ⟨x1, x2, x3, x4, x5, x6, x7, x8, x9, x10, x11⟩ := hse.1 i (by first | assumption | omega) (by first | assumption | omega)
          have hne : i ≠ ln := by omega
          exact ⟨x1.trans (sup_ne hne), x2.trans (sup_ne hne), x3.trans (sup_ne hne), x4.trans (sup_ne hne), x5.trans (sup_ne hne), x6, x7, x8.trans (sup_ne hne), (sup_ne hne).trans (x9.trans (sup_ne hne)), x10.trans (sup_ne hne), x11⟩
      have hB9 : okf (u_109 1) (bk9 ln (u_109 13) x_132 x_133 x_134 x_135 x_136 x_137 x_138 x_139 x_142 x_149 o9 ln pl x_148) := fun q => by have h9 := hx_159 q; rw [sup_eq] at h9; exact h9
      refine lv_iload_n hx hb d_Reader_statement_184 rfl (lv_at hl1 1 rfl) ?_
      rw [← hQe]
      refine wk_know (fun hk8 hk9 => ?_)
      refine W.widen (k := MX - cp) (n := 6 * (MX - cp)) (by first | assumption | omega) (by first | assumption | omega) ?_
      obtain ⟨hP9, hD9⟩ := xw_sub2 (wc := (fun (u : Nat → Nat) (xkd : Nat → Nat) (xow : Nat → Nat) (xsb : Nat → Nat) (xf1 : Nat → Nat) (xf2 : Nat → Nat) (xte : Nat → Nat) (xkp : Nat → Nat) (xnm : Nat → Nat) (xck : Nat → Nat) (xco : Nat → Nat) (xtm : Nat → Int32) (xfo : Nat → Int32) (xfl : Nat → Int32) (xfr : Nat → Int32) (xen : Nat → Nat) (xkc : Nat → Nat) (xpl : List itT) (xL : List sgT) => [(r0, .inr (7, [.ref k0, .ref g0, .ref n0, .int (nI (u 11)), .int (nI (u 9))])), (k0, .inr (9, [.ref k1, .ref k2, .int (nI ts), .int (nI th), .int (nI (u 0)), .int (nI (u 1)), .int (nI (u 2)), .int (nI (u 3))])), (k1, .inl (ax 1, 400, .inl tb)), (k2, .inl (ax 0, 401, .inl (fun j => nI (tk j)))), (n0, .inr (4, [.ref (u 4), .ref (u 5), .ref (u 6), .int (nI (u 7))])), (u 4, .inl (ax 1, u 8, .inl xfo)), (u 5, .inl (ax 0, u 8, .inl xfl)), (u 6, .inl (ax 0, u 8, .inl xfr)), (g0, .inr (2, [.ref n0, .ref g1, .ref g2, .ref g3, .ref g4, .ref g5, .ref g6, .ref g7, .ref g8, .ref g9, .ref ga, .ref gb, .int (nI (u 12)), .int (nI (u 13)), .int (nI (u 14)), .int (nI (u 15)), .int (nI (u 16))])), (g1, .inl (ax 1, 20, .inl (fun j => nI (xkd j)))), (g2, .inl (ax 1, 20, .inl (fun j => nI (xow j)))), (g3, .inl (ax 1, 20, .inl (fun j => nI (xsb j)))), (g4, .inl (ax 1, 20, .inl (fun j => nI (xf1 j)))), (g5, .inl (ax 1, 20, .inl (fun j => nI (xf2 j)))), (g6, .inl (ax 2, 20, .inl (fun j => nI (xte j)))), (g7, .inl (ax 2, 20, .inl (fun j => nI (xkp j)))), (g8, .inl (ax 0, 20, .inl xtm)), (g9, .inl (ax 1, 20, .inl (fun j => nI (xnm j)))), (ga, .inl (ax 1, 29, .inl (fun j => nI (xck j)))), (gb, .inl (ax 1, 29, .inl (fun j => nI (xco j))))]) (ixn [(u_109 0), (u_109 1), (u_109 2), (u_109 3), (u_109 4), (u_109 5), (u_109 6), (u_109 7), (u_109 8), (u_109 9), ln, (u_109 11), (u_109 12), (u_109 13), (u_109 14), (u_109 15), (u_109 16)]) x_132 x_133 x_134 x_135 x_136 x_137 x_138 x_139 x_140 x_141 x_142 x_143 x_144 x_145 (sup x_146 ln (u_109 13)) x_147 x_148 x_149) hP hD [0, 1, 2, 3, 4, 5, 6, 7, 8, 9, 10, 11, 12, 13, 14, 15, 16, 17, 18, 19] (by decide) rfl
      have hex0 : okf ((u_109 1)) (lst ((u_109 13)) ((u_109 7)) x_132 x_133 x_134 x_135 x_136 x_137 x_138 x_139 (sup x_146 ln (u_109 13)) x_147 x_142 x_143 x_144 x_145) := (fun q => (hF q).1)
      have hex1 : okf ((u_109 1)) (cls ln ((u_109 13)) (sup x_146 ln (u_109 13))) := (fun q => (hF q).2.1)
      have hex2 : okf ((u_109 1)) (sam ln kd ow sb f1 f2 te kp nm en kc x_132 x_133 x_134 x_135 x_136 x_137 x_138 x_139 (sup x_146 ln (u_109 13)) x_147 tm x_142) := (fun q => (hF q).2.2.1)
      have hex3 : okf ((u_109 1)) (ln = ln ∧ ln < (u_109 13)) := (fun q => ⟨rfl, by omega⟩)
      have hex4 : okf ((u_109 1)) (clm ((u_109 14)) ((u_109 12)) x_140 x_141 ((u_109 13)) x_132 x_139) := hx_154
      have hex5 : okf ((u_109 1)) (ndv x_143 x_144 x_145 ((u_109 7))) := hx_155
      have hex6 : bts x_143 ((u_109 8)) := (by assumption)
      have hex7 : okf ((u_109 1)) (∀ i, i < z9 → tsn x_143 x_144 x_145 i = tsn fo fl fr i) := (fun q => (hF q).2.2.2)
      have hex8 : psS tk tf ta sg ln br lp pl ((u_109 1)) ((u_109 0)) ((u_109 13)) ((u_109 14)) ((u_109 15)) x_148 := (st_wh hrs hok hN5 (by first | assumption | omega) (hs_25 hok) hs_26 (by first | assumption | omega) (by first | assumption | omega) (by first | assumption | omega) rfl hx_158)
      have hex9 : okf ((u_109 1)) (bk9 ln ((u_109 13)) x_132 x_133 x_134 x_135 x_136 x_137 x_138 x_139 x_142 x_149 o9 ln pl x_148) := hB9
      have hex10 : okf ((u_109 1)) (nlq x_143 x_144 x_145 ((u_109 7)) x_149 ∧ prx L0 x_149) := hx_160
      have hex11 : okf ((u_109 1)) ((u_109 16) = vct x_148) := hx_161
      have hex12 : okf ((u_109 1)) (cll x_140 x_141 ((u_109 12)) = (0, 0) :: cln x_148) := hx_162
      have hg8 : H_110.size ≤ s.heap.size + ((u_109 8) - cp) := by omega
      have hg9 : tsl H_110 ≤ tsl s.heap + (6 * ((u_109 8) - cp)) := by omega
      have hsp0 : rst tk ((u_109 1)) ((u_109 2)) ((u_109 3)) ((u_109 0)) cn := (by assumption)
      have hsp1 : (u_109 0) ≤ cn := (by first | assumption | omega)
      have hsp2 : (u_109 2) < 128 := (by first | assumption | omega)
      have hsp3 : (u_109 3) < 1024 := (by first | assumption | omega)
      have hsp4 : ta ≤ (u_109 0) := (by first | assumption | omega)
      have hsp5 : ftf tf ≤ ftf ((u_109 1)) := (by first | assumption | omega)
      have hsp6 : z9 ≤ (u_109 7) := (by first | assumption | omega)
      have hsp7 : (u_109 7) + ta ≤ z9 + (u_109 0) + 2 * ((u_109 13) - ln) := (by first | assumption | omega)
      have hsp8 : (u_109 7) ≤ (u_109 8) := (by first | assumption | omega)
      have hsp9 : cp ≤ (u_109 8) := (by first | assumption | omega)
      have hsp10 : (u_109 8) ≤ MX := (by first | assumption | omega)
      have hsp11 : (u_109 11) ≤ 1 := (by first | assumption | omega)
      have hsp12 : (u_109 12) ≤ 1 + 2 * (u_109 15) + (u_109 13) := (by first | assumption | omega)
      have hsp13 : ln ≤ (u_109 13) := (by first | assumption | omega)
      have hsp14 : (u_109 13) ≤ 20 := (by first | assumption | omega)
      have hsp15 : br ≤ (u_109 14) := (by first | assumption | omega)
      have hsp16 : (u_109 14) ≤ 4 := (by first | assumption | omega)
      have hsp17 : lp ≤ (u_109 15) := (by first | assumption | omega)
      have hsp18 : (u_109 15) ≤ 4 := (by first | assumption | omega)
      have hsp19 : (u_109 16) ≤ (u_109 15) := (by first | assumption | omega)
      have hsp20 : smn (ln) := hsml
      exact W.iret (v := nI ln) hx hb hr (fun t ht hW => ⟨⟨nI ln, ixn [(u_109 0), (u_109 1), (u_109 2), (u_109 3), (u_109 4), (u_109 5), (u_109 6), (u_109 7), (u_109 8), (u_109 9), ln, (u_109 11), (u_109 12), (u_109 13), (u_109 14), (u_109 15), (u_109 16)], rfl, ⟨rfl, ⟨hsp0, hsp1, hsp2, hsp3, hsp4, hsp5, hsp6, hsp7, hsp8, hsp9, hsp10, hsp11, hsp12, hsp13, hsp14, hsp15, hsp16, hsp17, hsp18, hsp19, hsp20⟩⟩, ⟨x_132, x_133, x_134, x_135, x_136, x_137, x_138, x_139, x_140, x_141, x_142, x_143, x_144, x_145, sup x_146 ln (u_109 13), x_147, x_148, x_149, by rw [ht]; exact hg8, by rw [ht]; exact hg9, hex0, hex1, hex2, hex3, hex4, hex5, hex6, hex7, hex8, hex9, hex10, hex11, hex12, by rw [ht]; exact hP9, hD9⟩⟩, hS.F ht⟩) hS.2.2 d_Reader_statement_185
    by_cases hw_163 : nx = 17
    · refine W.eq (g2 := F0 m 55 ls [.int 17]) (by rw [hw_163]; rfl) ?_
      refine lv_lookup (off := 75) (tgt := 130) hx hb d_Reader_statement_55 (by decide) (by decide) (by decide) ?_
      have hj8 : ifq nx 8 = 0 := ifq_n (by first | assumption | omega)
      have hj12 : ifq nx 12 = 0 := ifq_n (by first | assumption | omega)
      refine lv_aload_n hx hb d_Reader_statement_130 rfl (lv_at hl1 3 rfl) ?_
      refine va_get (D := D) (ci := 7) (v := .ref g0) (C := R_Reader) (T := F_Reader) (N := 5) hx hb hts i_Reader hown hK.1 hP 0 rfl rfl 1 (by decide) (hts _ wd_76) (fun _ h9 => h9) rfl d_Reader_statement_131 ?_
      refine va_get (D := D) (ci := 2) (v := .ref g6) (C := R_Listing) (T := F_Listing) (N := 17) hx hb hts i_Listing hown hK.1 hP 5 rfl rfl 6 (by decide) (hts _ wd_288) (fun _ h9 => h9) rfl d_Reader_statement_134 ?_
      refine lv_iload_n hx hb d_Reader_statement_137 rfl (lv_at hl1 1 rfl) ?_
      refine lv_aload_n hx hb d_Reader_statement_138 rfl (lv_at hl1 3 rfl) ?_
      refine lv_iconst (v := 0) hx hb d_Reader_statement_139 (by decide) ?_
      obtain ⟨hPc, hDc, hFc, hCs⟩ := xw_sub3 (wc := [(r0, .inr (7, [.ref k0, (.ref g0), .ref n0, .int (nI gh), .int (nI at9)])), (k0, .inr (9, [.ref k1, .ref k2, .int (nI ts), .int (nI th), .int (nI (u_15 0)), .int (nI (u_15 1)), .int (nI (u_15 2)), .int (nI (u_15 3))])), (k1, .inl (ax 1, 400, .inl tb)), (k2, .inl (ax 0, 401, .inl (fun j => nI (tk j)))), (n0, .inr (4, [.ref n1, .ref n2, .ref n3, .int (nI z9)])), (n1, .inl (ax 1, cp, .inl fo)), (n2, .inl (ax 0, cp, .inl fl)), (n3, .inl (ax 0, cp, .inl fr))]) hP hD hS hA [0, 17, 18, 19, 1, 2, 3, 4] (by decide) rfl
      have hz := xz_of hN hS
      refine wk_know (fun hk8 hk9 => ?_)
      refine va_calli (va_runV (As := [.int 0]) (rest := [.int (nI ln), .ref g6]) ⟨hx, hb, hml, hown, hts⟩ (c_R_condition l D ax r0 k0 k1 k2 (.ref g0) tb tk (u_15 0) (u_15 1) (u_15 2) (u_15 3) cn ts th gh at9 0 n0 n1 n2 n3 cp z9 fo fl fr MX L0 H_16.size (tsl H_16) hkz (by assumption) (by first | assumption | omega) (by first | assumption | omega) (by first | assumption | omega) (by first | assumption | omega) (by first | assumption | omega) (by first | assumption | omega) (by first | assumption | omega) (by first | assumption | omega) (by first | assumption | omega) (by assumption) (by assumption) (by first | assumption | exact okf.nl (by assumption))) (xcV (n := 1) hts wd_539 wd_3 wd_536 wd_538 ps_7 rfl rfl (by decide +kernel) ⟨(show (160) + 1 ≤ (200 + 20 * kf) by omega), (show 8 + (2 + 11) + (6400) ≤ (8000 + 800 * kf) by omega)⟩) (xpV3 (ci := 7) (q0 := 0) (As := [.int 0]) hPc hK hz hDc rfl rfl) rfl rfl hl1.1 rfl (lv_room (Nat.le_of_ble_eq_true rfl)) d_Reader_statement_140 ⟨(show (0) + (MX - cp) ≤ (MX - cp) by omega), (show (0) + (6 * (MX - cp)) ≤ (6 * (MX - cp)) by omega)⟩) hS (fun q _ h => hFc q h) hFc (fun r_166 u_164 t H_165 locs ht hvm hw hB hz1 hk1 hS1 => ?_)
      try dsimp only at hw
      obtain ⟨hw, hs_167, hs_168, hs_169, hs_170, hs_171, hs_172, hs_173, hs_174, hs_175, hs_176, hs_177, hs_178, hs_179, hs_180, hs_181⟩ := hw
      subst hw
      obtain ⟨x_182, x_183, x_184, x_185, hg8, hg9, hx_186, hx_187, hx_188, hx_189, hx_190, hx_191, hP1, hD1⟩ := hB
      rw [ht] at hg8 hg9 hP1
      have hjn := xw_join3 (wl := [(g0, .inr (2, [.ref n0, .ref g1, .ref g2, .ref g3, .ref g4, .ref g5, .ref g6, .ref g7, .ref g8, .ref g9, .ref ga, .ref gb, .int (nI cl), .int (nI (ln + 1)), .int (nI (u_8 0)), .int (nI (u_8 1)), .int (nI va)])), (g1, .inl (ax 1, 20, .inl (fun j => nI (sup kd ln nx j)))), (g2, .inl (ax 1, 20, .inl (fun j => nI (sup ow ln o9 j)))), (g3, .inl (ax 1, 20, .inl (fun j => nI (sup sb ln 4294967295 j)))), (g4, .inl (ax 1, 20, .inl (fun j => nI (sup f1 ln 4294967295 j)))), (g5, .inl (ax 1, 20, .inl (fun j => nI (sup f2 ln 4294967295 j)))), (g6, .inl (ax 2, 20, .inl (fun j => nI (te j)))), (g7, .inl (ax 2, 20, .inl (fun j => nI (kp j)))), (g8, .inl (ax 0, 20, .inl tm)), (g9, .inl (ax 1, 20, .inl (fun j => nI (sup nm ln 4294967295 j)))), (ga, .inl (ax 1, 29, .inl (fun j => nI (ck j)))), (gb, .inl (ax 1, 29, .inl (fun j => nI (co j)))), (r0, .inr (7, [.ref k0, .ref g0, .ref n0, .int (nI 0), .int (nI (u_164 9))])), (k0, .inr (9, [.ref k1, .ref k2, .int (nI ts), .int (nI th), .int (nI (u_164 0)), .int (nI (u_164 1)), .int (nI (u_164 2)), .int (nI (u_164 3))])), (k1, .inl (ax 1, 400, .inl tb)), (k2, .inl (ax 0, 401, .inl (fun j => nI (tk j)))), (n0, .inr (4, [.ref (u_164 4), .ref (u_164 5), .ref (u_164 6), .int (nI (u_164 7))])), ((u_164 4), .inl (ax 1, u_164 8, .inl x_182)), ((u_164 5), .inl (ax 0, u_164 8, .inl x_183)), ((u_164 6), .inl (ax 0, u_164 8, .inl x_184))]) hP hD [0, 17, 18, 19, 1, 2, 3, 4] [5, 6, 7, 8, 9, 10, 11, 12, 13, 14, 15, 16] hCs (by decide) (by decide) hk1 hFc hP1 hD1 rfl
      clear hP1 hD1
      clear hPc hDc hFc hCs hz hz1 hk1 ht hvm
      clear hP hD hS
      have hS := hS1
      obtain ⟨hP, hD⟩ := hjn
      clear hS1
      refine wk_narrow (k := u_164 8 - cp) (n := 6 * (u_164 8 - cp)) (by first | assumption | omega) (by first | assumption | omega) ?_
      clear hk8 hk9 hg8 hg9
      have hfl_192 := ftf_le (u_164 1)
      have hG_194 : okf (u_164 1) (cmpl 18 x_185 ∧ nbl 1023 x_185) := fun q => (hx_191.2 (okf.of hs_172 q)).2 q
      have hQ_193 : okf (u_164 1) (nlq x_182 x_183 x_184 (u_164 7) (L0 ++ x_185)) := fun q => by have h9 := hx_190 q; rw [h9.2]; exact (hQ_31 (okf.of hs_172 q)).app h9.1 (hG_194 q).1 (hG_194 q).2
      refine lv_i2s (v := nI (u_164 10)) hx hb d_Reader_statement_143 (nb_i2ss hs_181) ?_
      refine va_sast hx hb hK.1 hP hD hS 6 2 rfl rfl (vp_in_nI (by first | assumption | omega) (by decide)) d_Reader_statement_144 (fun H_195 locs hP1 hD1 hS1 => ?_)
      rw [nI_clamp (by first | exact Nat.lt_of_lt_of_le (by assumption) (by decide) | exact Nat.lt_of_le_of_lt (by assumption) (by decide) | omega)] at hP1 hD1
      rw [xf_supss te ln (u_164 10) hs_181] at hP1 hD1
      clear hP hD hS
      have hS := hS1
      have hW7 : (fun w9 : va_W => va_P D classes w9 H_195 ∧ va_D A w9) [(g0, .inr (2, [.ref n0, .ref g1, .ref g2, .ref g3, .ref g4, .ref g5, .ref g6, .ref g7, .ref g8, .ref g9, .ref ga, .ref gb, .int (nI cl), .int (nI (ln + 1)), .int (nI (u_8 0)), .int (nI (u_8 1)), .int (nI va)])), (g1, .inl (ax 1, 20, .inl (fun j => nI (sup kd ln nx j)))), (g2, .inl (ax 1, 20, .inl (fun j => nI (sup ow ln o9 j)))), (g3, .inl (ax 1, 20, .inl (fun j => nI (sup sb ln 4294967295 j)))), (g4, .inl (ax 1, 20, .inl (fun j => nI (sup f1 ln 4294967295 j)))), (g5, .inl (ax 1, 20, .inl (fun j => nI (sup f2 ln 4294967295 j)))), (g6, .inl (ax 2, 20, .inl (fun j => nI (sup te ln (u_164 10) j)))), (g7, .inl (ax 2, 20, .inl (fun j => nI (kp j)))), (g8, .inl (ax 0, 20, .inl tm)), (g9, .inl (ax 1, 20, .inl (fun j => nI (sup nm ln 4294967295 j)))), (ga, .inl (ax 1, 29, .inl (fun j => nI (ck j)))), (gb, .inl (ax 1, 29, .inl (fun j => nI (co j)))), (r0, .inr (7, [.ref k0, .ref g0, .ref n0, .int (nI 0), .int (nI (u_164 9))])), (k0, .inr (9, [.ref k1, .ref k2, .int (nI ts), .int (nI th), .int (nI (u_164 0)), .int (nI (u_164 1)), .int (nI (u_164 2)), .int (nI (u_164 3))])), (k1, .inl (ax 1, 400, .inl tb)), (k2, .inl (ax 0, 401, .inl (fun j => nI (tk j)))), (n0, .inr (4, [.ref (u_164 4), .ref (u_164 5), .ref (u_164 6), .int (nI (u_164 7))])), ((u_164 4), .inl (ax 1, u_164 8, .inl x_182)), ((u_164 5), .inl (ax 0, u_164 8, .inl x_183)), ((u_164 6), .inl (ax 0, u_164 8, .inl x_184))] := ⟨hP1, hD1⟩
      obtain ⟨hP, hD⟩ := hW7
      clear hP1 hD1 hS1
      have hL_196 : okf (u_164 1) (lst (ln + 1) (u_164 7) (sup kd ln nx) (sup ow ln o9) (sup sb ln 4294967295) (sup f1 ln 4294967295) (sup f2 ln 4294967295) (sup te ln (u_164 10)) kp (sup nm ln 4294967295) (sup en ln 100) (sup (sup kc ln 0) ln ((sup kc ln 0) ln + (u_164 7 - z9))) tm x_182 x_183 x_184) := (fun q => (hL_28 (okf.of hs_172 q)).read (by first | assumption | omega) (hx_189 q) (by first | assumption | omega) sup_eq (Nat.le_refl _) (fun i hi => rfl) (fun i hi => rfl) (fun i hi => sup_ne hi) (fun i hi => rfl) (fun i hi => rfl) (fun i hi => rfl))
      have hC_197 : okf (u_164 1) (clm (u_8 0) cl ck co (ln + 1) (sup kd ln nx) (sup nm ln 4294967295)) := (fun q => hC_29 (okf.of hs_172 q))
      refine lv_goto (tgt := 184) hx hb d_Reader_statement_145 (by decide) ?_
      have hF : okf (u_164 1) ((lst (ln + 1) (u_164 7) (sup kd ln nx) (sup ow ln o9) (sup sb ln 4294967295) (sup f1 ln 4294967295) (sup f2 ln 4294967295) (sup te ln (u_164 10)) kp (sup nm ln 4294967295) (sup (sup en ln 100) ln (ln + 1)) (sup (sup kc ln 0) ln ((sup kc ln 0) ln + (u_164 7 - z9))) tm x_182 x_183 x_184) ∧ (cls ln (ln + 1) (sup (sup en ln 100) ln (ln + 1))) ∧ (sam ln kd ow sb f1 f2 te kp nm en kc (sup kd ln nx) (sup ow ln o9) (sup sb ln 4294967295) (sup f1 ln 4294967295) (sup f2 ln 4294967295) (sup te ln (u_164 10)) kp (sup nm ln 4294967295) (sup (sup en ln 100) ln (ln + 1)) (sup (sup kc ln 0) ln ((sup kc ln 0) ln + (u_164 7 - z9))) tm tm) ∧ (∀ i, i < z9 → tsn x_182 x_183 x_184 i = tsn fo fl fr i)) := by
        intro q
        have qc : u_164 1 = 4294967295 := okf.of (by first | assumption | omega) q
        have hc9 := (Nat.lt_of_succ_le (Nat.le_of_eq (hs_179 qc))); have ht9 := hx_188 qc
        refine ⟨(hL_196 q).close (by first | assumption | omega) sup_eq (fun i h1 h2 => by omega) ⟨fun h => by rw [sup_eq] at h; omega, fun h => by rw [sup_eq] at h; omega, fun h => by rw [sup_eq] at h; omega, fun _ => ⟨by rw [sup_eq]; exact hc9, by rw [sup_eq, sup_eq, sup_eq]; omega⟩⟩, fun i h1 h2 => ?_, fun i hi => by refine ⟨?_, ?_, ?_, ?_, ?_, ?_, ?_, ?_, ?_, ?_, ?_⟩ <;> first | rfl | exact sup_ne (by first | assumption | omega) | (rw [sup_ne (by first | assumption | omega), sup_ne (by first | assumption | omega)]) | exact absurd i (by first | assumption | omega), (hx_189 (okf.of (by first | assumption | omega) q))⟩
        rw [show i = ln by omega, sup_eq]; exact Nat.le_refl _
      have hb9 : cku tk ta = 17 := (hrs.ck hok).trans (by first | assumption | omega)
      have hI9 : okf (u_164 1) (icu tk ta (7, 0, 0, (0, 0), x_185, [])) := fun q => ia_asr hb9 (hs_25 hok) hx_191 (hs_26.trans hok) (okf.of (by first | assumption | omega) q)
      have hB9 : okf (u_164 1) (bk9 ln (ln + 1) (sup kd ln nx) (sup ow ln o9) (sup sb ln 4294967295) (sup f1 ln 4294967295) (sup f2 ln 4294967295) (sup te ln (u_164 10)) kp (sup nm ln 4294967295) tm (L0 ++ x_185) o9 ln pl (pl ++ [(7, ln + 1, 0, (0, 0), x_185, [])])) := fun q => by
        have qc : u_164 1 = 4294967295 := okf.of (by first | assumption | omega) q
        have sup_eq9 : (sup kd ln nx) ln = 17 ∨ (sup kd ln nx) ln = 123 := by rw [sup_eq]; omega
        exact bk9_one (by rw [sup_eq]; omega) (by rw [sup_eq, show nx = 17 by omega]; rfl) sup_eq sup_eq (itm_tc (hG_194 qc).1 (hG_194 qc).2 (by rw [sup_eq]; exact cnd_at (hQ_31 (okf.of (by first | assumption | omega) q)).2.1 (hG_194 qc).1 (hQ_193 qc).2.2.1 prx.rf (by have h8 := hs_179 qc; have h7 := (hx_190 qc).2; omega)) sup_eq9)
      have hB8 : okf (u_164 1) (nlq x_182 x_183 x_184 (u_164 7) (L0 ++ x_185) ∧ prx L0 (L0 ++ x_185)) := fun q => ⟨hQ_193 (okf.of (by first | assumption | omega) q), ⟨_, rfl⟩⟩
      have hB7 : okf (u_164 1) (va = vct (pl ++ [(7, ln + 1, 0, (0, 0), x_185, [])])) := fun q => by rw [vct_app, vct_n (x := (7, ln + 1, 0, (0, 0), x_185, [])) (show ¬ (7 : Nat) = 5 by decide)]; exact hvc (okf.of (by first | assumption | omega) q)
      have hB6 : okf (u_164 1) (cll ck co cl = (0, 0) :: cln (pl ++ [(7, ln + 1, 0, (0, 0), x_185, [])])) := fun q => cq_n (x := (7, ln + 1, 0, (0, 0), x_185, [])) (hcq (okf.of (by first | assumption | omega) q)) (show ¬ (7 : Nat) = 5 by decide) (show ¬ (7 : Nat) = 8 by decide)
      refine lv_iload_n hx hb d_Reader_statement_184 rfl (lv_at hl1 1 rfl) ?_
      rw [← hQe]
      refine wk_know (fun hk8 hk9 => ?_)
      refine W.widen (k := MX - cp) (n := 6 * (MX - cp)) (by first | assumption | omega) (by first | assumption | omega) ?_
      obtain ⟨hP9, hD9⟩ := xw_sub2 (wc := (fun (u : Nat → Nat) (xkd : Nat → Nat) (xow : Nat → Nat) (xsb : Nat → Nat) (xf1 : Nat → Nat) (xf2 : Nat → Nat) (xte : Nat → Nat) (xkp : Nat → Nat) (xnm : Nat → Nat) (xck : Nat → Nat) (xco : Nat → Nat) (xtm : Nat → Int32) (xfo : Nat → Int32) (xfl : Nat → Int32) (xfr : Nat → Int32) (xen : Nat → Nat) (xkc : Nat → Nat) (xpl : List itT) (xL : List sgT) => [(r0, .inr (7, [.ref k0, .ref g0, .ref n0, .int (nI (u 11)), .int (nI (u 9))])), (k0, .inr (9, [.ref k1, .ref k2, .int (nI ts), .int (nI th), .int (nI (u 0)), .int (nI (u 1)), .int (nI (u 2)), .int (nI (u 3))])), (k1, .inl (ax 1, 400, .inl tb)), (k2, .inl (ax 0, 401, .inl (fun j => nI (tk j)))), (n0, .inr (4, [.ref (u 4), .ref (u 5), .ref (u 6), .int (nI (u 7))])), (u 4, .inl (ax 1, u 8, .inl xfo)), (u 5, .inl (ax 0, u 8, .inl xfl)), (u 6, .inl (ax 0, u 8, .inl xfr)), (g0, .inr (2, [.ref n0, .ref g1, .ref g2, .ref g3, .ref g4, .ref g5, .ref g6, .ref g7, .ref g8, .ref g9, .ref ga, .ref gb, .int (nI (u 12)), .int (nI (u 13)), .int (nI (u 14)), .int (nI (u 15)), .int (nI (u 16))])), (g1, .inl (ax 1, 20, .inl (fun j => nI (xkd j)))), (g2, .inl (ax 1, 20, .inl (fun j => nI (xow j)))), (g3, .inl (ax 1, 20, .inl (fun j => nI (xsb j)))), (g4, .inl (ax 1, 20, .inl (fun j => nI (xf1 j)))), (g5, .inl (ax 1, 20, .inl (fun j => nI (xf2 j)))), (g6, .inl (ax 2, 20, .inl (fun j => nI (xte j)))), (g7, .inl (ax 2, 20, .inl (fun j => nI (xkp j)))), (g8, .inl (ax 0, 20, .inl xtm)), (g9, .inl (ax 1, 20, .inl (fun j => nI (xnm j)))), (ga, .inl (ax 1, 29, .inl (fun j => nI (xck j)))), (gb, .inl (ax 1, 29, .inl (fun j => nI (xco j))))]) (ixn [(u_164 0), (u_164 1), (u_164 2), (u_164 3), (u_164 4), (u_164 5), (u_164 6), (u_164 7), (u_164 8), (u_164 9), ln, 0, cl, (ln + 1), (u_8 0), (u_8 1), va]) (sup kd ln nx) (sup ow ln o9) (sup sb ln 4294967295) (sup f1 ln 4294967295) (sup f2 ln 4294967295) (sup te ln (u_164 10)) kp (sup nm ln 4294967295) ck co tm x_182 x_183 x_184 (sup (sup en ln 100) ln (ln + 1)) (sup (sup kc ln 0) ln ((sup kc ln 0) ln + (u_164 7 - z9))) (pl ++ [(7, ln + 1, 0, (0, 0), x_185, [])]) (L0 ++ x_185)) hP hD [12, 13, 14, 15, 16, 17, 18, 19, 0, 1, 2, 3, 4, 5, 6, 7, 8, 9, 10, 11] (by decide) rfl
      have hex0 : okf ((u_164 1)) (lst ((ln + 1)) ((u_164 7)) (sup kd ln nx) (sup ow ln o9) (sup sb ln 4294967295) (sup f1 ln 4294967295) (sup f2 ln 4294967295) (sup te ln (u_164 10)) kp (sup nm ln 4294967295) (sup (sup en ln 100) ln (ln + 1)) (sup (sup kc ln 0) ln ((sup kc ln 0) ln + (u_164 7 - z9))) tm x_182 x_183 x_184) := (fun q => (hF q).1)
      have hex1 : okf ((u_164 1)) (cls ln ((ln + 1)) (sup (sup en ln 100) ln (ln + 1))) := (fun q => (hF q).2.1)
      have hex2 : okf ((u_164 1)) (sam ln kd ow sb f1 f2 te kp nm en kc (sup kd ln nx) (sup ow ln o9) (sup sb ln 4294967295) (sup f1 ln 4294967295) (sup f2 ln 4294967295) (sup te ln (u_164 10)) kp (sup nm ln 4294967295) (sup (sup en ln 100) ln (ln + 1)) (sup (sup kc ln 0) ln ((sup kc ln 0) ln + (u_164 7 - z9))) tm tm) := (fun q => (hF q).2.2.1)
      have hex3 : okf ((u_164 1)) (ln = ln ∧ ln < (ln + 1)) := (fun q => ⟨rfl, by omega⟩)
      have hex4 : okf ((u_164 1)) (clm ((u_8 0)) (cl) ck co ((ln + 1)) (sup kd ln nx) (sup nm ln 4294967295)) := hC_197
      have hex5 : okf ((u_164 1)) (ndv x_182 x_183 x_184 ((u_164 7))) := hx_186
      have hex6 : bts x_182 ((u_164 8)) := (by assumption)
      have hex7 : okf ((u_164 1)) (∀ i, i < z9 → tsn x_182 x_183 x_184 i = tsn fo fl fr i) := (fun q => (hF q).2.2.2)
      have hex8 : psS tk tf ta sg ln br lp pl ((u_164 1)) ((u_164 0)) ((ln + 1)) ((u_8 0)) ((u_8 1)) (pl ++ [(7, ln + 1, 0, (0, 0), x_185, [])]) := (st_one hrs hok hN5 (by first | assumption | omega) (so_asr hrs hok (by first | assumption | omega) (hs_25 hok) hs_26 (hx_191).cn) hI9 (by first | assumption | omega) (by first | assumption | omega) (by first | assumption | omega) (by rw [gI_n (x := (7, 0, 0, (0, 0), x_185, [])) (show ¬ (7 : Nat) = 5 by decide)]))
      have hex9 : okf ((u_164 1)) (bk9 ln ((ln + 1)) (sup kd ln nx) (sup ow ln o9) (sup sb ln 4294967295) (sup f1 ln 4294967295) (sup f2 ln 4294967295) (sup te ln (u_164 10)) kp (sup nm ln 4294967295) tm (L0 ++ x_185) o9 ln pl (pl ++ [(7, ln + 1, 0, (0, 0), x_185, [])])) := hB9
      have hex10 : okf ((u_164 1)) (nlq x_182 x_183 x_184 ((u_164 7)) (L0 ++ x_185) ∧ prx L0 (L0 ++ x_185)) := hB8
      have hex11 : okf ((u_164 1)) (va = vct (pl ++ [(7, ln + 1, 0, (0, 0), x_185, [])])) := hB7
      have hex12 : okf ((u_164 1)) (cll ck co (cl) = (0, 0) :: cln (pl ++ [(7, ln + 1, 0, (0, 0), x_185, [])])) := hB6
      have hg8 : H_195.size ≤ s.heap.size + ((u_164 8) - cp) := by omega
      have hg9 : tsl H_195 ≤ tsl s.heap + (6 * ((u_164 8) - cp)) := by omega
      have hsp0 : rst tk ((u_164 1)) ((u_164 2)) ((u_164 3)) ((u_164 0)) cn := (by assumption)
      have hsp1 : (u_164 0) ≤ cn := (by first | assumption | omega)
      have hsp2 : (u_164 2) < 128 := (by first | assumption | omega)
      have hsp3 : (u_164 3) < 1024 := (by first | assumption | omega)
      have hsp4 : ta ≤ (u_164 0) := (by first | assumption | omega)
      have hsp5 : ftf tf ≤ ftf ((u_164 1)) := (by first | assumption | omega)
      have hsp6 : z9 ≤ (u_164 7) := (by first | assumption | omega)
      have hsp7 : (u_164 7) + ta ≤ z9 + (u_164 0) + 2 * ((ln + 1) - ln) := (by first | assumption | omega)
      have hsp8 : (u_164 7) ≤ (u_164 8) := (by first | assumption | omega)
      have hsp9 : cp ≤ (u_164 8) := (by first | assumption | omega)
      have hsp10 : (u_164 8) ≤ MX := (by first | assumption | omega)
      have hsp11 : 0 ≤ 1 := (by first | assumption | omega)
      have hsp12 : cl ≤ 1 + 2 * (u_8 1) + (ln + 1) := (by first | assumption | omega)
      have hsp13 : ln ≤ (ln + 1) := (by first | assumption | omega)
      have hsp14 : (ln + 1) ≤ 20 := (by first | assumption | omega)
      have hsp15 : br ≤ (u_8 0) := (by first | assumption | omega)
      have hsp16 : (u_8 0) ≤ 4 := (by first | assumption | omega)
      have hsp17 : lp ≤ (u_8 1) := (by first | assumption | omega)
      have hsp18 : (u_8 1) ≤ 4 := (by first | assumption | omega)
      have hsp19 : va ≤ (u_8 1) := (by first | assumption | omega)
      have hsp20 : smn (ln) := hsml
      exact W.iret (v := nI ln) hx hb hr (fun t ht hW => ⟨⟨nI ln, ixn [(u_164 0), (u_164 1), (u_164 2), (u_164 3), (u_164 4), (u_164 5), (u_164 6), (u_164 7), (u_164 8), (u_164 9), ln, 0, cl, (ln + 1), (u_8 0), (u_8 1), va], rfl, ⟨rfl, ⟨hsp0, hsp1, hsp2, hsp3, hsp4, hsp5, hsp6, hsp7, hsp8, hsp9, hsp10, hsp11, hsp12, hsp13, hsp14, hsp15, hsp16, hsp17, hsp18, hsp19, hsp20⟩⟩, ⟨sup kd ln nx, sup ow ln o9, sup sb ln 4294967295, sup f1 ln 4294967295, sup f2 ln 4294967295, sup te ln (u_164 10), kp, sup nm ln 4294967295, ck, co, tm, x_182, x_183, x_184, sup (sup en ln 100) ln (ln + 1), sup (sup kc ln 0) ln ((sup kc ln 0) ln + (u_164 7 - z9)), (pl ++ [(7, ln + 1, 0, (0, 0), x_185, [])]), (L0 ++ x_185), by rw [ht]; exact hg8, by rw [ht]; exact hg9, hex0, hex1, hex2, hex3, hex4, hex5, hex6, hex7, hex8, hex9, hex10, hex11, hex12, by rw [ht]; exact hP9, hD9⟩⟩, hS.F ht⟩) hS.2.2 d_Reader_statement_185
    by_cases hw_198 : nx = 123
    · refine W.eq (g2 := F0 m 55 ls [.int 123]) (by rw [hw_198]; rfl) ?_
      refine lv_lookup (off := 93) (tgt := 148) hx hb d_Reader_statement_55 (by decide) (by decide) (by decide) ?_
      have hj8 : ifq nx 8 = 0 := ifq_n (by first | assumption | omega)
      have hj12 : ifq nx 12 = 0 := ifq_n (by first | assumption | omega)
      refine lv_aload_n hx hb d_Reader_statement_148 rfl (lv_at hl1 3 rfl) ?_
      refine va_get (D := D) (ci := 7) (v := .ref g0) (C := R_Reader) (T := F_Reader) (N := 5) hx hb hts i_Reader hown hK.1 hP 0 rfl rfl 1 (by decide) (hts _ wd_76) (fun _ h9 => h9) rfl d_Reader_statement_149 ?_
      refine lv_iconst (v := 4) hx hb d_Reader_statement_152 (by decide) ?_
      refine lv_iload_n hx hb d_Reader_statement_153 rfl (lv_at hl1 1 rfl) ?_
      obtain ⟨hPc, hDc, hFc, hCs⟩ := xw_sub3 (wc := [(g0, .inr (2, [.ref n0, .ref g1, .ref g2, .ref g3, .ref g4, .ref g5, .ref g6, .ref g7, .ref g8, .ref g9, .ref ga, .ref gb, .int (nI cl), .int (nI (ln + 1)), .int (nI (u_8 0)), .int (nI (u_8 1)), .int (nI va)])), (g1, .inl (ax 1, 20, .inl (fun j => nI ((sup kd ln nx) j)))), (g2, .inl (ax 1, 20, .inl (fun j => nI ((sup ow ln o9) j)))), (g3, .inl (ax 1, 20, .inl (fun j => nI ((sup sb ln 4294967295) j)))), (g4, .inl (ax 1, 20, .inl (fun j => nI ((sup f1 ln 4294967295) j)))), (g5, .inl (ax 1, 20, .inl (fun j => nI ((sup f2 ln 4294967295) j)))), (g6, .inl (ax 2, 20, .inl (fun j => nI (te j)))), (g7, .inl (ax 2, 20, .inl (fun j => nI (kp j)))), (g8, .inl (ax 0, 20, .inl tm)), (g9, .inl (ax 1, 20, .inl (fun j => nI ((sup nm ln 4294967295) j)))), (ga, .inl (ax 1, 29, .inl (fun j => nI (ck j)))), (gb, .inl (ax 1, 29, .inl (fun j => nI (co j))))]) hP hD hS hA [5, 6, 7, 8, 9, 10, 11, 12, 13, 14, 15, 16] (by decide) rfl
      have hz := xz_of hN hS
      refine va_callv (va_runV (As := [.int 4, .int (nI ln)]) (rest := []) ⟨hx, hb, hml, hown, hts⟩ (c_L_addClaim l D ax g0 g1 g2 g3 g4 g5 g6 g7 g8 g9 ga gb cl (ln + 1) (u_8 0) (u_8 1) va (sup kd ln nx) (sup ow ln o9) (sup sb ln 4294967295) (sup f1 ln 4294967295) (sup f2 ln 4294967295) te kp (sup nm ln 4294967295) ck co tm n0 4 ln H_16.size (by first | assumption | omega) hsml (by first | assumption | omega)) (xcV (n := 2) hts wd_613 wd_12 wd_642 wd_611 wd_612 rfl rfl (by decide +kernel) ⟨(show (10) + 1 ≤ (200 + 20 * kf) by omega), (show 8 + (3 + 11) + (400) ≤ (8000 + 800 * kf) by omega)⟩) (xpV (ci := 2) (q0 := 0) (As := [.int 4, .int (nI ln)]) hPc hK hz hDc rfl rfl) rfl rfl hl1.1 rfl (lv_room (Nat.le_of_ble_eq_true rfl)) d_Reader_statement_154 ⟨(show (0) + (0) ≤ (MX - cp) by omega), (show (0) + (0) ≤ (6 * (MX - cp)) by omega)⟩) hS (fun q _ h => hFc q h) hFc (fun u_199 t H_200 locs ht hvm hw hB hz1 hk1 hS1 => ?_)
      try dsimp only at hw
      obtain ⟨hs_202, hs_203⟩ := hw
      obtain ⟨x_204, x_205, hx_206, hP1, hD1⟩ := hB
      rw [ht] at hP1
      have hjn := xw_join3 (wl := [(r0, .inr (7, [.ref k0, .ref g0, .ref n0, .int (nI gh), .int (nI at9)])), (n0, .inr (4, [.ref n1, .ref n2, .ref n3, .int (nI z9)])), (n1, .inl (ax 1, cp, .inl fo)), (n2, .inl (ax 0, cp, .inl fl)), (n3, .inl (ax 0, cp, .inl fr)), (k0, .inr (9, [.ref k1, .ref k2, .int (nI ts), .int (nI th), .int (nI (u_15 0)), .int (nI (u_15 1)), .int (nI (u_15 2)), .int (nI (u_15 3))])), (k1, .inl (ax 1, 400, .inl tb)), (k2, .inl (ax 0, 401, .inl (fun j => nI (tk j)))), (g0, .inr (2, [.ref n0, .ref g1, .ref g2, .ref g3, .ref g4, .ref g5, .ref g6, .ref g7, .ref g8, .ref g9, .ref ga, .ref gb, .int (nI (u_199 0)), .int (nI (ln + 1)), .int (nI (u_8 0)), .int (nI (u_8 1)), .int (nI va)])), (g1, .inl (ax 1, 20, .inl (fun j => nI ((sup kd ln nx) j)))), (g2, .inl (ax 1, 20, .inl (fun j => nI ((sup ow ln o9) j)))), (g3, .inl (ax 1, 20, .inl (fun j => nI ((sup sb ln 4294967295) j)))), (g4, .inl (ax 1, 20, .inl (fun j => nI ((sup f1 ln 4294967295) j)))), (g5, .inl (ax 1, 20, .inl (fun j => nI ((sup f2 ln 4294967295) j)))), (g6, .inl (ax 2, 20, .inl (fun j => nI (te j)))), (g7, .inl (ax 2, 20, .inl (fun j => nI (kp j)))), (g8, .inl (ax 0, 20, .inl tm)), (g9, .inl (ax 1, 20, .inl (fun j => nI ((sup nm ln 4294967295) j)))), (ga, .inl (ax 1, 29, .inl (fun j => nI (x_204 j)))), (gb, .inl (ax 1, 29, .inl (fun j => nI (x_205 j))))]) hP hD [5, 6, 7, 8, 9, 10, 11, 12, 13, 14, 15, 16] [0, 1, 2, 3, 4, 17, 18, 19] hCs (by decide) (by decide) hk1 hFc hP1 hD1 rfl
      clear hP1 hD1
      clear hPc hDc hFc hCs hz hz1 hk1 ht hvm
      clear hP hD hS
      have hS := hS1
      obtain ⟨hP, hD⟩ := hjn
      clear hS1
      have hK_207 : okf (u_15 1) (cll x_204 x_205 (u_199 0) = (0, 0) :: cln pl ++ [(4, ln + 1)]) := fun q => cll_add (hcq (okf.of (by first | assumption | omega) q)) hx_206 (by first | assumption | omega) (by first | assumption | omega)
      have hC_208 : okf (u_15 1) (clm (u_8 0) (u_199 0) x_204 x_205 (ln + 1) (sup kd ln nx) (sup nm ln 4294967295)) := (fun q => (hC_29 q).one hx_206 (by first | assumption | omega) (Or.inl ⟨rfl, by rw [sup_eq]; omega⟩))
      clear hx_206
      refine lv_aload_n hx hb d_Reader_statement_157 rfl (lv_at hl1 3 rfl) ?_
      refine va_get (D := D) (ci := 7) (v := .ref g0) (C := R_Reader) (T := F_Reader) (N := 5) hx hb hts i_Reader hown hK.1 hP 0 rfl rfl 1 (by decide) (hts _ wd_76) (fun _ h9 => h9) rfl d_Reader_statement_158 ?_
      refine va_get (D := D) (ci := 2) (v := .ref g6) (C := R_Listing) (T := F_Listing) (N := 17) hx hb hts i_Listing hown hK.1 hP 8 rfl rfl 6 (by decide) (hts _ wd_288) (fun _ h9 => h9) rfl d_Reader_statement_161 ?_
      refine lv_iload_n hx hb d_Reader_statement_164 rfl (lv_at hl1 1 rfl) ?_
      refine lv_aload_n hx hb d_Reader_statement_165 rfl (lv_at hl1 3 rfl) ?_
      refine lv_iconst (v := 1) hx hb d_Reader_statement_166 (by decide) ?_
      obtain ⟨hPc, hDc, hFc, hCs⟩ := xw_sub3 (wc := [(r0, .inr (7, [.ref k0, (.ref g0), .ref n0, .int (nI gh), .int (nI at9)])), (k0, .inr (9, [.ref k1, .ref k2, .int (nI ts), .int (nI th), .int (nI (u_15 0)), .int (nI (u_15 1)), .int (nI (u_15 2)), .int (nI (u_15 3))])), (k1, .inl (ax 1, 400, .inl tb)), (k2, .inl (ax 0, 401, .inl (fun j => nI (tk j)))), (n0, .inr (4, [.ref n1, .ref n2, .ref n3, .int (nI z9)])), (n1, .inl (ax 1, cp, .inl fo)), (n2, .inl (ax 0, cp, .inl fl)), (n3, .inl (ax 0, cp, .inl fr))]) hP hD hS hA [0, 5, 6, 7, 1, 2, 3, 4] (by decide) rfl
      have hz := xz_of hN hS
      refine wk_know (fun hk8 hk9 => ?_)
      refine va_calli (va_runV (As := [.int 1]) (rest := [.int (nI ln), .ref g6]) ⟨hx, hb, hml, hown, hts⟩ (c_R_condition l D ax r0 k0 k1 k2 (.ref g0) tb tk (u_15 0) (u_15 1) (u_15 2) (u_15 3) cn ts th gh at9 1 n0 n1 n2 n3 cp z9 fo fl fr MX L0 H_200.size (tsl H_200) hkz (by assumption) (by first | assumption | omega) (by first | assumption | omega) (by first | assumption | omega) (by first | assumption | omega) (by first | assumption | omega) (by first | assumption | omega) (by first | assumption | omega) (by first | assumption | omega) (by first | assumption | omega) (by assumption) (by assumption) (by first | assumption | exact okf.nl (by assumption))) (xcV (n := 1) hts wd_539 wd_3 wd_536 wd_538 ps_7 rfl rfl (by decide +kernel) ⟨(show (160) + 1 ≤ (200 + 20 * kf) by omega), (show 8 + (2 + 11) + (6400) ≤ (8000 + 800 * kf) by omega)⟩) (xpV3 (ci := 7) (q0 := 0) (As := [.int 1]) hPc hK hz hDc rfl rfl) rfl rfl hl1.1 rfl (lv_room (Nat.le_of_ble_eq_true rfl)) d_Reader_statement_167 ⟨(show (0) + (MX - cp) ≤ (MX - cp) by omega), (show (0) + (6 * (MX - cp)) ≤ (6 * (MX - cp)) by omega)⟩) hS (fun q _ h => hFc q h) hFc (fun r_211 u_209 t H_210 locs ht hvm hw hB hz1 hk1 hS1 => ?_)
      try dsimp only at hw
      obtain ⟨hw, hs_212, hs_213, hs_214, hs_215, hs_216, hs_217, hs_218, hs_219, hs_220, hs_221, hs_222, hs_223, hs_224, hs_225, hs_226⟩ := hw
      subst hw
      obtain ⟨x_227, x_228, x_229, x_230, hg8, hg9, hx_231, hx_232, hx_233, hx_234, hx_235, hx_236, hP1, hD1⟩ := hB
      rw [ht] at hg8 hg9 hP1
      have hjn := xw_join3 (wl := [(g0, .inr (2, [.ref n0, .ref g1, .ref g2, .ref g3, .ref g4, .ref g5, .ref g6, .ref g7, .ref g8, .ref g9, .ref ga, .ref gb, .int (nI (u_199 0)), .int (nI (ln + 1)), .int (nI (u_8 0)), .int (nI (u_8 1)), .int (nI va)])), (g1, .inl (ax 1, 20, .inl (fun j => nI ((sup kd ln nx) j)))), (g2, .inl (ax 1, 20, .inl (fun j => nI ((sup ow ln o9) j)))), (g3, .inl (ax 1, 20, .inl (fun j => nI ((sup sb ln 4294967295) j)))), (g4, .inl (ax 1, 20, .inl (fun j => nI ((sup f1 ln 4294967295) j)))), (g5, .inl (ax 1, 20, .inl (fun j => nI ((sup f2 ln 4294967295) j)))), (g6, .inl (ax 2, 20, .inl (fun j => nI (te j)))), (g7, .inl (ax 2, 20, .inl (fun j => nI (kp j)))), (g8, .inl (ax 0, 20, .inl tm)), (g9, .inl (ax 1, 20, .inl (fun j => nI ((sup nm ln 4294967295) j)))), (ga, .inl (ax 1, 29, .inl (fun j => nI (x_204 j)))), (gb, .inl (ax 1, 29, .inl (fun j => nI (x_205 j)))), (r0, .inr (7, [.ref k0, .ref g0, .ref n0, .int (nI 1), .int (nI (u_209 9))])), (k0, .inr (9, [.ref k1, .ref k2, .int (nI ts), .int (nI th), .int (nI (u_209 0)), .int (nI (u_209 1)), .int (nI (u_209 2)), .int (nI (u_209 3))])), (k1, .inl (ax 1, 400, .inl tb)), (k2, .inl (ax 0, 401, .inl (fun j => nI (tk j)))), (n0, .inr (4, [.ref (u_209 4), .ref (u_209 5), .ref (u_209 6), .int (nI (u_209 7))])), ((u_209 4), .inl (ax 1, u_209 8, .inl x_227)), ((u_209 5), .inl (ax 0, u_209 8, .inl x_228)), ((u_209 6), .inl (ax 0, u_209 8, .inl x_229))]) hP hD [0, 5, 6, 7, 1, 2, 3, 4] [8, 9, 10, 11, 12, 13, 14, 15, 16, 17, 18, 19] hCs (by decide) (by decide) hk1 hFc hP1 hD1 rfl
      clear hP1 hD1
      clear hPc hDc hFc hCs hz hz1 hk1 ht hvm
      clear hP hD hS
      have hS := hS1
      obtain ⟨hP, hD⟩ := hjn
      clear hS1
      refine wk_narrow (k := u_209 8 - cp) (n := 6 * (u_209 8 - cp)) (by first | assumption | omega) (by first | assumption | omega) ?_
      clear hk8 hk9 hg8 hg9
      have hfl_237 := ftf_le (u_209 1)
      have hG_239 : okf (u_209 1) (cmpl 18 x_230 ∧ nbl 1023 x_230) := fun q => (hx_236.2 (okf.of hs_217 q)).2 q
      have hQ_238 : okf (u_209 1) (nlq x_227 x_228 x_229 (u_209 7) (L0 ++ x_230)) := fun q => by have h9 := hx_235 q; rw [h9.2]; exact (hQ_31 (okf.of hs_217 q)).app h9.1 (hG_239 q).1 (hG_239 q).2
      refine lv_i2s (v := nI (u_209 10)) hx hb d_Reader_statement_170 (nb_i2ss hs_226) ?_
      refine va_sast hx hb hK.1 hP hD hS 6 2 rfl rfl (vp_in_nI (by first | assumption | omega) (by decide)) d_Reader_statement_171 (fun H_240 locs hP1 hD1 hS1 => ?_)
      rw [nI_clamp (by first | exact Nat.lt_of_lt_of_le (by assumption) (by decide) | exact Nat.lt_of_le_of_lt (by assumption) (by decide) | omega)] at hP1 hD1
      rw [xf_supss te ln (u_209 10) hs_226] at hP1 hD1
      clear hP hD hS
      have hS := hS1
      have hW7 : (fun w9 : va_W => va_P D classes w9 H_240 ∧ va_D A w9) [(g0, .inr (2, [.ref n0, .ref g1, .ref g2, .ref g3, .ref g4, .ref g5, .ref g6, .ref g7, .ref g8, .ref g9, .ref ga, .ref gb, .int (nI (u_199 0)), .int (nI (ln + 1)), .int (nI (u_8 0)), .int (nI (u_8 1)), .int (nI va)])), (g1, .inl (ax 1, 20, .inl (fun j => nI ((sup kd ln nx) j)))), (g2, .inl (ax 1, 20, .inl (fun j => nI ((sup ow ln o9) j)))), (g3, .inl (ax 1, 20, .inl (fun j => nI ((sup sb ln 4294967295) j)))), (g4, .inl (ax 1, 20, .inl (fun j => nI ((sup f1 ln 4294967295) j)))), (g5, .inl (ax 1, 20, .inl (fun j => nI ((sup f2 ln 4294967295) j)))), (g6, .inl (ax 2, 20, .inl (fun j => nI (sup te ln (u_209 10) j)))), (g7, .inl (ax 2, 20, .inl (fun j => nI (kp j)))), (g8, .inl (ax 0, 20, .inl tm)), (g9, .inl (ax 1, 20, .inl (fun j => nI ((sup nm ln 4294967295) j)))), (ga, .inl (ax 1, 29, .inl (fun j => nI (x_204 j)))), (gb, .inl (ax 1, 29, .inl (fun j => nI (x_205 j)))), (r0, .inr (7, [.ref k0, .ref g0, .ref n0, .int (nI 1), .int (nI (u_209 9))])), (k0, .inr (9, [.ref k1, .ref k2, .int (nI ts), .int (nI th), .int (nI (u_209 0)), .int (nI (u_209 1)), .int (nI (u_209 2)), .int (nI (u_209 3))])), (k1, .inl (ax 1, 400, .inl tb)), (k2, .inl (ax 0, 401, .inl (fun j => nI (tk j)))), (n0, .inr (4, [.ref (u_209 4), .ref (u_209 5), .ref (u_209 6), .int (nI (u_209 7))])), ((u_209 4), .inl (ax 1, u_209 8, .inl x_227)), ((u_209 5), .inl (ax 0, u_209 8, .inl x_228)), ((u_209 6), .inl (ax 0, u_209 8, .inl x_229))] := ⟨hP1, hD1⟩
      obtain ⟨hP, hD⟩ := hW7
      clear hP1 hD1 hS1
      have hL_241 : okf (u_209 1) (lst (ln + 1) (u_209 7) (sup kd ln nx) (sup ow ln o9) (sup sb ln 4294967295) (sup f1 ln 4294967295) (sup f2 ln 4294967295) (sup te ln (u_209 10)) kp (sup nm ln 4294967295) (sup en ln 100) (sup (sup kc ln 0) ln ((sup kc ln 0) ln + (u_209 7 - z9))) tm x_227 x_228 x_229) := (fun q => (hL_28 (okf.of hs_217 q)).read (by first | assumption | omega) (hx_234 q) (by first | assumption | omega) sup_eq (Nat.le_refl _) (fun i hi => rfl) (fun i hi => rfl) (fun i hi => sup_ne hi) (fun i hi => rfl) (fun i hi => rfl) (fun i hi => rfl))
      have hC_242 : okf (u_209 1) (clm (u_8 0) (u_199 0) x_204 x_205 (ln + 1) (sup kd ln nx) (sup nm ln 4294967295)) := (fun q => hC_208 (okf.of hs_217 q))
      refine lv_aload_n hx hb d_Reader_statement_172 rfl (lv_at hl1 3 rfl) ?_
      refine va_get (D := D) (ci := 7) (v := .ref k0) (C := R_Reader) (T := F_Reader) (N := 5) hx hb hts i_Reader hown hK.1 hP 12 rfl rfl 0 (by decide) (hts _ wd_75) (fun _ h9 => h9) rfl d_Reader_statement_173 ?_
      refine lv_bipush (v := 125) hx hb d_Reader_statement_176 (by decide) ?_
      obtain ⟨hPc, hDc, hFc, hCs⟩ := xw_sub3 (wc := [(k0, .inr (9, [.ref k1, .ref k2, .int (nI ts), .int (nI th), .int (nI (u_209 0)), .int (nI (u_209 1)), .int (nI (u_209 2)), .int (nI (u_209 3))])), (k1, .inl (ax 1, 400, .inl tb)), (k2, .inl (ax 0, 401, .inl (fun j => nI (tk j))))]) hP hD hS hA [13, 14, 15] (by decide) rfl
      have hz := xz_of hN hS
      refine va_callv (va_runV (As := [.int 125]) (rest := []) ⟨hx, hb, hml, hown, hts⟩ (c_K_need l D ax k0 k1 k2 tb tk (u_209 0) (u_209 1) (u_209 2) (u_209 3) cn ts th 125 H_240.size hkz (by assumption) (by first | assumption | omega) (by first | assumption | omega) (by first | assumption | omega) (by first | assumption | omega) (by first | assumption | omega)) (xcV (n := 1) hts wd_571 wd_2 wd_568 wd_569 wd_570 rfl rfl (by decide +kernel) ⟨(show (20) + 1 ≤ (200 + 20 * kf) by omega), (show 8 + (2 + 11) + (800) ≤ (8000 + 800 * kf) by omega)⟩) (xpV (ci := 9) (q0 := 0) (As := [.int 125]) hPc hK hz hDc rfl rfl) rfl rfl hl1.1 rfl (lv_room (Nat.le_of_ble_eq_true rfl)) d_Reader_statement_178 ⟨(show (u_209 8 - cp) + (0) ≤ (MX - cp) by omega), (show (6 * (u_209 8 - cp)) + (0) ≤ (6 * (MX - cp)) by omega)⟩) hS (fun q _ h => hFc q h) hFc (fun u_243 t H_244 locs ht hvm hw hB hz1 hk1 hS1 => ?_)
      try dsimp only at hw
      obtain ⟨hs_246, hs_247, hs_248, hs_249, hs_250, hs_251, hs_252, hs_253⟩ := hw
      obtain ⟨hP1, hD1⟩ := hB
      rw [ht] at hP1
      have hjn := xw_join3 (wl := [(g0, .inr (2, [.ref n0, .ref g1, .ref g2, .ref g3, .ref g4, .ref g5, .ref g6, .ref g7, .ref g8, .ref g9, .ref ga, .ref gb, .int (nI (u_199 0)), .int (nI (ln + 1)), .int (nI (u_8 0)), .int (nI (u_8 1)), .int (nI va)])), (g1, .inl (ax 1, 20, .inl (fun j => nI ((sup kd ln nx) j)))), (g2, .inl (ax 1, 20, .inl (fun j => nI ((sup ow ln o9) j)))), (g3, .inl (ax 1, 20, .inl (fun j => nI ((sup sb ln 4294967295) j)))), (g4, .inl (ax 1, 20, .inl (fun j => nI ((sup f1 ln 4294967295) j)))), (g5, .inl (ax 1, 20, .inl (fun j => nI ((sup f2 ln 4294967295) j)))), (g6, .inl (ax 2, 20, .inl (fun j => nI (sup te ln (u_209 10) j)))), (g7, .inl (ax 2, 20, .inl (fun j => nI (kp j)))), (g8, .inl (ax 0, 20, .inl tm)), (g9, .inl (ax 1, 20, .inl (fun j => nI ((sup nm ln 4294967295) j)))), (ga, .inl (ax 1, 29, .inl (fun j => nI (x_204 j)))), (gb, .inl (ax 1, 29, .inl (fun j => nI (x_205 j)))), (r0, .inr (7, [.ref k0, .ref g0, .ref n0, .int (nI 1), .int (nI (u_209 9))])), (n0, .inr (4, [.ref (u_209 4), .ref (u_209 5), .ref (u_209 6), .int (nI (u_209 7))])), ((u_209 4), .inl (ax 1, u_209 8, .inl x_227)), ((u_209 5), .inl (ax 0, u_209 8, .inl x_228)), ((u_209 6), .inl (ax 0, u_209 8, .inl x_229)), (k0, .inr (9, [.ref k1, .ref k2, .int (nI ts), .int (nI th), .int (nI (u_243 0)), .int (nI (u_243 1)), .int (nI (u_243 2)), .int (nI (u_243 3))])), (k1, .inl (ax 1, 400, .inl tb)), (k2, .inl (ax 0, 401, .inl (fun j => nI (tk j))))]) hP hD [13, 14, 15] [0, 1, 2, 3, 4, 5, 6, 7, 8, 9, 10, 11, 12, 16, 17, 18, 19] hCs (by decide) (by decide) hk1 hFc hP1 hD1 rfl
      clear hP1 hD1
      clear hPc hDc hFc hCs hz hz1 hk1 ht hvm
      clear hP hD hS
      have hS := hS1
      obtain ⟨hP, hD⟩ := hjn
      clear hS1
      have hL_254 : okf (u_243 1) (lst (ln + 1) (u_209 7) (sup kd ln nx) (sup ow ln o9) (sup sb ln 4294967295) (sup f1 ln 4294967295) (sup f2 ln 4294967295) (sup te ln (u_209 10)) kp (sup nm ln 4294967295) (sup en ln 100) (sup (sup kc ln 0) ln ((sup kc ln 0) ln + (u_209 7 - z9))) tm x_227 x_228 x_229) := hL_241.back hs_251
      have hC_255 : okf (u_243 1) (clm (u_8 0) (u_199 0) x_204 x_205 (ln + 1) (sup kd ln nx) (sup nm ln 4294967295)) := hC_242.back hs_251
      have hN_256 : okf (u_243 1) (ndv x_227 x_228 x_229 (u_209 7)) := hx_231.back hs_251
      have hQ_257 : okf (u_243 1) (nlq x_227 x_228 x_229 (u_209 7) (L0 ++ x_230)) := hQ_238.back hs_251
      have hV_258 : okf (u_243 1) (va = vct pl) := fun q => hvc (okf.of (by first | assumption | omega) q)
      refine lv_goto (tgt := 184) hx hb d_Reader_statement_181 (by decide) ?_
      have hF : okf (u_243 1) ((lst (ln + 1) (u_209 7) (sup kd ln nx) (sup ow ln o9) (sup sb ln 4294967295) (sup f1 ln 4294967295) (sup f2 ln 4294967295) (sup te ln (u_209 10)) kp (sup nm ln 4294967295) (sup (sup en ln 100) ln (ln + 1)) (sup (sup kc ln 0) ln ((sup kc ln 0) ln + (u_209 7 - z9))) tm x_227 x_228 x_229) ∧ (cls ln (ln + 1) (sup (sup en ln 100) ln (ln + 1))) ∧ (sam ln kd ow sb f1 f2 te kp nm en kc (sup kd ln nx) (sup ow ln o9) (sup sb ln 4294967295) (sup f1 ln 4294967295) (sup f2 ln 4294967295) (sup te ln (u_209 10)) kp (sup nm ln 4294967295) (sup (sup en ln 100) ln (ln + 1)) (sup (sup kc ln 0) ln ((sup kc ln 0) ln + (u_209 7 - z9))) tm tm) ∧ (∀ i, i < z9 → tsn x_227 x_228 x_229 i = tsn fo fl fr i)) := by
        intro q
        have qc : u_209 1 = 4294967295 := okf.of (by first | assumption | omega) q
        have hc9 := (Nat.lt_of_succ_le (Nat.le_of_eq (hs_224 qc))); have ht9 := hx_233 qc
        refine ⟨(hL_254 q).close (by first | assumption | omega) sup_eq (fun i h1 h2 => by omega) ⟨fun h => by rw [sup_eq] at h; omega, fun h => by rw [sup_eq] at h; omega, fun h => by rw [sup_eq] at h; omega, fun _ => ⟨by rw [sup_eq]; exact hc9, by rw [sup_eq, sup_eq, sup_eq]; omega⟩⟩, fun i h1 h2 => ?_, fun i hi => by refine ⟨?_, ?_, ?_, ?_, ?_, ?_, ?_, ?_, ?_, ?_, ?_⟩ <;> first | rfl | exact sup_ne (by first | assumption | omega) | (rw [sup_ne (by first | assumption | omega), sup_ne (by first | assumption | omega)]) | exact absurd i (by first | assumption | omega), (hx_234 (okf.of (by first | assumption | omega) q))⟩
        rw [show i = ln by omega, sup_eq]; exact Nat.le_refl _
      have hb9 : cku tk ta = 123 := (hrs.ck hok).trans (by first | assumption | omega)
      have hI9 : okf (u_243 1) (icu tk ta (8, 0, 0, (0, 0), x_230, [])) := fun q => ia_cut hb9 (hs_25 hok) hx_236 (hs_26.trans hok) (okf.of (by first | assumption | omega) q)
      have hB9 : okf (u_243 1) (bk9 ln (ln + 1) (sup kd ln nx) (sup ow ln o9) (sup sb ln 4294967295) (sup f1 ln 4294967295) (sup f2 ln 4294967295) (sup te ln (u_209 10)) kp (sup nm ln 4294967295) tm (L0 ++ x_230) o9 ln pl (pl ++ [(8, ln + 1, 0, (0, 0), x_230, [])])) := fun q => by
        have qc : u_209 1 = 4294967295 := okf.of (by first | assumption | omega) q
        have sup_eq9 : (sup kd ln nx) ln = 17 ∨ (sup kd ln nx) ln = 123 := by rw [sup_eq]; omega
        exact bk9_one (by rw [sup_eq]; omega) (by rw [sup_eq, show nx = 123 by omega]; rfl) sup_eq sup_eq (itm_tc (hG_239 qc).1 (hG_239 qc).2 (by rw [sup_eq]; exact cnd_at (hQ_31 (okf.of (by first | assumption | omega) q)).2.1 (hG_239 qc).1 (hQ_238 qc).2.2.1 prx.rf (by have h8 := hs_224 qc; have h7 := (hx_235 qc).2; omega)) sup_eq9)
      have hB8 : okf (u_243 1) (nlq x_227 x_228 x_229 (u_209 7) (L0 ++ x_230) ∧ prx L0 (L0 ++ x_230)) := fun q => ⟨hQ_257 (okf.of (by first | assumption | omega) q), ⟨_, rfl⟩⟩
      have hB7 : okf (u_243 1) (va = vct (pl ++ [(8, ln + 1, 0, (0, 0), x_230, [])])) := fun q => by rw [vct_app, vct_n (x := (8, ln + 1, 0, (0, 0), x_230, [])) (show ¬ (8 : Nat) = 5 by decide)]; exact hvc (okf.of (by first | assumption | omega) q)
      have hB6 : okf (u_243 1) (cll x_204 x_205 (u_199 0) = (0, 0) :: cln (pl ++ [(8, ln + 1, 0, (0, 0), x_230, [])])) := fun q => cq_8 (hK_207 (okf.of (by first | assumption | omega) q))
      refine lv_iload_n hx hb d_Reader_statement_184 rfl (lv_at hl1 1 rfl) ?_
      rw [← hQe]
      refine wk_know (fun hk8 hk9 => ?_)
      refine W.widen (k := MX - cp) (n := 6 * (MX - cp)) (by first | assumption | omega) (by first | assumption | omega) ?_
      obtain ⟨hP9, hD9⟩ := xw_sub2 (wc := (fun (u : Nat → Nat) (xkd : Nat → Nat) (xow : Nat → Nat) (xsb : Nat → Nat) (xf1 : Nat → Nat) (xf2 : Nat → Nat) (xte : Nat → Nat) (xkp : Nat → Nat) (xnm : Nat → Nat) (xck : Nat → Nat) (xco : Nat → Nat) (xtm : Nat → Int32) (xfo : Nat → Int32) (xfl : Nat → Int32) (xfr : Nat → Int32) (xen : Nat → Nat) (xkc : Nat → Nat) (xpl : List itT) (xL : List sgT) => [(r0, .inr (7, [.ref k0, .ref g0, .ref n0, .int (nI (u 11)), .int (nI (u 9))])), (k0, .inr (9, [.ref k1, .ref k2, .int (nI ts), .int (nI th), .int (nI (u 0)), .int (nI (u 1)), .int (nI (u 2)), .int (nI (u 3))])), (k1, .inl (ax 1, 400, .inl tb)), (k2, .inl (ax 0, 401, .inl (fun j => nI (tk j)))), (n0, .inr (4, [.ref (u 4), .ref (u 5), .ref (u 6), .int (nI (u 7))])), (u 4, .inl (ax 1, u 8, .inl xfo)), (u 5, .inl (ax 0, u 8, .inl xfl)), (u 6, .inl (ax 0, u 8, .inl xfr)), (g0, .inr (2, [.ref n0, .ref g1, .ref g2, .ref g3, .ref g4, .ref g5, .ref g6, .ref g7, .ref g8, .ref g9, .ref ga, .ref gb, .int (nI (u 12)), .int (nI (u 13)), .int (nI (u 14)), .int (nI (u 15)), .int (nI (u 16))])), (g1, .inl (ax 1, 20, .inl (fun j => nI (xkd j)))), (g2, .inl (ax 1, 20, .inl (fun j => nI (xow j)))), (g3, .inl (ax 1, 20, .inl (fun j => nI (xsb j)))), (g4, .inl (ax 1, 20, .inl (fun j => nI (xf1 j)))), (g5, .inl (ax 1, 20, .inl (fun j => nI (xf2 j)))), (g6, .inl (ax 2, 20, .inl (fun j => nI (xte j)))), (g7, .inl (ax 2, 20, .inl (fun j => nI (xkp j)))), (g8, .inl (ax 0, 20, .inl xtm)), (g9, .inl (ax 1, 20, .inl (fun j => nI (xnm j)))), (ga, .inl (ax 1, 29, .inl (fun j => nI (xck j)))), (gb, .inl (ax 1, 29, .inl (fun j => nI (xco j))))]) (ixn [(u_243 0), (u_243 1), (u_243 2), (u_243 3), (u_209 4), (u_209 5), (u_209 6), (u_209 7), (u_209 8), (u_209 9), ln, 1, (u_199 0), (ln + 1), (u_8 0), (u_8 1), va]) (sup kd ln nx) (sup ow ln o9) (sup sb ln 4294967295) (sup f1 ln 4294967295) (sup f2 ln 4294967295) (sup te ln (u_209 10)) kp (sup nm ln 4294967295) x_204 x_205 tm x_227 x_228 x_229 (sup (sup en ln 100) ln (ln + 1)) (sup (sup kc ln 0) ln ((sup kc ln 0) ln + (u_209 7 - z9))) (pl ++ [(8, ln + 1, 0, (0, 0), x_230, [])]) (L0 ++ x_230)) hP hD [12, 17, 18, 19, 13, 14, 15, 16, 0, 1, 2, 3, 4, 5, 6, 7, 8, 9, 10, 11] (by decide) rfl
      have hex0 : okf ((u_243 1)) (lst ((ln + 1)) ((u_209 7)) (sup kd ln nx) (sup ow ln o9) (sup sb ln 4294967295) (sup f1 ln 4294967295) (sup f2 ln 4294967295) (sup te ln (u_209 10)) kp (sup nm ln 4294967295) (sup (sup en ln 100) ln (ln + 1)) (sup (sup kc ln 0) ln ((sup kc ln 0) ln + (u_209 7 - z9))) tm x_227 x_228 x_229) := (fun q => (hF q).1)
      have hex1 : okf ((u_243 1)) (cls ln ((ln + 1)) (sup (sup en ln 100) ln (ln + 1))) := (fun q => (hF q).2.1)
      have hex2 : okf ((u_243 1)) (sam ln kd ow sb f1 f2 te kp nm en kc (sup kd ln nx) (sup ow ln o9) (sup sb ln 4294967295) (sup f1 ln 4294967295) (sup f2 ln 4294967295) (sup te ln (u_209 10)) kp (sup nm ln 4294967295) (sup (sup en ln 100) ln (ln + 1)) (sup (sup kc ln 0) ln ((sup kc ln 0) ln + (u_209 7 - z9))) tm tm) := (fun q => (hF q).2.2.1)
      have hex3 : okf ((u_243 1)) (ln = ln ∧ ln < (ln + 1)) := (fun q => ⟨rfl, by omega⟩)
      have hex4 : okf ((u_243 1)) (clm ((u_8 0)) ((u_199 0)) x_204 x_205 ((ln + 1)) (sup kd ln nx) (sup nm ln 4294967295)) := hC_255
      have hex5 : okf ((u_243 1)) (ndv x_227 x_228 x_229 ((u_209 7))) := hN_256
      have hex6 : bts x_227 ((u_209 8)) := (by assumption)
      have hex7 : okf ((u_243 1)) (∀ i, i < z9 → tsn x_227 x_228 x_229 i = tsn fo fl fr i) := (fun q => (hF q).2.2.2)
      have hex8 : psS tk tf ta sg ln br lp pl ((u_243 1)) ((u_243 0)) ((ln + 1)) ((u_8 0)) ((u_8 1)) (pl ++ [(8, ln + 1, 0, (0, 0), x_230, [])]) := (st_one hrs hok hN5 (by first | assumption | omega) (so_cut hrs hok (by first | assumption | omega) (hs_25 hok) hs_26 (hx_236).cn hs_212 hs_253) hI9 (by first | assumption | omega) (by first | assumption | omega) (by first | assumption | omega) (by rw [gI_n (x := (8, 0, 0, (0, 0), x_230, [])) (show ¬ (8 : Nat) = 5 by decide)]))
      have hex9 : okf ((u_243 1)) (bk9 ln ((ln + 1)) (sup kd ln nx) (sup ow ln o9) (sup sb ln 4294967295) (sup f1 ln 4294967295) (sup f2 ln 4294967295) (sup te ln (u_209 10)) kp (sup nm ln 4294967295) tm (L0 ++ x_230) o9 ln pl (pl ++ [(8, ln + 1, 0, (0, 0), x_230, [])])) := hB9
      have hex10 : okf ((u_243 1)) (nlq x_227 x_228 x_229 ((u_209 7)) (L0 ++ x_230) ∧ prx L0 (L0 ++ x_230)) := hB8
      have hex11 : okf ((u_243 1)) (va = vct (pl ++ [(8, ln + 1, 0, (0, 0), x_230, [])])) := hB7
      have hex12 : okf ((u_243 1)) (cll x_204 x_205 ((u_199 0)) = (0, 0) :: cln (pl ++ [(8, ln + 1, 0, (0, 0), x_230, [])])) := hB6
      have hg8 : H_244.size ≤ s.heap.size + ((u_209 8) - cp) := by omega
      have hg9 : tsl H_244 ≤ tsl s.heap + (6 * ((u_209 8) - cp)) := by omega
      have hsp0 : rst tk ((u_243 1)) ((u_243 2)) ((u_243 3)) ((u_243 0)) cn := (by assumption)
      have hsp1 : (u_243 0) ≤ cn := (by first | assumption | omega)
      have hsp2 : (u_243 2) < 128 := (by first | assumption | omega)
      have hsp3 : (u_243 3) < 1024 := (by first | assumption | omega)
      have hsp4 : ta ≤ (u_243 0) := (by first | assumption | omega)
      have hsp5 : ftf tf ≤ ftf ((u_243 1)) := (by first | assumption | omega)
      have hsp6 : z9 ≤ (u_209 7) := (by first | assumption | omega)
      have hsp7 : (u_209 7) + ta ≤ z9 + (u_243 0) + 2 * ((ln + 1) - ln) := (by first | assumption | omega)
      have hsp8 : (u_209 7) ≤ (u_209 8) := (by first | assumption | omega)
      have hsp9 : cp ≤ (u_209 8) := (by first | assumption | omega)
      have hsp10 : (u_209 8) ≤ MX := (by first | assumption | omega)
      have hsp11 : 1 ≤ 1 := (by first | assumption | omega)
      have hsp12 : (u_199 0) ≤ 1 + 2 * (u_8 1) + (ln + 1) := (by first | assumption | omega)
      have hsp13 : ln ≤ (ln + 1) := (by first | assumption | omega)
      have hsp14 : (ln + 1) ≤ 20 := (by first | assumption | omega)
      have hsp15 : br ≤ (u_8 0) := (by first | assumption | omega)
      have hsp16 : (u_8 0) ≤ 4 := (by first | assumption | omega)
      have hsp17 : lp ≤ (u_8 1) := (by first | assumption | omega)
      have hsp18 : (u_8 1) ≤ 4 := (by first | assumption | omega)
      have hsp19 : va ≤ (u_8 1) := (by first | assumption | omega)
      have hsp20 : smn (ln) := hsml
      exact W.iret (v := nI ln) hx hb hr (fun t ht hW => ⟨⟨nI ln, ixn [(u_243 0), (u_243 1), (u_243 2), (u_243 3), (u_209 4), (u_209 5), (u_209 6), (u_209 7), (u_209 8), (u_209 9), ln, 1, (u_199 0), (ln + 1), (u_8 0), (u_8 1), va], rfl, ⟨rfl, ⟨hsp0, hsp1, hsp2, hsp3, hsp4, hsp5, hsp6, hsp7, hsp8, hsp9, hsp10, hsp11, hsp12, hsp13, hsp14, hsp15, hsp16, hsp17, hsp18, hsp19, hsp20⟩⟩, ⟨sup kd ln nx, sup ow ln o9, sup sb ln 4294967295, sup f1 ln 4294967295, sup f2 ln 4294967295, sup te ln (u_209 10), kp, sup nm ln 4294967295, x_204, x_205, tm, x_227, x_228, x_229, sup (sup en ln 100) ln (ln + 1), sup (sup kc ln 0) ln ((sup kc ln 0) ln + (u_209 7 - z9)), (pl ++ [(8, ln + 1, 0, (0, 0), x_230, [])]), (L0 ++ x_230), by rw [ht]; exact hg8, by rw [ht]; exact hg9, hex0, hex1, hex2, hex3, hex4, hex5, hex6, hex7, hex8, hex9, hex10, hex11, hex12, by rw [ht]; exact hP9, hD9⟩⟩, hS.F ht⟩) hS.2.2 d_Reader_statement_185
    refine lv_lookup (off := 129) (tgt := 184) hx hb d_Reader_statement_55 (by decide) (by rw [nI_toInt (by first | assumption | omega)]; exact sw_no (by simp; omega)) (by decide) ?_
    have hj8 : ifq nx 8 = 0 := ifq_n (by first | assumption | omega)
    have hj12 : ifq nx 12 = 0 := ifq_n (by first | assumption | omega)
    have hF : okf (u_15 1) ((lst (ln + 1) z9 (sup kd ln nx) (sup ow ln o9) (sup sb ln 4294967295) (sup f1 ln 4294967295) (sup f2 ln 4294967295) te kp (sup nm ln 4294967295) (sup (sup en ln 100) ln (ln + 1)) (sup kc ln 0) tm fo fl fr) ∧ (cls ln (ln + 1) (sup (sup en ln 100) ln (ln + 1))) ∧ (sam ln kd ow sb f1 f2 te kp nm en kc (sup kd ln nx) (sup ow ln o9) (sup sb ln 4294967295) (sup f1 ln 4294967295) (sup f2 ln 4294967295) te kp (sup nm ln 4294967295) (sup (sup en ln 100) ln (ln + 1)) (sup kc ln 0) tm tm) ∧ (∀ i, i < z9 → tsn fo fl fr i = tsn fo fl fr i)) := by
      intro q
      refine ⟨(hL_28 q).close (by first | assumption | omega) sup_eq (fun i h1 h2 => by omega) ⟨fun h => by rw [sup_eq] at h; omega, fun h => by rw [sup_eq] at h; omega, fun h => by rw [sup_eq] at h; omega, fun h => by rw [sup_eq] at h; omega⟩, fun i h1 h2 => ?_, fun i hi => by refine ⟨?_, ?_, ?_, ?_, ?_, ?_, ?_, ?_, ?_, ?_, ?_⟩ <;> first | rfl | exact sup_ne (by first | assumption | omega) | (rw [sup_ne (by first | assumption | omega), sup_ne (by first | assumption | omega)]) | exact absurd i (by first | assumption | omega), (fun i hi => rfl)⟩
      rw [show i = ln by omega, sup_eq]; exact Nat.le_refl _
    have hb9 : cku tk ta = 7 := (hrs.ck hok).trans (by unfold knd at hkn; omega)
    have hI9 : okf (u_15 1) (icu tk ta (1, 0, 0, (0, 0), [], [])) := fun q => ia_skp hb9
    have hB9 : okf (u_15 1) (bk9 ln (ln + 1) (sup kd ln nx) (sup ow ln o9) (sup sb ln 4294967295) (sup f1 ln 4294967295) (sup f2 ln 4294967295) te kp (sup nm ln 4294967295) tm L0 o9 ln pl (pl ++ [(1, ln + 1, 0, (0, 0), [], [])])) := fun q => by
      have sup_eq9 : (sup kd ln nx) ln = 7 := by rw [sup_eq]; unfold knd at hkn; omega
      exact bk9_one (by rw [sup_eq]; unfold knd at hkn; omega) (by rw [sup_eq, show nx = 7 by unfold knd at hkn; omega]; rfl) sup_eq sup_eq (itm_sk sup_eq9)
    have hB8 : okf (u_15 1) (nlq fo fl fr z9 L0 ∧ prx L0 L0) := fun q => ⟨hQ_31 (okf.of (by first | assumption | omega) q), prx.rf⟩
    have hB7 : okf (u_15 1) (va = vct (pl ++ [(1, ln + 1, 0, (0, 0), [], [])])) := fun q => by rw [vct_app, vct_n (x := (1, ln + 1, 0, (0, 0), [], [])) (show ¬ (1 : Nat) = 5 by decide)]; exact hvc (okf.of (by first | assumption | omega) q)
    have hB6 : okf (u_15 1) (cll ck co cl = (0, 0) :: cln (pl ++ [(1, ln + 1, 0, (0, 0), [], [])])) := fun q => cq_n (x := (1, ln + 1, 0, (0, 0), [], [])) (hcq (okf.of (by first | assumption | omega) q)) (show ¬ (1 : Nat) = 5 by decide) (show ¬ (1 : Nat) = 8 by decide)
    refine lv_iload_n hx hb d_Reader_statement_184 rfl (lv_at hl1 1 rfl) ?_
    rw [← hQe]
    refine wk_know (fun hk8 hk9 => ?_)
    refine W.widen (k := MX - cp) (n := 6 * (MX - cp)) (by first | assumption | omega) (by first | assumption | omega) ?_
    obtain ⟨hP9, hD9⟩ := xw_sub2 (wc := (fun (u : Nat → Nat) (xkd : Nat → Nat) (xow : Nat → Nat) (xsb : Nat → Nat) (xf1 : Nat → Nat) (xf2 : Nat → Nat) (xte : Nat → Nat) (xkp : Nat → Nat) (xnm : Nat → Nat) (xck : Nat → Nat) (xco : Nat → Nat) (xtm : Nat → Int32) (xfo : Nat → Int32) (xfl : Nat → Int32) (xfr : Nat → Int32) (xen : Nat → Nat) (xkc : Nat → Nat) (xpl : List itT) (xL : List sgT) => [(r0, .inr (7, [.ref k0, .ref g0, .ref n0, .int (nI (u 11)), .int (nI (u 9))])), (k0, .inr (9, [.ref k1, .ref k2, .int (nI ts), .int (nI th), .int (nI (u 0)), .int (nI (u 1)), .int (nI (u 2)), .int (nI (u 3))])), (k1, .inl (ax 1, 400, .inl tb)), (k2, .inl (ax 0, 401, .inl (fun j => nI (tk j)))), (n0, .inr (4, [.ref (u 4), .ref (u 5), .ref (u 6), .int (nI (u 7))])), (u 4, .inl (ax 1, u 8, .inl xfo)), (u 5, .inl (ax 0, u 8, .inl xfl)), (u 6, .inl (ax 0, u 8, .inl xfr)), (g0, .inr (2, [.ref n0, .ref g1, .ref g2, .ref g3, .ref g4, .ref g5, .ref g6, .ref g7, .ref g8, .ref g9, .ref ga, .ref gb, .int (nI (u 12)), .int (nI (u 13)), .int (nI (u 14)), .int (nI (u 15)), .int (nI (u 16))])), (g1, .inl (ax 1, 20, .inl (fun j => nI (xkd j)))), (g2, .inl (ax 1, 20, .inl (fun j => nI (xow j)))), (g3, .inl (ax 1, 20, .inl (fun j => nI (xsb j)))), (g4, .inl (ax 1, 20, .inl (fun j => nI (xf1 j)))), (g5, .inl (ax 1, 20, .inl (fun j => nI (xf2 j)))), (g6, .inl (ax 2, 20, .inl (fun j => nI (xte j)))), (g7, .inl (ax 2, 20, .inl (fun j => nI (xkp j)))), (g8, .inl (ax 0, 20, .inl xtm)), (g9, .inl (ax 1, 20, .inl (fun j => nI (xnm j)))), (ga, .inl (ax 1, 29, .inl (fun j => nI (xck j)))), (gb, .inl (ax 1, 29, .inl (fun j => nI (xco j))))]) (ixn [(u_15 0), (u_15 1), (u_15 2), (u_15 3), n1, n2, n3, z9, cp, at9, ln, gh, cl, (ln + 1), (u_8 0), (u_8 1), va]) (sup kd ln nx) (sup ow ln o9) (sup sb ln 4294967295) (sup f1 ln 4294967295) (sup f2 ln 4294967295) te kp (sup nm ln 4294967295) ck co tm fo fl fr (sup (sup en ln 100) ln (ln + 1)) (sup kc ln 0) (pl ++ [(1, ln + 1, 0, (0, 0), [], [])]) L0) hP hD [0, 17, 18, 19, 1, 2, 3, 4, 5, 6, 7, 8, 9, 10, 11, 12, 13, 14, 15, 16] (by decide) rfl
    have hex0 : okf ((u_15 1)) (lst ((ln + 1)) (z9) (sup kd ln nx) (sup ow ln o9) (sup sb ln 4294967295) (sup f1 ln 4294967295) (sup f2 ln 4294967295) te kp (sup nm ln 4294967295) (sup (sup en ln 100) ln (ln + 1)) (sup kc ln 0) tm fo fl fr) := (fun q => (hF q).1)
    have hex1 : okf ((u_15 1)) (cls ln ((ln + 1)) (sup (sup en ln 100) ln (ln + 1))) := (fun q => (hF q).2.1)
    have hex2 : okf ((u_15 1)) (sam ln kd ow sb f1 f2 te kp nm en kc (sup kd ln nx) (sup ow ln o9) (sup sb ln 4294967295) (sup f1 ln 4294967295) (sup f2 ln 4294967295) te kp (sup nm ln 4294967295) (sup (sup en ln 100) ln (ln + 1)) (sup kc ln 0) tm tm) := (fun q => (hF q).2.2.1)
    have hex3 : okf ((u_15 1)) (ln = ln ∧ ln < (ln + 1)) := (fun q => ⟨rfl, by omega⟩)
    have hex4 : okf ((u_15 1)) (clm ((u_8 0)) (cl) ck co ((ln + 1)) (sup kd ln nx) (sup nm ln 4294967295)) := hC_29
    have hex5 : okf ((u_15 1)) (ndv fo fl fr (z9)) := hN_30
    have hex6 : bts fo (cp) := (by assumption)
    have hex7 : okf ((u_15 1)) (∀ i, i < z9 → tsn fo fl fr i = tsn fo fl fr i) := (fun q => (hF q).2.2.2)
    have hex8 : psS tk tf ta sg ln br lp pl ((u_15 1)) ((u_15 0)) ((ln + 1)) ((u_8 0)) ((u_8 1)) (pl ++ [(1, ln + 1, 0, (0, 0), [], [])]) := (st_one hrs hok hN5 (by unfold knd at hkn; omega) (so_skip hrs hok (by unfold knd at hkn; omega) (hs_25 hok) hs_26) hI9 (by first | assumption | omega) (by first | assumption | omega) (by first | assumption | omega) (by rw [gI_n (x := (1, 0, 0, (0, 0), [], [])) (show ¬ (1 : Nat) = 5 by decide)]))
    have hex9 : okf ((u_15 1)) (bk9 ln ((ln + 1)) (sup kd ln nx) (sup ow ln o9) (sup sb ln 4294967295) (sup f1 ln 4294967295) (sup f2 ln 4294967295) te kp (sup nm ln 4294967295) tm L0 o9 ln pl (pl ++ [(1, ln + 1, 0, (0, 0), [], [])])) := hB9
    have hex10 : okf ((u_15 1)) (nlq fo fl fr (z9) L0 ∧ prx L0 L0) := hB8
    have hex11 : okf ((u_15 1)) (va = vct (pl ++ [(1, ln + 1, 0, (0, 0), [], [])])) := hB7
    have hex12 : okf ((u_15 1)) (cll ck co (cl) = (0, 0) :: cln (pl ++ [(1, ln + 1, 0, (0, 0), [], [])])) := hB6
    have hg8 : H_16.size ≤ s.heap.size + (cp - cp) := by omega
    have hg9 : tsl H_16 ≤ tsl s.heap + (6 * (cp - cp)) := by omega
    have hsp0 : rst tk ((u_15 1)) ((u_15 2)) ((u_15 3)) ((u_15 0)) cn := (by assumption)
    have hsp1 : (u_15 0) ≤ cn := (by first | assumption | omega)
    have hsp2 : (u_15 2) < 128 := (by first | assumption | omega)
    have hsp3 : (u_15 3) < 1024 := (by first | assumption | omega)
    have hsp4 : ta ≤ (u_15 0) := (by first | assumption | omega)
    have hsp5 : ftf tf ≤ ftf ((u_15 1)) := (by first | assumption | omega)
    have hsp6 : z9 ≤ z9 := (by first | assumption | omega)
    have hsp7 : z9 + ta ≤ z9 + (u_15 0) + 2 * ((ln + 1) - ln) := (by first | assumption | omega)
    have hsp8 : z9 ≤ cp := (by first | assumption | omega)
    have hsp9 : cp ≤ cp := (by first | assumption | omega)
    have hsp10 : cp ≤ MX := (by first | assumption | omega)
    have hsp11 : gh ≤ 1 := (by first | assumption | omega)
    have hsp12 : cl ≤ 1 + 2 * (u_8 1) + (ln + 1) := (by first | assumption | omega)
    have hsp13 : ln ≤ (ln + 1) := (by first | assumption | omega)
    have hsp14 : (ln + 1) ≤ 20 := (by first | assumption | omega)
    have hsp15 : br ≤ (u_8 0) := (by first | assumption | omega)
    have hsp16 : (u_8 0) ≤ 4 := (by first | assumption | omega)
    have hsp17 : lp ≤ (u_8 1) := (by first | assumption | omega)
    have hsp18 : (u_8 1) ≤ 4 := (by first | assumption | omega)
    have hsp19 : va ≤ (u_8 1) := (by first | assumption | omega)
    have hsp20 : smn (ln) := hsml
    exact W.iret (v := nI ln) hx hb hr (fun t ht hW => ⟨⟨nI ln, ixn [(u_15 0), (u_15 1), (u_15 2), (u_15 3), n1, n2, n3, z9, cp, at9, ln, gh, cl, (ln + 1), (u_8 0), (u_8 1), va], rfl, ⟨rfl, ⟨hsp0, hsp1, hsp2, hsp3, hsp4, hsp5, hsp6, hsp7, hsp8, hsp9, hsp10, hsp11, hsp12, hsp13, hsp14, hsp15, hsp16, hsp17, hsp18, hsp19, hsp20⟩⟩, ⟨sup kd ln nx, sup ow ln o9, sup sb ln 4294967295, sup f1 ln 4294967295, sup f2 ln 4294967295, te, kp, sup nm ln 4294967295, ck, co, tm, fo, fl, fr, sup (sup en ln 100) ln (ln + 1), sup kc ln 0, (pl ++ [(1, ln + 1, 0, (0, 0), [], [])]), L0, by rw [ht]; exact hg8, by rw [ht]; exact hg9, hex0, hex1, hex2, hex3, hex4, hex5, hex6, hex7, hex8, hex9, hex10, hex11, hex12, by rw [ht]; exact hP9, hD9⟩⟩, hS.F ht⟩) hS.2.2 d_Reader_statement_185
  · replace c_7 : u_1 0 = 0 := (nI_eq (a := u_1 0) (b := 0) (by first | exact Nat.lt_of_lt_of_le (by assumption) (by decide) | exact Nat.lt_of_le_of_lt (by assumption) (by decide) | omega) (by decide)).mp c_7
    refine lv_aload_n hx hb d_Reader_statement_19 rfl (lv_at hl1 1 rfl) ?_
    refine va_get (D := D) (ci := 7) (v := .ref k0) (C := R_Reader) (T := F_Reader) (N := 5) hx hb hts i_Reader hown hK.1 hP 0 rfl rfl 0 (by decide) (hts _ wd_75) (fun _ h9 => h9) rfl d_Reader_statement_20 ?_
    obtain ⟨hPc, hDc, hFc, hCs⟩ := xw_sub3 (wc := [(k0, .inr (9, [.ref k1, .ref k2, .int (nI ts), .int (nI th), .int (nI ta), .int (nI tf), .int (nI nx), .int (nI am)])), (k1, .inl (ax 1, 400, .inl tb)), (k2, .inl (ax 0, 401, .inl (fun j => nI (tk j))))]) hP hD hS hA [1, 2, 3] (by decide) rfl
    have hz := xz_of hN hS
    refine va_callv (va_runV (As := []) (rest := []) ⟨hx, hb, hml, hown, hts⟩ (c_K_refuse l D ax k0 k1 k2 tb tk ta tf nx am cn ts th H_2.size hkz (by assumption) (by first | assumption | omega) (by first | assumption | omega) (by first | assumption | omega)) (xcV (n := 0) hts wd_559 wd_2 wd_556 wd_557 wd_558 rfl rfl (by decide +kernel) ⟨(show (10) + 1 ≤ (200 + 20 * kf) by omega), (show 8 + (1 + 11) + (400) ≤ (8000 + 800 * kf) by omega)⟩) (xpV (ci := 9) (q0 := 0) (As := []) hPc hK hz hDc rfl rfl) rfl rfl hl1.1 rfl (lv_room (Nat.le_of_ble_eq_true rfl)) d_Reader_statement_23 ⟨(show (0) + (0) ≤ (MX - cp) by omega), (show (0) + (0) ≤ (6 * (MX - cp)) by omega)⟩) hS (fun q _ h => hFc q h) hFc (fun u_259 t H_260 locs ht hvm hw hB hz1 hk1 hS1 => ?_)
    try dsimp only at hw
    obtain ⟨hs_262, hs_263, hs_264, hs_265, hs_266, hs_267, hs_268, hs_269, hs_270, hs_271⟩ := hw
    obtain ⟨hP1, hD1⟩ := hB
    rw [ht] at hP1
    have hjn := xw_join3 (wl := [(r0, .inr (7, [.ref k0, .ref g0, .ref n0, .int (nI gh), .int (nI at9)])), (n0, .inr (4, [.ref n1, .ref n2, .ref n3, .int (nI z9)])), (n1, .inl (ax 1, cp, .inl fo)), (n2, .inl (ax 0, cp, .inl fl)), (n3, .inl (ax 0, cp, .inl fr)), (g0, .inr (2, [.ref n0, .ref g1, .ref g2, .ref g3, .ref g4, .ref g5, .ref g6, .ref g7, .ref g8, .ref g9, .ref ga, .ref gb, .int (nI cl), .int (nI ln), .int (nI br), .int (nI lp), .int (nI va)])), (g1, .inl (ax 1, 20, .inl (fun j => nI (kd j)))), (g2, .inl (ax 1, 20, .inl (fun j => nI (ow j)))), (g3, .inl (ax 1, 20, .inl (fun j => nI (sb j)))), (g4, .inl (ax 1, 20, .inl (fun j => nI (f1 j)))), (g5, .inl (ax 1, 20, .inl (fun j => nI (f2 j)))), (g6, .inl (ax 2, 20, .inl (fun j => nI (te j)))), (g7, .inl (ax 2, 20, .inl (fun j => nI (kp j)))), (g8, .inl (ax 0, 20, .inl tm)), (g9, .inl (ax 1, 20, .inl (fun j => nI (nm j)))), (ga, .inl (ax 1, 29, .inl (fun j => nI (ck j)))), (gb, .inl (ax 1, 29, .inl (fun j => nI (co j)))), (k0, .inr (9, [.ref k1, .ref k2, .int (nI ts), .int (nI th), .int (nI (u_259 0)), .int (nI (u_259 1)), .int (nI (u_259 2)), .int (nI (u_259 3))])), (k1, .inl (ax 1, 400, .inl tb)), (k2, .inl (ax 0, 401, .inl (fun j => nI (tk j))))]) hP hD [1, 2, 3] [0, 4, 5, 6, 7, 8, 9, 10, 11, 12, 13, 14, 15, 16, 17, 18, 19] hCs (by decide) (by decide) hk1 hFc hP1 hD1 rfl
    clear hP1 hD1
    clear hPc hDc hFc hCs hz hz1 hk1 ht hvm
    clear hP hD hS
    have hS := hS1
    obtain ⟨hP, hD⟩ := hjn
    clear hS1
    have hfl := ftf_le (u_259 1)
    refine lv_iconst (v := (-1)) hx hb d_Reader_statement_26 (by decide) ?_
    rw [← hQe]
    refine wk_know (fun hk8 hk9 => ?_)
    refine W.widen (k := MX - cp) (n := 6 * (MX - cp)) (by first | assumption | omega) (by first | assumption | omega) ?_
    obtain ⟨hP9, hD9⟩ := xw_sub2 (wc := (fun (u : Nat → Nat) (xkd : Nat → Nat) (xow : Nat → Nat) (xsb : Nat → Nat) (xf1 : Nat → Nat) (xf2 : Nat → Nat) (xte : Nat → Nat) (xkp : Nat → Nat) (xnm : Nat → Nat) (xck : Nat → Nat) (xco : Nat → Nat) (xtm : Nat → Int32) (xfo : Nat → Int32) (xfl : Nat → Int32) (xfr : Nat → Int32) (xen : Nat → Nat) (xkc : Nat → Nat) (xpl : List itT) (xL : List sgT) => [(r0, .inr (7, [.ref k0, .ref g0, .ref n0, .int (nI (u 11)), .int (nI (u 9))])), (k0, .inr (9, [.ref k1, .ref k2, .int (nI ts), .int (nI th), .int (nI (u 0)), .int (nI (u 1)), .int (nI (u 2)), .int (nI (u 3))])), (k1, .inl (ax 1, 400, .inl tb)), (k2, .inl (ax 0, 401, .inl (fun j => nI (tk j)))), (n0, .inr (4, [.ref (u 4), .ref (u 5), .ref (u 6), .int (nI (u 7))])), (u 4, .inl (ax 1, u 8, .inl xfo)), (u 5, .inl (ax 0, u 8, .inl xfl)), (u 6, .inl (ax 0, u 8, .inl xfr)), (g0, .inr (2, [.ref n0, .ref g1, .ref g2, .ref g3, .ref g4, .ref g5, .ref g6, .ref g7, .ref g8, .ref g9, .ref ga, .ref gb, .int (nI (u 12)), .int (nI (u 13)), .int (nI (u 14)), .int (nI (u 15)), .int (nI (u 16))])), (g1, .inl (ax 1, 20, .inl (fun j => nI (xkd j)))), (g2, .inl (ax 1, 20, .inl (fun j => nI (xow j)))), (g3, .inl (ax 1, 20, .inl (fun j => nI (xsb j)))), (g4, .inl (ax 1, 20, .inl (fun j => nI (xf1 j)))), (g5, .inl (ax 1, 20, .inl (fun j => nI (xf2 j)))), (g6, .inl (ax 2, 20, .inl (fun j => nI (xte j)))), (g7, .inl (ax 2, 20, .inl (fun j => nI (xkp j)))), (g8, .inl (ax 0, 20, .inl xtm)), (g9, .inl (ax 1, 20, .inl (fun j => nI (xnm j)))), (ga, .inl (ax 1, 29, .inl (fun j => nI (xck j)))), (gb, .inl (ax 1, 29, .inl (fun j => nI (xco j))))]) (ixn [(u_259 0), (u_259 1), (u_259 2), (u_259 3), n1, n2, n3, z9, cp, at9, 4294967295, gh, cl, ln, br, lp, va]) kd ow sb f1 f2 te kp nm ck co tm fo fl fr en kc pl L0) hP hD [0, 17, 18, 19, 1, 2, 3, 4, 5, 6, 7, 8, 9, 10, 11, 12, 13, 14, 15, 16] (by decide) rfl
    have hex0 : okf ((u_259 1)) (lst (ln) (z9) kd ow sb f1 f2 te kp nm en kc tm fo fl fr) := (okf.bad (by first | assumption | omega))
    have hex1 : okf ((u_259 1)) (cls ln (ln) en) := (okf.bad (by first | assumption | omega))
    have hex2 : okf ((u_259 1)) (sam ln kd ow sb f1 f2 te kp nm en kc kd ow sb f1 f2 te kp nm en kc tm tm) := (okf.bad (by first | assumption | omega))
    have hex3 : okf ((u_259 1)) (4294967295 = ln ∧ ln < ln) := (okf.bad (by first | assumption | omega))
    have hex4 : okf ((u_259 1)) (clm (br) (cl) ck co (ln) kd nm) := (okf.bad (by first | assumption | omega))
    have hex5 : okf ((u_259 1)) (ndv fo fl fr (z9)) := (okf.bad (by first | assumption | omega))
    have hex6 : bts fo (cp) := hfo
    have hex7 : okf ((u_259 1)) (∀ i, i < z9 → tsn fo fl fr i = tsn fo fl fr i) := (okf.bad (by first | assumption | omega))
    have hex8 : psS tk tf ta sg ln br lp pl ((u_259 1)) ((u_259 0)) (ln) (br) (lp) pl := (st_no hrs (hs_6.go (by first | assumption | omega)) hs_268 hs_269 hs_271)
    have hex9 : okf ((u_259 1)) (bk9 ln (ln) kd ow sb f1 f2 te kp nm tm L0 o9 ln pl pl) := (okf.bad (by first | assumption | omega))
    have hex10 : okf ((u_259 1)) (nlq fo fl fr (z9) L0 ∧ prx L0 L0) := (okf.bad (by first | assumption | omega))
    have hex11 : okf ((u_259 1)) (va = vct pl) := (okf.bad (by first | assumption | omega))
    have hex12 : okf ((u_259 1)) (cll ck co (cl) = (0, 0) :: cln pl) := (okf.bad (by first | assumption | omega))
    have hg8 : H_260.size ≤ s.heap.size + (cp - cp) := by omega
    have hg9 : tsl H_260 ≤ tsl s.heap + (6 * (cp - cp)) := by omega
    have hsp0 : rst tk ((u_259 1)) ((u_259 2)) ((u_259 3)) ((u_259 0)) cn := (by assumption)
    have hsp1 : (u_259 0) ≤ cn := (by first | assumption | omega)
    have hsp2 : (u_259 2) < 128 := (by first | assumption | omega)
    have hsp3 : (u_259 3) < 1024 := (by first | assumption | omega)
    have hsp4 : ta ≤ (u_259 0) := (by first | assumption | omega)
    have hsp5 : ftf tf ≤ ftf ((u_259 1)) := (by first | assumption | omega)
    have hsp6 : z9 ≤ z9 := (by first | assumption | omega)
    have hsp7 : z9 + ta ≤ z9 + (u_259 0) + 2 * (ln - ln) := (by first | assumption | omega)
    have hsp8 : z9 ≤ cp := (by first | assumption | omega)
    have hsp9 : cp ≤ cp := (by first | assumption | omega)
    have hsp10 : cp ≤ MX := (by first | assumption | omega)
    have hsp11 : gh ≤ 1 := (by first | assumption | omega)
    have hsp12 : cl ≤ 1 + 2 * lp + ln := (by first | assumption | omega)
    have hsp13 : ln ≤ ln := (by first | assumption | omega)
    have hsp14 : ln ≤ 20 := (by first | assumption | omega)
    have hsp15 : br ≤ br := (by first | assumption | omega)
    have hsp16 : br ≤ 4 := (by first | assumption | omega)
    have hsp17 : lp ≤ lp := (by first | assumption | omega)
    have hsp18 : lp ≤ 4 := (by first | assumption | omega)
    have hsp19 : va ≤ lp := (by first | assumption | omega)
    have hsp20 : smn (4294967295) := (Or.inr rfl)
    exact W.iret (v := (-1)) hx hb hr (fun t ht hW => ⟨⟨(-1), ixn [(u_259 0), (u_259 1), (u_259 2), (u_259 3), n1, n2, n3, z9, cp, at9, 4294967295, gh, cl, ln, br, lp, va], rfl, ⟨rfl, ⟨hsp0, hsp1, hsp2, hsp3, hsp4, hsp5, hsp6, hsp7, hsp8, hsp9, hsp10, hsp11, hsp12, hsp13, hsp14, hsp15, hsp16, hsp17, hsp18, hsp19, hsp20⟩⟩, ⟨kd, ow, sb, f1, f2, te, kp, nm, ck, co, tm, fo, fl, fr, en, kc, pl, L0, by rw [ht]; exact hg8, by rw [ht]; exact hg9, hex0, hex1, hex2, hex3, hex4, hex5, hex6, hex7, hex8, hex9, hex10, hex11, hex12, by rw [ht]; exact hP9, hD9⟩⟩, hS.F ht⟩) hS.2.2 d_Reader_statement_27
theorem R_stm_all (l : Launch) : ∀ kf, CStm l kf
  | 0 => fun D ax => c_R_statement l 0 (fun j h => by omega) D ax
  | k + 1 => fun D ax => c_R_statement l (k + 1) (fun j h => by rw [show j = k by omega]; exact R_stm_all l k) D ax
