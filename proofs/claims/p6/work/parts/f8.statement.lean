theorem ps_16 : Cond.selects "TripleDesk$Reader" ⟨"TripleDesk$Reader", "assignment", "(II)V"⟩ ⟨"TripleDesk$Reader", "assignment", "(II)V"⟩ ∈ lw_gd := ps_in (q := (⟨"TripleDesk$Reader", "assignment", "(II)V"⟩, 5)) (i := 16) (by decide +kernel)
theorem ps_17 : Cond.selects "TripleDesk$Reader" ⟨"TripleDesk$Reader", "branch", "(I)V"⟩ ⟨"TripleDesk$Reader", "branch", "(I)V"⟩ ∈ lw_gd := ps_in (q := (⟨"TripleDesk$Reader", "branch", "(I)V"⟩, 5)) (i := 17) (by decide +kernel)
theorem ps_18 : Cond.selects "TripleDesk$Reader" ⟨"TripleDesk$Reader", "loop", "(I)V"⟩ ⟨"TripleDesk$Reader", "loop", "(I)V"⟩ ∈ lw_gd := ps_in (q := (⟨"TripleDesk$Reader", "loop", "(I)V"⟩, 5)) (i := 18) (by decide +kernel)
theorem wd_622 : ((Jvm.Cond.methodLink "TripleDesk$Reader" (63 : Nat) ({ cls := "TripleDesk$Listing", name := "admits", desc := "(I)Z" } : Jvm.MethodName))) ∈ lw_gd := lw_gd_in (i := 622) (by decide +kernel) rfl
theorem wd_623 : ((Jvm.Cond.instanceMethod ({ cls := "TripleDesk$Listing", name := "admits", desc := "(I)Z" } : Jvm.MethodName))) ∈ lw_gd := lw_gd_in (i := 623) (by decide +kernel) rfl
theorem wd_624 : ((Jvm.Cond.selects "TripleDesk$Listing" ({ cls := "TripleDesk$Listing", name := "admits", desc := "(I)Z" } : Jvm.MethodName) ({ cls := "TripleDesk$Listing", name := "admits", desc := "(I)Z" } : Jvm.MethodName))) ∈ lw_gd := lw_gd_in (i := 624) (by decide +kernel) rfl
theorem wd_625 : ((Jvm.Cond.code ({ cls := "TripleDesk$Listing", name := "admits", desc := "(I)Z" } : Jvm.MethodName) prog_4_method_3_code (2 : Nat) (Option.some Jvm.ClassFile.FieldType.boolean))) ∈ lw_gd := lw_gd_in (i := 625) (by decide +kernel) rfl
theorem wd_626 : ((Jvm.Cond.methodLink "TripleDesk$Reader" (70 : Nat) ({ cls := "TripleDesk$Listing", name := "add", desc := "(II)I" } : Jvm.MethodName))) ∈ lw_gd := lw_gd_in (i := 626) (by decide +kernel) rfl
theorem wd_627 : ((Jvm.Cond.instanceMethod ({ cls := "TripleDesk$Listing", name := "add", desc := "(II)I" } : Jvm.MethodName))) ∈ lw_gd := lw_gd_in (i := 627) (by decide +kernel) rfl
theorem wd_628 : ((Jvm.Cond.selects "TripleDesk$Listing" ({ cls := "TripleDesk$Listing", name := "add", desc := "(II)I" } : Jvm.MethodName) ({ cls := "TripleDesk$Listing", name := "add", desc := "(II)I" } : Jvm.MethodName))) ∈ lw_gd := lw_gd_in (i := 628) (by decide +kernel) rfl
theorem wd_629 : ((Jvm.Cond.code ({ cls := "TripleDesk$Listing", name := "add", desc := "(II)I" } : Jvm.MethodName) prog_4_method_4_code (3 : Nat) (Option.some Jvm.ClassFile.FieldType.int))) ∈ lw_gd := lw_gd_in (i := 629) (by decide +kernel) rfl
theorem wd_630 : ((Jvm.Cond.methodLink "TripleDesk$Reader" (77 : Nat) ({ cls := "TripleDesk$Reader", name := "assignment", desc := "(II)V" } : Jvm.MethodName))) ∈ lw_gd := lw_gd_in (i := 630) (by decide +kernel) rfl
theorem wd_632 : ((Jvm.Cond.instanceMethod ({ cls := "TripleDesk$Reader", name := "assignment", desc := "(II)V" } : Jvm.MethodName))) ∈ lw_gd := lw_gd_in (i := 632) (by decide +kernel) rfl
theorem wd_633 : ((Jvm.Cond.code ({ cls := "TripleDesk$Reader", name := "assignment", desc := "(II)V" } : Jvm.MethodName) prog_9_method_6_code (3 : Nat) (Option.none : Option Jvm.ClassFile.FieldType))) ∈ lw_gd := lw_gd_in (i := 633) (by decide +kernel) rfl
theorem wd_634 : ((Jvm.Cond.methodLink "TripleDesk$Reader" (81 : Nat) ({ cls := "TripleDesk$Reader", name := "branch", desc := "(I)V" } : Jvm.MethodName))) ∈ lw_gd := lw_gd_in (i := 634) (by decide +kernel) rfl
theorem wd_636 : ((Jvm.Cond.instanceMethod ({ cls := "TripleDesk$Reader", name := "branch", desc := "(I)V" } : Jvm.MethodName))) ∈ lw_gd := lw_gd_in (i := 636) (by decide +kernel) rfl
theorem wd_637 : ((Jvm.Cond.code ({ cls := "TripleDesk$Reader", name := "branch", desc := "(I)V" } : Jvm.MethodName) prog_9_method_7_code (2 : Nat) (Option.none : Option Jvm.ClassFile.FieldType))) ∈ lw_gd := lw_gd_in (i := 637) (by decide +kernel) rfl
theorem wd_638 : ((Jvm.Cond.methodLink "TripleDesk$Reader" (85 : Nat) ({ cls := "TripleDesk$Reader", name := "loop", desc := "(I)V" } : Jvm.MethodName))) ∈ lw_gd := lw_gd_in (i := 638) (by decide +kernel) rfl
theorem wd_640 : ((Jvm.Cond.instanceMethod ({ cls := "TripleDesk$Reader", name := "loop", desc := "(I)V" } : Jvm.MethodName))) ∈ lw_gd := lw_gd_in (i := 640) (by decide +kernel) rfl
theorem wd_641 : ((Jvm.Cond.code ({ cls := "TripleDesk$Reader", name := "loop", desc := "(I)V" } : Jvm.MethodName) prog_9_method_8_code (2 : Nat) (Option.none : Option Jvm.ClassFile.FieldType))) ∈ lw_gd := lw_gd_in (i := 641) (by decide +kernel) rfl
theorem d_Reader_statement_0 : decode b_Reader_statement 0 = .ok (.aload_n 0, 1) := by decide +kernel
theorem d_Reader_statement_1 : decode b_Reader_statement 1 = .ok (.getfield 9, 3) := by decide +kernel
theorem d_Reader_statement_4 : decode b_Reader_statement 4 = .ok (.getfield 52, 3) := by decide +kernel
theorem d_Reader_statement_7 : decode b_Reader_statement 7 = .ok (.istore_n 2, 1) := by decide +kernel
theorem d_Reader_statement_8 : decode b_Reader_statement 8 = .ok (.aload_n 0, 1) := by decide +kernel
theorem d_Reader_statement_9 : decode b_Reader_statement 9 = .ok (.getfield 40, 3) := by decide +kernel
theorem d_Reader_statement_12 : decode b_Reader_statement 12 = .ok (.iload_n 2, 1) := by decide +kernel
theorem d_Reader_statement_13 : decode b_Reader_statement 13 = .ok (.invokevirtual 63, 3) := by decide +kernel
theorem d_Reader_statement_16 : decode b_Reader_statement 16 = .ok (.ifCond .ne 12, 3) := by decide +kernel
theorem d_Reader_statement_19 : decode b_Reader_statement 19 = .ok (.aload_n 0, 1) := by decide +kernel
theorem d_Reader_statement_20 : decode b_Reader_statement 20 = .ok (.getfield 9, 3) := by decide +kernel
theorem d_Reader_statement_23 : decode b_Reader_statement 23 = .ok (.invokevirtual 67, 3) := by decide +kernel
theorem d_Reader_statement_26 : decode b_Reader_statement 26 = .ok (.iconst (-1), 1) := by decide +kernel
theorem d_Reader_statement_27 : decode b_Reader_statement 27 = .ok (.ireturn, 1) := by decide +kernel
theorem d_Reader_statement_28 : decode b_Reader_statement 28 = .ok (.aload_n 0, 1) := by decide +kernel
theorem d_Reader_statement_29 : decode b_Reader_statement 29 = .ok (.getfield 40, 3) := by decide +kernel
theorem d_Reader_statement_32 : decode b_Reader_statement 32 = .ok (.iload_n 2, 1) := by decide +kernel
theorem d_Reader_statement_33 : decode b_Reader_statement 33 = .ok (.iload_n 1, 1) := by decide +kernel
theorem d_Reader_statement_34 : decode b_Reader_statement 34 = .ok (.invokevirtual 70, 3) := by decide +kernel
theorem d_Reader_statement_37 : decode b_Reader_statement 37 = .ok (.istore_n 3, 1) := by decide +kernel
theorem d_Reader_statement_38 : decode b_Reader_statement 38 = .ok (.aload_n 0, 1) := by decide +kernel
theorem d_Reader_statement_39 : decode b_Reader_statement 39 = .ok (.getfield 9, 3) := by decide +kernel
theorem d_Reader_statement_42 : decode b_Reader_statement 42 = .ok (.getfield 74, 3) := by decide +kernel
theorem d_Reader_statement_45 : decode b_Reader_statement 45 = .ok (.istore 4, 2) := by decide +kernel
theorem d_Reader_statement_47 : decode b_Reader_statement 47 = .ok (.aload_n 0, 1) := by decide +kernel
theorem d_Reader_statement_48 : decode b_Reader_statement 48 = .ok (.getfield 9, 3) := by decide +kernel
theorem d_Reader_statement_51 : decode b_Reader_statement 51 = .ok (.invokevirtual 56, 3) := by decide +kernel
theorem d_Reader_statement_54 : decode b_Reader_statement 54 = .ok (.iload_n 2, 1) := by decide +kernel
theorem d_Reader_statement_55 : decode b_Reader_statement 55 = .ok (.lookupswitch 129 #[(2, 49), (8, 59), (12, 67), (17, 75), (123, 93)], 49) := by decide +kernel
theorem d_Reader_statement_104 : decode b_Reader_statement 104 = .ok (.aload_n 0, 1) := by decide +kernel
theorem d_Reader_statement_105 : decode b_Reader_statement 105 = .ok (.iload_n 3, 1) := by decide +kernel
theorem d_Reader_statement_106 : decode b_Reader_statement 106 = .ok (.iload 4, 2) := by decide +kernel
theorem d_Reader_statement_108 : decode b_Reader_statement 108 = .ok (.invokevirtual 77, 3) := by decide +kernel
theorem d_Reader_statement_111 : decode b_Reader_statement 111 = .ok (.goto 73, 3) := by decide +kernel
theorem d_Reader_statement_114 : decode b_Reader_statement 114 = .ok (.aload_n 0, 1) := by decide +kernel
theorem d_Reader_statement_115 : decode b_Reader_statement 115 = .ok (.iload_n 3, 1) := by decide +kernel
theorem d_Reader_statement_116 : decode b_Reader_statement 116 = .ok (.invokevirtual 81, 3) := by decide +kernel
theorem d_Reader_statement_119 : decode b_Reader_statement 119 = .ok (.goto 65, 3) := by decide +kernel
theorem d_Reader_statement_122 : decode b_Reader_statement 122 = .ok (.aload_n 0, 1) := by decide +kernel
theorem d_Reader_statement_123 : decode b_Reader_statement 123 = .ok (.iload_n 3, 1) := by decide +kernel
theorem d_Reader_statement_124 : decode b_Reader_statement 124 = .ok (.invokevirtual 85, 3) := by decide +kernel
theorem d_Reader_statement_127 : decode b_Reader_statement 127 = .ok (.goto 57, 3) := by decide +kernel
theorem d_Reader_statement_130 : decode b_Reader_statement 130 = .ok (.aload_n 0, 1) := by decide +kernel
theorem d_Reader_statement_131 : decode b_Reader_statement 131 = .ok (.getfield 40, 3) := by decide +kernel
theorem d_Reader_statement_134 : decode b_Reader_statement 134 = .ok (.getfield 88, 3) := by decide +kernel
theorem d_Reader_statement_137 : decode b_Reader_statement 137 = .ok (.iload_n 3, 1) := by decide +kernel
theorem d_Reader_statement_138 : decode b_Reader_statement 138 = .ok (.aload_n 0, 1) := by decide +kernel
theorem d_Reader_statement_139 : decode b_Reader_statement 139 = .ok (.iconst 0, 1) := by decide +kernel
theorem d_Reader_statement_140 : decode b_Reader_statement 140 = .ok (.invokevirtual 29, 3) := by decide +kernel
theorem d_Reader_statement_143 : decode b_Reader_statement 143 = .ok (.i2s, 1) := by decide +kernel
theorem d_Reader_statement_144 : decode b_Reader_statement 144 = .ok (.sastore, 1) := by decide +kernel
theorem d_Reader_statement_145 : decode b_Reader_statement 145 = .ok (.goto 39, 3) := by decide +kernel
theorem d_Reader_statement_148 : decode b_Reader_statement 148 = .ok (.aload_n 0, 1) := by decide +kernel
theorem d_Reader_statement_149 : decode b_Reader_statement 149 = .ok (.getfield 40, 3) := by decide +kernel
theorem d_Reader_statement_152 : decode b_Reader_statement 152 = .ok (.iconst 4, 1) := by decide +kernel
theorem d_Reader_statement_153 : decode b_Reader_statement 153 = .ok (.iload_n 3, 1) := by decide +kernel
theorem d_Reader_statement_154 : decode b_Reader_statement 154 = .ok (.invokevirtual 92, 3) := by decide +kernel
theorem d_Reader_statement_157 : decode b_Reader_statement 157 = .ok (.aload_n 0, 1) := by decide +kernel
theorem d_Reader_statement_158 : decode b_Reader_statement 158 = .ok (.getfield 40, 3) := by decide +kernel
theorem d_Reader_statement_161 : decode b_Reader_statement 161 = .ok (.getfield 88, 3) := by decide +kernel
theorem d_Reader_statement_164 : decode b_Reader_statement 164 = .ok (.iload_n 3, 1) := by decide +kernel
theorem d_Reader_statement_165 : decode b_Reader_statement 165 = .ok (.aload_n 0, 1) := by decide +kernel
theorem d_Reader_statement_166 : decode b_Reader_statement 166 = .ok (.iconst 1, 1) := by decide +kernel
theorem d_Reader_statement_167 : decode b_Reader_statement 167 = .ok (.invokevirtual 29, 3) := by decide +kernel
theorem d_Reader_statement_170 : decode b_Reader_statement 170 = .ok (.i2s, 1) := by decide +kernel
theorem d_Reader_statement_171 : decode b_Reader_statement 171 = .ok (.sastore, 1) := by decide +kernel
theorem d_Reader_statement_172 : decode b_Reader_statement 172 = .ok (.aload_n 0, 1) := by decide +kernel
theorem d_Reader_statement_173 : decode b_Reader_statement 173 = .ok (.getfield 9, 3) := by decide +kernel
theorem d_Reader_statement_176 : decode b_Reader_statement 176 = .ok (.bipush 125, 2) := by decide +kernel
theorem d_Reader_statement_178 : decode b_Reader_statement 178 = .ok (.invokevirtual 95, 3) := by decide +kernel
theorem d_Reader_statement_181 : decode b_Reader_statement 181 = .ok (.goto 3, 3) := by decide +kernel
theorem d_Reader_statement_184 : decode b_Reader_statement 184 = .ok (.iload_n 3, 1) := by decide +kernel
theorem d_Reader_statement_185 : decode b_Reader_statement 185 = .ok (.ireturn, 1) := by decide +kernel
set_option maxHeartbeats 40000000 in
set_option maxRecDepth 100000 in
theorem c_R_statement (l : Launch) (kf : Nat) (hrec : ∀ j, j + 1 = kf → CStm l j) (D : va_G) (ax : Nat → ClassId) (r0 k0 k1 k2 : Nat) (tb : Nat → Int32) (tk : Nat → Nat) (ta tf nx am cn ts th : Nat) (gh at9 : Nat) (n0 n1 n2 n3 cp z9 : Nat) (fo fl fr : Nat → Int32) (g0 g1 g2 g3 g4 g5 g6 g7 g8 g9 ga gb cl ln br lp va : Nat) (kd ow sb f1 f2 te kp nm ck co : Nat → Nat) (tm : Nat → Int32) (MX : Nat) (en kc : Nat → Nat) (sg : List Nat) (o9 : Nat) (sz tz : Nat) (hkz : tkz tk cn) (hrs : rst tk tf nx am ta cn) (hta : ta ≤ cn) (hnx : nx < 128) (ham : am < 1024) (hgh : gh ≤ 1) (hcp : 8 ≤ cp) (hz9 : z9 ≤ cp) (hmx : cp ≤ MX) (hMX : MX ≤ 60000) (hfo : bts fo cp) (hnd : okf tf (ndv fo fl fr z9)) (hln : ln ≤ 20) (hbr : br ≤ 4) (hlp : lp ≤ 4) (hva : va ≤ lp) (hcl : cl ≤ 1 + 2 * lp + ln) (hls : okf tf (lst ln z9 kd ow sb f1 f2 te kp nm en kc tm fo fl fr)) (hcm : okf tf (clm br cl ck co ln kd nm)) (hbd : 2 * (z9 + (cn - ta) + 2 * (20 - ln) + 2) ≤ MX) (hsm : smn o9) (how : okf tf (o9 = 4294967295 ∨ (o9 < ln ∧ en o9 = 100))) (hkf : 8 ≤ br + lp + kf) : Met l y_Reader_statement (xws (.code y_Reader_statement b_Reader_statement 5 (some .int))) ({ frames := 200 + 20 * kf, cells := MX - cp, slots := 6 * (MX - cp), locals := 8000 + 800 * kf }) (va_Pc [.ref r0, .int (nI o9)] (xo3 D ax [(r0, .inr (7, [.ref k0, .ref g0, .ref n0, .int (nI gh), .int (nI at9)])), (k0, .inr (9, [.ref k1, .ref k2, .int (nI ts), .int (nI th), .int (nI ta), .int (nI tf), .int (nI nx), .int (nI am)])), (k1, .inl (ax 1, 400, .inl tb)), (k2, .inl (ax 0, 401, .inl (fun j => nI (tk j)))), (n0, .inr (4, [.ref n1, .ref n2, .ref n3, .int (nI z9)])), (n1, .inl (ax 1, cp, .inl fo)), (n2, .inl (ax 0, cp, .inl fl)), (n3, .inl (ax 0, cp, .inl fr)), (g0, .inr (2, [.ref n0, .ref g1, .ref g2, .ref g3, .ref g4, .ref g5, .ref g6, .ref g7, .ref g8, .ref g9, .ref ga, .ref gb, .int (nI cl), .int (nI ln), .int (nI br), .int (nI lp), .int (nI va)])), (g1, .inl (ax 1, 20, .inl (fun j => nI (kd j)))), (g2, .inl (ax 1, 20, .inl (fun j => nI (ow j)))), (g3, .inl (ax 1, 20, .inl (fun j => nI (sb j)))), (g4, .inl (ax 1, 20, .inl (fun j => nI (f1 j)))), (g5, .inl (ax 1, 20, .inl (fun j => nI (f2 j)))), (g6, .inl (ax 2, 20, .inl (fun j => nI (te j)))), (g7, .inl (ax 2, 20, .inl (fun j => nI (kp j)))), (g8, .inl (ax 0, 20, .inl tm)), (g9, .inl (ax 1, 20, .inl (fun j => nI (nm j)))), (ga, .inl (ax 1, 29, .inl (fun j => nI (ck j)))), (gb, .inl (ax 1, 29, .inl (fun j => nI (co j))))] sz tz)) ((va_Qi (fun (r : Int32) (u : Nat → Nat) => r = nI (u 10) ∧ (rst tk (u 1) (u 2) (u 3) (u 0) cn ∧ u 0 ≤ cn ∧ u 2 < 128 ∧ u 3 < 1024 ∧ ta ≤ u 0 ∧ ftf tf ≤ ftf (u 1) ∧ z9 ≤ u 7 ∧ u 7 + ta ≤ z9 + u 0 + 2 * (u 13 - ln) ∧ u 7 ≤ u 8 ∧ cp ≤ u 8 ∧ u 8 ≤ MX ∧ u 11 ≤ 1 ∧ u 12 ≤ 1 + 2 * u 15 + u 13 ∧ ln ≤ u 13 ∧ u 13 ≤ 20 ∧ br ≤ u 14 ∧ u 14 ≤ 4 ∧ lp ≤ u 15 ∧ u 15 ≤ 4 ∧ u 16 ≤ u 15 ∧ psS tk tf ta sg ln br lp cl (u 1) (u 0) (u 13) (u 14) (u 15) (u 12) ∧ smn (u 10))) (fun (u : Nat → Nat) (t9 : State) => ∃ xkd : Nat → Nat, ∃ xow : Nat → Nat, ∃ xsb : Nat → Nat, ∃ xf1 : Nat → Nat, ∃ xf2 : Nat → Nat, ∃ xte : Nat → Nat, ∃ xkp : Nat → Nat, ∃ xnm : Nat → Nat, ∃ xck : Nat → Nat, ∃ xco : Nat → Nat, ∃ xtm : Nat → Int32, ∃ xfo : Nat → Int32, ∃ xfl : Nat → Int32, ∃ xfr : Nat → Int32, ∃ xen : Nat → Nat, ∃ xkc : Nat → Nat, (t9.heap.size ≤ sz + (u 8 - cp)) ∧ (tsl t9.heap ≤ tz + (6 * (u 8 - cp))) ∧ (okf (u 1) (lst (u 13) (u 7) xkd xow xsb xf1 xf2 xte xkp xnm xen xkc xtm xfo xfl xfr)) ∧ (okf (u 1) (cls ln (u 13) xen)) ∧ (okf (u 1) (sam ln kd ow sb f1 f2 te kp nm en kc xkd xow xsb xf1 xf2 xte xkp xnm xen xkc tm xtm)) ∧ (okf (u 1) (u 10 = ln ∧ ln < u 13)) ∧ (okf (u 1) (clm (u 14) (u 12) xck xco (u 13) xkd xnm)) ∧ (okf (u 1) (ndv xfo xfl xfr (u 7))) ∧ (bts xfo (u 8)) ∧ (okf (u 1) (∀ i, i < z9 → tsn xfo xfl xfr i = tsn fo fl fr i)) ∧ va_P D classes [(r0, .inr (7, [.ref k0, .ref g0, .ref n0, .int (nI (u 11)), .int (nI (u 9))])), (k0, .inr (9, [.ref k1, .ref k2, .int (nI ts), .int (nI th), .int (nI (u 0)), .int (nI (u 1)), .int (nI (u 2)), .int (nI (u 3))])), (k1, .inl (ax 1, 400, .inl tb)), (k2, .inl (ax 0, 401, .inl (fun j => nI (tk j)))), (n0, .inr (4, [.ref (u 4), .ref (u 5), .ref (u 6), .int (nI (u 7))])), (u 4, .inl (ax 1, u 8, .inl xfo)), (u 5, .inl (ax 0, u 8, .inl xfl)), (u 6, .inl (ax 0, u 8, .inl xfr)), (g0, .inr (2, [.ref n0, .ref g1, .ref g2, .ref g3, .ref g4, .ref g5, .ref g6, .ref g7, .ref g8, .ref g9, .ref ga, .ref gb, .int (nI (u 12)), .int (nI (u 13)), .int (nI (u 14)), .int (nI (u 15)), .int (nI (u 16))])), (g1, .inl (ax 1, 20, .inl (fun j => nI (xkd j)))), (g2, .inl (ax 1, 20, .inl (fun j => nI (xow j)))), (g3, .inl (ax 1, 20, .inl (fun j => nI (xsb j)))), (g4, .inl (ax 1, 20, .inl (fun j => nI (xf1 j)))), (g5, .inl (ax 1, 20, .inl (fun j => nI (xf2 j)))), (g6, .inl (ax 2, 20, .inl (fun j => nI (xte j)))), (g7, .inl (ax 2, 20, .inl (fun j => nI (xkp j)))), (g8, .inl (ax 0, 20, .inl xtm)), (g9, .inl (ax 1, 20, .inl (fun j => nI (xnm j)))), (ga, .inl (ax 1, 29, .inl (fun j => nI (xck j)))), (gb, .inl (ax 1, 29, .inl (fun j => nI (xco j))))] t9.heap ∧ va_D (va_A [(r0, .inr (7, [.ref k0, .ref g0, .ref n0, .int (nI gh), .int (nI at9)])), (k0, .inr (9, [.ref k1, .ref k2, .int (nI ts), .int (nI th), .int (nI ta), .int (nI tf), .int (nI nx), .int (nI am)])), (k1, .inl (ax 1, 400, .inl tb)), (k2, .inl (ax 0, 401, .inl (fun j => nI (tk j)))), (n0, .inr (4, [.ref n1, .ref n2, .ref n3, .int (nI z9)])), (n1, .inl (ax 1, cp, .inl fo)), (n2, .inl (ax 0, cp, .inl fl)), (n3, .inl (ax 0, cp, .inl fr)), (g0, .inr (2, [.ref n0, .ref g1, .ref g2, .ref g3, .ref g4, .ref g5, .ref g6, .ref g7, .ref g8, .ref g9, .ref ga, .ref gb, .int (nI cl), .int (nI ln), .int (nI br), .int (nI lp), .int (nI va)])), (g1, .inl (ax 1, 20, .inl (fun j => nI (kd j)))), (g2, .inl (ax 1, 20, .inl (fun j => nI (ow j)))), (g3, .inl (ax 1, 20, .inl (fun j => nI (sb j)))), (g4, .inl (ax 1, 20, .inl (fun j => nI (f1 j)))), (g5, .inl (ax 1, 20, .inl (fun j => nI (f2 j)))), (g6, .inl (ax 2, 20, .inl (fun j => nI (te j)))), (g7, .inl (ax 2, 20, .inl (fun j => nI (kp j)))), (g8, .inl (ax 0, 20, .inl tm)), (g9, .inl (ax 1, 20, .inl (fun j => nI (nm j)))), (ga, .inl (ax 1, 29, .inl (fun j => nI (ck j)))), (gb, .inl (ax 1, 29, .inl (fun j => nI (co j))))] sz) [(r0, .inr (7, [.ref k0, .ref g0, .ref n0, .int (nI (u 11)), .int (nI (u 9))])), (k0, .inr (9, [.ref k1, .ref k2, .int (nI ts), .int (nI th), .int (nI (u 0)), .int (nI (u 1)), .int (nI (u 2)), .int (nI (u 3))])), (k1, .inl (ax 1, 400, .inl tb)), (k2, .inl (ax 0, 401, .inl (fun j => nI (tk j)))), (n0, .inr (4, [.ref (u 4), .ref (u 5), .ref (u 6), .int (nI (u 7))])), (u 4, .inl (ax 1, u 8, .inl xfo)), (u 5, .inl (ax 0, u 8, .inl xfl)), (u 6, .inl (ax 0, u 8, .inl xfr)), (g0, .inr (2, [.ref n0, .ref g1, .ref g2, .ref g3, .ref g4, .ref g5, .ref g6, .ref g7, .ref g8, .ref g9, .ref ga, .ref gb, .int (nI (u 12)), .int (nI (u 13)), .int (nI (u 14)), .int (nI (u 15)), .int (nI (u 16))])), (g1, .inl (ax 1, 20, .inl (fun j => nI (xkd j)))), (g2, .inl (ax 1, 20, .inl (fun j => nI (xow j)))), (g3, .inl (ax 1, 20, .inl (fun j => nI (xsb j)))), (g4, .inl (ax 1, 20, .inl (fun j => nI (xf1 j)))), (g5, .inl (ax 1, 20, .inl (fun j => nI (xf2 j)))), (g6, .inl (ax 2, 20, .inl (fun j => nI (xte j)))), (g7, .inl (ax 2, 20, .inl (fun j => nI (xkp j)))), (g8, .inl (ax 0, 20, .inl xtm)), (g9, .inl (ax 1, 20, .inl (fun j => nI (xnm j)))), (ga, .inl (ax 1, 29, .inl (fun j => nI (xck j)))), (gb, .inl (ax 1, 29, .inl (fun j => nI (xco j))))]) (va_A [(r0, .inr (7, [.ref k0, .ref g0, .ref n0, .int (nI gh), .int (nI at9)])), (k0, .inr (9, [.ref k1, .ref k2, .int (nI ts), .int (nI th), .int (nI ta), .int (nI tf), .int (nI nx), .int (nI am)])), (k1, .inl (ax 1, 400, .inl tb)), (k2, .inl (ax 0, 401, .inl (fun j => nI (tk j)))), (n0, .inr (4, [.ref n1, .ref n2, .ref n3, .int (nI z9)])), (n1, .inl (ax 1, cp, .inl fo)), (n2, .inl (ax 0, cp, .inl fl)), (n3, .inl (ax 0, cp, .inl fr)), (g0, .inr (2, [.ref n0, .ref g1, .ref g2, .ref g3, .ref g4, .ref g5, .ref g6, .ref g7, .ref g8, .ref g9, .ref ga, .ref gb, .int (nI cl), .int (nI ln), .int (nI br), .int (nI lp), .int (nI va)])), (g1, .inl (ax 1, 20, .inl (fun j => nI (kd j)))), (g2, .inl (ax 1, 20, .inl (fun j => nI (ow j)))), (g3, .inl (ax 1, 20, .inl (fun j => nI (sb j)))), (g4, .inl (ax 1, 20, .inl (fun j => nI (f1 j)))), (g5, .inl (ax 1, 20, .inl (fun j => nI (f2 j)))), (g6, .inl (ax 2, 20, .inl (fun j => nI (te j)))), (g7, .inl (ax 2, 20, .inl (fun j => nI (kp j)))), (g8, .inl (ax 0, 20, .inl tm)), (g9, .inl (ax 1, 20, .inl (fun j => nI (nm j)))), (ga, .inl (ax 1, 29, .inl (fun j => nI (ck j)))), (gb, .inl (ax 1, 29, .inl (fun j => nI (co j))))] sz))) (MX - cp) (6 * (MX - cp)) (va_A [(r0, .inr (7, [.ref k0, .ref g0, .ref n0, .int (nI gh), .int (nI at9)])), (k0, .inr (9, [.ref k1, .ref k2, .int (nI ts), .int (nI th), .int (nI ta), .int (nI tf), .int (nI nx), .int (nI am)])), (k1, .inl (ax 1, 400, .inl tb)), (k2, .inl (ax 0, 401, .inl (fun j => nI (tk j)))), (n0, .inr (4, [.ref n1, .ref n2, .ref n3, .int (nI z9)])), (n1, .inl (ax 1, cp, .inl fo)), (n2, .inl (ax 0, cp, .inl fl)), (n3, .inl (ax 0, cp, .inl fr)), (g0, .inr (2, [.ref n0, .ref g1, .ref g2, .ref g3, .ref g4, .ref g5, .ref g6, .ref g7, .ref g8, .ref g9, .ref ga, .ref gb, .int (nI cl), .int (nI ln), .int (nI br), .int (nI lp), .int (nI va)])), (g1, .inl (ax 1, 20, .inl (fun j => nI (kd j)))), (g2, .inl (ax 1, 20, .inl (fun j => nI (ow j)))), (g3, .inl (ax 1, 20, .inl (fun j => nI (sb j)))), (g4, .inl (ax 1, 20, .inl (fun j => nI (f1 j)))), (g5, .inl (ax 1, 20, .inl (fun j => nI (f2 j)))), (g6, .inl (ax 2, 20, .inl (fun j => nI (te j)))), (g7, .inl (ax 2, 20, .inl (fun j => nI (kp j)))), (g8, .inl (ax 0, 20, .inl tm)), (g9, .inl (ax 1, 20, .inl (fun j => nI (nm j)))), (ga, .inl (ax 1, 29, .inl (fun j => nI (ck j)))), (gb, .inl (ax 1, 29, .inl (fun j => nI (co j))))] sz) := by
  refine Met.ofW (cc := b_Reader_statement) (maxL := 5) (ret := (some .int)) (by decide) rfl ?_
  intro p e s m args below meth c s₁ B hml hv
  obtain ⟨rfl, ⟨hsz, hP, hK, hD0⟩, htz⟩ := hv
  have hx := B.exec
  have hb := B.bytes
  have hr := B.returns
  have hts := xw_hts B.pre
  have hown : s.vm.findClass R_Reader = some m.cls := findClass_of_methodNamed B.named
  have hlocks := B.notSynchronized
  subst hsz
  subst htz
  have hD := hD0.self (sz := s.heap.size)
  have hN := xz_entry hP
  generalize hAe : va_A [(r0, .inr (7, [.ref k0, .ref g0, .ref n0, .int (nI gh), .int (nI at9)])), (k0, .inr (9, [.ref k1, .ref k2, .int (nI ts), .int (nI th), .int (nI ta), .int (nI tf), .int (nI nx), .int (nI am)])), (k1, .inl (ax 1, 400, .inl tb)), (k2, .inl (ax 0, 401, .inl (fun j => nI (tk j)))), (n0, .inr (4, [.ref n1, .ref n2, .ref n3, .int (nI z9)])), (n1, .inl (ax 1, cp, .inl fo)), (n2, .inl (ax 0, cp, .inl fl)), (n3, .inl (ax 0, cp, .inl fr)), (g0, .inr (2, [.ref n0, .ref g1, .ref g2, .ref g3, .ref g4, .ref g5, .ref g6, .ref g7, .ref g8, .ref g9, .ref ga, .ref gb, .int (nI cl), .int (nI ln), .int (nI br), .int (nI lp), .int (nI va)])), (g1, .inl (ax 1, 20, .inl (fun j => nI (kd j)))), (g2, .inl (ax 1, 20, .inl (fun j => nI (ow j)))), (g3, .inl (ax 1, 20, .inl (fun j => nI (sb j)))), (g4, .inl (ax 1, 20, .inl (fun j => nI (f1 j)))), (g5, .inl (ax 1, 20, .inl (fun j => nI (f2 j)))), (g6, .inl (ax 2, 20, .inl (fun j => nI (te j)))), (g7, .inl (ax 2, 20, .inl (fun j => nI (kp j)))), (g8, .inl (ax 0, 20, .inl tm)), (g9, .inl (ax 1, 20, .inl (fun j => nI (nm j)))), (ga, .inl (ax 1, 29, .inl (fun j => nI (ck j)))), (gb, .inl (ax 1, 29, .inl (fun j => nI (co j))))] s.heap.size = A at hD hN ⊢
  have hA : ∀ q : Nat, s.heap.size ≤ q → A q := fun q h => by rw [← hAe]; exact Or.inr h
  have hS : va_S A s.heap s.heap [] := va_S.rf
  have hl0 := lv_entry ([.ref r0, .int (nI o9)]) (n := 5) (Nat.le_of_ble_eq_true rfl)
  rw [lg_entry_eq]
  generalize (lg_sl ([.ref r0, .int (nI o9)]) ++ List.replicate (5 - (lg_sl ([.ref r0, .int (nI o9)])).length) Slot.unset).toArray = ls at hl0 ⊢
  have hl1 : lv_has ls 5 [(0, .ref r0), (1, .int (nI o9))] := hl0
  refine xw_gen (fun Z9 hQe => ?_)
  refine lv_aload_n hx hb d_Reader_statement_0 rfl (lv_at hl1 0 rfl) ?_
  refine va_get (D := D) (ci := 7) (v := .ref k0) (C := R_Reader) (T := F_Reader) (N := 5) hx hb hts i_Reader hown hK.1 hP 0 rfl rfl 0 (by decide) (hts _ wd_75) (fun _ h9 => h9) rfl d_Reader_statement_1 ?_
  refine va_get (D := D) (ci := 9) (v := .int (nI nx)) (C := R_Tokens) (T := F_Tokens) (N := 8) hx hb hts i_Tokens hown hK.1 hP 1 rfl rfl 6 (by decide) (hts _ wd_47) (fun _ h9 => h9) rfl d_Reader_statement_4 ?_
  refine lv_istore_n (lv' := [(2, .int (nI nx)), (0, .ref r0), (1, .int (nI o9))]) hx hb d_Reader_statement_7 rfl hl1 (by decide) rfl (fun ls hl2 => ?_)
  clear hl1; have hl1 := hl2; clear hl2
  refine lv_aload_n hx hb d_Reader_statement_8 rfl (lv_at hl1 1 rfl) ?_
  refine va_get (D := D) (ci := 7) (v := .ref g0) (C := R_Reader) (T := F_Reader) (N := 5) hx hb hts i_Reader hown hK.1 hP 0 rfl rfl 1 (by decide) (hts _ wd_76) (fun _ h9 => h9) rfl d_Reader_statement_9 ?_
  refine lv_iload_n hx hb d_Reader_statement_12 rfl (lv_at hl1 0 rfl) ?_
  obtain ⟨hPc, hDc, hFc, hCs⟩ := xw_sub3 (wc := [(g0, .inr (2, [.ref n0, .ref g1, .ref g2, .ref g3, .ref g4, .ref g5, .ref g6, .ref g7, .ref g8, .ref g9, .ref ga, .ref gb, .int (nI cl), .int (nI ln), .int (nI br), .int (nI lp), .int (nI va)])), (g1, .inl (ax 1, 20, .inl (fun j => nI (kd j)))), (g2, .inl (ax 1, 20, .inl (fun j => nI (ow j)))), (g3, .inl (ax 1, 20, .inl (fun j => nI (sb j)))), (g4, .inl (ax 1, 20, .inl (fun j => nI (f1 j)))), (g5, .inl (ax 1, 20, .inl (fun j => nI (f2 j)))), (g6, .inl (ax 2, 20, .inl (fun j => nI (te j)))), (g7, .inl (ax 2, 20, .inl (fun j => nI (kp j)))), (g8, .inl (ax 0, 20, .inl tm)), (g9, .inl (ax 1, 20, .inl (fun j => nI (nm j)))), (ga, .inl (ax 1, 29, .inl (fun j => nI (ck j)))), (gb, .inl (ax 1, 29, .inl (fun j => nI (co j))))]) hP hD hS hA [8, 9, 10, 11, 12, 13, 14, 15, 16, 17, 18, 19] (by decide) rfl
  have hz := xz_of hN hS
  refine va_calli (va_runV (As := [.int (nI nx)]) (rest := []) ⟨hx, hb, hml, hown, hts⟩ (c_L_admits l D ax g0 g1 g2 g3 g4 g5 g6 g7 g8 g9 ga gb cl ln br lp va kd ow sb f1 f2 te kp nm ck co tm n0 nx s.heap.size (by first | assumption | omega) (by first | assumption | omega) (by first | assumption | omega) (by first | assumption | omega)) (xcV (n := 1) hts wd_625 wd_12 wd_622 wd_623 wd_624 rfl rfl (by decide +kernel) ⟨(show (10) + 1 ≤ (200 + 20 * kf) by omega), (show 8 + (2 + 11) + (400) ≤ (8000 + 800 * kf) by omega)⟩) (xpV (ci := 2) (q0 := 0) (As := [.int (nI nx)]) hPc hK hz hDc rfl rfl) rfl rfl hl1.1 rfl (lv_room (Nat.le_of_ble_eq_true rfl)) d_Reader_statement_13 ⟨(show (0) + (0) ≤ (MX - cp) by omega), (show (0) + (0) ≤ (6 * (MX - cp)) by omega)⟩) hS (fun q _ h => hFc q h) hFc (fun r_3 u_1 t H_2 locs ht hvm hw hB hz1 hk1 hS1 => ?_)
  try dsimp only at hw
  obtain ⟨hw, hs_4, hs_5, hs_6⟩ := hw
  subst hw
  obtain ⟨hP1, hD1⟩ := hB
  rw [ht] at hP1
  have hjn := xw_join3 (wl := [(r0, .inr (7, [.ref k0, .ref g0, .ref n0, .int (nI gh), .int (nI at9)])), (k0, .inr (9, [.ref k1, .ref k2, .int (nI ts), .int (nI th), .int (nI ta), .int (nI tf), .int (nI nx), .int (nI am)])), (k1, .inl (ax 1, 400, .inl tb)), (k2, .inl (ax 0, 401, .inl (fun j => nI (tk j)))), (n0, .inr (4, [.ref n1, .ref n2, .ref n3, .int (nI z9)])), (n1, .inl (ax 1, cp, .inl fo)), (n2, .inl (ax 0, cp, .inl fl)), (n3, .inl (ax 0, cp, .inl fr)), (g0, .inr (2, [.ref n0, .ref g1, .ref g2, .ref g3, .ref g4, .ref g5, .ref g6, .ref g7, .ref g8, .ref g9, .ref ga, .ref gb, .int (nI cl), .int (nI ln), .int (nI br), .int (nI lp), .int (nI va)])), (g1, .inl (ax 1, 20, .inl (fun j => nI (kd j)))), (g2, .inl (ax 1, 20, .inl (fun j => nI (ow j)))), (g3, .inl (ax 1, 20, .inl (fun j => nI (sb j)))), (g4, .inl (ax 1, 20, .inl (fun j => nI (f1 j)))), (g5, .inl (ax 1, 20, .inl (fun j => nI (f2 j)))), (g6, .inl (ax 2, 20, .inl (fun j => nI (te j)))), (g7, .inl (ax 2, 20, .inl (fun j => nI (kp j)))), (g8, .inl (ax 0, 20, .inl tm)), (g9, .inl (ax 1, 20, .inl (fun j => nI (nm j)))), (ga, .inl (ax 1, 29, .inl (fun j => nI (ck j)))), (gb, .inl (ax 1, 29, .inl (fun j => nI (co j))))]) hP hD [8, 9, 10, 11, 12, 13, 14, 15, 16, 17, 18, 19] [0, 1, 2, 3, 4, 5, 6, 7] hCs (by decide) (by decide) hk1 hFc hP1 hD1 rfl
  clear hP1 hD1
  clear hPc hDc hFc hCs hz hz1 hk1 ht hvm
  clear hP hD hS
  have hS := hS1
  obtain ⟨hP, hD⟩ := hjn
  clear hS1
  refine lv_if_ne (tgt := 28) hx hb d_Reader_statement_16 (by decide) (fun c_7 => ?_) (fun c_7 => ?_)
  · replace c_7 : ¬ u_1 0 = 0 := fun hq9 => c_7 ((nI_eq (a := u_1 0) (b := 0) (by first | exact Nat.lt_of_lt_of_le (by assumption) (by decide) | exact Nat.lt_of_le_of_lt (by assumption) (by decide) | omega) (by decide)).mpr hq9)
    obtain ⟨hkn, hl20, hb4, hl4⟩ := hs_5.go (by first | assumption | omega)
    have hk2 : 2 ≤ nx := by unfold knd at hkn; omega
    obtain ⟨hok, hts9⟩ := hrs.go (by first | assumption | omega) (by first | assumption | omega)
    have hlt9 : ta < cn := hts9.1.resolve_left (by first | assumption | omega)
    have hf9 : ftf tf = 0 := by rw [hok]; rfl
    have hsml : smn ln := Or.inl (by first | assumption | omega)
    have hN5 := st_ok hrs hok (by unfold knd at hkn; omega) hl20 hb4 hl4
    refine lv_aload_n hx hb d_Reader_statement_28 rfl (lv_at hl1 1 rfl) ?_
    refine va_get (D := D) (ci := 7) (v := .ref g0) (C := R_Reader) (T := F_Reader) (N := 5) hx hb hts i_Reader hown hK.1 hP 0 rfl rfl 1 (by decide) (hts _ wd_76) (fun _ h9 => h9) rfl d_Reader_statement_29 ?_
    refine lv_iload_n hx hb d_Reader_statement_32 rfl (lv_at hl1 0 rfl) ?_
    refine lv_iload_n hx hb d_Reader_statement_33 rfl (lv_at hl1 2 rfl) ?_
    obtain ⟨hPc, hDc, hFc, hCs⟩ := xw_sub3 (wc := [(g0, .inr (2, [.ref n0, .ref g1, .ref g2, .ref g3, .ref g4, .ref g5, .ref g6, .ref g7, .ref g8, .ref g9, .ref ga, .ref gb, .int (nI cl), .int (nI ln), .int (nI br), .int (nI lp), .int (nI va)])), (g1, .inl (ax 1, 20, .inl (fun j => nI (kd j)))), (g2, .inl (ax 1, 20, .inl (fun j => nI (ow j)))), (g3, .inl (ax 1, 20, .inl (fun j => nI (sb j)))), (g4, .inl (ax 1, 20, .inl (fun j => nI (f1 j)))), (g5, .inl (ax 1, 20, .inl (fun j => nI (f2 j)))), (g6, .inl (ax 2, 20, .inl (fun j => nI (te j)))), (g7, .inl (ax 2, 20, .inl (fun j => nI (kp j)))), (g8, .inl (ax 0, 20, .inl tm)), (g9, .inl (ax 1, 20, .inl (fun j => nI (nm j)))), (ga, .inl (ax 1, 29, .inl (fun j => nI (ck j)))), (gb, .inl (ax 1, 29, .inl (fun j => nI (co j))))]) hP hD hS hA [8, 9, 10, 11, 12, 13, 14, 15, 16, 17, 18, 19] (by decide) rfl
    have hz := xz_of hN hS
    refine va_calli (va_runV (As := [.int (nI nx), .int (nI o9)]) (rest := []) ⟨hx, hb, hml, hown, hts⟩ (c_L_add l D ax g0 g1 g2 g3 g4 g5 g6 g7 g8 g9 ga gb cl ln br lp va kd ow sb f1 f2 te kp nm ck co tm n0 nx o9 H_2.size hkn hsm (by first | assumption | omega) (by first | assumption | omega) (by first | assumption | omega)) (xcV (n := 2) hts wd_629 wd_12 wd_626 wd_627 wd_628 rfl rfl (by decide +kernel) ⟨(show (10) + 1 ≤ (200 + 20 * kf) by omega), (show 8 + (3 + 11) + (400) ≤ (8000 + 800 * kf) by omega)⟩) (xpV (ci := 2) (q0 := 0) (As := [.int (nI nx), .int (nI o9)]) hPc hK hz hDc rfl rfl) rfl rfl hl1.1 rfl (lv_room (Nat.le_of_ble_eq_true rfl)) d_Reader_statement_34 ⟨(show (0) + (0) ≤ (MX - cp) by omega), (show (0) + (0) ≤ (6 * (MX - cp)) by omega)⟩) hS (fun q _ h => hFc q h) hFc (fun r_10 u_8 t H_9 locs ht hvm hw hB hz1 hk1 hS1 => ?_)
    try dsimp only at hw
    obtain ⟨hw, hs_11, hs_12⟩ := hw
    subst hw
    obtain ⟨hP1, hD1⟩ := hB
    rw [ht] at hP1
    have hjn := xw_join3 (wl := [(r0, .inr (7, [.ref k0, .ref g0, .ref n0, .int (nI gh), .int (nI at9)])), (k0, .inr (9, [.ref k1, .ref k2, .int (nI ts), .int (nI th), .int (nI ta), .int (nI tf), .int (nI nx), .int (nI am)])), (k1, .inl (ax 1, 400, .inl tb)), (k2, .inl (ax 0, 401, .inl (fun j => nI (tk j)))), (n0, .inr (4, [.ref n1, .ref n2, .ref n3, .int (nI z9)])), (n1, .inl (ax 1, cp, .inl fo)), (n2, .inl (ax 0, cp, .inl fl)), (n3, .inl (ax 0, cp, .inl fr)), (g0, .inr (2, [.ref n0, .ref g1, .ref g2, .ref g3, .ref g4, .ref g5, .ref g6, .ref g7, .ref g8, .ref g9, .ref ga, .ref gb, .int (nI cl), .int (nI (ln + 1)), .int (nI (u_8 0)), .int (nI (u_8 1)), .int (nI va)])), (g1, .inl (ax 1, 20, .inl (fun j => nI (sup kd ln nx j)))), (g2, .inl (ax 1, 20, .inl (fun j => nI (sup ow ln o9 j)))), (g3, .inl (ax 1, 20, .inl (fun j => nI (sup sb ln 4294967295 j)))), (g4, .inl (ax 1, 20, .inl (fun j => nI (sup f1 ln 4294967295 j)))), (g5, .inl (ax 1, 20, .inl (fun j => nI (sup f2 ln 4294967295 j)))), (g6, .inl (ax 2, 20, .inl (fun j => nI (te j)))), (g7, .inl (ax 2, 20, .inl (fun j => nI (kp j)))), (g8, .inl (ax 0, 20, .inl tm)), (g9, .inl (ax 1, 20, .inl (fun j => nI (sup nm ln 4294967295 j)))), (ga, .inl (ax 1, 29, .inl (fun j => nI (ck j)))), (gb, .inl (ax 1, 29, .inl (fun j => nI (co j))))]) hP hD [8, 9, 10, 11, 12, 13, 14, 15, 16, 17, 18, 19] [0, 1, 2, 3, 4, 5, 6, 7] hCs (by decide) (by decide) hk1 hFc hP1 hD1 rfl
    clear hP1 hD1
    clear hPc hDc hFc hCs hz hz1 hk1 ht hvm
    clear hP hD hS
    have hS := hS1
    obtain ⟨hP, hD⟩ := hjn
    clear hS1
    have hL_13 : okf (tf) (lst (ln + 1) z9 (sup kd ln nx) (sup ow ln o9) (sup sb ln 4294967295) (sup f1 ln 4294967295) (sup f2 ln 4294967295) te kp (sup nm ln 4294967295) (sup en ln 100) (sup kc ln 0) tm fo fl fr) := (fun q => (hls q).add hl20 hkn (how q))
    have hC_14 : okf (tf) (clm (u_8 0) cl ck co (ln + 1) (sup kd ln nx) (sup nm ln 4294967295)) := (fun q => (hcm q).add hs_11)
    have hi8 := hs_11; have hi12 := hs_12
    refine lv_istore_n (lv' := [(3, .int (nI ln)), (2, .int (nI nx)), (0, .ref r0), (1, .int (nI o9))]) hx hb d_Reader_statement_37 rfl hl1 (by decide) rfl (fun ls hl2 => ?_)
    clear hl1; have hl1 := hl2; clear hl2
    refine lv_aload_n hx hb d_Reader_statement_38 rfl (lv_at hl1 2 rfl) ?_
    refine va_get (D := D) (ci := 7) (v := .ref k0) (C := R_Reader) (T := F_Reader) (N := 5) hx hb hts i_Reader hown hK.1 hP 0 rfl rfl 0 (by decide) (hts _ wd_75) (fun _ h9 => h9) rfl d_Reader_statement_39 ?_
    refine va_get (D := D) (ci := 9) (v := .int (nI am)) (C := R_Tokens) (T := F_Tokens) (N := 8) hx hb hts i_Tokens hown hK.1 hP 1 rfl rfl 7 (by decide) (hts _ wd_49) (fun _ h9 => h9) rfl d_Reader_statement_42 ?_
    refine lv_istore (lv' := [(4, .int (nI am)), (3, .int (nI ln)), (2, .int (nI nx)), (0, .ref r0), (1, .int (nI o9))]) hx hb d_Reader_statement_45 hl1 (by decide) rfl (fun ls hl2 => ?_)
    clear hl1; have hl1 := hl2; clear hl2
    refine lv_aload_n hx hb d_Reader_statement_47 rfl (lv_at hl1 3 rfl) ?_
    refine va_get (D := D) (ci := 7) (v := .ref k0) (C := R_Reader) (T := F_Reader) (N := 5) hx hb hts i_Reader hown hK.1 hP 0 rfl rfl 0 (by decide) (hts _ wd_75) (fun _ h9 => h9) rfl d_Reader_statement_48 ?_
    obtain ⟨hPc, hDc, hFc, hCs⟩ := xw_sub3 (wc := [(k0, .inr (9, [.ref k1, .ref k2, .int (nI ts), .int (nI th), .int (nI ta), .int (nI tf), .int (nI nx), .int (nI am)])), (k1, .inl (ax 1, 400, .inl tb)), (k2, .inl (ax 0, 401, .inl (fun j => nI (tk j))))]) hP hD hS hA [1, 2, 3] (by decide) rfl
    have hz := xz_of hN hS
    refine va_callv (va_runV (As := []) (rest := []) ⟨hx, hb, hml, hown, hts⟩ (c_K_pass l D ax k0 k1 k2 tb tk ta tf nx am cn ts th H_9.size hkz (by assumption) (by first | assumption | omega) (by first | assumption | omega) (by first | assumption | omega) (by first | assumption | omega)) (xcV (n := 0) hts wd_531 wd_2 wd_564 wd_529 wd_530 rfl rfl (by decide +kernel) ⟨(show (10) + 1 ≤ (200 + 20 * kf) by omega), (show 8 + (1 + 11) + (400) ≤ (8000 + 800 * kf) by omega)⟩) (xpV (ci := 9) (q0 := 0) (As := []) hPc hK hz hDc rfl rfl) rfl rfl hl1.1 rfl (lv_room (Nat.le_of_ble_eq_true rfl)) d_Reader_statement_51 ⟨(show (0) + (0) ≤ (MX - cp) by omega), (show (0) + (0) ≤ (6 * (MX - cp)) by omega)⟩) hS (fun q _ h => hFc q h) hFc (fun u_15 t H_16 locs ht hvm hw hB hz1 hk1 hS1 => ?_)
    try dsimp only at hw
    obtain ⟨hs_18, hs_19, hs_20, hs_21, hs_22, hs_23, hs_24, hs_25, hs_26, hs_27⟩ := hw
    obtain ⟨hP1, hD1⟩ := hB
    rw [ht] at hP1
    have hjn := xw_join3 (wl := [(r0, .inr (7, [.ref k0, .ref g0, .ref n0, .int (nI gh), .int (nI at9)])), (n0, .inr (4, [.ref n1, .ref n2, .ref n3, .int (nI z9)])), (n1, .inl (ax 1, cp, .inl fo)), (n2, .inl (ax 0, cp, .inl fl)), (n3, .inl (ax 0, cp, .inl fr)), (g0, .inr (2, [.ref n0, .ref g1, .ref g2, .ref g3, .ref g4, .ref g5, .ref g6, .ref g7, .ref g8, .ref g9, .ref ga, .ref gb, .int (nI cl), .int (nI (ln + 1)), .int (nI (u_8 0)), .int (nI (u_8 1)), .int (nI va)])), (g1, .inl (ax 1, 20, .inl (fun j => nI (sup kd ln nx j)))), (g2, .inl (ax 1, 20, .inl (fun j => nI (sup ow ln o9 j)))), (g3, .inl (ax 1, 20, .inl (fun j => nI (sup sb ln 4294967295 j)))), (g4, .inl (ax 1, 20, .inl (fun j => nI (sup f1 ln 4294967295 j)))), (g5, .inl (ax 1, 20, .inl (fun j => nI (sup f2 ln 4294967295 j)))), (g6, .inl (ax 2, 20, .inl (fun j => nI (te j)))), (g7, .inl (ax 2, 20, .inl (fun j => nI (kp j)))), (g8, .inl (ax 0, 20, .inl tm)), (g9, .inl (ax 1, 20, .inl (fun j => nI (sup nm ln 4294967295 j)))), (ga, .inl (ax 1, 29, .inl (fun j => nI (ck j)))), (gb, .inl (ax 1, 29, .inl (fun j => nI (co j)))), (k0, .inr (9, [.ref k1, .ref k2, .int (nI ts), .int (nI th), .int (nI (u_15 0)), .int (nI (u_15 1)), .int (nI (u_15 2)), .int (nI (u_15 3))])), (k1, .inl (ax 1, 400, .inl tb)), (k2, .inl (ax 0, 401, .inl (fun j => nI (tk j))))]) hP hD [1, 2, 3] [0, 4, 5, 6, 7, 8, 9, 10, 11, 12, 13, 14, 15, 16, 17, 18, 19] hCs (by decide) (by decide) hk1 hFc hP1 hD1 rfl
    clear hP1 hD1
    clear hPc hDc hFc hCs hz hz1 hk1 ht hvm
    clear hP hD hS
    have hS := hS1
    obtain ⟨hP, hD⟩ := hjn
    clear hS1
    have hp9 := hs_25 hok
    have hL_28 : okf (u_15 1) (lst (ln + 1) z9 (sup kd ln nx) (sup ow ln o9) (sup sb ln 4294967295) (sup f1 ln 4294967295) (sup f2 ln 4294967295) te kp (sup nm ln 4294967295) (sup en ln 100) (sup kc ln 0) tm fo fl fr) := hL_13.back hs_23
    have hC_29 : okf (u_15 1) (clm (u_8 0) cl ck co (ln + 1) (sup kd ln nx) (sup nm ln 4294967295)) := hC_14.back hs_23
    have hN_30 : okf (u_15 1) (ndv fo fl fr z9) := hnd.back hs_23
    refine lv_iload_n hx hb d_Reader_statement_54 rfl (lv_at hl1 2 rfl) ?_
    by_cases hw_31 : nx = 2
    · refine W.eq (g2 := F0 m 55 ls [.int 2]) (by rw [hw_31]; rfl) ?_
      refine lv_lookup (off := 49) (tgt := 104) hx hb d_Reader_statement_55 (by decide) (by decide) (by decide) ?_
      have hj8 : ifq nx 8 = 0 := ifq_n (by first | assumption | omega)
      have hj12 : ifq nx 12 = 0 := ifq_n (by first | assumption | omega)
      have ha6 := hts9.2.1 (by first | assumption | omega)
      refine lv_aload_n hx hb d_Reader_statement_104 rfl (lv_at hl1 3 rfl) ?_
      refine lv_iload_n hx hb d_Reader_statement_105 rfl (lv_at hl1 1 rfl) ?_
      refine lv_iload hx hb d_Reader_statement_106 (lv_at hl1 0 rfl) ?_
      obtain ⟨hPc, hDc, hFc, hCs⟩ := xw_sub3 (wc := [(r0, .inr (7, [.ref k0, .ref g0, .ref n0, .int (nI gh), .int (nI at9)])), (k0, .inr (9, [.ref k1, .ref k2, .int (nI ts), .int (nI th), .int (nI (u_15 0)), .int (nI (u_15 1)), .int (nI (u_15 2)), .int (nI (u_15 3))])), (k1, .inl (ax 1, 400, .inl tb)), (k2, .inl (ax 0, 401, .inl (fun j => nI (tk j)))), (g0, .inr (2, [.ref n0, .ref g1, .ref g2, .ref g3, .ref g4, .ref g5, .ref g6, .ref g7, .ref g8, .ref g9, .ref ga, .ref gb, .int (nI cl), .int (nI (ln + 1)), .int (nI (u_8 0)), .int (nI (u_8 1)), .int (nI va)])), (g1, .inl (ax 1, 20, .inl (fun j => nI ((sup kd ln nx) j)))), (g2, .inl (ax 1, 20, .inl (fun j => nI ((sup ow ln o9) j)))), (g3, .inl (ax 1, 20, .inl (fun j => nI ((sup sb ln 4294967295) j)))), (g4, .inl (ax 1, 20, .inl (fun j => nI ((sup f1 ln 4294967295) j)))), (g5, .inl (ax 1, 20, .inl (fun j => nI ((sup f2 ln 4294967295) j)))), (g6, .inl (ax 2, 20, .inl (fun j => nI (te j)))), (g7, .inl (ax 2, 20, .inl (fun j => nI (kp j)))), (g8, .inl (ax 0, 20, .inl tm)), (g9, .inl (ax 1, 20, .inl (fun j => nI ((sup nm ln 4294967295) j)))), (ga, .inl (ax 1, 29, .inl (fun j => nI (ck j)))), (gb, .inl (ax 1, 29, .inl (fun j => nI (co j))))]) hP hD hS hA [0, 17, 18, 19, 5, 6, 7, 8, 9, 10, 11, 12, 13, 14, 15, 16] (by decide) rfl
      have hz := xz_of hN hS
      refine va_callv (va_runV (As := [.int (nI ln), .int (nI am)]) (rest := []) ⟨hx, hb, hml, hown, hts⟩ (c_R_assignment l D ax r0 k0 k1 k2 tb tk (u_15 0) (u_15 1) (u_15 2) (u_15 3) cn ts th gh at9 n0 ln am g0 g1 g2 g3 g4 g5 g6 g7 g8 g9 ga gb cl (ln + 1) (u_8 0) (u_8 1) va (sup kd ln nx) (sup ow ln o9) (sup sb ln 4294967295) (sup f1 ln 4294967295) (sup f2 ln 4294967295) te kp (sup nm ln 4294967295) ck co tm H_16.size hkz (by assumption) (by first | assumption | omega) (by first | assumption | omega) (by first | assumption | omega) (by first | assumption | omega) (by first | assumption | omega) (by have := hts9.2.1 (by first | assumption | omega); omega)) (xcV (n := 2) hts wd_633 wd_3 wd_630 wd_632 ps_16 rfl rfl (by decide +kernel) ⟨(show (40) + 1 ≤ (200 + 20 * kf) by omega), (show 8 + (3 + 11) + (1600) ≤ (8000 + 800 * kf) by omega)⟩) (xpV (ci := 7) (q0 := 0) (As := [.int (nI ln), .int (nI am)]) hPc hK hz hDc rfl rfl) rfl rfl hl1.1 rfl (lv_room (Nat.le_of_ble_eq_true rfl)) d_Reader_statement_108 ⟨(show (0) + (0) ≤ (MX - cp) by omega), (show (0) + (0) ≤ (6 * (MX - cp)) by omega)⟩) hS (fun q _ h => hFc q h) hFc (fun u_32 t H_33 locs ht hvm hw hB hz1 hk1 hS1 => ?_)
      try dsimp only at hw
      obtain ⟨hs_35, hs_36, hs_37, hs_38, hs_39, hs_40, hs_41⟩ := hw
      obtain ⟨x_42, hx_43, hx_44, hP1, hD1⟩ := hB
      rw [ht] at hP1
      have hjn := xw_join3 (wl := [(n0, .inr (4, [.ref n1, .ref n2, .ref n3, .int (nI z9)])), (n1, .inl (ax 1, cp, .inl fo)), (n2, .inl (ax 0, cp, .inl fl)), (n3, .inl (ax 0, cp, .inl fr)), (r0, .inr (7, [.ref k0, .ref g0, .ref n0, .int (nI gh), .int (nI at9)])), (k0, .inr (9, [.ref k1, .ref k2, .int (nI ts), .int (nI th), .int (nI (u_32 0)), .int (nI (u_32 1)), .int (nI (u_32 2)), .int (nI (u_32 3))])), (k1, .inl (ax 1, 400, .inl tb)), (k2, .inl (ax 0, 401, .inl (fun j => nI (tk j)))), (g0, .inr (2, [.ref n0, .ref g1, .ref g2, .ref g3, .ref g4, .ref g5, .ref g6, .ref g7, .ref g8, .ref g9, .ref ga, .ref gb, .int (nI cl), .int (nI (ln + 1)), .int (nI (u_8 0)), .int (nI (u_8 1)), .int (nI va)])), (g1, .inl (ax 1, 20, .inl (fun j => nI ((sup kd ln nx) j)))), (g2, .inl (ax 1, 20, .inl (fun j => nI ((sup ow ln o9) j)))), (g3, .inl (ax 1, 20, .inl (fun j => nI ((sup sb ln 4294967295) j)))), (g4, .inl (ax 1, 20, .inl (fun j => nI ((sup f1 ln 4294967295) j)))), (g5, .inl (ax 1, 20, .inl (fun j => nI ((sup f2 ln 4294967295) j)))), (g6, .inl (ax 2, 20, .inl (fun j => nI (te j)))), (g7, .inl (ax 2, 20, .inl (fun j => nI (kp j)))), (g8, .inl (ax 0, 20, .inl x_42)), (g9, .inl (ax 1, 20, .inl (fun j => nI (sup (sup nm ln 4294967295) ln am j)))), (ga, .inl (ax 1, 29, .inl (fun j => nI (ck j)))), (gb, .inl (ax 1, 29, .inl (fun j => nI (co j))))]) hP hD [0, 17, 18, 19, 5, 6, 7, 8, 9, 10, 11, 12, 13, 14, 15, 16] [1, 2, 3, 4] hCs (by decide) (by decide) hk1 hFc hP1 hD1 rfl
      clear hP1 hD1
      clear hPc hDc hFc hCs hz hz1 hk1 ht hvm
      clear hP hD hS
      have hS := hS1
      obtain ⟨hP, hD⟩ := hjn
      clear hS1
      have hL_45 : okf (u_32 1) (lst (ln + 1) z9 (sup kd ln nx) (sup ow ln o9) (sup sb ln 4294967295) (sup f1 ln 4294967295) (sup f2 ln 4294967295) te kp (sup (sup nm ln 4294967295) ln am) (sup en ln 100) (sup kc ln 0) x_42 fo fl fr) := (fun q => (hL_28 (okf.of hs_40 q)).same (by first | assumption | omega) sup_eq (fun i hi => rfl) (fun i hi => rfl) (fun i hi => rfl) (fun i hi => rfl) (fun i hi => sup_ne hi) hx_43)
      have hC_46 : okf (u_32 1) (clm (u_8 0) cl ck co (ln + 1) (sup kd ln nx) (sup (sup nm ln 4294967295) ln am)) := (fun q => (hC_29 (okf.of hs_40 q)).up (fun i hi => ⟨rfl, fun h => sup128 h (by first | assumption | omega)⟩))
      have hN_47 : okf (u_32 1) (ndv fo fl fr z9) := hN_30.back hs_40
      refine lv_goto (tgt := 184) hx hb d_Reader_statement_111 (by decide) ?_
      have hF : okf (u_32 1) ((lst (ln + 1) z9 (sup kd ln nx) (sup ow ln o9) (sup sb ln 4294967295) (sup f1 ln 4294967295) (sup f2 ln 4294967295) te kp (sup (sup nm ln 4294967295) ln am) (sup (sup en ln 100) ln (ln + 1)) (sup kc ln 0) x_42 fo fl fr) ∧ (cls ln (ln + 1) (sup (sup en ln 100) ln (ln + 1))) ∧ (sam ln kd ow sb f1 f2 te kp nm en kc (sup kd ln nx) (sup ow ln o9) (sup sb ln 4294967295) (sup f1 ln 4294967295) (sup f2 ln 4294967295) te kp (sup (sup nm ln 4294967295) ln am) (sup (sup en ln 100) ln (ln + 1)) (sup kc ln 0) tm x_42) ∧ (∀ i, i < z9 → tsn fo fl fr i = tsn fo fl fr i)) := by
        intro q
        refine ⟨(hL_45 q).close (by first | assumption | omega) sup_eq (fun i h1 h2 => by omega) ⟨fun _ => ⟨by rw [sup_eq]; exact hts9.2.1 (by first | assumption | omega), hx_44⟩, fun h => by rw [sup_eq] at h; omega, fun h => by rw [sup_eq] at h; omega, fun h => by rw [sup_eq] at h; omega⟩, fun i h1 h2 => ?_, fun i hi => by refine ⟨?_, ?_, ?_, ?_, ?_, ?_, ?_, ?_, ?_, ?_, ?_⟩ <;> first | rfl | exact sup_ne (by first | assumption | omega) | (rw [sup_ne (by first | assumption | omega), sup_ne (by first | assumption | omega)]) | exact hx_43 i (by first | assumption | omega), (fun i hi => rfl)⟩
        rw [show i = ln by omega, sup_eq]; exact Nat.le_refl _
      refine lv_iload_n hx hb d_Reader_statement_184 rfl (lv_at hl1 1 rfl) ?_
      rw [← hQe]
      refine wk_know (fun hk8 hk9 => ?_)
      refine W.widen (k := MX - cp) (n := 6 * (MX - cp)) (by first | assumption | omega) (by first | assumption | omega) ?_
      obtain ⟨hP9, hD9⟩ := xw_sub2 (wc := (fun (u : Nat → Nat) (xkd : Nat → Nat) (xow : Nat → Nat) (xsb : Nat → Nat) (xf1 : Nat → Nat) (xf2 : Nat → Nat) (xte : Nat → Nat) (xkp : Nat → Nat) (xnm : Nat → Nat) (xck : Nat → Nat) (xco : Nat → Nat) (xtm : Nat → Int32) (xfo : Nat → Int32) (xfl : Nat → Int32) (xfr : Nat → Int32) (xen : Nat → Nat) (xkc : Nat → Nat) => [(r0, .inr (7, [.ref k0, .ref g0, .ref n0, .int (nI (u 11)), .int (nI (u 9))])), (k0, .inr (9, [.ref k1, .ref k2, .int (nI ts), .int (nI th), .int (nI (u 0)), .int (nI (u 1)), .int (nI (u 2)), .int (nI (u 3))])), (k1, .inl (ax 1, 400, .inl tb)), (k2, .inl (ax 0, 401, .inl (fun j => nI (tk j)))), (n0, .inr (4, [.ref (u 4), .ref (u 5), .ref (u 6), .int (nI (u 7))])), (u 4, .inl (ax 1, u 8, .inl xfo)), (u 5, .inl (ax 0, u 8, .inl xfl)), (u 6, .inl (ax 0, u 8, .inl xfr)), (g0, .inr (2, [.ref n0, .ref g1, .ref g2, .ref g3, .ref g4, .ref g5, .ref g6, .ref g7, .ref g8, .ref g9, .ref ga, .ref gb, .int (nI (u 12)), .int (nI (u 13)), .int (nI (u 14)), .int (nI (u 15)), .int (nI (u 16))])), (g1, .inl (ax 1, 20, .inl (fun j => nI (xkd j)))), (g2, .inl (ax 1, 20, .inl (fun j => nI (xow j)))), (g3, .inl (ax 1, 20, .inl (fun j => nI (xsb j)))), (g4, .inl (ax 1, 20, .inl (fun j => nI (xf1 j)))), (g5, .inl (ax 1, 20, .inl (fun j => nI (xf2 j)))), (g6, .inl (ax 2, 20, .inl (fun j => nI (xte j)))), (g7, .inl (ax 2, 20, .inl (fun j => nI (xkp j)))), (g8, .inl (ax 0, 20, .inl xtm)), (g9, .inl (ax 1, 20, .inl (fun j => nI (xnm j)))), (ga, .inl (ax 1, 29, .inl (fun j => nI (xck j)))), (gb, .inl (ax 1, 29, .inl (fun j => nI (xco j))))]) (ixn [(u_32 0), (u_32 1), (u_32 2), (u_32 3), n1, n2, n3, z9, cp, at9, ln, gh, cl, (ln + 1), (u_8 0), (u_8 1), va]) (sup kd ln nx) (sup ow ln o9) (sup sb ln 4294967295) (sup f1 ln 4294967295) (sup f2 ln 4294967295) te kp (sup (sup nm ln 4294967295) ln am) ck co x_42 fo fl fr (sup (sup en ln 100) ln (ln + 1)) (sup kc ln 0)) hP hD [4, 5, 6, 7, 0, 1, 2, 3, 8, 9, 10, 11, 12, 13, 14, 15, 16, 17, 18, 19] (by decide) rfl
      have hex0 : okf ((u_32 1)) (lst ((ln + 1)) (z9) (sup kd ln nx) (sup ow ln o9) (sup sb ln 4294967295) (sup f1 ln 4294967295) (sup f2 ln 4294967295) te kp (sup (sup nm ln 4294967295) ln am) (sup (sup en ln 100) ln (ln + 1)) (sup kc ln 0) x_42 fo fl fr) := (fun q => (hF q).1)
      have hex1 : okf ((u_32 1)) (cls ln ((ln + 1)) (sup (sup en ln 100) ln (ln + 1))) := (fun q => (hF q).2.1)
      have hex2 : okf ((u_32 1)) (sam ln kd ow sb f1 f2 te kp nm en kc (sup kd ln nx) (sup ow ln o9) (sup sb ln 4294967295) (sup f1 ln 4294967295) (sup f2 ln 4294967295) te kp (sup (sup nm ln 4294967295) ln am) (sup (sup en ln 100) ln (ln + 1)) (sup kc ln 0) tm x_42) := (fun q => (hF q).2.2.1)
      have hex3 : okf ((u_32 1)) (ln = ln ∧ ln < (ln + 1)) := (fun q => ⟨rfl, by omega⟩)
      have hex4 : okf ((u_32 1)) (clm ((u_8 0)) (cl) ck co ((ln + 1)) (sup kd ln nx) (sup (sup nm ln 4294967295) ln am)) := hC_46
      have hex5 : okf ((u_32 1)) (ndv fo fl fr (z9)) := hN_47
      have hex6 : bts fo (cp) := (by assumption)
      have hex7 : okf ((u_32 1)) (∀ i, i < z9 → tsn fo fl fr i = tsn fo fl fr i) := (fun q => (hF q).2.2.2)
      have hg8 : H_33.size ≤ s.heap.size + (cp - cp) := by omega
      have hg9 : tsl H_33 ≤ tsl s.heap + (6 * (cp - cp)) := by omega
      have hsp0 : rst tk ((u_32 1)) ((u_32 2)) ((u_32 3)) ((u_32 0)) cn := (by assumption)
      have hsp1 : (u_32 0) ≤ cn := (by first | assumption | omega)
      have hsp2 : (u_32 2) < 128 := (by first | assumption | omega)
      have hsp3 : (u_32 3) < 1024 := (by first | assumption | omega)
      have hsp4 : ta ≤ (u_32 0) := (by first | assumption | omega)
      have hsp5 : ftf tf ≤ ftf ((u_32 1)) := (by first | assumption | omega)
      have hsp6 : z9 ≤ z9 := (by first | assumption | omega)
      have hsp7 : z9 + ta ≤ z9 + (u_32 0) + 2 * ((ln + 1) - ln) := (by first | assumption | omega)
      have hsp8 : z9 ≤ cp := (by first | assumption | omega)
      have hsp9 : cp ≤ cp := (by first | assumption | omega)
      have hsp10 : cp ≤ MX := (by first | assumption | omega)
      have hsp11 : gh ≤ 1 := (by first | assumption | omega)
      have hsp12 : cl ≤ 1 + 2 * (u_8 1) + (ln + 1) := (by first | assumption | omega)
      have hsp13 : ln ≤ (ln + 1) := (by first | assumption | omega)
      have hsp14 : (ln + 1) ≤ 20 := (by first | assumption | omega)
      have hsp15 : br ≤ (u_8 0) := (by first | assumption | omega)
      have hsp16 : (u_8 0) ≤ 4 := (by first | assumption | omega)
      have hsp17 : lp ≤ (u_8 1) := (by first | assumption | omega)
      have hsp18 : (u_8 1) ≤ 4 := (by first | assumption | omega)
      have hsp19 : va ≤ (u_8 1) := (by first | assumption | omega)
      have hsp20 : psS tk tf ta sg ln br lp cl ((u_32 1)) ((u_32 0)) ((ln + 1)) ((u_8 0)) ((u_8 1)) (cl) := (st_one hrs hok hN5 (by first | assumption | omega) (so_set hrs hok (by first | assumption | omega) (hs_25 hok) hs_26 hs_41) (by first | assumption | omega) (by first | assumption | omega) (by first | assumption | omega) (by have h9 : wcl nx = 0 := if_neg (by first | assumption | omega); omega))
      have hsp21 : smn (ln) := hsml
      exact W.iret (v := nI ln) hx hb hr (fun t ht hW => ⟨⟨nI ln, ixn [(u_32 0), (u_32 1), (u_32 2), (u_32 3), n1, n2, n3, z9, cp, at9, ln, gh, cl, (ln + 1), (u_8 0), (u_8 1), va], rfl, ⟨rfl, ⟨hsp0, hsp1, hsp2, hsp3, hsp4, hsp5, hsp6, hsp7, hsp8, hsp9, hsp10, hsp11, hsp12, hsp13, hsp14, hsp15, hsp16, hsp17, hsp18, hsp19, hsp20, hsp21⟩⟩, ⟨sup kd ln nx, sup ow ln o9, sup sb ln 4294967295, sup f1 ln 4294967295, sup f2 ln 4294967295, te, kp, sup (sup nm ln 4294967295) ln am, ck, co, x_42, fo, fl, fr, sup (sup en ln 100) ln (ln + 1), sup kc ln 0, by rw [ht]; exact hg8, by rw [ht]; exact hg9, hex0, hex1, hex2, hex3, hex4, hex5, hex6, hex7, by rw [ht]; exact hP9, hD9⟩⟩, hS.F ht⟩) hS.2.2 d_Reader_statement_185
    by_cases hw_48 : nx = 8
    · refine W.eq (g2 := F0 m 55 ls [.int 8]) (by rw [hw_48]; rfl) ?_
      refine lv_lookup (off := 59) (tgt := 114) hx hb d_Reader_statement_55 (by decide) (by decide) (by decide) ?_
      have hj8 : ifq nx 8 = 1 := ifq_y (by first | assumption | omega)
      have hj12 : ifq nx 12 = 0 := ifq_n (by first | assumption | omega)
      have hbl : br < 4 := hb4 (by first | assumption | omega)
      obtain ⟨j9, hj9⟩ : ∃ j, j + 1 = kf := ⟨kf - 1, by omega⟩
      have hop9 : okf (u_15 1) (sup en ln 100 ln = 100 ∧ sup kd ln nx ln = 8) := fun _ => ⟨sup_eq, by rw [sup_eq]; omega⟩
      refine lv_aload_n hx hb d_Reader_statement_114 rfl (lv_at hl1 3 rfl) ?_
      refine lv_iload_n hx hb d_Reader_statement_115 rfl (lv_at hl1 1 rfl) ?_
      obtain ⟨hPc, hDc, hFc, hCs⟩ := xw_sub3 (wc := [(r0, .inr (7, [.ref k0, .ref g0, .ref n0, .int (nI gh), .int (nI at9)])), (k0, .inr (9, [.ref k1, .ref k2, .int (nI ts), .int (nI th), .int (nI (u_15 0)), .int (nI (u_15 1)), .int (nI (u_15 2)), .int (nI (u_15 3))])), (k1, .inl (ax 1, 400, .inl tb)), (k2, .inl (ax 0, 401, .inl (fun j => nI (tk j)))), (n0, .inr (4, [.ref n1, .ref n2, .ref n3, .int (nI z9)])), (n1, .inl (ax 1, cp, .inl fo)), (n2, .inl (ax 0, cp, .inl fl)), (n3, .inl (ax 0, cp, .inl fr)), (g0, .inr (2, [.ref n0, .ref g1, .ref g2, .ref g3, .ref g4, .ref g5, .ref g6, .ref g7, .ref g8, .ref g9, .ref ga, .ref gb, .int (nI cl), .int (nI (ln + 1)), .int (nI (u_8 0)), .int (nI (u_8 1)), .int (nI va)])), (g1, .inl (ax 1, 20, .inl (fun j => nI ((sup kd ln nx) j)))), (g2, .inl (ax 1, 20, .inl (fun j => nI ((sup ow ln o9) j)))), (g3, .inl (ax 1, 20, .inl (fun j => nI ((sup sb ln 4294967295) j)))), (g4, .inl (ax 1, 20, .inl (fun j => nI ((sup f1 ln 4294967295) j)))), (g5, .inl (ax 1, 20, .inl (fun j => nI ((sup f2 ln 4294967295) j)))), (g6, .inl (ax 2, 20, .inl (fun j => nI (te j)))), (g7, .inl (ax 2, 20, .inl (fun j => nI (kp j)))), (g8, .inl (ax 0, 20, .inl tm)), (g9, .inl (ax 1, 20, .inl (fun j => nI ((sup nm ln 4294967295) j)))), (ga, .inl (ax 1, 29, .inl (fun j => nI (ck j)))), (gb, .inl (ax 1, 29, .inl (fun j => nI (co j))))]) hP hD hS hA [0, 17, 18, 19, 1, 2, 3, 4, 5, 6, 7, 8, 9, 10, 11, 12, 13, 14, 15, 16] (by decide) rfl
      have hz := xz_of hN hS
      refine wk_know (fun hk8 hk9 => ?_)
      refine va_callv (va_runV (As := [.int (nI ln)]) (rest := []) ⟨hx, hb, hml, hown, hts⟩ (c_R_branch l j9 (hrec j9 hj9) D ax r0 k0 k1 k2 tb tk (u_15 0) (u_15 1) (u_15 2) (u_15 3) cn ts th gh at9 n0 n1 n2 n3 cp z9 fo fl fr g0 g1 g2 g3 g4 g5 g6 g7 g8 g9 ga gb cl (ln + 1) (u_8 0) (u_8 1) va (sup kd ln nx) (sup ow ln o9) (sup sb ln 4294967295) (sup f1 ln 4294967295) (sup f2 ln 4294967295) te kp (sup nm ln 4294967295) ck co tm MX (sup en ln 100) (sup kc ln 0) sg ln H_16.size (tsl H_16) hkz (by assumption) (by first | assumption | omega) (by first | assumption | omega) (by first | assumption | omega) (by first | assumption | omega) (by first | assumption | omega) (by first | assumption | omega) (by first | assumption | omega) (by first | assumption | omega) (by assumption) (by assumption) (by first | assumption | omega) (by first | assumption | omega) (by first | assumption | omega) (by first | assumption | omega) (by first | assumption | omega) (by assumption) (by assumption) (by first | assumption | omega) (by first | assumption | omega) hop9 (by first | assumption | omega)) (xcV (n := 1) hts wd_637 wd_3 wd_634 wd_636 ps_17 rfl rfl (by decide +kernel) ⟨(show (210 + 20 * j9) + 1 ≤ (200 + 20 * kf) by omega), (show 8 + (2 + 11) + (8200 + 800 * j9) ≤ (8000 + 800 * kf) by omega)⟩) (xpV3 (ci := 7) (q0 := 0) (As := [.int (nI ln)]) hPc hK hz hDc rfl rfl) rfl rfl hl1.1 rfl (lv_room (Nat.le_of_ble_eq_true rfl)) d_Reader_statement_116 ⟨(show (0) + (MX - cp) ≤ (MX - cp) by omega), (show (0) + (6 * (MX - cp)) ≤ (6 * (MX - cp)) by omega)⟩) hS (fun q _ h => hFc q h) hFc (fun u_49 t H_50 locs ht hvm hw hB hz1 hk1 hS1 => ?_)
      try dsimp only at hw
      obtain ⟨hs_52, hs_53, hs_54, hs_55, hs_56, hs_57, hs_58, hs_59, hs_60, hs_61, hs_62, hs_63, hs_64, hs_65, hs_66, hs_67, hs_68, hs_69, hs_70, hs_71, hs_72⟩ := hw
      obtain ⟨x_73, x_74, x_75, x_76, x_77, x_78, x_79, x_80, x_81, x_82, x_83, x_84, x_85, x_86, x_87, x_88, hg8, hg9, hx_89, hx_90, hx_91, hx_92, hx_93, hx_94, hx_95, hx_96, hP1, hD1⟩ := hB
      rw [ht] at hg8 hg9 hP1
      have hjn := xw_join3 (wl := [(r0, .inr (7, [.ref k0, .ref g0, .ref n0, .int (nI (u_49 11)), .int (nI (u_49 9))])), (k0, .inr (9, [.ref k1, .ref k2, .int (nI ts), .int (nI th), .int (nI (u_49 0)), .int (nI (u_49 1)), .int (nI (u_49 2)), .int (nI (u_49 3))])), (k1, .inl (ax 1, 400, .inl tb)), (k2, .inl (ax 0, 401, .inl (fun j => nI (tk j)))), (n0, .inr (4, [.ref (u_49 4), .ref (u_49 5), .ref (u_49 6), .int (nI (u_49 7))])), ((u_49 4), .inl (ax 1, u_49 8, .inl x_84)), ((u_49 5), .inl (ax 0, u_49 8, .inl x_85)), ((u_49 6), .inl (ax 0, u_49 8, .inl x_86)), (g0, .inr (2, [.ref n0, .ref g1, .ref g2, .ref g3, .ref g4, .ref g5, .ref g6, .ref g7, .ref g8, .ref g9, .ref ga, .ref gb, .int (nI (u_49 12)), .int (nI (u_49 13)), .int (nI (u_49 14)), .int (nI (u_49 15)), .int (nI (u_49 16))])), (g1, .inl (ax 1, 20, .inl (fun j => nI (x_73 j)))), (g2, .inl (ax 1, 20, .inl (fun j => nI (x_74 j)))), (g3, .inl (ax 1, 20, .inl (fun j => nI (x_75 j)))), (g4, .inl (ax 1, 20, .inl (fun j => nI (x_76 j)))), (g5, .inl (ax 1, 20, .inl (fun j => nI (x_77 j)))), (g6, .inl (ax 2, 20, .inl (fun j => nI (x_78 j)))), (g7, .inl (ax 2, 20, .inl (fun j => nI (x_79 j)))), (g8, .inl (ax 0, 20, .inl x_83)), (g9, .inl (ax 1, 20, .inl (fun j => nI (x_80 j)))), (ga, .inl (ax 1, 29, .inl (fun j => nI (x_81 j)))), (gb, .inl (ax 1, 29, .inl (fun j => nI (x_82 j))))]) hP hD [0, 17, 18, 19, 1, 2, 3, 4, 5, 6, 7, 8, 9, 10, 11, 12, 13, 14, 15, 16] [] hCs (by decide) (by decide) hk1 hFc hP1 hD1 rfl
      clear hP1 hD1
      clear hPc hDc hFc hCs hz hz1 hk1 ht hvm
      clear hP hD hS
      have hS := hS1
      obtain ⟨hP, hD⟩ := hjn
      clear hS1
      refine wk_narrow (k := u_49 8 - cp) (n := 6 * (u_49 8 - cp)) (by first | assumption | omega) (by first | assumption | omega) ?_
      clear hk8 hk9 hg8 hg9
      refine lv_goto (tgt := 184) hx hb d_Reader_statement_119 (by decide) ?_
      have hF : okf (u_49 1) ((lst (u_49 13) (u_49 7) x_73 x_74 x_75 x_76 x_77 x_78 x_79 x_80 (sup x_87 ln (u_49 13)) x_88 x_83 x_84 x_85 x_86) ∧ (cls ln (u_49 13) (sup x_87 ln (u_49 13))) ∧ (sam ln kd ow sb f1 f2 te kp nm en kc x_73 x_74 x_75 x_76 x_77 x_78 x_79 x_80 (sup x_87 ln (u_49 13)) x_88 tm x_83) ∧ (∀ i, i < z9 → tsn x_84 x_85 x_86 i = tsn fo fl fr i)) := by
        intro q
        have hse := hx_91 q; have hcl1 := hx_90 q
        have hen := hse.2.2.2.2.trans sup_eq
        refine ⟨(hx_89 q).close (by first | assumption | omega) hen (fun i h1 h2 => hcl1 i (by first | assumption | omega) h2) (hx_92 q), fun i h1 h2 => ?_, fun i hi => ?_, hx_96 q⟩
        · by_cases e9 : i = ln
          · subst e9; rw [sup_eq]; exact Nat.le_refl _
          · rw [sup_ne e9]; exact hcl1 i (by first | assumption | omega) h2
        · obtain ⟨x1, x2, x3, x4, x5, x6, x7, x8, x9, x10, x11⟩ := hse.1 i (by first | assumption | omega) (by first | assumption | omega)
          have hne : i ≠ ln := by omega
          exact ⟨x1.trans (sup_ne hne), x2.trans (sup_ne hne), x3.trans (sup_ne hne), x4.trans (sup_ne hne), x5.trans (sup_ne hne), x6, x7, x8.trans (sup_ne hne), (sup_ne hne).trans (x9.trans (sup_ne hne)), x10.trans (sup_ne hne), x11⟩
      refine lv_iload_n hx hb d_Reader_statement_184 rfl (lv_at hl1 1 rfl) ?_
      rw [← hQe]
      refine wk_know (fun hk8 hk9 => ?_)
      refine W.widen (k := MX - cp) (n := 6 * (MX - cp)) (by first | assumption | omega) (by first | assumption | omega) ?_
      obtain ⟨hP9, hD9⟩ := xw_sub2 (wc := (fun (u : Nat → Nat) (xkd : Nat → Nat) (xow : Nat → Nat) (xsb : Nat → Nat) (xf1 : Nat → Nat) (xf2 : Nat → Nat) (xte : Nat → Nat) (xkp : Nat → Nat) (xnm : Nat → Nat) (xck : Nat → Nat) (xco : Nat → Nat) (xtm : Nat → Int32) (xfo : Nat → Int32) (xfl : Nat → Int32) (xfr : Nat → Int32) (xen : Nat → Nat) (xkc : Nat → Nat) => [(r0, .inr (7, [.ref k0, .ref g0, .ref n0, .int (nI (u 11)), .int (nI (u 9))])), (k0, .inr (9, [.ref k1, .ref k2, .int (nI ts), .int (nI th), .int (nI (u 0)), .int (nI (u 1)), .int (nI (u 2)), .int (nI (u 3))])), (k1, .inl (ax 1, 400, .inl tb)), (k2, .inl (ax 0, 401, .inl (fun j => nI (tk j)))), (n0, .inr (4, [.ref (u 4), .ref (u 5), .ref (u 6), .int (nI (u 7))])), (u 4, .inl (ax 1, u 8, .inl xfo)), (u 5, .inl (ax 0, u 8, .inl xfl)), (u 6, .inl (ax 0, u 8, .inl xfr)), (g0, .inr (2, [.ref n0, .ref g1, .ref g2, .ref g3, .ref g4, .ref g5, .ref g6, .ref g7, .ref g8, .ref g9, .ref ga, .ref gb, .int (nI (u 12)), .int (nI (u 13)), .int (nI (u 14)), .int (nI (u 15)), .int (nI (u 16))])), (g1, .inl (ax 1, 20, .inl (fun j => nI (xkd j)))), (g2, .inl (ax 1, 20, .inl (fun j => nI (xow j)))), (g3, .inl (ax 1, 20, .inl (fun j => nI (xsb j)))), (g4, .inl (ax 1, 20, .inl (fun j => nI (xf1 j)))), (g5, .inl (ax 1, 20, .inl (fun j => nI (xf2 j)))), (g6, .inl (ax 2, 20, .inl (fun j => nI (xte j)))), (g7, .inl (ax 2, 20, .inl (fun j => nI (xkp j)))), (g8, .inl (ax 0, 20, .inl xtm)), (g9, .inl (ax 1, 20, .inl (fun j => nI (xnm j)))), (ga, .inl (ax 1, 29, .inl (fun j => nI (xck j)))), (gb, .inl (ax 1, 29, .inl (fun j => nI (xco j))))]) (ixn [(u_49 0), (u_49 1), (u_49 2), (u_49 3), (u_49 4), (u_49 5), (u_49 6), (u_49 7), (u_49 8), (u_49 9), ln, (u_49 11), (u_49 12), (u_49 13), (u_49 14), (u_49 15), (u_49 16)]) x_73 x_74 x_75 x_76 x_77 x_78 x_79 x_80 x_81 x_82 x_83 x_84 x_85 x_86 (sup x_87 ln (u_49 13)) x_88) hP hD [0, 1, 2, 3, 4, 5, 6, 7, 8, 9, 10, 11, 12, 13, 14, 15, 16, 17, 18, 19] (by decide) rfl
      have hex0 : okf ((u_49 1)) (lst ((u_49 13)) ((u_49 7)) x_73 x_74 x_75 x_76 x_77 x_78 x_79 x_80 (sup x_87 ln (u_49 13)) x_88 x_83 x_84 x_85 x_86) := (fun q => (hF q).1)
      have hex1 : okf ((u_49 1)) (cls ln ((u_49 13)) (sup x_87 ln (u_49 13))) := (fun q => (hF q).2.1)
      have hex2 : okf ((u_49 1)) (sam ln kd ow sb f1 f2 te kp nm en kc x_73 x_74 x_75 x_76 x_77 x_78 x_79 x_80 (sup x_87 ln (u_49 13)) x_88 tm x_83) := (fun q => (hF q).2.2.1)
      have hex3 : okf ((u_49 1)) (ln = ln ∧ ln < (u_49 13)) := (fun q => ⟨rfl, by omega⟩)
      have hex4 : okf ((u_49 1)) (clm ((u_49 14)) ((u_49 12)) x_81 x_82 ((u_49 13)) x_73 x_80) := hx_93
      have hex5 : okf ((u_49 1)) (ndv x_84 x_85 x_86 ((u_49 7))) := hx_94
      have hex6 : bts x_84 ((u_49 8)) := (by assumption)
      have hex7 : okf ((u_49 1)) (∀ i, i < z9 → tsn x_84 x_85 x_86 i = tsn fo fl fr i) := (fun q => (hF q).2.2.2)
      have hg8 : H_50.size ≤ s.heap.size + ((u_49 8) - cp) := by omega
      have hg9 : tsl H_50 ≤ tsl s.heap + (6 * ((u_49 8) - cp)) := by omega
      have hsp0 : rst tk ((u_49 1)) ((u_49 2)) ((u_49 3)) ((u_49 0)) cn := (by assumption)
      have hsp1 : (u_49 0) ≤ cn := (by first | assumption | omega)
      have hsp2 : (u_49 2) < 128 := (by first | assumption | omega)
      have hsp3 : (u_49 3) < 1024 := (by first | assumption | omega)
      have hsp4 : ta ≤ (u_49 0) := (by first | assumption | omega)
      have hsp5 : ftf tf ≤ ftf ((u_49 1)) := (by first | assumption | omega)
      have hsp6 : z9 ≤ (u_49 7) := (by first | assumption | omega)
      have hsp7 : (u_49 7) + ta ≤ z9 + (u_49 0) + 2 * ((u_49 13) - ln) := (by first | assumption | omega)
      have hsp8 : (u_49 7) ≤ (u_49 8) := (by first | assumption | omega)
      have hsp9 : cp ≤ (u_49 8) := (by first | assumption | omega)
      have hsp10 : (u_49 8) ≤ MX := (by first | assumption | omega)
      have hsp11 : (u_49 11) ≤ 1 := (by first | assumption | omega)
      have hsp12 : (u_49 12) ≤ 1 + 2 * (u_49 15) + (u_49 13) := (by first | assumption | omega)
      have hsp13 : ln ≤ (u_49 13) := (by first | assumption | omega)
      have hsp14 : (u_49 13) ≤ 20 := (by first | assumption | omega)
      have hsp15 : br ≤ (u_49 14) := (by first | assumption | omega)
      have hsp16 : (u_49 14) ≤ 4 := (by first | assumption | omega)
      have hsp17 : lp ≤ (u_49 15) := (by first | assumption | omega)
      have hsp18 : (u_49 15) ≤ 4 := (by first | assumption | omega)
      have hsp19 : (u_49 16) ≤ (u_49 15) := (by first | assumption | omega)
      have hsp20 : psS tk tf ta sg ln br lp cl ((u_49 1)) ((u_49 0)) ((u_49 13)) ((u_49 14)) ((u_49 15)) ((u_49 12)) := (st_if hrs hok hN5 (by first | assumption | omega) (hs_25 hok) hs_26 (by first | assumption | omega) (by first | assumption | omega) (by first | assumption | omega) (by first | assumption | omega) hs_72)
      have hsp21 : smn (ln) := hsml
      exact W.iret (v := nI ln) hx hb hr (fun t ht hW => ⟨⟨nI ln, ixn [(u_49 0), (u_49 1), (u_49 2), (u_49 3), (u_49 4), (u_49 5), (u_49 6), (u_49 7), (u_49 8), (u_49 9), ln, (u_49 11), (u_49 12), (u_49 13), (u_49 14), (u_49 15), (u_49 16)], rfl, ⟨rfl, ⟨hsp0, hsp1, hsp2, hsp3, hsp4, hsp5, hsp6, hsp7, hsp8, hsp9, hsp10, hsp11, hsp12, hsp13, hsp14, hsp15, hsp16, hsp17, hsp18, hsp19, hsp20, hsp21⟩⟩, ⟨x_73, x_74, x_75, x_76, x_77, x_78, x_79, x_80, x_81, x_82, x_83, x_84, x_85, x_86, sup x_87 ln (u_49 13), x_88, by rw [ht]; exact hg8, by rw [ht]; exact hg9, hex0, hex1, hex2, hex3, hex4, hex5, hex6, hex7, by rw [ht]; exact hP9, hD9⟩⟩, hS.F ht⟩) hS.2.2 d_Reader_statement_185
    by_cases hw_97 : nx = 12
    · refine W.eq (g2 := F0 m 55 ls [.int 12]) (by rw [hw_97]; rfl) ?_
      refine lv_lookup (off := 67) (tgt := 122) hx hb d_Reader_statement_55 (by decide) (by decide) (by decide) ?_
      have hj8 : ifq nx 8 = 0 := ifq_n (by first | assumption | omega)
      have hj12 : ifq nx 12 = 1 := ifq_y (by first | assumption | omega)
      have hbl : lp < 4 := hl4 (by first | assumption | omega)
      obtain ⟨j9, hj9⟩ : ∃ j, j + 1 = kf := ⟨kf - 1, by omega⟩
      have hop9 : okf (u_15 1) (sup en ln 100 ln = 100 ∧ sup kd ln nx ln = 12 ∧ sup nm ln 4294967295 ln = 4294967295) := fun _ => ⟨sup_eq, by rw [sup_eq]; omega, sup_eq⟩
      refine lv_aload_n hx hb d_Reader_statement_122 rfl (lv_at hl1 3 rfl) ?_
      refine lv_iload_n hx hb d_Reader_statement_123 rfl (lv_at hl1 1 rfl) ?_
      obtain ⟨hPc, hDc, hFc, hCs⟩ := xw_sub3 (wc := [(r0, .inr (7, [.ref k0, .ref g0, .ref n0, .int (nI gh), .int (nI at9)])), (k0, .inr (9, [.ref k1, .ref k2, .int (nI ts), .int (nI th), .int (nI (u_15 0)), .int (nI (u_15 1)), .int (nI (u_15 2)), .int (nI (u_15 3))])), (k1, .inl (ax 1, 400, .inl tb)), (k2, .inl (ax 0, 401, .inl (fun j => nI (tk j)))), (n0, .inr (4, [.ref n1, .ref n2, .ref n3, .int (nI z9)])), (n1, .inl (ax 1, cp, .inl fo)), (n2, .inl (ax 0, cp, .inl fl)), (n3, .inl (ax 0, cp, .inl fr)), (g0, .inr (2, [.ref n0, .ref g1, .ref g2, .ref g3, .ref g4, .ref g5, .ref g6, .ref g7, .ref g8, .ref g9, .ref ga, .ref gb, .int (nI cl), .int (nI (ln + 1)), .int (nI (u_8 0)), .int (nI (u_8 1)), .int (nI va)])), (g1, .inl (ax 1, 20, .inl (fun j => nI ((sup kd ln nx) j)))), (g2, .inl (ax 1, 20, .inl (fun j => nI ((sup ow ln o9) j)))), (g3, .inl (ax 1, 20, .inl (fun j => nI ((sup sb ln 4294967295) j)))), (g4, .inl (ax 1, 20, .inl (fun j => nI ((sup f1 ln 4294967295) j)))), (g5, .inl (ax 1, 20, .inl (fun j => nI ((sup f2 ln 4294967295) j)))), (g6, .inl (ax 2, 20, .inl (fun j => nI (te j)))), (g7, .inl (ax 2, 20, .inl (fun j => nI (kp j)))), (g8, .inl (ax 0, 20, .inl tm)), (g9, .inl (ax 1, 20, .inl (fun j => nI ((sup nm ln 4294967295) j)))), (ga, .inl (ax 1, 29, .inl (fun j => nI (ck j)))), (gb, .inl (ax 1, 29, .inl (fun j => nI (co j))))]) hP hD hS hA [0, 17, 18, 19, 1, 2, 3, 4, 5, 6, 7, 8, 9, 10, 11, 12, 13, 14, 15, 16] (by decide) rfl
      have hz := xz_of hN hS
      refine wk_know (fun hk8 hk9 => ?_)
      refine va_callv (va_runV (As := [.int (nI ln)]) (rest := []) ⟨hx, hb, hml, hown, hts⟩ (c_R_loop l j9 (hrec j9 hj9) D ax r0 k0 k1 k2 tb tk (u_15 0) (u_15 1) (u_15 2) (u_15 3) cn ts th gh at9 n0 n1 n2 n3 cp z9 fo fl fr g0 g1 g2 g3 g4 g5 g6 g7 g8 g9 ga gb cl (ln + 1) (u_8 0) (u_8 1) va (sup kd ln nx) (sup ow ln o9) (sup sb ln 4294967295) (sup f1 ln 4294967295) (sup f2 ln 4294967295) te kp (sup nm ln 4294967295) ck co tm MX (sup en ln 100) (sup kc ln 0) sg ln H_16.size (tsl H_16) hkz (by assumption) (by first | assumption | omega) (by first | assumption | omega) (by first | assumption | omega) (by first | assumption | omega) (by first | assumption | omega) (by first | assumption | omega) (by first | assumption | omega) (by first | assumption | omega) (by assumption) (by assumption) (by first | assumption | omega) (by first | assumption | omega) (by first | assumption | omega) (by first | assumption | omega) (by first | assumption | omega) (by assumption) (by assumption) (by first | assumption | omega) (by first | assumption | omega) hop9 (by first | assumption | omega) (by first | assumption | omega) (by first | assumption | omega)) (xcV (n := 1) hts wd_641 wd_3 wd_638 wd_640 ps_18 rfl rfl (by decide +kernel) ⟨(show (210 + 20 * j9) + 1 ≤ (200 + 20 * kf) by omega), (show 8 + (2 + 11) + (8200 + 800 * j9) ≤ (8000 + 800 * kf) by omega)⟩) (xpV3 (ci := 7) (q0 := 0) (As := [.int (nI ln)]) hPc hK hz hDc rfl rfl) rfl rfl hl1.1 rfl (lv_room (Nat.le_of_ble_eq_true rfl)) d_Reader_statement_124 ⟨(show (0) + (MX - cp) ≤ (MX - cp) by omega), (show (0) + (6 * (MX - cp)) ≤ (6 * (MX - cp)) by omega)⟩) hS (fun q _ h => hFc q h) hFc (fun u_98 t H_99 locs ht hvm hw hB hz1 hk1 hS1 => ?_)
      try dsimp only at hw
      obtain ⟨hs_101, hs_102, hs_103, hs_104, hs_105, hs_106, hs_107, hs_108, hs_109, hs_110, hs_111, hs_112, hs_113, hs_114, hs_115, hs_116, hs_117, hs_118, hs_119, hs_120, hs_121⟩ := hw
      obtain ⟨x_122, x_123, x_124, x_125, x_126, x_127, x_128, x_129, x_130, x_131, x_132, x_133, x_134, x_135, x_136, x_137, hg8, hg9, hx_138, hx_139, hx_140, hx_141, hx_142, hx_143, hx_144, hx_145, hP1, hD1⟩ := hB
      rw [ht] at hg8 hg9 hP1
      have hjn := xw_join3 (wl := [(r0, .inr (7, [.ref k0, .ref g0, .ref n0, .int (nI (u_98 11)), .int (nI (u_98 9))])), (k0, .inr (9, [.ref k1, .ref k2, .int (nI ts), .int (nI th), .int (nI (u_98 0)), .int (nI (u_98 1)), .int (nI (u_98 2)), .int (nI (u_98 3))])), (k1, .inl (ax 1, 400, .inl tb)), (k2, .inl (ax 0, 401, .inl (fun j => nI (tk j)))), (n0, .inr (4, [.ref (u_98 4), .ref (u_98 5), .ref (u_98 6), .int (nI (u_98 7))])), ((u_98 4), .inl (ax 1, u_98 8, .inl x_133)), ((u_98 5), .inl (ax 0, u_98 8, .inl x_134)), ((u_98 6), .inl (ax 0, u_98 8, .inl x_135)), (g0, .inr (2, [.ref n0, .ref g1, .ref g2, .ref g3, .ref g4, .ref g5, .ref g6, .ref g7, .ref g8, .ref g9, .ref ga, .ref gb, .int (nI (u_98 12)), .int (nI (u_98 13)), .int (nI (u_98 14)), .int (nI (u_98 15)), .int (nI (u_98 16))])), (g1, .inl (ax 1, 20, .inl (fun j => nI (x_122 j)))), (g2, .inl (ax 1, 20, .inl (fun j => nI (x_123 j)))), (g3, .inl (ax 1, 20, .inl (fun j => nI (x_124 j)))), (g4, .inl (ax 1, 20, .inl (fun j => nI (x_125 j)))), (g5, .inl (ax 1, 20, .inl (fun j => nI (x_126 j)))), (g6, .inl (ax 2, 20, .inl (fun j => nI (x_127 j)))), (g7, .inl (ax 2, 20, .inl (fun j => nI (x_128 j)))), (g8, .inl (ax 0, 20, .inl x_132)), (g9, .inl (ax 1, 20, .inl (fun j => nI (x_129 j)))), (ga, .inl (ax 1, 29, .inl (fun j => nI (x_130 j)))), (gb, .inl (ax 1, 29, .inl (fun j => nI (x_131 j))))]) hP hD [0, 17, 18, 19, 1, 2, 3, 4, 5, 6, 7, 8, 9, 10, 11, 12, 13, 14, 15, 16] [] hCs (by decide) (by decide) hk1 hFc hP1 hD1 rfl
      clear hP1 hD1
      clear hPc hDc hFc hCs hz hz1 hk1 ht hvm
      clear hP hD hS
      have hS := hS1
      obtain ⟨hP, hD⟩ := hjn
      clear hS1
      refine wk_narrow (k := u_98 8 - cp) (n := 6 * (u_98 8 - cp)) (by first | assumption | omega) (by first | assumption | omega) ?_
      clear hk8 hk9 hg8 hg9
      refine lv_goto (tgt := 184) hx hb d_Reader_statement_127 (by decide) ?_
      have hF : okf (u_98 1) ((lst (u_98 13) (u_98 7) x_122 x_123 x_124 x_125 x_126 x_127 x_128 x_129 (sup x_136 ln (u_98 13)) x_137 x_132 x_133 x_134 x_135) ∧ (cls ln (u_98 13) (sup x_136 ln (u_98 13))) ∧ (sam ln kd ow sb f1 f2 te kp nm en kc x_122 x_123 x_124 x_125 x_126 x_127 x_128 x_129 (sup x_136 ln (u_98 13)) x_137 tm x_132) ∧ (∀ i, i < z9 → tsn x_133 x_134 x_135 i = tsn fo fl fr i)) := by
        intro q
        have hse := hx_140 q; have hcl1 := hx_139 q
        have hen := hse.2.2.2.2.trans sup_eq
        refine ⟨(hx_138 q).close (by first | assumption | omega) hen (fun i h1 h2 => hcl1 i (by first | assumption | omega) h2) (hx_141 q), fun i h1 h2 => ?_, fun i hi => ?_, hx_145 q⟩
        · by_cases e9 : i = ln
          · subst e9; rw [sup_eq]; exact Nat.le_refl _
          · rw [sup_ne e9]; exact hcl1 i (by first | assumption | omega) h2
        · obtain ⟨x1, x2, x3, x4, x5, x6, x7, x8, x9, x10, x11⟩ := hse.1 i (by first | assumption | omega) (by first | assumption | omega)
          have hne : i ≠ ln := by omega
          exact ⟨x1.trans (sup_ne hne), x2.trans (sup_ne hne), x3.trans (sup_ne hne), x4.trans (sup_ne hne), x5.trans (sup_ne hne), x6, x7, x8.trans (sup_ne hne), (sup_ne hne).trans (x9.trans (sup_ne hne)), x10.trans (sup_ne hne), x11⟩
      refine lv_iload_n hx hb d_Reader_statement_184 rfl (lv_at hl1 1 rfl) ?_
      rw [← hQe]
      refine wk_know (fun hk8 hk9 => ?_)
      refine W.widen (k := MX - cp) (n := 6 * (MX - cp)) (by first | assumption | omega) (by first | assumption | omega) ?_
      obtain ⟨hP9, hD9⟩ := xw_sub2 (wc := (fun (u : Nat → Nat) (xkd : Nat → Nat) (xow : Nat → Nat) (xsb : Nat → Nat) (xf1 : Nat → Nat) (xf2 : Nat → Nat) (xte : Nat → Nat) (xkp : Nat → Nat) (xnm : Nat → Nat) (xck : Nat → Nat) (xco : Nat → Nat) (xtm : Nat → Int32) (xfo : Nat → Int32) (xfl : Nat → Int32) (xfr : Nat → Int32) (xen : Nat → Nat) (xkc : Nat → Nat) => [(r0, .inr (7, [.ref k0, .ref g0, .ref n0, .int (nI (u 11)), .int (nI (u 9))])), (k0, .inr (9, [.ref k1, .ref k2, .int (nI ts), .int (nI th), .int (nI (u 0)), .int (nI (u 1)), .int (nI (u 2)), .int (nI (u 3))])), (k1, .inl (ax 1, 400, .inl tb)), (k2, .inl (ax 0, 401, .inl (fun j => nI (tk j)))), (n0, .inr (4, [.ref (u 4), .ref (u 5), .ref (u 6), .int (nI (u 7))])), (u 4, .inl (ax 1, u 8, .inl xfo)), (u 5, .inl (ax 0, u 8, .inl xfl)), (u 6, .inl (ax 0, u 8, .inl xfr)), (g0, .inr (2, [.ref n0, .ref g1, .ref g2, .ref g3, .ref g4, .ref g5, .ref g6, .ref g7, .ref g8, .ref g9, .ref ga, .ref gb, .int (nI (u 12)), .int (nI (u 13)), .int (nI (u 14)), .int (nI (u 15)), .int (nI (u 16))])), (g1, .inl (ax 1, 20, .inl (fun j => nI (xkd j)))), (g2, .inl (ax 1, 20, .inl (fun j => nI (xow j)))), (g3, .inl (ax 1, 20, .inl (fun j => nI (xsb j)))), (g4, .inl (ax 1, 20, .inl (fun j => nI (xf1 j)))), (g5, .inl (ax 1, 20, .inl (fun j => nI (xf2 j)))), (g6, .inl (ax 2, 20, .inl (fun j => nI (xte j)))), (g7, .inl (ax 2, 20, .inl (fun j => nI (xkp j)))), (g8, .inl (ax 0, 20, .inl xtm)), (g9, .inl (ax 1, 20, .inl (fun j => nI (xnm j)))), (ga, .inl (ax 1, 29, .inl (fun j => nI (xck j)))), (gb, .inl (ax 1, 29, .inl (fun j => nI (xco j))))]) (ixn [(u_98 0), (u_98 1), (u_98 2), (u_98 3), (u_98 4), (u_98 5), (u_98 6), (u_98 7), (u_98 8), (u_98 9), ln, (u_98 11), (u_98 12), (u_98 13), (u_98 14), (u_98 15), (u_98 16)]) x_122 x_123 x_124 x_125 x_126 x_127 x_128 x_129 x_130 x_131 x_132 x_133 x_134 x_135 (sup x_136 ln (u_98 13)) x_137) hP hD [0, 1, 2, 3, 4, 5, 6, 7, 8, 9, 10, 11, 12, 13, 14, 15, 16, 17, 18, 19] (by decide) rfl
      have hex0 : okf ((u_98 1)) (lst ((u_98 13)) ((u_98 7)) x_122 x_123 x_124 x_125 x_126 x_127 x_128 x_129 (sup x_136 ln (u_98 13)) x_137 x_132 x_133 x_134 x_135) := (fun q => (hF q).1)
      have hex1 : okf ((u_98 1)) (cls ln ((u_98 13)) (sup x_136 ln (u_98 13))) := (fun q => (hF q).2.1)
      have hex2 : okf ((u_98 1)) (sam ln kd ow sb f1 f2 te kp nm en kc x_122 x_123 x_124 x_125 x_126 x_127 x_128 x_129 (sup x_136 ln (u_98 13)) x_137 tm x_132) := (fun q => (hF q).2.2.1)
      have hex3 : okf ((u_98 1)) (ln = ln ∧ ln < (u_98 13)) := (fun q => ⟨rfl, by omega⟩)
      have hex4 : okf ((u_98 1)) (clm ((u_98 14)) ((u_98 12)) x_130 x_131 ((u_98 13)) x_122 x_129) := hx_142
      have hex5 : okf ((u_98 1)) (ndv x_133 x_134 x_135 ((u_98 7))) := hx_143
      have hex6 : bts x_133 ((u_98 8)) := (by assumption)
      have hex7 : okf ((u_98 1)) (∀ i, i < z9 → tsn x_133 x_134 x_135 i = tsn fo fl fr i) := (fun q => (hF q).2.2.2)
      have hg8 : H_99.size ≤ s.heap.size + ((u_98 8) - cp) := by omega
      have hg9 : tsl H_99 ≤ tsl s.heap + (6 * ((u_98 8) - cp)) := by omega
      have hsp0 : rst tk ((u_98 1)) ((u_98 2)) ((u_98 3)) ((u_98 0)) cn := (by assumption)
      have hsp1 : (u_98 0) ≤ cn := (by first | assumption | omega)
      have hsp2 : (u_98 2) < 128 := (by first | assumption | omega)
      have hsp3 : (u_98 3) < 1024 := (by first | assumption | omega)
      have hsp4 : ta ≤ (u_98 0) := (by first | assumption | omega)
      have hsp5 : ftf tf ≤ ftf ((u_98 1)) := (by first | assumption | omega)
      have hsp6 : z9 ≤ (u_98 7) := (by first | assumption | omega)
      have hsp7 : (u_98 7) + ta ≤ z9 + (u_98 0) + 2 * ((u_98 13) - ln) := (by first | assumption | omega)
      have hsp8 : (u_98 7) ≤ (u_98 8) := (by first | assumption | omega)
      have hsp9 : cp ≤ (u_98 8) := (by first | assumption | omega)
      have hsp10 : (u_98 8) ≤ MX := (by first | assumption | omega)
      have hsp11 : (u_98 11) ≤ 1 := (by first | assumption | omega)
      have hsp12 : (u_98 12) ≤ 1 + 2 * (u_98 15) + (u_98 13) := (by first | assumption | omega)
      have hsp13 : ln ≤ (u_98 13) := (by first | assumption | omega)
      have hsp14 : (u_98 13) ≤ 20 := (by first | assumption | omega)
      have hsp15 : br ≤ (u_98 14) := (by first | assumption | omega)
      have hsp16 : (u_98 14) ≤ 4 := (by first | assumption | omega)
      have hsp17 : lp ≤ (u_98 15) := (by first | assumption | omega)
      have hsp18 : (u_98 15) ≤ 4 := (by first | assumption | omega)
      have hsp19 : (u_98 16) ≤ (u_98 15) := (by first | assumption | omega)
      have hsp20 : psS tk tf ta sg ln br lp cl ((u_98 1)) ((u_98 0)) ((u_98 13)) ((u_98 14)) ((u_98 15)) ((u_98 12)) := (st_wh hrs hok hN5 (by first | assumption | omega) (hs_25 hok) hs_26 (by first | assumption | omega) (by first | assumption | omega) (by first | assumption | omega) (by first | assumption | omega) hs_121)
      have hsp21 : smn (ln) := hsml
      exact W.iret (v := nI ln) hx hb hr (fun t ht hW => ⟨⟨nI ln, ixn [(u_98 0), (u_98 1), (u_98 2), (u_98 3), (u_98 4), (u_98 5), (u_98 6), (u_98 7), (u_98 8), (u_98 9), ln, (u_98 11), (u_98 12), (u_98 13), (u_98 14), (u_98 15), (u_98 16)], rfl, ⟨rfl, ⟨hsp0, hsp1, hsp2, hsp3, hsp4, hsp5, hsp6, hsp7, hsp8, hsp9, hsp10, hsp11, hsp12, hsp13, hsp14, hsp15, hsp16, hsp17, hsp18, hsp19, hsp20, hsp21⟩⟩, ⟨x_122, x_123, x_124, x_125, x_126, x_127, x_128, x_129, x_130, x_131, x_132, x_133, x_134, x_135, sup x_136 ln (u_98 13), x_137, by rw [ht]; exact hg8, by rw [ht]; exact hg9, hex0, hex1, hex2, hex3, hex4, hex5, hex6, hex7, by rw [ht]; exact hP9, hD9⟩⟩, hS.F ht⟩) hS.2.2 d_Reader_statement_185
    by_cases hw_146 : nx = 17
    · refine W.eq (g2 := F0 m 55 ls [.int 17]) (by rw [hw_146]; rfl) ?_
      refine lv_lookup (off := 75) (tgt := 130) hx hb d_Reader_statement_55 (by decide) (by decide) (by decide) ?_
      have hj8 : ifq nx 8 = 0 := ifq_n (by first | assumption | omega)
      have hj12 : ifq nx 12 = 0 := ifq_n (by first | assumption | omega)
      refine lv_aload_n hx hb d_Reader_statement_130 rfl (lv_at hl1 3 rfl) ?_
      refine va_get (D := D) (ci := 7) (v := .ref g0) (C := R_Reader) (T := F_Reader) (N := 5) hx hb hts i_Reader hown hK.1 hP 0 rfl rfl 1 (by decide) (hts _ wd_76) (fun _ h9 => h9) rfl d_Reader_statement_131 ?_
      refine va_get (D := D) (ci := 2) (v := .ref g6) (C := R_Listing) (T := F_Listing) (N := 17) hx hb hts i_Listing hown hK.1 hP 5 rfl rfl 6 (by decide) (hts _ wd_288) (fun _ h9 => h9) rfl d_Reader_statement_134 ?_
      refine lv_iload_n hx hb d_Reader_statement_137 rfl (lv_at hl1 1 rfl) ?_
      refine lv_aload_n hx hb d_Reader_statement_138 rfl (lv_at hl1 3 rfl) ?_
      refine lv_iconst (v := 0) hx hb d_Reader_statement_139 (by decide) ?_
      obtain ⟨hPc, hDc, hFc, hCs⟩ := xw_sub3 (wc := [(r0, .inr (7, [.ref k0, (.ref g0), .ref n0, .int (nI gh), .int (nI at9)])), (k0, .inr (9, [.ref k1, .ref k2, .int (nI ts), .int (nI th), .int (nI (u_15 0)), .int (nI (u_15 1)), .int (nI (u_15 2)), .int (nI (u_15 3))])), (k1, .inl (ax 1, 400, .inl tb)), (k2, .inl (ax 0, 401, .inl (fun j => nI (tk j)))), (n0, .inr (4, [.ref n1, .ref n2, .ref n3, .int (nI z9)])), (n1, .inl (ax 1, cp, .inl fo)), (n2, .inl (ax 0, cp, .inl fl)), (n3, .inl (ax 0, cp, .inl fr))]) hP hD hS hA [0, 17, 18, 19, 1, 2, 3, 4] (by decide) rfl
      have hz := xz_of hN hS
      refine wk_know (fun hk8 hk9 => ?_)
      refine va_calli (va_runV (As := [.int 0]) (rest := [.int (nI ln), .ref g6]) ⟨hx, hb, hml, hown, hts⟩ (c_R_condition l D ax r0 k0 k1 k2 (.ref g0) tb tk (u_15 0) (u_15 1) (u_15 2) (u_15 3) cn ts th gh at9 0 n0 n1 n2 n3 cp z9 fo fl fr MX H_16.size (tsl H_16) hkz (by assumption) (by first | assumption | omega) (by first | assumption | omega) (by first | assumption | omega) (by first | assumption | omega) (by first | assumption | omega) (by first | assumption | omega) (by first | assumption | omega) (by first | assumption | omega) (by first | assumption | omega) (by assumption) (by assumption)) (xcV (n := 1) hts wd_539 wd_3 wd_536 wd_538 ps_7 rfl rfl (by decide +kernel) ⟨(show (160) + 1 ≤ (200 + 20 * kf) by omega), (show 8 + (2 + 11) + (6400) ≤ (8000 + 800 * kf) by omega)⟩) (xpV3 (ci := 7) (q0 := 0) (As := [.int 0]) hPc hK hz hDc rfl rfl) rfl rfl hl1.1 rfl (lv_room (Nat.le_of_ble_eq_true rfl)) d_Reader_statement_140 ⟨(show (0) + (MX - cp) ≤ (MX - cp) by omega), (show (0) + (6 * (MX - cp)) ≤ (6 * (MX - cp)) by omega)⟩) hS (fun q _ h => hFc q h) hFc (fun r_149 u_147 t H_148 locs ht hvm hw hB hz1 hk1 hS1 => ?_)
      try dsimp only at hw
      obtain ⟨hw, hs_150, hs_151, hs_152, hs_153, hs_154, hs_155, hs_156, hs_157, hs_158, hs_159, hs_160, hs_161, hs_162, hs_163, hs_164, hs_165⟩ := hw
      subst hw
      obtain ⟨x_166, x_167, x_168, hg8, hg9, hx_169, hx_170, hx_171, hx_172, hP1, hD1⟩ := hB
      rw [ht] at hg8 hg9 hP1
      have hjn := xw_join3 (wl := [(g0, .inr (2, [.ref n0, .ref g1, .ref g2, .ref g3, .ref g4, .ref g5, .ref g6, .ref g7, .ref g8, .ref g9, .ref ga, .ref gb, .int (nI cl), .int (nI (ln + 1)), .int (nI (u_8 0)), .int (nI (u_8 1)), .int (nI va)])), (g1, .inl (ax 1, 20, .inl (fun j => nI (sup kd ln nx j)))), (g2, .inl (ax 1, 20, .inl (fun j => nI (sup ow ln o9 j)))), (g3, .inl (ax 1, 20, .inl (fun j => nI (sup sb ln 4294967295 j)))), (g4, .inl (ax 1, 20, .inl (fun j => nI (sup f1 ln 4294967295 j)))), (g5, .inl (ax 1, 20, .inl (fun j => nI (sup f2 ln 4294967295 j)))), (g6, .inl (ax 2, 20, .inl (fun j => nI (te j)))), (g7, .inl (ax 2, 20, .inl (fun j => nI (kp j)))), (g8, .inl (ax 0, 20, .inl tm)), (g9, .inl (ax 1, 20, .inl (fun j => nI (sup nm ln 4294967295 j)))), (ga, .inl (ax 1, 29, .inl (fun j => nI (ck j)))), (gb, .inl (ax 1, 29, .inl (fun j => nI (co j)))), (r0, .inr (7, [.ref k0, .ref g0, .ref n0, .int (nI 0), .int (nI (u_147 9))])), (k0, .inr (9, [.ref k1, .ref k2, .int (nI ts), .int (nI th), .int (nI (u_147 0)), .int (nI (u_147 1)), .int (nI (u_147 2)), .int (nI (u_147 3))])), (k1, .inl (ax 1, 400, .inl tb)), (k2, .inl (ax 0, 401, .inl (fun j => nI (tk j)))), (n0, .inr (4, [.ref (u_147 4), .ref (u_147 5), .ref (u_147 6), .int (nI (u_147 7))])), ((u_147 4), .inl (ax 1, u_147 8, .inl x_166)), ((u_147 5), .inl (ax 0, u_147 8, .inl x_167)), ((u_147 6), .inl (ax 0, u_147 8, .inl x_168))]) hP hD [0, 17, 18, 19, 1, 2, 3, 4] [5, 6, 7, 8, 9, 10, 11, 12, 13, 14, 15, 16] hCs (by decide) (by decide) hk1 hFc hP1 hD1 rfl
      clear hP1 hD1
      clear hPc hDc hFc hCs hz hz1 hk1 ht hvm
      clear hP hD hS
      have hS := hS1
      obtain ⟨hP, hD⟩ := hjn
      clear hS1
      refine wk_narrow (k := u_147 8 - cp) (n := 6 * (u_147 8 - cp)) (by first | assumption | omega) (by first | assumption | omega) ?_
      clear hk8 hk9 hg8 hg9
      have hfl_173 := ftf_le (u_147 1)
      refine lv_i2s (v := nI (u_147 10)) hx hb d_Reader_statement_143 (nb_i2ss hs_164) ?_
      refine va_sast hx hb hK.1 hP hD hS 6 2 rfl rfl (vp_in_nI (by first | assumption | omega) (by decide)) d_Reader_statement_144 (fun H_174 locs hP1 hD1 hS1 => ?_)
      rw [nI_clamp (by first | exact Nat.lt_of_lt_of_le (by assumption) (by decide) | exact Nat.lt_of_le_of_lt (by assumption) (by decide) | omega)] at hP1 hD1
      rw [xf_supss te ln (u_147 10) hs_164] at hP1 hD1
      clear hP hD hS
      have hS := hS1
      have hW7 : (fun w9 : va_W => va_P D classes w9 H_174 ∧ va_D A w9) [(g0, .inr (2, [.ref n0, .ref g1, .ref g2, .ref g3, .ref g4, .ref g5, .ref g6, .ref g7, .ref g8, .ref g9, .ref ga, .ref gb, .int (nI cl), .int (nI (ln + 1)), .int (nI (u_8 0)), .int (nI (u_8 1)), .int (nI va)])), (g1, .inl (ax 1, 20, .inl (fun j => nI (sup kd ln nx j)))), (g2, .inl (ax 1, 20, .inl (fun j => nI (sup ow ln o9 j)))), (g3, .inl (ax 1, 20, .inl (fun j => nI (sup sb ln 4294967295 j)))), (g4, .inl (ax 1, 20, .inl (fun j => nI (sup f1 ln 4294967295 j)))), (g5, .inl (ax 1, 20, .inl (fun j => nI (sup f2 ln 4294967295 j)))), (g6, .inl (ax 2, 20, .inl (fun j => nI (sup te ln (u_147 10) j)))), (g7, .inl (ax 2, 20, .inl (fun j => nI (kp j)))), (g8, .inl (ax 0, 20, .inl tm)), (g9, .inl (ax 1, 20, .inl (fun j => nI (sup nm ln 4294967295 j)))), (ga, .inl (ax 1, 29, .inl (fun j => nI (ck j)))), (gb, .inl (ax 1, 29, .inl (fun j => nI (co j)))), (r0, .inr (7, [.ref k0, .ref g0, .ref n0, .int (nI 0), .int (nI (u_147 9))])), (k0, .inr (9, [.ref k1, .ref k2, .int (nI ts), .int (nI th), .int (nI (u_147 0)), .int (nI (u_147 1)), .int (nI (u_147 2)), .int (nI (u_147 3))])), (k1, .inl (ax 1, 400, .inl tb)), (k2, .inl (ax 0, 401, .inl (fun j => nI (tk j)))), (n0, .inr (4, [.ref (u_147 4), .ref (u_147 5), .ref (u_147 6), .int (nI (u_147 7))])), ((u_147 4), .inl (ax 1, u_147 8, .inl x_166)), ((u_147 5), .inl (ax 0, u_147 8, .inl x_167)), ((u_147 6), .inl (ax 0, u_147 8, .inl x_168))] := ⟨hP1, hD1⟩
      obtain ⟨hP, hD⟩ := hW7
      clear hP1 hD1 hS1
      have hL_175 : okf (u_147 1) (lst (ln + 1) (u_147 7) (sup kd ln nx) (sup ow ln o9) (sup sb ln 4294967295) (sup f1 ln 4294967295) (sup f2 ln 4294967295) (sup te ln (u_147 10)) kp (sup nm ln 4294967295) (sup en ln 100) (sup (sup kc ln 0) ln ((sup kc ln 0) ln + (u_147 7 - z9))) tm x_166 x_167 x_168) := (fun q => (hL_28 (okf.of hs_155 q)).read (by first | assumption | omega) (hx_172 q) (by first | assumption | omega) sup_eq (Nat.le_refl _) (fun i hi => rfl) (fun i hi => rfl) (fun i hi => sup_ne hi) (fun i hi => rfl) (fun i hi => rfl) (fun i hi => rfl))
      have hC_176 : okf (u_147 1) (clm (u_8 0) cl ck co (ln + 1) (sup kd ln nx) (sup nm ln 4294967295)) := (fun q => hC_29 (okf.of hs_155 q))
      refine lv_goto (tgt := 184) hx hb d_Reader_statement_145 (by decide) ?_
      have hF : okf (u_147 1) ((lst (ln + 1) (u_147 7) (sup kd ln nx) (sup ow ln o9) (sup sb ln 4294967295) (sup f1 ln 4294967295) (sup f2 ln 4294967295) (sup te ln (u_147 10)) kp (sup nm ln 4294967295) (sup (sup en ln 100) ln (ln + 1)) (sup (sup kc ln 0) ln ((sup kc ln 0) ln + (u_147 7 - z9))) tm x_166 x_167 x_168) ∧ (cls ln (ln + 1) (sup (sup en ln 100) ln (ln + 1))) ∧ (sam ln kd ow sb f1 f2 te kp nm en kc (sup kd ln nx) (sup ow ln o9) (sup sb ln 4294967295) (sup f1 ln 4294967295) (sup f2 ln 4294967295) (sup te ln (u_147 10)) kp (sup nm ln 4294967295) (sup (sup en ln 100) ln (ln + 1)) (sup (sup kc ln 0) ln ((sup kc ln 0) ln + (u_147 7 - z9))) tm tm) ∧ (∀ i, i < z9 → tsn x_166 x_167 x_168 i = tsn fo fl fr i)) := by
        intro q
        have qc : u_147 1 = 4294967295 := okf.of (by first | assumption | omega) q
        have hc9 := (Nat.lt_of_succ_le (Nat.le_of_eq (hs_162 qc))); have ht9 := hx_171 qc
        refine ⟨(hL_175 q).close (by first | assumption | omega) sup_eq (fun i h1 h2 => by omega) ⟨fun h => by rw [sup_eq] at h; omega, fun h => by rw [sup_eq] at h; omega, fun h => by rw [sup_eq] at h; omega, fun _ => ⟨by rw [sup_eq]; exact hc9, by rw [sup_eq, sup_eq, sup_eq]; omega⟩⟩, fun i h1 h2 => ?_, fun i hi => by refine ⟨?_, ?_, ?_, ?_, ?_, ?_, ?_, ?_, ?_, ?_, ?_⟩ <;> first | rfl | exact sup_ne (by first | assumption | omega) | (rw [sup_ne (by first | assumption | omega), sup_ne (by first | assumption | omega)]) | exact absurd i (by first | assumption | omega), (hx_172 (okf.of (by first | assumption | omega) q))⟩
        rw [show i = ln by omega, sup_eq]; exact Nat.le_refl _
      refine lv_iload_n hx hb d_Reader_statement_184 rfl (lv_at hl1 1 rfl) ?_
      rw [← hQe]
      refine wk_know (fun hk8 hk9 => ?_)
      refine W.widen (k := MX - cp) (n := 6 * (MX - cp)) (by first | assumption | omega) (by first | assumption | omega) ?_
      obtain ⟨hP9, hD9⟩ := xw_sub2 (wc := (fun (u : Nat → Nat) (xkd : Nat → Nat) (xow : Nat → Nat) (xsb : Nat → Nat) (xf1 : Nat → Nat) (xf2 : Nat → Nat) (xte : Nat → Nat) (xkp : Nat → Nat) (xnm : Nat → Nat) (xck : Nat → Nat) (xco : Nat → Nat) (xtm : Nat → Int32) (xfo : Nat → Int32) (xfl : Nat → Int32) (xfr : Nat → Int32) (xen : Nat → Nat) (xkc : Nat → Nat) => [(r0, .inr (7, [.ref k0, .ref g0, .ref n0, .int (nI (u 11)), .int (nI (u 9))])), (k0, .inr (9, [.ref k1, .ref k2, .int (nI ts), .int (nI th), .int (nI (u 0)), .int (nI (u 1)), .int (nI (u 2)), .int (nI (u 3))])), (k1, .inl (ax 1, 400, .inl tb)), (k2, .inl (ax 0, 401, .inl (fun j => nI (tk j)))), (n0, .inr (4, [.ref (u 4), .ref (u 5), .ref (u 6), .int (nI (u 7))])), (u 4, .inl (ax 1, u 8, .inl xfo)), (u 5, .inl (ax 0, u 8, .inl xfl)), (u 6, .inl (ax 0, u 8, .inl xfr)), (g0, .inr (2, [.ref n0, .ref g1, .ref g2, .ref g3, .ref g4, .ref g5, .ref g6, .ref g7, .ref g8, .ref g9, .ref ga, .ref gb, .int (nI (u 12)), .int (nI (u 13)), .int (nI (u 14)), .int (nI (u 15)), .int (nI (u 16))])), (g1, .inl (ax 1, 20, .inl (fun j => nI (xkd j)))), (g2, .inl (ax 1, 20, .inl (fun j => nI (xow j)))), (g3, .inl (ax 1, 20, .inl (fun j => nI (xsb j)))), (g4, .inl (ax 1, 20, .inl (fun j => nI (xf1 j)))), (g5, .inl (ax 1, 20, .inl (fun j => nI (xf2 j)))), (g6, .inl (ax 2, 20, .inl (fun j => nI (xte j)))), (g7, .inl (ax 2, 20, .inl (fun j => nI (xkp j)))), (g8, .inl (ax 0, 20, .inl xtm)), (g9, .inl (ax 1, 20, .inl (fun j => nI (xnm j)))), (ga, .inl (ax 1, 29, .inl (fun j => nI (xck j)))), (gb, .inl (ax 1, 29, .inl (fun j => nI (xco j))))]) (ixn [(u_147 0), (u_147 1), (u_147 2), (u_147 3), (u_147 4), (u_147 5), (u_147 6), (u_147 7), (u_147 8), (u_147 9), ln, 0, cl, (ln + 1), (u_8 0), (u_8 1), va]) (sup kd ln nx) (sup ow ln o9) (sup sb ln 4294967295) (sup f1 ln 4294967295) (sup f2 ln 4294967295) (sup te ln (u_147 10)) kp (sup nm ln 4294967295) ck co tm x_166 x_167 x_168 (sup (sup en ln 100) ln (ln + 1)) (sup (sup kc ln 0) ln ((sup kc ln 0) ln + (u_147 7 - z9)))) hP hD [12, 13, 14, 15, 16, 17, 18, 19, 0, 1, 2, 3, 4, 5, 6, 7, 8, 9, 10, 11] (by decide) rfl
      have hex0 : okf ((u_147 1)) (lst ((ln + 1)) ((u_147 7)) (sup kd ln nx) (sup ow ln o9) (sup sb ln 4294967295) (sup f1 ln 4294967295) (sup f2 ln 4294967295) (sup te ln (u_147 10)) kp (sup nm ln 4294967295) (sup (sup en ln 100) ln (ln + 1)) (sup (sup kc ln 0) ln ((sup kc ln 0) ln + (u_147 7 - z9))) tm x_166 x_167 x_168) := (fun q => (hF q).1)
      have hex1 : okf ((u_147 1)) (cls ln ((ln + 1)) (sup (sup en ln 100) ln (ln + 1))) := (fun q => (hF q).2.1)
      have hex2 : okf ((u_147 1)) (sam ln kd ow sb f1 f2 te kp nm en kc (sup kd ln nx) (sup ow ln o9) (sup sb ln 4294967295) (sup f1 ln 4294967295) (sup f2 ln 4294967295) (sup te ln (u_147 10)) kp (sup nm ln 4294967295) (sup (sup en ln 100) ln (ln + 1)) (sup (sup kc ln 0) ln ((sup kc ln 0) ln + (u_147 7 - z9))) tm tm) := (fun q => (hF q).2.2.1)
      have hex3 : okf ((u_147 1)) (ln = ln ∧ ln < (ln + 1)) := (fun q => ⟨rfl, by omega⟩)
      have hex4 : okf ((u_147 1)) (clm ((u_8 0)) (cl) ck co ((ln + 1)) (sup kd ln nx) (sup nm ln 4294967295)) := hC_176
      have hex5 : okf ((u_147 1)) (ndv x_166 x_167 x_168 ((u_147 7))) := hx_169
      have hex6 : bts x_166 ((u_147 8)) := (by assumption)
      have hex7 : okf ((u_147 1)) (∀ i, i < z9 → tsn x_166 x_167 x_168 i = tsn fo fl fr i) := (fun q => (hF q).2.2.2)
      have hg8 : H_174.size ≤ s.heap.size + ((u_147 8) - cp) := by omega
      have hg9 : tsl H_174 ≤ tsl s.heap + (6 * ((u_147 8) - cp)) := by omega
      have hsp0 : rst tk ((u_147 1)) ((u_147 2)) ((u_147 3)) ((u_147 0)) cn := (by assumption)
      have hsp1 : (u_147 0) ≤ cn := (by first | assumption | omega)
      have hsp2 : (u_147 2) < 128 := (by first | assumption | omega)
      have hsp3 : (u_147 3) < 1024 := (by first | assumption | omega)
      have hsp4 : ta ≤ (u_147 0) := (by first | assumption | omega)
      have hsp5 : ftf tf ≤ ftf ((u_147 1)) := (by first | assumption | omega)
      have hsp6 : z9 ≤ (u_147 7) := (by first | assumption | omega)
      have hsp7 : (u_147 7) + ta ≤ z9 + (u_147 0) + 2 * ((ln + 1) - ln) := (by first | assumption | omega)
      have hsp8 : (u_147 7) ≤ (u_147 8) := (by first | assumption | omega)
      have hsp9 : cp ≤ (u_147 8) := (by first | assumption | omega)
      have hsp10 : (u_147 8) ≤ MX := (by first | assumption | omega)
      have hsp11 : 0 ≤ 1 := (by first | assumption | omega)
      have hsp12 : cl ≤ 1 + 2 * (u_8 1) + (ln + 1) := (by first | assumption | omega)
      have hsp13 : ln ≤ (ln + 1) := (by first | assumption | omega)
      have hsp14 : (ln + 1) ≤ 20 := (by first | assumption | omega)
      have hsp15 : br ≤ (u_8 0) := (by first | assumption | omega)
      have hsp16 : (u_8 0) ≤ 4 := (by first | assumption | omega)
      have hsp17 : lp ≤ (u_8 1) := (by first | assumption | omega)
      have hsp18 : (u_8 1) ≤ 4 := (by first | assumption | omega)
      have hsp19 : va ≤ (u_8 1) := (by first | assumption | omega)
      have hsp20 : psS tk tf ta sg ln br lp cl ((u_147 1)) ((u_147 0)) ((ln + 1)) ((u_8 0)) ((u_8 1)) (cl) := (st_one hrs hok hN5 (by first | assumption | omega) (so_asr hrs hok (by first | assumption | omega) (hs_25 hok) hs_26 hs_165) (by first | assumption | omega) (by first | assumption | omega) (by first | assumption | omega) (by have h9 : wcl nx = 0 := if_neg (by first | assumption | omega); omega))
      have hsp21 : smn (ln) := hsml
      exact W.iret (v := nI ln) hx hb hr (fun t ht hW => ⟨⟨nI ln, ixn [(u_147 0), (u_147 1), (u_147 2), (u_147 3), (u_147 4), (u_147 5), (u_147 6), (u_147 7), (u_147 8), (u_147 9), ln, 0, cl, (ln + 1), (u_8 0), (u_8 1), va], rfl, ⟨rfl, ⟨hsp0, hsp1, hsp2, hsp3, hsp4, hsp5, hsp6, hsp7, hsp8, hsp9, hsp10, hsp11, hsp12, hsp13, hsp14, hsp15, hsp16, hsp17, hsp18, hsp19, hsp20, hsp21⟩⟩, ⟨sup kd ln nx, sup ow ln o9, sup sb ln 4294967295, sup f1 ln 4294967295, sup f2 ln 4294967295, sup te ln (u_147 10), kp, sup nm ln 4294967295, ck, co, tm, x_166, x_167, x_168, sup (sup en ln 100) ln (ln + 1), sup (sup kc ln 0) ln ((sup kc ln 0) ln + (u_147 7 - z9)), by rw [ht]; exact hg8, by rw [ht]; exact hg9, hex0, hex1, hex2, hex3, hex4, hex5, hex6, hex7, by rw [ht]; exact hP9, hD9⟩⟩, hS.F ht⟩) hS.2.2 d_Reader_statement_185
    by_cases hw_177 : nx = 123
    · refine W.eq (g2 := F0 m 55 ls [.int 123]) (by rw [hw_177]; rfl) ?_
      refine lv_lookup (off := 93) (tgt := 148) hx hb d_Reader_statement_55 (by decide) (by decide) (by decide) ?_
      have hj8 : ifq nx 8 = 0 := ifq_n (by first | assumption | omega)
      have hj12 : ifq nx 12 = 0 := ifq_n (by first | assumption | omega)
      refine lv_aload_n hx hb d_Reader_statement_148 rfl (lv_at hl1 3 rfl) ?_
      refine va_get (D := D) (ci := 7) (v := .ref g0) (C := R_Reader) (T := F_Reader) (N := 5) hx hb hts i_Reader hown hK.1 hP 0 rfl rfl 1 (by decide) (hts _ wd_76) (fun _ h9 => h9) rfl d_Reader_statement_149 ?_
      refine lv_iconst (v := 4) hx hb d_Reader_statement_152 (by decide) ?_
      refine lv_iload_n hx hb d_Reader_statement_153 rfl (lv_at hl1 1 rfl) ?_
      obtain ⟨hPc, hDc, hFc, hCs⟩ := xw_sub3 (wc := [(g0, .inr (2, [.ref n0, .ref g1, .ref g2, .ref g3, .ref g4, .ref g5, .ref g6, .ref g7, .ref g8, .ref g9, .ref ga, .ref gb, .int (nI cl), .int (nI (ln + 1)), .int (nI (u_8 0)), .int (nI (u_8 1)), .int (nI va)])), (g1, .inl (ax 1, 20, .inl (fun j => nI ((sup kd ln nx) j)))), (g2, .inl (ax 1, 20, .inl (fun j => nI ((sup ow ln o9) j)))), (g3, .inl (ax 1, 20, .inl (fun j => nI ((sup sb ln 4294967295) j)))), (g4, .inl (ax 1, 20, .inl (fun j => nI ((sup f1 ln 4294967295) j)))), (g5, .inl (ax 1, 20, .inl (fun j => nI ((sup f2 ln 4294967295) j)))), (g6, .inl (ax 2, 20, .inl (fun j => nI (te j)))), (g7, .inl (ax 2, 20, .inl (fun j => nI (kp j)))), (g8, .inl (ax 0, 20, .inl tm)), (g9, .inl (ax 1, 20, .inl (fun j => nI ((sup nm ln 4294967295) j)))), (ga, .inl (ax 1, 29, .inl (fun j => nI (ck j)))), (gb, .inl (ax 1, 29, .inl (fun j => nI (co j))))]) hP hD hS hA [5, 6, 7, 8, 9, 10, 11, 12, 13, 14, 15, 16] (by decide) rfl
      have hz := xz_of hN hS
      refine va_callv (va_runV (As := [.int 4, .int (nI ln)]) (rest := []) ⟨hx, hb, hml, hown, hts⟩ (c_L_addClaim l D ax g0 g1 g2 g3 g4 g5 g6 g7 g8 g9 ga gb cl (ln + 1) (u_8 0) (u_8 1) va (sup kd ln nx) (sup ow ln o9) (sup sb ln 4294967295) (sup f1 ln 4294967295) (sup f2 ln 4294967295) te kp (sup nm ln 4294967295) ck co tm n0 4 ln H_16.size (by first | assumption | omega) hsml (by first | assumption | omega)) (xcV (n := 2) hts wd_613 wd_12 wd_642 wd_611 wd_612 rfl rfl (by decide +kernel) ⟨(show (10) + 1 ≤ (200 + 20 * kf) by omega), (show 8 + (3 + 11) + (400) ≤ (8000 + 800 * kf) by omega)⟩) (xpV (ci := 2) (q0 := 0) (As := [.int 4, .int (nI ln)]) hPc hK hz hDc rfl rfl) rfl rfl hl1.1 rfl (lv_room (Nat.le_of_ble_eq_true rfl)) d_Reader_statement_154 ⟨(show (0) + (0) ≤ (MX - cp) by omega), (show (0) + (0) ≤ (6 * (MX - cp)) by omega)⟩) hS (fun q _ h => hFc q h) hFc (fun u_178 t H_179 locs ht hvm hw hB hz1 hk1 hS1 => ?_)
      try dsimp only at hw
      obtain ⟨hs_181, hs_182⟩ := hw
      obtain ⟨x_183, x_184, hx_185, hP1, hD1⟩ := hB
      rw [ht] at hP1
      have hjn := xw_join3 (wl := [(r0, .inr (7, [.ref k0, .ref g0, .ref n0, .int (nI gh), .int (nI at9)])), (n0, .inr (4, [.ref n1, .ref n2, .ref n3, .int (nI z9)])), (n1, .inl (ax 1, cp, .inl fo)), (n2, .inl (ax 0, cp, .inl fl)), (n3, .inl (ax 0, cp, .inl fr)), (k0, .inr (9, [.ref k1, .ref k2, .int (nI ts), .int (nI th), .int (nI (u_15 0)), .int (nI (u_15 1)), .int (nI (u_15 2)), .int (nI (u_15 3))])), (k1, .inl (ax 1, 400, .inl tb)), (k2, .inl (ax 0, 401, .inl (fun j => nI (tk j)))), (g0, .inr (2, [.ref n0, .ref g1, .ref g2, .ref g3, .ref g4, .ref g5, .ref g6, .ref g7, .ref g8, .ref g9, .ref ga, .ref gb, .int (nI (u_178 0)), .int (nI (ln + 1)), .int (nI (u_8 0)), .int (nI (u_8 1)), .int (nI va)])), (g1, .inl (ax 1, 20, .inl (fun j => nI ((sup kd ln nx) j)))), (g2, .inl (ax 1, 20, .inl (fun j => nI ((sup ow ln o9) j)))), (g3, .inl (ax 1, 20, .inl (fun j => nI ((sup sb ln 4294967295) j)))), (g4, .inl (ax 1, 20, .inl (fun j => nI ((sup f1 ln 4294967295) j)))), (g5, .inl (ax 1, 20, .inl (fun j => nI ((sup f2 ln 4294967295) j)))), (g6, .inl (ax 2, 20, .inl (fun j => nI (te j)))), (g7, .inl (ax 2, 20, .inl (fun j => nI (kp j)))), (g8, .inl (ax 0, 20, .inl tm)), (g9, .inl (ax 1, 20, .inl (fun j => nI ((sup nm ln 4294967295) j)))), (ga, .inl (ax 1, 29, .inl (fun j => nI (x_183 j)))), (gb, .inl (ax 1, 29, .inl (fun j => nI (x_184 j))))]) hP hD [5, 6, 7, 8, 9, 10, 11, 12, 13, 14, 15, 16] [0, 1, 2, 3, 4, 17, 18, 19] hCs (by decide) (by decide) hk1 hFc hP1 hD1 rfl
      clear hP1 hD1
      clear hPc hDc hFc hCs hz hz1 hk1 ht hvm
      clear hP hD hS
      have hS := hS1
      obtain ⟨hP, hD⟩ := hjn
      clear hS1
      have hC_186 : okf (u_15 1) (clm (u_8 0) (u_178 0) x_183 x_184 (ln + 1) (sup kd ln nx) (sup nm ln 4294967295)) := (fun q => (hC_29 q).one hx_185 (by first | assumption | omega) (Or.inl ⟨rfl, by rw [sup_eq]; omega⟩))
      clear hx_185
      refine lv_aload_n hx hb d_Reader_statement_157 rfl (lv_at hl1 3 rfl) ?_
      refine va_get (D := D) (ci := 7) (v := .ref g0) (C := R_Reader) (T := F_Reader) (N := 5) hx hb hts i_Reader hown hK.1 hP 0 rfl rfl 1 (by decide) (hts _ wd_76) (fun _ h9 => h9) rfl d_Reader_statement_158 ?_
      refine va_get (D := D) (ci := 2) (v := .ref g6) (C := R_Listing) (T := F_Listing) (N := 17) hx hb hts i_Listing hown hK.1 hP 8 rfl rfl 6 (by decide) (hts _ wd_288) (fun _ h9 => h9) rfl d_Reader_statement_161 ?_
      refine lv_iload_n hx hb d_Reader_statement_164 rfl (lv_at hl1 1 rfl) ?_
      refine lv_aload_n hx hb d_Reader_statement_165 rfl (lv_at hl1 3 rfl) ?_
      refine lv_iconst (v := 1) hx hb d_Reader_statement_166 (by decide) ?_
      obtain ⟨hPc, hDc, hFc, hCs⟩ := xw_sub3 (wc := [(r0, .inr (7, [.ref k0, (.ref g0), .ref n0, .int (nI gh), .int (nI at9)])), (k0, .inr (9, [.ref k1, .ref k2, .int (nI ts), .int (nI th), .int (nI (u_15 0)), .int (nI (u_15 1)), .int (nI (u_15 2)), .int (nI (u_15 3))])), (k1, .inl (ax 1, 400, .inl tb)), (k2, .inl (ax 0, 401, .inl (fun j => nI (tk j)))), (n0, .inr (4, [.ref n1, .ref n2, .ref n3, .int (nI z9)])), (n1, .inl (ax 1, cp, .inl fo)), (n2, .inl (ax 0, cp, .inl fl)), (n3, .inl (ax 0, cp, .inl fr))]) hP hD hS hA [0, 5, 6, 7, 1, 2, 3, 4] (by decide) rfl
      have hz := xz_of hN hS
      refine wk_know (fun hk8 hk9 => ?_)
      refine va_calli (va_runV (As := [.int 1]) (rest := [.int (nI ln), .ref g6]) ⟨hx, hb, hml, hown, hts⟩ (c_R_condition l D ax r0 k0 k1 k2 (.ref g0) tb tk (u_15 0) (u_15 1) (u_15 2) (u_15 3) cn ts th gh at9 1 n0 n1 n2 n3 cp z9 fo fl fr MX H_179.size (tsl H_179) hkz (by assumption) (by first | assumption | omega) (by first | assumption | omega) (by first | assumption | omega) (by first | assumption | omega) (by first | assumption | omega) (by first | assumption | omega) (by first | assumption | omega) (by first | assumption | omega) (by first | assumption | omega) (by assumption) (by assumption)) (xcV (n := 1) hts wd_539 wd_3 wd_536 wd_538 ps_7 rfl rfl (by decide +kernel) ⟨(show (160) + 1 ≤ (200 + 20 * kf) by omega), (show 8 + (2 + 11) + (6400) ≤ (8000 + 800 * kf) by omega)⟩) (xpV3 (ci := 7) (q0 := 0) (As := [.int 1]) hPc hK hz hDc rfl rfl) rfl rfl hl1.1 rfl (lv_room (Nat.le_of_ble_eq_true rfl)) d_Reader_statement_167 ⟨(show (0) + (MX - cp) ≤ (MX - cp) by omega), (show (0) + (6 * (MX - cp)) ≤ (6 * (MX - cp)) by omega)⟩) hS (fun q _ h => hFc q h) hFc (fun r_189 u_187 t H_188 locs ht hvm hw hB hz1 hk1 hS1 => ?_)
      try dsimp only at hw
      obtain ⟨hw, hs_190, hs_191, hs_192, hs_193, hs_194, hs_195, hs_196, hs_197, hs_198, hs_199, hs_200, hs_201, hs_202, hs_203, hs_204, hs_205⟩ := hw
      subst hw
      obtain ⟨x_206, x_207, x_208, hg8, hg9, hx_209, hx_210, hx_211, hx_212, hP1, hD1⟩ := hB
      rw [ht] at hg8 hg9 hP1
      have hjn := xw_join3 (wl := [(g0, .inr (2, [.ref n0, .ref g1, .ref g2, .ref g3, .ref g4, .ref g5, .ref g6, .ref g7, .ref g8, .ref g9, .ref ga, .ref gb, .int (nI (u_178 0)), .int (nI (ln + 1)), .int (nI (u_8 0)), .int (nI (u_8 1)), .int (nI va)])), (g1, .inl (ax 1, 20, .inl (fun j => nI ((sup kd ln nx) j)))), (g2, .inl (ax 1, 20, .inl (fun j => nI ((sup ow ln o9) j)))), (g3, .inl (ax 1, 20, .inl (fun j => nI ((sup sb ln 4294967295) j)))), (g4, .inl (ax 1, 20, .inl (fun j => nI ((sup f1 ln 4294967295) j)))), (g5, .inl (ax 1, 20, .inl (fun j => nI ((sup f2 ln 4294967295) j)))), (g6, .inl (ax 2, 20, .inl (fun j => nI (te j)))), (g7, .inl (ax 2, 20, .inl (fun j => nI (kp j)))), (g8, .inl (ax 0, 20, .inl tm)), (g9, .inl (ax 1, 20, .inl (fun j => nI ((sup nm ln 4294967295) j)))), (ga, .inl (ax 1, 29, .inl (fun j => nI (x_183 j)))), (gb, .inl (ax 1, 29, .inl (fun j => nI (x_184 j)))), (r0, .inr (7, [.ref k0, .ref g0, .ref n0, .int (nI 1), .int (nI (u_187 9))])), (k0, .inr (9, [.ref k1, .ref k2, .int (nI ts), .int (nI th), .int (nI (u_187 0)), .int (nI (u_187 1)), .int (nI (u_187 2)), .int (nI (u_187 3))])), (k1, .inl (ax 1, 400, .inl tb)), (k2, .inl (ax 0, 401, .inl (fun j => nI (tk j)))), (n0, .inr (4, [.ref (u_187 4), .ref (u_187 5), .ref (u_187 6), .int (nI (u_187 7))])), ((u_187 4), .inl (ax 1, u_187 8, .inl x_206)), ((u_187 5), .inl (ax 0, u_187 8, .inl x_207)), ((u_187 6), .inl (ax 0, u_187 8, .inl x_208))]) hP hD [0, 5, 6, 7, 1, 2, 3, 4] [8, 9, 10, 11, 12, 13, 14, 15, 16, 17, 18, 19] hCs (by decide) (by decide) hk1 hFc hP1 hD1 rfl
      clear hP1 hD1
      clear hPc hDc hFc hCs hz hz1 hk1 ht hvm
      clear hP hD hS
      have hS := hS1
      obtain ⟨hP, hD⟩ := hjn
      clear hS1
      refine wk_narrow (k := u_187 8 - cp) (n := 6 * (u_187 8 - cp)) (by first | assumption | omega) (by first | assumption | omega) ?_
      clear hk8 hk9 hg8 hg9
      have hfl_213 := ftf_le (u_187 1)
      refine lv_i2s (v := nI (u_187 10)) hx hb d_Reader_statement_170 (nb_i2ss hs_204) ?_
      refine va_sast hx hb hK.1 hP hD hS 6 2 rfl rfl (vp_in_nI (by first | assumption | omega) (by decide)) d_Reader_statement_171 (fun H_214 locs hP1 hD1 hS1 => ?_)
      rw [nI_clamp (by first | exact Nat.lt_of_lt_of_le (by assumption) (by decide) | exact Nat.lt_of_le_of_lt (by assumption) (by decide) | omega)] at hP1 hD1
      rw [xf_supss te ln (u_187 10) hs_204] at hP1 hD1
      clear hP hD hS
      have hS := hS1
      have hW7 : (fun w9 : va_W => va_P D classes w9 H_214 ∧ va_D A w9) [(g0, .inr (2, [.ref n0, .ref g1, .ref g2, .ref g3, .ref g4, .ref g5, .ref g6, .ref g7, .ref g8, .ref g9, .ref ga, .ref gb, .int (nI (u_178 0)), .int (nI (ln + 1)), .int (nI (u_8 0)), .int (nI (u_8 1)), .int (nI va)])), (g1, .inl (ax 1, 20, .inl (fun j => nI ((sup kd ln nx) j)))), (g2, .inl (ax 1, 20, .inl (fun j => nI ((sup ow ln o9) j)))), (g3, .inl (ax 1, 20, .inl (fun j => nI ((sup sb ln 4294967295) j)))), (g4, .inl (ax 1, 20, .inl (fun j => nI ((sup f1 ln 4294967295) j)))), (g5, .inl (ax 1, 20, .inl (fun j => nI ((sup f2 ln 4294967295) j)))), (g6, .inl (ax 2, 20, .inl (fun j => nI (sup te ln (u_187 10) j)))), (g7, .inl (ax 2, 20, .inl (fun j => nI (kp j)))), (g8, .inl (ax 0, 20, .inl tm)), (g9, .inl (ax 1, 20, .inl (fun j => nI ((sup nm ln 4294967295) j)))), (ga, .inl (ax 1, 29, .inl (fun j => nI (x_183 j)))), (gb, .inl (ax 1, 29, .inl (fun j => nI (x_184 j)))), (r0, .inr (7, [.ref k0, .ref g0, .ref n0, .int (nI 1), .int (nI (u_187 9))])), (k0, .inr (9, [.ref k1, .ref k2, .int (nI ts), .int (nI th), .int (nI (u_187 0)), .int (nI (u_187 1)), .int (nI (u_187 2)), .int (nI (u_187 3))])), (k1, .inl (ax 1, 400, .inl tb)), (k2, .inl (ax 0, 401, .inl (fun j => nI (tk j)))), (n0, .inr (4, [.ref (u_187 4), .ref (u_187 5), .ref (u_187 6), .int (nI (u_187 7))])), ((u_187 4), .inl (ax 1, u_187 8, .inl x_206)), ((u_187 5), .inl (ax 0, u_187 8, .inl x_207)), ((u_187 6), .inl (ax 0, u_187 8, .inl x_208))] := ⟨hP1, hD1⟩
      obtain ⟨hP, hD⟩ := hW7
      clear hP1 hD1 hS1
      have hL_215 : okf (u_187 1) (lst (ln + 1) (u_187 7) (sup kd ln nx) (sup ow ln o9) (sup sb ln 4294967295) (sup f1 ln 4294967295) (sup f2 ln 4294967295) (sup te ln (u_187 10)) kp (sup nm ln 4294967295) (sup en ln 100) (sup (sup kc ln 0) ln ((sup kc ln 0) ln + (u_187 7 - z9))) tm x_206 x_207 x_208) := (fun q => (hL_28 (okf.of hs_195 q)).read (by first | assumption | omega) (hx_212 q) (by first | assumption | omega) sup_eq (Nat.le_refl _) (fun i hi => rfl) (fun i hi => rfl) (fun i hi => sup_ne hi) (fun i hi => rfl) (fun i hi => rfl) (fun i hi => rfl))
      have hC_216 : okf (u_187 1) (clm (u_8 0) (u_178 0) x_183 x_184 (ln + 1) (sup kd ln nx) (sup nm ln 4294967295)) := (fun q => hC_186 (okf.of hs_195 q))
      refine lv_aload_n hx hb d_Reader_statement_172 rfl (lv_at hl1 3 rfl) ?_
      refine va_get (D := D) (ci := 7) (v := .ref k0) (C := R_Reader) (T := F_Reader) (N := 5) hx hb hts i_Reader hown hK.1 hP 12 rfl rfl 0 (by decide) (hts _ wd_75) (fun _ h9 => h9) rfl d_Reader_statement_173 ?_
      refine lv_bipush (v := 125) hx hb d_Reader_statement_176 (by decide) ?_
      obtain ⟨hPc, hDc, hFc, hCs⟩ := xw_sub3 (wc := [(k0, .inr (9, [.ref k1, .ref k2, .int (nI ts), .int (nI th), .int (nI (u_187 0)), .int (nI (u_187 1)), .int (nI (u_187 2)), .int (nI (u_187 3))])), (k1, .inl (ax 1, 400, .inl tb)), (k2, .inl (ax 0, 401, .inl (fun j => nI (tk j))))]) hP hD hS hA [13, 14, 15] (by decide) rfl
      have hz := xz_of hN hS
      refine va_callv (va_runV (As := [.int 125]) (rest := []) ⟨hx, hb, hml, hown, hts⟩ (c_K_need l D ax k0 k1 k2 tb tk (u_187 0) (u_187 1) (u_187 2) (u_187 3) cn ts th 125 H_214.size hkz (by assumption) (by first | assumption | omega) (by first | assumption | omega) (by first | assumption | omega) (by first | assumption | omega) (by first | assumption | omega)) (xcV (n := 1) hts wd_571 wd_2 wd_568 wd_569 wd_570 rfl rfl (by decide +kernel) ⟨(show (20) + 1 ≤ (200 + 20 * kf) by omega), (show 8 + (2 + 11) + (800) ≤ (8000 + 800 * kf) by omega)⟩) (xpV (ci := 9) (q0 := 0) (As := [.int 125]) hPc hK hz hDc rfl rfl) rfl rfl hl1.1 rfl (lv_room (Nat.le_of_ble_eq_true rfl)) d_Reader_statement_178 ⟨(show (u_187 8 - cp) + (0) ≤ (MX - cp) by omega), (show (6 * (u_187 8 - cp)) + (0) ≤ (6 * (MX - cp)) by omega)⟩) hS (fun q _ h => hFc q h) hFc (fun u_217 t H_218 locs ht hvm hw hB hz1 hk1 hS1 => ?_)
      try dsimp only at hw
      obtain ⟨hs_220, hs_221, hs_222, hs_223, hs_224, hs_225, hs_226, hs_227⟩ := hw
      obtain ⟨hP1, hD1⟩ := hB
      rw [ht] at hP1
      have hjn := xw_join3 (wl := [(g0, .inr (2, [.ref n0, .ref g1, .ref g2, .ref g3, .ref g4, .ref g5, .ref g6, .ref g7, .ref g8, .ref g9, .ref ga, .ref gb, .int (nI (u_178 0)), .int (nI (ln + 1)), .int (nI (u_8 0)), .int (nI (u_8 1)), .int (nI va)])), (g1, .inl (ax 1, 20, .inl (fun j => nI ((sup kd ln nx) j)))), (g2, .inl (ax 1, 20, .inl (fun j => nI ((sup ow ln o9) j)))), (g3, .inl (ax 1, 20, .inl (fun j => nI ((sup sb ln 4294967295) j)))), (g4, .inl (ax 1, 20, .inl (fun j => nI ((sup f1 ln 4294967295) j)))), (g5, .inl (ax 1, 20, .inl (fun j => nI ((sup f2 ln 4294967295) j)))), (g6, .inl (ax 2, 20, .inl (fun j => nI (sup te ln (u_187 10) j)))), (g7, .inl (ax 2, 20, .inl (fun j => nI (kp j)))), (g8, .inl (ax 0, 20, .inl tm)), (g9, .inl (ax 1, 20, .inl (fun j => nI ((sup nm ln 4294967295) j)))), (ga, .inl (ax 1, 29, .inl (fun j => nI (x_183 j)))), (gb, .inl (ax 1, 29, .inl (fun j => nI (x_184 j)))), (r0, .inr (7, [.ref k0, .ref g0, .ref n0, .int (nI 1), .int (nI (u_187 9))])), (n0, .inr (4, [.ref (u_187 4), .ref (u_187 5), .ref (u_187 6), .int (nI (u_187 7))])), ((u_187 4), .inl (ax 1, u_187 8, .inl x_206)), ((u_187 5), .inl (ax 0, u_187 8, .inl x_207)), ((u_187 6), .inl (ax 0, u_187 8, .inl x_208)), (k0, .inr (9, [.ref k1, .ref k2, .int (nI ts), .int (nI th), .int (nI (u_217 0)), .int (nI (u_217 1)), .int (nI (u_217 2)), .int (nI (u_217 3))])), (k1, .inl (ax 1, 400, .inl tb)), (k2, .inl (ax 0, 401, .inl (fun j => nI (tk j))))]) hP hD [13, 14, 15] [0, 1, 2, 3, 4, 5, 6, 7, 8, 9, 10, 11, 12, 16, 17, 18, 19] hCs (by decide) (by decide) hk1 hFc hP1 hD1 rfl
      clear hP1 hD1
      clear hPc hDc hFc hCs hz hz1 hk1 ht hvm
      clear hP hD hS
      have hS := hS1
      obtain ⟨hP, hD⟩ := hjn
      clear hS1
      have hL_228 : okf (u_217 1) (lst (ln + 1) (u_187 7) (sup kd ln nx) (sup ow ln o9) (sup sb ln 4294967295) (sup f1 ln 4294967295) (sup f2 ln 4294967295) (sup te ln (u_187 10)) kp (sup nm ln 4294967295) (sup en ln 100) (sup (sup kc ln 0) ln ((sup kc ln 0) ln + (u_187 7 - z9))) tm x_206 x_207 x_208) := hL_215.back hs_225
      have hC_229 : okf (u_217 1) (clm (u_8 0) (u_178 0) x_183 x_184 (ln + 1) (sup kd ln nx) (sup nm ln 4294967295)) := hC_216.back hs_225
      have hN_230 : okf (u_217 1) (ndv x_206 x_207 x_208 (u_187 7)) := hx_209.back hs_225
      refine lv_goto (tgt := 184) hx hb d_Reader_statement_181 (by decide) ?_
      have hF : okf (u_217 1) ((lst (ln + 1) (u_187 7) (sup kd ln nx) (sup ow ln o9) (sup sb ln 4294967295) (sup f1 ln 4294967295) (sup f2 ln 4294967295) (sup te ln (u_187 10)) kp (sup nm ln 4294967295) (sup (sup en ln 100) ln (ln + 1)) (sup (sup kc ln 0) ln ((sup kc ln 0) ln + (u_187 7 - z9))) tm x_206 x_207 x_208) ∧ (cls ln (ln + 1) (sup (sup en ln 100) ln (ln + 1))) ∧ (sam ln kd ow sb f1 f2 te kp nm en kc (sup kd ln nx) (sup ow ln o9) (sup sb ln 4294967295) (sup f1 ln 4294967295) (sup f2 ln 4294967295) (sup te ln (u_187 10)) kp (sup nm ln 4294967295) (sup (sup en ln 100) ln (ln + 1)) (sup (sup kc ln 0) ln ((sup kc ln 0) ln + (u_187 7 - z9))) tm tm) ∧ (∀ i, i < z9 → tsn x_206 x_207 x_208 i = tsn fo fl fr i)) := by
        intro q
        have qc : u_187 1 = 4294967295 := okf.of (by first | assumption | omega) q
        have hc9 := (Nat.lt_of_succ_le (Nat.le_of_eq (hs_202 qc))); have ht9 := hx_211 qc
        refine ⟨(hL_228 q).close (by first | assumption | omega) sup_eq (fun i h1 h2 => by omega) ⟨fun h => by rw [sup_eq] at h; omega, fun h => by rw [sup_eq] at h; omega, fun h => by rw [sup_eq] at h; omega, fun _ => ⟨by rw [sup_eq]; exact hc9, by rw [sup_eq, sup_eq, sup_eq]; omega⟩⟩, fun i h1 h2 => ?_, fun i hi => by refine ⟨?_, ?_, ?_, ?_, ?_, ?_, ?_, ?_, ?_, ?_, ?_⟩ <;> first | rfl | exact sup_ne (by first | assumption | omega) | (rw [sup_ne (by first | assumption | omega), sup_ne (by first | assumption | omega)]) | exact absurd i (by first | assumption | omega), (hx_212 (okf.of (by first | assumption | omega) q))⟩
        rw [show i = ln by omega, sup_eq]; exact Nat.le_refl _
      refine lv_iload_n hx hb d_Reader_statement_184 rfl (lv_at hl1 1 rfl) ?_
      rw [← hQe]
      refine wk_know (fun hk8 hk9 => ?_)
      refine W.widen (k := MX - cp) (n := 6 * (MX - cp)) (by first | assumption | omega) (by first | assumption | omega) ?_
      obtain ⟨hP9, hD9⟩ := xw_sub2 (wc := (fun (u : Nat → Nat) (xkd : Nat → Nat) (xow : Nat → Nat) (xsb : Nat → Nat) (xf1 : Nat → Nat) (xf2 : Nat → Nat) (xte : Nat → Nat) (xkp : Nat → Nat) (xnm : Nat → Nat) (xck : Nat → Nat) (xco : Nat → Nat) (xtm : Nat → Int32) (xfo : Nat → Int32) (xfl : Nat → Int32) (xfr : Nat → Int32) (xen : Nat → Nat) (xkc : Nat → Nat) => [(r0, .inr (7, [.ref k0, .ref g0, .ref n0, .int (nI (u 11)), .int (nI (u 9))])), (k0, .inr (9, [.ref k1, .ref k2, .int (nI ts), .int (nI th), .int (nI (u 0)), .int (nI (u 1)), .int (nI (u 2)), .int (nI (u 3))])), (k1, .inl (ax 1, 400, .inl tb)), (k2, .inl (ax 0, 401, .inl (fun j => nI (tk j)))), (n0, .inr (4, [.ref (u 4), .ref (u 5), .ref (u 6), .int (nI (u 7))])), (u 4, .inl (ax 1, u 8, .inl xfo)), (u 5, .inl (ax 0, u 8, .inl xfl)), (u 6, .inl (ax 0, u 8, .inl xfr)), (g0, .inr (2, [.ref n0, .ref g1, .ref g2, .ref g3, .ref g4, .ref g5, .ref g6, .ref g7, .ref g8, .ref g9, .ref ga, .ref gb, .int (nI (u 12)), .int (nI (u 13)), .int (nI (u 14)), .int (nI (u 15)), .int (nI (u 16))])), (g1, .inl (ax 1, 20, .inl (fun j => nI (xkd j)))), (g2, .inl (ax 1, 20, .inl (fun j => nI (xow j)))), (g3, .inl (ax 1, 20, .inl (fun j => nI (xsb j)))), (g4, .inl (ax 1, 20, .inl (fun j => nI (xf1 j)))), (g5, .inl (ax 1, 20, .inl (fun j => nI (xf2 j)))), (g6, .inl (ax 2, 20, .inl (fun j => nI (xte j)))), (g7, .inl (ax 2, 20, .inl (fun j => nI (xkp j)))), (g8, .inl (ax 0, 20, .inl xtm)), (g9, .inl (ax 1, 20, .inl (fun j => nI (xnm j)))), (ga, .inl (ax 1, 29, .inl (fun j => nI (xck j)))), (gb, .inl (ax 1, 29, .inl (fun j => nI (xco j))))]) (ixn [(u_217 0), (u_217 1), (u_217 2), (u_217 3), (u_187 4), (u_187 5), (u_187 6), (u_187 7), (u_187 8), (u_187 9), ln, 1, (u_178 0), (ln + 1), (u_8 0), (u_8 1), va]) (sup kd ln nx) (sup ow ln o9) (sup sb ln 4294967295) (sup f1 ln 4294967295) (sup f2 ln 4294967295) (sup te ln (u_187 10)) kp (sup nm ln 4294967295) x_183 x_184 tm x_206 x_207 x_208 (sup (sup en ln 100) ln (ln + 1)) (sup (sup kc ln 0) ln ((sup kc ln 0) ln + (u_187 7 - z9)))) hP hD [12, 17, 18, 19, 13, 14, 15, 16, 0, 1, 2, 3, 4, 5, 6, 7, 8, 9, 10, 11] (by decide) rfl
      have hex0 : okf ((u_217 1)) (lst ((ln + 1)) ((u_187 7)) (sup kd ln nx) (sup ow ln o9) (sup sb ln 4294967295) (sup f1 ln 4294967295) (sup f2 ln 4294967295) (sup te ln (u_187 10)) kp (sup nm ln 4294967295) (sup (sup en ln 100) ln (ln + 1)) (sup (sup kc ln 0) ln ((sup kc ln 0) ln + (u_187 7 - z9))) tm x_206 x_207 x_208) := (fun q => (hF q).1)
      have hex1 : okf ((u_217 1)) (cls ln ((ln + 1)) (sup (sup en ln 100) ln (ln + 1))) := (fun q => (hF q).2.1)
      have hex2 : okf ((u_217 1)) (sam ln kd ow sb f1 f2 te kp nm en kc (sup kd ln nx) (sup ow ln o9) (sup sb ln 4294967295) (sup f1 ln 4294967295) (sup f2 ln 4294967295) (sup te ln (u_187 10)) kp (sup nm ln 4294967295) (sup (sup en ln 100) ln (ln + 1)) (sup (sup kc ln 0) ln ((sup kc ln 0) ln + (u_187 7 - z9))) tm tm) := (fun q => (hF q).2.2.1)
      have hex3 : okf ((u_217 1)) (ln = ln ∧ ln < (ln + 1)) := (fun q => ⟨rfl, by omega⟩)
      have hex4 : okf ((u_217 1)) (clm ((u_8 0)) ((u_178 0)) x_183 x_184 ((ln + 1)) (sup kd ln nx) (sup nm ln 4294967295)) := hC_229
      have hex5 : okf ((u_217 1)) (ndv x_206 x_207 x_208 ((u_187 7))) := hN_230
      have hex6 : bts x_206 ((u_187 8)) := (by assumption)
      have hex7 : okf ((u_217 1)) (∀ i, i < z9 → tsn x_206 x_207 x_208 i = tsn fo fl fr i) := (fun q => (hF q).2.2.2)
      have hg8 : H_218.size ≤ s.heap.size + ((u_187 8) - cp) := by omega
      have hg9 : tsl H_218 ≤ tsl s.heap + (6 * ((u_187 8) - cp)) := by omega
      have hsp0 : rst tk ((u_217 1)) ((u_217 2)) ((u_217 3)) ((u_217 0)) cn := (by assumption)
      have hsp1 : (u_217 0) ≤ cn := (by first | assumption | omega)
      have hsp2 : (u_217 2) < 128 := (by first | assumption | omega)
      have hsp3 : (u_217 3) < 1024 := (by first | assumption | omega)
      have hsp4 : ta ≤ (u_217 0) := (by first | assumption | omega)
      have hsp5 : ftf tf ≤ ftf ((u_217 1)) := (by first | assumption | omega)
      have hsp6 : z9 ≤ (u_187 7) := (by first | assumption | omega)
      have hsp7 : (u_187 7) + ta ≤ z9 + (u_217 0) + 2 * ((ln + 1) - ln) := (by first | assumption | omega)
      have hsp8 : (u_187 7) ≤ (u_187 8) := (by first | assumption | omega)
      have hsp9 : cp ≤ (u_187 8) := (by first | assumption | omega)
      have hsp10 : (u_187 8) ≤ MX := (by first | assumption | omega)
      have hsp11 : 1 ≤ 1 := (by first | assumption | omega)
      have hsp12 : (u_178 0) ≤ 1 + 2 * (u_8 1) + (ln + 1) := (by first | assumption | omega)
      have hsp13 : ln ≤ (ln + 1) := (by first | assumption | omega)
      have hsp14 : (ln + 1) ≤ 20 := (by first | assumption | omega)
      have hsp15 : br ≤ (u_8 0) := (by first | assumption | omega)
      have hsp16 : (u_8 0) ≤ 4 := (by first | assumption | omega)
      have hsp17 : lp ≤ (u_8 1) := (by first | assumption | omega)
      have hsp18 : (u_8 1) ≤ 4 := (by first | assumption | omega)
      have hsp19 : va ≤ (u_8 1) := (by first | assumption | omega)
      have hsp20 : psS tk tf ta sg ln br lp cl ((u_217 1)) ((u_217 0)) ((ln + 1)) ((u_8 0)) ((u_8 1)) ((u_178 0)) := (st_one hrs hok hN5 (by first | assumption | omega) (so_cut hrs hok (by first | assumption | omega) (hs_25 hok) hs_26 hs_205 hs_190 hs_227) (by first | assumption | omega) (by first | assumption | omega) (by first | assumption | omega) (by have h9 : wcl nx = 1 := if_pos (by first | assumption | omega); omega))
      have hsp21 : smn (ln) := hsml
      exact W.iret (v := nI ln) hx hb hr (fun t ht hW => ⟨⟨nI ln, ixn [(u_217 0), (u_217 1), (u_217 2), (u_217 3), (u_187 4), (u_187 5), (u_187 6), (u_187 7), (u_187 8), (u_187 9), ln, 1, (u_178 0), (ln + 1), (u_8 0), (u_8 1), va], rfl, ⟨rfl, ⟨hsp0, hsp1, hsp2, hsp3, hsp4, hsp5, hsp6, hsp7, hsp8, hsp9, hsp10, hsp11, hsp12, hsp13, hsp14, hsp15, hsp16, hsp17, hsp18, hsp19, hsp20, hsp21⟩⟩, ⟨sup kd ln nx, sup ow ln o9, sup sb ln 4294967295, sup f1 ln 4294967295, sup f2 ln 4294967295, sup te ln (u_187 10), kp, sup nm ln 4294967295, x_183, x_184, tm, x_206, x_207, x_208, sup (sup en ln 100) ln (ln + 1), sup (sup kc ln 0) ln ((sup kc ln 0) ln + (u_187 7 - z9)), by rw [ht]; exact hg8, by rw [ht]; exact hg9, hex0, hex1, hex2, hex3, hex4, hex5, hex6, hex7, by rw [ht]; exact hP9, hD9⟩⟩, hS.F ht⟩) hS.2.2 d_Reader_statement_185
    refine lv_lookup (off := 129) (tgt := 184) hx hb d_Reader_statement_55 (by decide) (by rw [nI_toInt (by first | assumption | omega)]; exact sw_no (by simp; omega)) (by decide) ?_
    have hj8 : ifq nx 8 = 0 := ifq_n (by first | assumption | omega)
    have hj12 : ifq nx 12 = 0 := ifq_n (by first | assumption | omega)
    have hF : okf (u_15 1) ((lst (ln + 1) z9 (sup kd ln nx) (sup ow ln o9) (sup sb ln 4294967295) (sup f1 ln 4294967295) (sup f2 ln 4294967295) te kp (sup nm ln 4294967295) (sup (sup en ln 100) ln (ln + 1)) (sup kc ln 0) tm fo fl fr) ∧ (cls ln (ln + 1) (sup (sup en ln 100) ln (ln + 1))) ∧ (sam ln kd ow sb f1 f2 te kp nm en kc (sup kd ln nx) (sup ow ln o9) (sup sb ln 4294967295) (sup f1 ln 4294967295) (sup f2 ln 4294967295) te kp (sup nm ln 4294967295) (sup (sup en ln 100) ln (ln + 1)) (sup kc ln 0) tm tm) ∧ (∀ i, i < z9 → tsn fo fl fr i = tsn fo fl fr i)) := by
      intro q
      refine ⟨(hL_28 q).close (by first | assumption | omega) sup_eq (fun i h1 h2 => by omega) ⟨fun h => by rw [sup_eq] at h; omega, fun h => by rw [sup_eq] at h; omega, fun h => by rw [sup_eq] at h; omega, fun h => by rw [sup_eq] at h; omega⟩, fun i h1 h2 => ?_, fun i hi => by refine ⟨?_, ?_, ?_, ?_, ?_, ?_, ?_, ?_, ?_, ?_, ?_⟩ <;> first | rfl | exact sup_ne (by first | assumption | omega) | (rw [sup_ne (by first | assumption | omega), sup_ne (by first | assumption | omega)]) | exact absurd i (by first | assumption | omega), (fun i hi => rfl)⟩
      rw [show i = ln by omega, sup_eq]; exact Nat.le_refl _
    refine lv_iload_n hx hb d_Reader_statement_184 rfl (lv_at hl1 1 rfl) ?_
    rw [← hQe]
    refine wk_know (fun hk8 hk9 => ?_)
    refine W.widen (k := MX - cp) (n := 6 * (MX - cp)) (by first | assumption | omega) (by first | assumption | omega) ?_
    obtain ⟨hP9, hD9⟩ := xw_sub2 (wc := (fun (u : Nat → Nat) (xkd : Nat → Nat) (xow : Nat → Nat) (xsb : Nat → Nat) (xf1 : Nat → Nat) (xf2 : Nat → Nat) (xte : Nat → Nat) (xkp : Nat → Nat) (xnm : Nat → Nat) (xck : Nat → Nat) (xco : Nat → Nat) (xtm : Nat → Int32) (xfo : Nat → Int32) (xfl : Nat → Int32) (xfr : Nat → Int32) (xen : Nat → Nat) (xkc : Nat → Nat) => [(r0, .inr (7, [.ref k0, .ref g0, .ref n0, .int (nI (u 11)), .int (nI (u 9))])), (k0, .inr (9, [.ref k1, .ref k2, .int (nI ts), .int (nI th), .int (nI (u 0)), .int (nI (u 1)), .int (nI (u 2)), .int (nI (u 3))])), (k1, .inl (ax 1, 400, .inl tb)), (k2, .inl (ax 0, 401, .inl (fun j => nI (tk j)))), (n0, .inr (4, [.ref (u 4), .ref (u 5), .ref (u 6), .int (nI (u 7))])), (u 4, .inl (ax 1, u 8, .inl xfo)), (u 5, .inl (ax 0, u 8, .inl xfl)), (u 6, .inl (ax 0, u 8, .inl xfr)), (g0, .inr (2, [.ref n0, .ref g1, .ref g2, .ref g3, .ref g4, .ref g5, .ref g6, .ref g7, .ref g8, .ref g9, .ref ga, .ref gb, .int (nI (u 12)), .int (nI (u 13)), .int (nI (u 14)), .int (nI (u 15)), .int (nI (u 16))])), (g1, .inl (ax 1, 20, .inl (fun j => nI (xkd j)))), (g2, .inl (ax 1, 20, .inl (fun j => nI (xow j)))), (g3, .inl (ax 1, 20, .inl (fun j => nI (xsb j)))), (g4, .inl (ax 1, 20, .inl (fun j => nI (xf1 j)))), (g5, .inl (ax 1, 20, .inl (fun j => nI (xf2 j)))), (g6, .inl (ax 2, 20, .inl (fun j => nI (xte j)))), (g7, .inl (ax 2, 20, .inl (fun j => nI (xkp j)))), (g8, .inl (ax 0, 20, .inl xtm)), (g9, .inl (ax 1, 20, .inl (fun j => nI (xnm j)))), (ga, .inl (ax 1, 29, .inl (fun j => nI (xck j)))), (gb, .inl (ax 1, 29, .inl (fun j => nI (xco j))))]) (ixn [(u_15 0), (u_15 1), (u_15 2), (u_15 3), n1, n2, n3, z9, cp, at9, ln, gh, cl, (ln + 1), (u_8 0), (u_8 1), va]) (sup kd ln nx) (sup ow ln o9) (sup sb ln 4294967295) (sup f1 ln 4294967295) (sup f2 ln 4294967295) te kp (sup nm ln 4294967295) ck co tm fo fl fr (sup (sup en ln 100) ln (ln + 1)) (sup kc ln 0)) hP hD [0, 17, 18, 19, 1, 2, 3, 4, 5, 6, 7, 8, 9, 10, 11, 12, 13, 14, 15, 16] (by decide) rfl
    have hex0 : okf ((u_15 1)) (lst ((ln + 1)) (z9) (sup kd ln nx) (sup ow ln o9) (sup sb ln 4294967295) (sup f1 ln 4294967295) (sup f2 ln 4294967295) te kp (sup nm ln 4294967295) (sup (sup en ln 100) ln (ln + 1)) (sup kc ln 0) tm fo fl fr) := (fun q => (hF q).1)
    have hex1 : okf ((u_15 1)) (cls ln ((ln + 1)) (sup (sup en ln 100) ln (ln + 1))) := (fun q => (hF q).2.1)
    have hex2 : okf ((u_15 1)) (sam ln kd ow sb f1 f2 te kp nm en kc (sup kd ln nx) (sup ow ln o9) (sup sb ln 4294967295) (sup f1 ln 4294967295) (sup f2 ln 4294967295) te kp (sup nm ln 4294967295) (sup (sup en ln 100) ln (ln + 1)) (sup kc ln 0) tm tm) := (fun q => (hF q).2.2.1)
    have hex3 : okf ((u_15 1)) (ln = ln ∧ ln < (ln + 1)) := (fun q => ⟨rfl, by omega⟩)
    have hex4 : okf ((u_15 1)) (clm ((u_8 0)) (cl) ck co ((ln + 1)) (sup kd ln nx) (sup nm ln 4294967295)) := hC_29
    have hex5 : okf ((u_15 1)) (ndv fo fl fr (z9)) := hN_30
    have hex6 : bts fo (cp) := (by assumption)
    have hex7 : okf ((u_15 1)) (∀ i, i < z9 → tsn fo fl fr i = tsn fo fl fr i) := (fun q => (hF q).2.2.2)
    have hg8 : H_16.size ≤ s.heap.size + (cp - cp) := by omega
    have hg9 : tsl H_16 ≤ tsl s.heap + (6 * (cp - cp)) := by omega
    have hsp0 : rst tk ((u_15 1)) ((u_15 2)) ((u_15 3)) ((u_15 0)) cn := (by assumption)
    have hsp1 : (u_15 0) ≤ cn := (by first | assumption | omega)
    have hsp2 : (u_15 2) < 128 := (by first | assumption | omega)
    have hsp3 : (u_15 3) < 1024 := (by first | assumption | omega)
    have hsp4 : ta ≤ (u_15 0) := (by first | assumption | omega)
    have hsp5 : ftf tf ≤ ftf ((u_15 1)) := (by first | assumption | omega)
    have hsp6 : z9 ≤ z9 := (by first | assumption | omega)
    have hsp7 : z9 + ta ≤ z9 + (u_15 0) + 2 * ((ln + 1) - ln) := (by first | assumption | omega)
    have hsp8 : z9 ≤ cp := (by first | assumption | omega)
    have hsp9 : cp ≤ cp := (by first | assumption | omega)
    have hsp10 : cp ≤ MX := (by first | assumption | omega)
    have hsp11 : gh ≤ 1 := (by first | assumption | omega)
    have hsp12 : cl ≤ 1 + 2 * (u_8 1) + (ln + 1) := (by first | assumption | omega)
    have hsp13 : ln ≤ (ln + 1) := (by first | assumption | omega)
    have hsp14 : (ln + 1) ≤ 20 := (by first | assumption | omega)
    have hsp15 : br ≤ (u_8 0) := (by first | assumption | omega)
    have hsp16 : (u_8 0) ≤ 4 := (by first | assumption | omega)
    have hsp17 : lp ≤ (u_8 1) := (by first | assumption | omega)
    have hsp18 : (u_8 1) ≤ 4 := (by first | assumption | omega)
    have hsp19 : va ≤ (u_8 1) := (by first | assumption | omega)
    have hsp20 : psS tk tf ta sg ln br lp cl ((u_15 1)) ((u_15 0)) ((ln + 1)) ((u_8 0)) ((u_8 1)) (cl) := (st_one hrs hok hN5 (by first | assumption | omega) (so_skip hrs hok (by unfold knd at hkn; omega) (hs_25 hok) hs_26) (by first | assumption | omega) (by first | assumption | omega) (by first | assumption | omega) (by have h9 : wcl nx = 0 := if_neg (by first | assumption | omega); omega))
    have hsp21 : smn (ln) := hsml
    exact W.iret (v := nI ln) hx hb hr (fun t ht hW => ⟨⟨nI ln, ixn [(u_15 0), (u_15 1), (u_15 2), (u_15 3), n1, n2, n3, z9, cp, at9, ln, gh, cl, (ln + 1), (u_8 0), (u_8 1), va], rfl, ⟨rfl, ⟨hsp0, hsp1, hsp2, hsp3, hsp4, hsp5, hsp6, hsp7, hsp8, hsp9, hsp10, hsp11, hsp12, hsp13, hsp14, hsp15, hsp16, hsp17, hsp18, hsp19, hsp20, hsp21⟩⟩, ⟨sup kd ln nx, sup ow ln o9, sup sb ln 4294967295, sup f1 ln 4294967295, sup f2 ln 4294967295, te, kp, sup nm ln 4294967295, ck, co, tm, fo, fl, fr, sup (sup en ln 100) ln (ln + 1), sup kc ln 0, by rw [ht]; exact hg8, by rw [ht]; exact hg9, hex0, hex1, hex2, hex3, hex4, hex5, hex6, hex7, by rw [ht]; exact hP9, hD9⟩⟩, hS.F ht⟩) hS.2.2 d_Reader_statement_185
  · replace c_7 : u_1 0 = 0 := (nI_eq (a := u_1 0) (b := 0) (by first | exact Nat.lt_of_lt_of_le (by assumption) (by decide) | exact Nat.lt_of_le_of_lt (by assumption) (by decide) | omega) (by decide)).mp c_7
    refine lv_aload_n hx hb d_Reader_statement_19 rfl (lv_at hl1 1 rfl) ?_
    refine va_get (D := D) (ci := 7) (v := .ref k0) (C := R_Reader) (T := F_Reader) (N := 5) hx hb hts i_Reader hown hK.1 hP 0 rfl rfl 0 (by decide) (hts _ wd_75) (fun _ h9 => h9) rfl d_Reader_statement_20 ?_
    obtain ⟨hPc, hDc, hFc, hCs⟩ := xw_sub3 (wc := [(k0, .inr (9, [.ref k1, .ref k2, .int (nI ts), .int (nI th), .int (nI ta), .int (nI tf), .int (nI nx), .int (nI am)])), (k1, .inl (ax 1, 400, .inl tb)), (k2, .inl (ax 0, 401, .inl (fun j => nI (tk j))))]) hP hD hS hA [1, 2, 3] (by decide) rfl
    have hz := xz_of hN hS
    refine va_callv (va_runV (As := []) (rest := []) ⟨hx, hb, hml, hown, hts⟩ (c_K_refuse l D ax k0 k1 k2 tb tk ta tf nx am cn ts th H_2.size hkz (by assumption) (by first | assumption | omega) (by first | assumption | omega) (by first | assumption | omega)) (xcV (n := 0) hts wd_559 wd_2 wd_556 wd_557 wd_558 rfl rfl (by decide +kernel) ⟨(show (10) + 1 ≤ (200 + 20 * kf) by omega), (show 8 + (1 + 11) + (400) ≤ (8000 + 800 * kf) by omega)⟩) (xpV (ci := 9) (q0 := 0) (As := []) hPc hK hz hDc rfl rfl) rfl rfl hl1.1 rfl (lv_room (Nat.le_of_ble_eq_true rfl)) d_Reader_statement_23 ⟨(show (0) + (0) ≤ (MX - cp) by omega), (show (0) + (0) ≤ (6 * (MX - cp)) by omega)⟩) hS (fun q _ h => hFc q h) hFc (fun u_231 t H_232 locs ht hvm hw hB hz1 hk1 hS1 => ?_)
    try dsimp only at hw
    obtain ⟨hs_234, hs_235, hs_236, hs_237, hs_238, hs_239, hs_240, hs_241, hs_242, hs_243⟩ := hw
    obtain ⟨hP1, hD1⟩ := hB
    rw [ht] at hP1
    have hjn := xw_join3 (wl := [(r0, .inr (7, [.ref k0, .ref g0, .ref n0, .int (nI gh), .int (nI at9)])), (n0, .inr (4, [.ref n1, .ref n2, .ref n3, .int (nI z9)])), (n1, .inl (ax 1, cp, .inl fo)), (n2, .inl (ax 0, cp, .inl fl)), (n3, .inl (ax 0, cp, .inl fr)), (g0, .inr (2, [.ref n0, .ref g1, .ref g2, .ref g3, .ref g4, .ref g5, .ref g6, .ref g7, .ref g8, .ref g9, .ref ga, .ref gb, .int (nI cl), .int (nI ln), .int (nI br), .int (nI lp), .int (nI va)])), (g1, .inl (ax 1, 20, .inl (fun j => nI (kd j)))), (g2, .inl (ax 1, 20, .inl (fun j => nI (ow j)))), (g3, .inl (ax 1, 20, .inl (fun j => nI (sb j)))), (g4, .inl (ax 1, 20, .inl (fun j => nI (f1 j)))), (g5, .inl (ax 1, 20, .inl (fun j => nI (f2 j)))), (g6, .inl (ax 2, 20, .inl (fun j => nI (te j)))), (g7, .inl (ax 2, 20, .inl (fun j => nI (kp j)))), (g8, .inl (ax 0, 20, .inl tm)), (g9, .inl (ax 1, 20, .inl (fun j => nI (nm j)))), (ga, .inl (ax 1, 29, .inl (fun j => nI (ck j)))), (gb, .inl (ax 1, 29, .inl (fun j => nI (co j)))), (k0, .inr (9, [.ref k1, .ref k2, .int (nI ts), .int (nI th), .int (nI (u_231 0)), .int (nI (u_231 1)), .int (nI (u_231 2)), .int (nI (u_231 3))])), (k1, .inl (ax 1, 400, .inl tb)), (k2, .inl (ax 0, 401, .inl (fun j => nI (tk j))))]) hP hD [1, 2, 3] [0, 4, 5, 6, 7, 8, 9, 10, 11, 12, 13, 14, 15, 16, 17, 18, 19] hCs (by decide) (by decide) hk1 hFc hP1 hD1 rfl
    clear hP1 hD1
    clear hPc hDc hFc hCs hz hz1 hk1 ht hvm
    clear hP hD hS
    have hS := hS1
    obtain ⟨hP, hD⟩ := hjn
    clear hS1
    have hfl := ftf_le (u_231 1)
    refine lv_iconst (v := (-1)) hx hb d_Reader_statement_26 (by decide) ?_
    rw [← hQe]
    refine wk_know (fun hk8 hk9 => ?_)
    refine W.widen (k := MX - cp) (n := 6 * (MX - cp)) (by first | assumption | omega) (by first | assumption | omega) ?_
    obtain ⟨hP9, hD9⟩ := xw_sub2 (wc := (fun (u : Nat → Nat) (xkd : Nat → Nat) (xow : Nat → Nat) (xsb : Nat → Nat) (xf1 : Nat → Nat) (xf2 : Nat → Nat) (xte : Nat → Nat) (xkp : Nat → Nat) (xnm : Nat → Nat) (xck : Nat → Nat) (xco : Nat → Nat) (xtm : Nat → Int32) (xfo : Nat → Int32) (xfl : Nat → Int32) (xfr : Nat → Int32) (xen : Nat → Nat) (xkc : Nat → Nat) => [(r0, .inr (7, [.ref k0, .ref g0, .ref n0, .int (nI (u 11)), .int (nI (u 9))])), (k0, .inr (9, [.ref k1, .ref k2, .int (nI ts), .int (nI th), .int (nI (u 0)), .int (nI (u 1)), .int (nI (u 2)), .int (nI (u 3))])), (k1, .inl (ax 1, 400, .inl tb)), (k2, .inl (ax 0, 401, .inl (fun j => nI (tk j)))), (n0, .inr (4, [.ref (u 4), .ref (u 5), .ref (u 6), .int (nI (u 7))])), (u 4, .inl (ax 1, u 8, .inl xfo)), (u 5, .inl (ax 0, u 8, .inl xfl)), (u 6, .inl (ax 0, u 8, .inl xfr)), (g0, .inr (2, [.ref n0, .ref g1, .ref g2, .ref g3, .ref g4, .ref g5, .ref g6, .ref g7, .ref g8, .ref g9, .ref ga, .ref gb, .int (nI (u 12)), .int (nI (u 13)), .int (nI (u 14)), .int (nI (u 15)), .int (nI (u 16))])), (g1, .inl (ax 1, 20, .inl (fun j => nI (xkd j)))), (g2, .inl (ax 1, 20, .inl (fun j => nI (xow j)))), (g3, .inl (ax 1, 20, .inl (fun j => nI (xsb j)))), (g4, .inl (ax 1, 20, .inl (fun j => nI (xf1 j)))), (g5, .inl (ax 1, 20, .inl (fun j => nI (xf2 j)))), (g6, .inl (ax 2, 20, .inl (fun j => nI (xte j)))), (g7, .inl (ax 2, 20, .inl (fun j => nI (xkp j)))), (g8, .inl (ax 0, 20, .inl xtm)), (g9, .inl (ax 1, 20, .inl (fun j => nI (xnm j)))), (ga, .inl (ax 1, 29, .inl (fun j => nI (xck j)))), (gb, .inl (ax 1, 29, .inl (fun j => nI (xco j))))]) (ixn [(u_231 0), (u_231 1), (u_231 2), (u_231 3), n1, n2, n3, z9, cp, at9, 4294967295, gh, cl, ln, br, lp, va]) kd ow sb f1 f2 te kp nm ck co tm fo fl fr en kc) hP hD [0, 17, 18, 19, 1, 2, 3, 4, 5, 6, 7, 8, 9, 10, 11, 12, 13, 14, 15, 16] (by decide) rfl
    have hex0 : okf ((u_231 1)) (lst (ln) (z9) kd ow sb f1 f2 te kp nm en kc tm fo fl fr) := (okf.bad (by first | assumption | omega))
    have hex1 : okf ((u_231 1)) (cls ln (ln) en) := (okf.bad (by first | assumption | omega))
    have hex2 : okf ((u_231 1)) (sam ln kd ow sb f1 f2 te kp nm en kc kd ow sb f1 f2 te kp nm en kc tm tm) := (okf.bad (by first | assumption | omega))
    have hex3 : okf ((u_231 1)) (4294967295 = ln ∧ ln < ln) := (okf.bad (by first | assumption | omega))
    have hex4 : okf ((u_231 1)) (clm (br) (cl) ck co (ln) kd nm) := (okf.bad (by first | assumption | omega))
    have hex5 : okf ((u_231 1)) (ndv fo fl fr (z9)) := (okf.bad (by first | assumption | omega))
    have hex6 : bts fo (cp) := hfo
    have hex7 : okf ((u_231 1)) (∀ i, i < z9 → tsn fo fl fr i = tsn fo fl fr i) := (okf.bad (by first | assumption | omega))
    have hg8 : H_232.size ≤ s.heap.size + (cp - cp) := by omega
    have hg9 : tsl H_232 ≤ tsl s.heap + (6 * (cp - cp)) := by omega
    have hsp0 : rst tk ((u_231 1)) ((u_231 2)) ((u_231 3)) ((u_231 0)) cn := (by assumption)
    have hsp1 : (u_231 0) ≤ cn := (by first | assumption | omega)
    have hsp2 : (u_231 2) < 128 := (by first | assumption | omega)
    have hsp3 : (u_231 3) < 1024 := (by first | assumption | omega)
    have hsp4 : ta ≤ (u_231 0) := (by first | assumption | omega)
    have hsp5 : ftf tf ≤ ftf ((u_231 1)) := (by first | assumption | omega)
    have hsp6 : z9 ≤ z9 := (by first | assumption | omega)
    have hsp7 : z9 + ta ≤ z9 + (u_231 0) + 2 * (ln - ln) := (by first | assumption | omega)
    have hsp8 : z9 ≤ cp := (by first | assumption | omega)
    have hsp9 : cp ≤ cp := (by first | assumption | omega)
    have hsp10 : cp ≤ MX := (by first | assumption | omega)
    have hsp11 : gh ≤ 1 := (by first | assumption | omega)
    have hsp12 : cl ≤ 1 + 2 * lp + ln := (by first | assumption | omega)
    have hsp13 : ln ≤ ln := (by first | assumption | omega)
    have hsp14 : ln ≤ 20 := (by first | assumption | omega)
    have hsp15 : br ≤ br := (by first | assumption | omega)
    have hsp16 : br ≤ 4 := (by first | assumption | omega)
    have hsp17 : lp ≤ lp := (by first | assumption | omega)
    have hsp18 : lp ≤ 4 := (by first | assumption | omega)
    have hsp19 : va ≤ lp := (by first | assumption | omega)
    have hsp20 : psS tk tf ta sg ln br lp cl ((u_231 1)) ((u_231 0)) (ln) (br) (lp) (cl) := (st_no hrs (hs_6.go (by first | assumption | omega)) hs_240 hs_241 hs_243)
    have hsp21 : smn (4294967295) := (Or.inr rfl)
    exact W.iret (v := (-1)) hx hb hr (fun t ht hW => ⟨⟨(-1), ixn [(u_231 0), (u_231 1), (u_231 2), (u_231 3), n1, n2, n3, z9, cp, at9, 4294967295, gh, cl, ln, br, lp, va], rfl, ⟨rfl, ⟨hsp0, hsp1, hsp2, hsp3, hsp4, hsp5, hsp6, hsp7, hsp8, hsp9, hsp10, hsp11, hsp12, hsp13, hsp14, hsp15, hsp16, hsp17, hsp18, hsp19, hsp20, hsp21⟩⟩, ⟨kd, ow, sb, f1, f2, te, kp, nm, ck, co, tm, fo, fl, fr, en, kc, by rw [ht]; exact hg8, by rw [ht]; exact hg9, hex0, hex1, hex2, hex3, hex4, hex5, hex6, hex7, by rw [ht]; exact hP9, hD9⟩⟩, hS.F ht⟩) hS.2.2 d_Reader_statement_27
theorem R_stm_all (l : Launch) : ∀ kf, CStm l kf
  | 0 => fun D ax => c_R_statement l 0 (fun j h => by omega) D ax
  | k + 1 => fun D ax => c_R_statement l (k + 1) (fun j h => by rw [show j = k by omega]; exact R_stm_all l k) D ax
