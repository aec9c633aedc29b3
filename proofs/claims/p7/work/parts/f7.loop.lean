theorem wd_291 : ((Jvm.Cond.fieldLink "TripleDesk$Reader" (113 : Nat) "TripleDesk$Listing" "kept" "[S")) ∈ lw_gd := lw_gd_in (i := 291) (by decide +kernel) rfl
theorem wd_642 : ((Jvm.Cond.methodLink "TripleDesk$Reader" (92 : Nat) ({ cls := "TripleDesk$Listing", name := "addClaim", desc := "(II)V" } : Jvm.MethodName))) ∈ lw_gd := lw_gd_in (i := 642) (by decide +kernel) rfl
theorem wd_643 : ((Jvm.Cond.methodLink "TripleDesk$Reader" (116 : Nat) ({ cls := "TripleDesk$Listing", name := "addVariant", desc := "(II)V" } : Jvm.MethodName))) ∈ lw_gd := lw_gd_in (i := 643) (by decide +kernel) rfl
theorem wd_644 : ((Jvm.Cond.instanceMethod ({ cls := "TripleDesk$Listing", name := "addVariant", desc := "(II)V" } : Jvm.MethodName))) ∈ lw_gd := lw_gd_in (i := 644) (by decide +kernel) rfl
theorem wd_645 : ((Jvm.Cond.selects "TripleDesk$Listing" ({ cls := "TripleDesk$Listing", name := "addVariant", desc := "(II)V" } : Jvm.MethodName) ({ cls := "TripleDesk$Listing", name := "addVariant", desc := "(II)V" } : Jvm.MethodName))) ∈ lw_gd := lw_gd_in (i := 645) (by decide +kernel) rfl
theorem wd_646 : ((Jvm.Cond.code ({ cls := "TripleDesk$Listing", name := "addVariant", desc := "(II)V" } : Jvm.MethodName) prog_4_method_5_code (3 : Nat) (Option.none : Option Jvm.ClassFile.FieldType))) ∈ lw_gd := lw_gd_in (i := 646) (by decide +kernel) rfl
abbrev b_Reader_loop : ByteArray := prog_9_method_8_code
def y_Reader_loop : MethodName := ⟨R_Reader, "loop", "(I)V"⟩
theorem d_Reader_loop_0 : decode b_Reader_loop 0 = .ok (.aload_n 0, 1) := by decide +kernel
theorem d_Reader_loop_1 : decode b_Reader_loop 1 = .ok (.getfield 40, 3) := by decide +kernel
theorem d_Reader_loop_4 : decode b_Reader_loop 4 = .ok (.getfield 88, 3) := by decide +kernel
theorem d_Reader_loop_7 : decode b_Reader_loop 7 = .ok (.iload_n 1, 1) := by decide +kernel
theorem d_Reader_loop_8 : decode b_Reader_loop 8 = .ok (.aload_n 0, 1) := by decide +kernel
theorem d_Reader_loop_9 : decode b_Reader_loop 9 = .ok (.iconst 0, 1) := by decide +kernel
theorem d_Reader_loop_10 : decode b_Reader_loop 10 = .ok (.invokevirtual 29, 3) := by decide +kernel
theorem d_Reader_loop_13 : decode b_Reader_loop 13 = .ok (.i2s, 1) := by decide +kernel
theorem d_Reader_loop_14 : decode b_Reader_loop 14 = .ok (.sastore, 1) := by decide +kernel
theorem d_Reader_loop_15 : decode b_Reader_loop 15 = .ok (.aload_n 0, 1) := by decide +kernel
theorem d_Reader_loop_16 : decode b_Reader_loop 16 = .ok (.getfield 9, 3) := by decide +kernel
theorem d_Reader_loop_19 : decode b_Reader_loop 19 = .ok (.bipush 13, 2) := by decide +kernel
theorem d_Reader_loop_21 : decode b_Reader_loop 21 = .ok (.invokevirtual 95, 3) := by decide +kernel
theorem d_Reader_loop_24 : decode b_Reader_loop 24 = .ok (.aload_n 0, 1) := by decide +kernel
theorem d_Reader_loop_25 : decode b_Reader_loop 25 = .ok (.getfield 40, 3) := by decide +kernel
theorem d_Reader_loop_28 : decode b_Reader_loop 28 = .ok (.getfield 113, 3) := by decide +kernel
theorem d_Reader_loop_31 : decode b_Reader_loop 31 = .ok (.iload_n 1, 1) := by decide +kernel
theorem d_Reader_loop_32 : decode b_Reader_loop 32 = .ok (.aload_n 0, 1) := by decide +kernel
theorem d_Reader_loop_33 : decode b_Reader_loop 33 = .ok (.iconst 1, 1) := by decide +kernel
theorem d_Reader_loop_34 : decode b_Reader_loop 34 = .ok (.invokevirtual 29, 3) := by decide +kernel
theorem d_Reader_loop_37 : decode b_Reader_loop 37 = .ok (.i2s, 1) := by decide +kernel
theorem d_Reader_loop_38 : decode b_Reader_loop 38 = .ok (.sastore, 1) := by decide +kernel
theorem d_Reader_loop_39 : decode b_Reader_loop 39 = .ok (.aload_n 0, 1) := by decide +kernel
theorem d_Reader_loop_40 : decode b_Reader_loop 40 = .ok (.getfield 40, 3) := by decide +kernel
theorem d_Reader_loop_43 : decode b_Reader_loop 43 = .ok (.iconst 1, 1) := by decide +kernel
theorem d_Reader_loop_44 : decode b_Reader_loop 44 = .ok (.iload_n 1, 1) := by decide +kernel
theorem d_Reader_loop_45 : decode b_Reader_loop 45 = .ok (.invokevirtual 92, 3) := by decide +kernel
theorem d_Reader_loop_48 : decode b_Reader_loop 48 = .ok (.aload_n 0, 1) := by decide +kernel
theorem d_Reader_loop_49 : decode b_Reader_loop 49 = .ok (.getfield 40, 3) := by decide +kernel
theorem d_Reader_loop_52 : decode b_Reader_loop 52 = .ok (.iconst 2, 1) := by decide +kernel
theorem d_Reader_loop_53 : decode b_Reader_loop 53 = .ok (.iload_n 1, 1) := by decide +kernel
theorem d_Reader_loop_54 : decode b_Reader_loop 54 = .ok (.invokevirtual 92, 3) := by decide +kernel
theorem d_Reader_loop_57 : decode b_Reader_loop 57 = .ok (.aload_n 0, 1) := by decide +kernel
theorem d_Reader_loop_58 : decode b_Reader_loop 58 = .ok (.getfield 9, 3) := by decide +kernel
theorem d_Reader_loop_61 : decode b_Reader_loop 61 = .ok (.getfield 52, 3) := by decide +kernel
theorem d_Reader_loop_64 : decode b_Reader_loop 64 = .ok (.bipush 14, 2) := by decide +kernel
theorem d_Reader_loop_66 : decode b_Reader_loop 66 = .ok (.if_icmp .ne 32, 3) := by decide +kernel
theorem d_Reader_loop_69 : decode b_Reader_loop 69 = .ok (.aload_n 0, 1) := by decide +kernel
theorem d_Reader_loop_70 : decode b_Reader_loop 70 = .ok (.getfield 9, 3) := by decide +kernel
theorem d_Reader_loop_73 : decode b_Reader_loop 73 = .ok (.invokevirtual 56, 3) := by decide +kernel
theorem d_Reader_loop_76 : decode b_Reader_loop 76 = .ok (.aload_n 0, 1) := by decide +kernel
theorem d_Reader_loop_77 : decode b_Reader_loop 77 = .ok (.getfield 40, 3) := by decide +kernel
theorem d_Reader_loop_80 : decode b_Reader_loop 80 = .ok (.iload_n 1, 1) := by decide +kernel
theorem d_Reader_loop_81 : decode b_Reader_loop 81 = .ok (.aload_n 0, 1) := by decide +kernel
theorem d_Reader_loop_82 : decode b_Reader_loop 82 = .ok (.iconst 0, 1) := by decide +kernel
theorem d_Reader_loop_83 : decode b_Reader_loop 83 = .ok (.invokevirtual 105, 3) := by decide +kernel
theorem d_Reader_loop_86 : decode b_Reader_loop 86 = .ok (.invokevirtual 116, 3) := by decide +kernel
theorem d_Reader_loop_89 : decode b_Reader_loop 89 = .ok (.aload_n 0, 1) := by decide +kernel
theorem d_Reader_loop_90 : decode b_Reader_loop 90 = .ok (.getfield 40, 3) := by decide +kernel
theorem d_Reader_loop_93 : decode b_Reader_loop 93 = .ok (.iconst 3, 1) := by decide +kernel
theorem d_Reader_loop_94 : decode b_Reader_loop 94 = .ok (.iload_n 1, 1) := by decide +kernel
theorem d_Reader_loop_95 : decode b_Reader_loop 95 = .ok (.invokevirtual 92, 3) := by decide +kernel
theorem d_Reader_loop_98 : decode b_Reader_loop 98 = .ok (.aload_n 0, 1) := by decide +kernel
theorem d_Reader_loop_99 : decode b_Reader_loop 99 = .ok (.getfield 9, 3) := by decide +kernel
theorem d_Reader_loop_102 : decode b_Reader_loop 102 = .ok (.bipush 15, 2) := by decide +kernel
theorem d_Reader_loop_104 : decode b_Reader_loop 104 = .ok (.invokevirtual 95, 3) := by decide +kernel
theorem d_Reader_loop_107 : decode b_Reader_loop 107 = .ok (.aload_n 0, 1) := by decide +kernel
theorem d_Reader_loop_108 : decode b_Reader_loop 108 = .ok (.getfield 40, 3) := by decide +kernel
theorem d_Reader_loop_111 : decode b_Reader_loop 111 = .ok (.getfield 107, 3) := by decide +kernel
theorem d_Reader_loop_114 : decode b_Reader_loop 114 = .ok (.iload_n 1, 1) := by decide +kernel
theorem d_Reader_loop_115 : decode b_Reader_loop 115 = .ok (.aload_n 0, 1) := by decide +kernel
theorem d_Reader_loop_116 : decode b_Reader_loop 116 = .ok (.iload_n 1, 1) := by decide +kernel
theorem d_Reader_loop_117 : decode b_Reader_loop 117 = .ok (.invokevirtual 45, 3) := by decide +kernel
theorem d_Reader_loop_120 : decode b_Reader_loop 120 = .ok (.i2b, 1) := by decide +kernel
theorem d_Reader_loop_121 : decode b_Reader_loop 121 = .ok (.bastore, 1) := by decide +kernel
theorem d_Reader_loop_122 : decode b_Reader_loop 122 = .ok (.aload_n 0, 1) := by decide +kernel
theorem d_Reader_loop_123 : decode b_Reader_loop 123 = .ok (.getfield 9, 3) := by decide +kernel
theorem d_Reader_loop_126 : decode b_Reader_loop 126 = .ok (.bipush 16, 2) := by decide +kernel
theorem d_Reader_loop_128 : decode b_Reader_loop 128 = .ok (.invokevirtual 95, 3) := by decide +kernel
theorem d_Reader_loop_131 : decode b_Reader_loop 131 = .ok (.return_, 1) := by decide +kernel
set_option maxHeartbeats 40000000 in
set_option maxRecDepth 100000 in
theorem c_R_loop (l : Launch) (kf : Nat) (hst : CStm l kf) (D : va_G) (ax : Nat → ClassId) (r0 k0 k1 k2 : Nat) (tb : Nat → Int32) (tk : Nat → Nat) (ta tf nx am cn ts th : Nat) (gh at9 : Nat) (n0 n1 n2 n3 cp z9 : Nat) (fo fl fr : Nat → Int32) (g0 g1 g2 g3 g4 g5 g6 g7 g8 g9 ga gb cl ln br lp va : Nat) (kd ow sb f1 f2 te kp nm ck co : Nat → Nat) (tm : Nat → Int32) (MX : Nat) (en kc : Nat → Nat) (sg pl : List itT) (L0 : List sgT) (s9 b0 : Nat) (sz tz : Nat) (hkz : tkz tk cn) (hrs : rst tk tf nx am ta cn) (hta : ta ≤ cn) (hnx : nx < 128) (ham : am < 1024) (hgh : gh ≤ 1) (hcp : 8 ≤ cp) (hz9 : z9 ≤ cp) (hmx : cp ≤ MX) (hMX : MX ≤ 60000) (hfo : bts fo cp) (hnd : okf tf (ndv fo fl fr z9)) (hln : ln ≤ 20) (hbr : br ≤ 4) (hlp : lp ≤ 4) (hva : va ≤ lp) (hcl : cl ≤ 1 + 2 * lp + ln) (hls : okf tf (lst ln z9 kd ow sb f1 f2 te kp nm en kc tm fo fl fr)) (hcm : okf tf (clm br cl ck co ln kd nm)) (hnl : okf tf (nlq fo fl fr z9 L0)) (hvc : okf tf (va = vct pl)) (hcq : okf tf (cll ck co cl = (0, 0) :: cln pl)) (hs9 : s9 < ln) (hbd : 2 * (z9 + (cn - ta) + 2 * (20 - ln) + 4) ≤ MX) (hop : okf tf (en s9 = 100 ∧ kd s9 = 12 ∧ nm s9 = 4294967295)) (hkf : 8 ≤ br + lp + kf) (hb0 : cku tk b0 = 12) (hb1 : ta = b0 + 1) (hs1 : s9 + 1 = ln) (hsb : okf tf (sb s9 = 4294967295)) (hva2 : va + 1 ≤ lp) (hcl2 : cl + 2 ≤ 2 * lp + ln) : Met l y_Reader_loop (xws (.code y_Reader_loop b_Reader_loop 2 none)) ({ frames := 210 + 20 * kf, cells := MX - cp, slots := 6 * (MX - cp), locals := 8200 + 800 * kf }) (va_Pc [.ref r0, .int (nI s9)] (xo3 D ax [(r0, .inr (7, [.ref k0, .ref g0, .ref n0, .int (nI gh), .int (nI at9)])), (k0, .inr (9, [.ref k1, .ref k2, .int (nI ts), .int (nI th), .int (nI ta), .int (nI tf), .int (nI nx), .int (nI am)])), (k1, .inl (ax 1, 400, .inl tb)), (k2, .inl (ax 0, 401, .inl (fun j => nI (tk j)))), (n0, .inr (4, [.ref n1, .ref n2, .ref n3, .int (nI z9)])), (n1, .inl (ax 1, cp, .inl fo)), (n2, .inl (ax 0, cp, .inl fl)), (n3, .inl (ax 0, cp, .inl fr)), (g0, .inr (2, [.ref n0, .ref g1, .ref g2, .ref g3, .ref g4, .ref g5, .ref g6, .ref g7, .ref g8, .ref g9, .ref ga, .ref gb, .int (nI cl), .int (nI ln), .int (nI br), .int (nI lp), .int (nI va)])), (g1, .inl (ax 1, 20, .inl (fun j => nI (kd j)))), (g2, .inl (ax 1, 20, .inl (fun j => nI (ow j)))), (g3, .inl (ax 1, 20, .inl (fun j => nI (sb j)))), (g4, .inl (ax 1, 20, .inl (fun j => nI (f1 j)))), (g5, .inl (ax 1, 20, .inl (fun j => nI (f2 j)))), (g6, .inl (ax 2, 20, .inl (fun j => nI (te j)))), (g7, .inl (ax 2, 20, .inl (fun j => nI (kp j)))), (g8, .inl (ax 0, 20, .inl tm)), (g9, .inl (ax 1, 20, .inl (fun j => nI (nm j)))), (ga, .inl (ax 1, 29, .inl (fun j => nI (ck j)))), (gb, .inl (ax 1, 29, .inl (fun j => nI (co j))))] sz tz)) ((va_Qv (fun (u : Nat → Nat) => (rst tk (u 1) (u 2) (u 3) (u 0) cn ∧ u 0 ≤ cn ∧ u 2 < 128 ∧ u 3 < 1024 ∧ ta ≤ u 0 ∧ ftf tf ≤ ftf (u 1) ∧ z9 ≤ u 7 ∧ u 7 + ta ≤ z9 + u 0 + 2 * (u 13 - ln) + 2 ∧ u 7 ≤ u 8 ∧ cp ≤ u 8 ∧ u 8 ≤ MX ∧ u 11 ≤ 1 ∧ u 12 ≤ 1 + 2 * u 15 + u 13 ∧ ln ≤ u 13 ∧ u 13 ≤ 20 ∧ br ≤ u 14 ∧ u 14 ≤ 4 ∧ lp ≤ u 15 ∧ u 15 ≤ 4 ∧ u 16 ≤ u 15)) (fun (u : Nat → Nat) (t9 : State) => ∃ xkd : Nat → Nat, ∃ xow : Nat → Nat, ∃ xsb : Nat → Nat, ∃ xf1 : Nat → Nat, ∃ xf2 : Nat → Nat, ∃ xte : Nat → Nat, ∃ xkp : Nat → Nat, ∃ xnm : Nat → Nat, ∃ xck : Nat → Nat, ∃ xco : Nat → Nat, ∃ xtm : Nat → Int32, ∃ xfo : Nat → Int32, ∃ xfl : Nat → Int32, ∃ xfr : Nat → Int32, ∃ xen : Nat → Nat, ∃ xkc : Nat → Nat, ∃ xpl : List itT, ∃ xL : List sgT, (t9.heap.size ≤ sz + (u 8 - cp)) ∧ (tsl t9.heap ≤ tz + (6 * (u 8 - cp))) ∧ (okf (u 1) (lst (u 13) (u 7) xkd xow xsb xf1 xf2 xte xkp xnm xen xkc xtm xfo xfl xfr)) ∧ (okf (u 1) (cls ln (u 13) xen)) ∧ (okf (u 1) (sae s9 ln kd ow sb f1 f2 te kp nm en kc xkd xow xsb xf1 xf2 xte xkp xnm xen xkc tm xtm)) ∧ (okf (u 1) (lsc (u 13) (u 7) xkd xf1 xf2 xte xkp xnm xkc xtm xfo xfl xfr s9)) ∧ (okf (u 1) (clm (u 14) (u 12) xck xco (u 13) xkd xnm)) ∧ (okf (u 1) (ndv xfo xfl xfr (u 7))) ∧ (bts xfo (u 8)) ∧ (okf (u 1) (∀ i, i < z9 → tsn xfo xfl xfr i = tsn fo fl fr i)) ∧ (brS tk 5 b0 tf ta sg ln br lp pl (u 1) (u 0) (u 13) (u 14) (u 15) xpl) ∧ (okf (u 1) (bk9 s9 (u 13) xkd xow xsb xf1 xf2 xte xkp xnm xtm xL (ow s9) s9 pl xpl)) ∧ (okf (u 1) (nlq xfo xfl xfr (u 7) xL ∧ prx L0 xL)) ∧ (okf (u 1) (u 16 = vct xpl)) ∧ (okf (u 1) (cll xck xco (u 12) = (0, 0) :: cln xpl)) ∧ va_P D classes [(r0, .inr (7, [.ref k0, .ref g0, .ref n0, .int (nI (u 11)), .int (nI (u 9))])), (k0, .inr (9, [.ref k1, .ref k2, .int (nI ts), .int (nI th), .int (nI (u 0)), .int (nI (u 1)), .int (nI (u 2)), .int (nI (u 3))])), (k1, .inl (ax 1, 400, .inl tb)), (k2, .inl (ax 0, 401, .inl (fun j => nI (tk j)))), (n0, .inr (4, [.ref (u 4), .ref (u 5), .ref (u 6), .int (nI (u 7))])), (u 4, .inl (ax 1, u 8, .inl xfo)), (u 5, .inl (ax 0, u 8, .inl xfl)), (u 6, .inl (ax 0, u 8, .inl xfr)), (g0, .inr (2, [.ref n0, .ref g1, .ref g2, .ref g3, .ref g4, .ref g5, .ref g6, .ref g7, .ref g8, .ref g9, .ref ga, .ref gb, .int (nI (u 12)), .int (nI (u 13)), .int (nI (u 14)), .int (nI (u 15)), .int (nI (u 16))])), (g1, .inl (ax 1, 20, .inl (fun j => nI (xkd j)))), (g2, .inl (ax 1, 20, .inl (fun j => nI (xow j)))), (g3, .inl (ax 1, 20, .inl (fun j => nI (xsb j)))), (g4, .inl (ax 1, 20, .inl (fun j => nI (xf1 j)))), (g5, .inl (ax 1, 20, .inl (fun j => nI (xf2 j)))), (g6, .inl (ax 2, 20, .inl (fun j => nI (xte j)))), (g7, .inl (ax 2, 20, .inl (fun j => nI (xkp j)))), (g8, .inl (ax 0, 20, .inl xtm)), (g9, .inl (ax 1, 20, .inl (fun j => nI (xnm j)))), (ga, .inl (ax 1, 29, .inl (fun j => nI (xck j)))), (gb, .inl (ax 1, 29, .inl (fun j => nI (xco j))))] t9.heap ∧ va_D (va_A [(r0, .inr (7, [.ref k0, .ref g0, .ref n0, .int (nI gh), .int (nI at9)])), (k0, .inr (9, [.ref k1, .ref k2, .int (nI ts), .int (nI th), .int (nI ta), .int (nI tf), .int (nI nx), .int (nI am)])), (k1, .inl (ax 1, 400, .inl tb)), (k2, .inl (ax 0, 401, .inl (fun j => nI (tk j)))), (n0, .inr (4, [.ref n1, .ref n2, .ref n3, .int (nI z9)])), (n1, .inl (ax 1, cp, .inl fo)), (n2, .inl (ax 0, cp, .inl fl)), (n3, .inl (ax 0, cp, .inl fr)), (g0, .inr (2, [.ref n0, .ref g1, .ref g2, .ref g3, .ref g4, .ref g5, .ref g6, .ref g7, .ref g8, .ref g9, .ref ga, .ref gb, .int (nI cl), .int (nI ln), .int (nI br), .int (nI lp), .int (nI va)])), (g1, .inl (ax 1, 20, .inl (fun j => nI (kd j)))), (g2, .inl (ax 1, 20, .inl (fun j => nI (ow j)))), (g3, .inl (ax 1, 20, .inl (fun j => nI (sb j)))), (g4, .inl (ax 1, 20, .inl (fun j => nI (f1 j)))), (g5, .inl (ax 1, 20, .inl (fun j => nI (f2 j)))), (g6, .inl (ax 2, 20, .inl (fun j => nI (te j)))), (g7, .inl (ax 2, 20, .inl (fun j => nI (kp j)))), (g8, .inl (ax 0, 20, .inl tm)), (g9, .inl (ax 1, 20, .inl (fun j => nI (nm j)))), (ga, .inl (ax 1, 29, .inl (fun j => nI (ck j)))), (gb, .inl (ax 1, 29, .inl (fun j => nI (co j))))] sz) [(r0, .inr (7, [.ref k0, .ref g0, .ref n0, .int (nI (u 11)), .int (nI (u 9))])), (k0, .inr (9, [.ref k1, .ref k2, .int (nI ts), .int (nI th), .int (nI (u 0)), .int (nI (u 1)), .int (nI (u 2)), .int (nI (u 3))])), (k1, .inl (ax 1, 400, .inl tb)), (k2, .inl (ax 0, 401, .inl (fun j => nI (tk j)))), (n0, .inr (4, [.ref (u 4), .ref (u 5), .ref (u 6), .int (nI (u 7))])), (u 4, .inl (ax 1, u 8, .inl xfo)), (u 5, .inl (ax 0, u 8, .inl xfl)), (u 6, .inl (ax 0, u 8, .inl xfr)), (g0, .inr (2, [.ref n0, .ref g1, .ref g2, .ref g3, .ref g4, .ref g5, .ref g6, .ref g7, .ref g8, .ref g9, .ref ga, .ref gb, .int (nI (u 12)), .int (nI (u 13)), .int (nI (u 14)), .int (nI (u 15)), .int (nI (u 16))])), (g1, .inl (ax 1, 20, .inl (fun j => nI (xkd j)))), (g2, .inl (ax 1, 20, .inl (fun j => nI (xow j)))), (g3, .inl (ax 1, 20, .inl (fun j => nI (xsb j)))), (g4, .inl (ax 1, 20, .inl (fun j => nI (xf1 j)))), (g5, .inl (ax 1, 20, .inl (fun j => nI (xf2 j)))), (g6, .inl (ax 2, 20, .inl (fun j => nI (xte j)))), (g7, .inl (ax 2, 20, .inl (fun j => nI (xkp j)))), (g8, .inl (ax 0, 20, .inl xtm)), (g9, .inl (ax 1, 20, .inl (fun j => nI (xnm j)))), (ga, .inl (ax 1, 29, .inl (fun j => nI (xck j)))), (gb, .inl (ax 1, 29, .inl (fun j => nI (xco j))))]) (va_A [(r0, .inr (7, [.ref k0, .ref g0, .ref n0, .int (nI gh), .int (nI at9)])), (k0, .inr (9, [.ref k1, .ref k2, .int (nI ts), .int (nI th), .int (nI ta), .int (nI tf), .int (nI nx), .int (nI am)])), (k1, .inl (ax 1, 400, .inl tb)), (k2, .inl (ax 0, 401, .inl (fun j => nI (tk j)))), (n0, .inr (4, [.ref n1, .ref n2, .ref n3, .int (nI z9)])), (n1, .inl (ax 1, cp, .inl fo)), (n2, .inl (ax 0, cp, .inl fl)), (n3, .inl (ax 0, cp, .inl fr)), (g0, .inr (2, [.ref n0, .ref g1, .ref g2, .ref g3, .ref g4, .ref g5, .ref g6, .ref g7, .ref g8, .ref g9, .ref ga, .ref gb, .int (nI cl), .int (nI ln), .int (nI br), .int (nI lp), .int (nI va)])), (g1, .inl (ax 1, 20, .inl (fun j => nI (kd j)))), (g2, .inl (ax 1, 20, .inl (fun j => nI (ow j)))), (g3, .inl (ax 1, 20, .inl (fun j => nI (sb j)))), (g4, .inl (ax 1, 20, .inl (fun j => nI (f1 j)))), (g5, .inl (ax 1, 20, .inl (fun j => nI (f2 j)))), (g6, .inl (ax 2, 20, .inl (fun j => nI (te j)))), (g7, .inl (ax 2, 20, .inl (fun j => nI (kp j)))), (g8, .inl (ax 0, 20, .inl tm)), (g9, .inl (ax 1, 20, .inl (fun j => nI (nm j)))), (ga, .inl (ax 1, 29, .inl (fun j => nI (ck j)))), (gb, .inl (ax 1, 29, .inl (fun j => nI (co j))))] sz))) (MX - cp) (6 * (MX - cp)) (va_A [(r0, .inr (7, [.ref k0, .ref g0, .ref n0, .int (nI gh), .int (nI at9)])), (k0, .inr (9, [.ref k1, .ref k2, .int (nI ts), .int (nI th), .int (nI ta), .int (nI tf), .int (nI nx), .int (nI am)])), (k1, .inl (ax 1, 400, .inl tb)), (k2, .inl (ax 0, 401, .inl (fun j => nI (tk j)))), (n0, .inr (4, [.ref n1, .ref n2, .ref n3, .int (nI z9)])), (n1, .inl (ax 1, cp, .inl fo)), (n2, .inl (ax 0, cp, .inl fl)), (n3, .inl (ax 0, cp, .inl fr)), (g0, .inr (2, [.ref n0, .ref g1, .ref g2, .ref g3, .ref g4, .ref g5, .ref g6, .ref g7, .ref g8, .ref g9, .ref ga, .ref gb, .int (nI cl), .int (nI ln), .int (nI br), .int (nI lp), .int (nI va)])), (g1, .inl (ax 1, 20, .inl (fun j => nI (kd j)))), (g2, .inl (ax 1, 20, .inl (fun j => nI (ow j)))), (g3, .inl (ax 1, 20, .inl (fun j => nI (sb j)))), (g4, .inl (ax 1, 20, .inl (fun j => nI (f1 j)))), (g5, .inl (ax 1, 20, .inl (fun j => nI (f2 j)))), (g6, .inl (ax 2, 20, .inl (fun j => nI (te j)))), (g7, .inl (ax 2, 20, .inl (fun j => nI (kp j)))), (g8, .inl (ax 0, 20, .inl tm)), (g9, .inl (ax 1, 20, .inl (fun j => nI (nm j)))), (ga, .inl (ax 1, 29, .inl (fun j => nI (ck j)))), (gb, .inl (ax 1, 29, .inl (fun j => nI (co j))))] sz) := by
  refine Met.ofW (cc := b_Reader_loop) (maxL := 2) (ret := none) (by decide) rfl ?_
  intro p e s m args below meth c s₁ B hml hv
  obtain ⟨rfl, ⟨hsz, hP, hK, hD0⟩, htz⟩ := hv
  have hx := B.exec
  have hb := B.bytes
  have hr := B.returns
  have hts := xw_hts B.pre
  have hown : s.vm.findClass R_Reader = some m.cls := findClass_of_methodNamed B.named
  have hlocks := B.notSynchronized
  subst hsz
  subst htz
  have hD := hD0.self (sz := s.heap.size)
  have hN := xz_entry hP
  generalize hAe : va_A [(r0, .inr (7, [.ref k0, .ref g0, .ref n0, .int (nI gh), .int (nI at9)])), (k0, .inr (9, [.ref k1, .ref k2, .int (nI ts), .int (nI th), .int (nI ta), .int (nI tf), .int (nI nx), .int (nI am)])), (k1, .inl (ax 1, 400, .inl tb)), (k2, .inl (ax 0, 401, .inl (fun j => nI (tk j)))), (n0, .inr (4, [.ref n1, .ref n2, .ref n3, .int (nI z9)])), (n1, .inl (ax 1, cp, .inl fo)), (n2, .inl (ax 0, cp, .inl fl)), (n3, .inl (ax 0, cp, .inl fr)), (g0, .inr (2, [.ref n0, .ref g1, .ref g2, .ref g3, .ref g4, .ref g5, .ref g6, .ref g7, .ref g8, .ref g9, .ref ga, .ref gb, .int (nI cl), .int (nI ln), .int (nI br), .int (nI lp), .int (nI va)])), (g1, .inl (ax 1, 20, .inl (fun j => nI (kd j)))), (g2, .inl (ax 1, 20, .inl (fun j => nI (ow j)))), (g3, .inl (ax 1, 20, .inl (fun j => nI (sb j)))), (g4, .inl (ax 1, 20, .inl (fun j => nI (f1 j)))), (g5, .inl (ax 1, 20, .inl (fun j => nI (f2 j)))), (g6, .inl (ax 2, 20, .inl (fun j => nI (te j)))), (g7, .inl (ax 2, 20, .inl (fun j => nI (kp j)))), (g8, .inl (ax 0, 20, .inl tm)), (g9, .inl (ax 1, 20, .inl (fun j => nI (nm j)))), (ga, .inl (ax 1, 29, .inl (fun j => nI (ck j)))), (gb, .inl (ax 1, 29, .inl (fun j => nI (co j))))] s.heap.size = A at hD hN ⊢
  have hA : ∀ q : Nat, s.heap.size ≤ q → A q := fun q h => by rw [← hAe]; exact Or.inr h
  have hS : va_S A s.heap s.heap [] := va_S.rf
  have hl0 := lv_entry ([.ref r0, .int (nI s9)]) (n := 2) (Nat.le_of_ble_eq_true rfl)
  rw [lg_entry_eq]
  generalize (lg_sl ([.ref r0, .int (nI s9)]) ++ List.replicate (2 - (lg_sl ([.ref r0, .int (nI s9)])).length) Slot.unset).toArray = ls at hl0 ⊢
  have hl1 : lv_has ls 2 [(0, .ref r0), (1, .int (nI s9))] := hl0
  refine xw_gen (fun Z9 hQe => ?_)
  have hsm9 : smn s9 := Or.inl (by first | assumption | omega)
  refine lv_aload_n hx hb d_Reader_loop_0 rfl (lv_at hl1 0 rfl) ?_
  refine va_get (D := D) (ci := 7) (v := .ref g0) (C := R_Reader) (T := F_Reader) (N := 5) hx hb hts i_Reader hown hK.1 hP 0 rfl rfl 1 (by decide) (hts _ wd_76) (fun _ h9 => h9) rfl d_Reader_loop_1 ?_
  refine va_get (D := D) (ci := 2) (v := .ref g6) (C := R_Listing) (T := F_Listing) (N := 17) hx hb hts i_Listing hown hK.1 hP 8 rfl rfl 6 (by decide) (hts _ wd_288) (fun _ h9 => h9) rfl d_Reader_loop_4 ?_
  refine lv_iload_n hx hb d_Reader_loop_7 rfl (lv_at hl1 1 rfl) ?_
  refine lv_aload_n hx hb d_Reader_loop_8 rfl (lv_at hl1 0 rfl) ?_
  refine lv_iconst (v := 0) hx hb d_Reader_loop_9 (by decide) ?_
  obtain ⟨hPc, hDc, hFc, hCs⟩ := xw_sub3 (wc := [(r0, .inr (7, [.ref k0, (.ref g0), .ref n0, .int (nI gh), .int (nI at9)])), (k0, .inr (9, [.ref k1, .ref k2, .int (nI ts), .int (nI th), .int (nI ta), .int (nI tf), .int (nI nx), .int (nI am)])), (k1, .inl (ax 1, 400, .inl tb)), (k2, .inl (ax 0, 401, .inl (fun j => nI (tk j)))), (n0, .inr (4, [.ref n1, .ref n2, .ref n3, .int (nI z9)])), (n1, .inl (ax 1, cp, .inl fo)), (n2, .inl (ax 0, cp, .inl fl)), (n3, .inl (ax 0, cp, .inl fr))]) hP hD hS hA [0, 1, 2, 3, 4, 5, 6, 7] (by decide) rfl
  have hz := xz_of hN hS
  refine wk_know (fun hk8 hk9 => ?_)
  refine va_calli (va_runV (As := [.int 0]) (rest := [.int (nI s9), .ref g6]) ⟨hx, hb, hml, hown, hts⟩ (c_R_condition l D ax r0 k0 k1 k2 (.ref g0) tb tk ta tf nx am cn ts th gh at9 0 n0 n1 n2 n3 cp z9 fo fl fr MX L0 s.heap.size (tsl s.heap) hkz (by assumption) (by first | assumption | omega) (by first | assumption | omega) (by first | assumption | omega) (by first | assumption | omega) (by first | assumption | omega) (by first | assumption | omega) (by first | assumption | omega) (by first | assumption | omega) (by first | assumption | omega) (by assumption) (by assumption) (by first | assumption | exact okf.nl (by assumption))) (xcV (n := 1) hts wd_539 wd_3 wd_536 wd_538 ps_7 rfl rfl (by decide +kernel) ⟨(show (160) + 1 ≤ (210 + 20 * kf) by omega), (show 8 + (2 + 11) + (6400) ≤ (8200 + 800 * kf) by omega)⟩) (xpV3 (ci := 7) (q0 := 0) (As := [.int 0]) hPc hK hz hDc rfl rfl) rfl rfl hl1.1 rfl (lv_room (Nat.le_of_ble_eq_true rfl)) d_Reader_loop_10 ⟨(show (0) + (MX - cp) ≤ (MX - cp) by omega), (show (0) + (6 * (MX - cp)) ≤ (6 * (MX - cp)) by omega)⟩) hS (fun q _ h => hFc q h) hFc (fun r_3 u_1 t H_2 locs ht hvm hw hB hz1 hk1 hS1 => ?_)
  try dsimp only at hw
  obtain ⟨hw, hs_4, hs_5, hs_6, hs_7, hs_8, hs_9, hs_10, hs_11, hs_12, hs_13, hs_14, hs_15, hs_16, hs_17, hs_18⟩ := hw
  subst hw
  obtain ⟨x_19, x_20, x_21, x_22, hg8, hg9, hx_23, hx_24, hx_25, hx_26, hx_27, hx_28, hP1, hD1⟩ := hB
  rw [ht] at hg8 hg9 hP1
  have hjn := xw_join3 (wl := [(g0, .inr (2, [.ref n0, .ref g1, .ref g2, .ref g3, .ref g4, .ref g5, .ref g6, .ref g7, .ref g8, .ref g9, .ref ga, .ref gb, .int (nI cl), .int (nI ln), .int (nI br), .int (nI lp), .int (nI va)])), (g1, .inl (ax 1, 20, .inl (fun j => nI (kd j)))), (g2, .inl (ax 1, 20, .inl (fun j => nI (ow j)))), (g3, .inl (ax 1, 20, .inl (fun j => nI (sb j)))), (g4, .inl (ax 1, 20, .inl (fun j => nI (f1 j)))), (g5, .inl (ax 1, 20, .inl (fun j => nI (f2 j)))), (g6, .inl (ax 2, 20, .inl (fun j => nI (te j)))), (g7, .inl (ax 2, 20, .inl (fun j => nI (kp j)))), (g8, .inl (ax 0, 20, .inl tm)), (g9, .inl (ax 1, 20, .inl (fun j => nI (nm j)))), (ga, .inl (ax 1, 29, .inl (fun j => nI (ck j)))), (gb, .inl (ax 1, 29, .inl (fun j => nI (co j)))), (r0, .inr (7, [.ref k0, .ref g0, .ref n0, .int (nI 0), .int (nI (u_1 9))])), (k0, .inr (9, [.ref k1, .ref k2, .int (nI ts), .int (nI th), .int (nI (u_1 0)), .int (nI (u_1 1)), .int (nI (u_1 2)), .int (nI (u_1 3))])), (k1, .inl (ax 1, 400, .inl tb)), (k2, .inl (ax 0, 401, .inl (fun j => nI (tk j)))), (n0, .inr (4, [.ref (u_1 4), .ref (u_1 5), .ref (u_1 6), .int (nI (u_1 7))])), ((u_1 4), .inl (ax 1, u_1 8, .inl x_19)), ((u_1 5), .inl (ax 0, u_1 8, .inl x_20)), ((u_1 6), .inl (ax 0, u_1 8, .inl x_21))]) hP hD [0, 1, 2, 3, 4, 5, 6, 7] [8, 9, 10, 11, 12, 13, 14, 15, 16, 17, 18, 19] hCs (by decide) (by decide) hk1 hFc hP1 hD1 rfl
  clear hP1 hD1
  clear hPc hDc hFc hCs hz hz1 hk1 ht hvm
  clear hP hD hS
  have hS := hS1
  obtain ⟨hP, hD⟩ := hjn
  clear hS1
  refine wk_narrow (k := u_1 8 - cp) (n := 6 * (u_1 8 - cp)) (by first | assumption | omega) (by first | assumption | omega) ?_
  clear hk8 hk9 hg8 hg9
  have hfl_29 := ftf_le (u_1 1)
  have hG_31 : okf (u_1 1) (cmpl 18 x_22 ∧ nbl 1023 x_22) := fun q => (hx_28.2 (okf.of hs_9 q)).2 q
  have hQ_30 : okf (u_1 1) (nlq x_19 x_20 x_21 (u_1 7) (L0 ++ x_22)) := fun q => by have h9 := hx_27 q; rw [h9.2]; exact (hnl (okf.of hs_9 q)).app h9.1 (hG_31 q).1 (hG_31 q).2
  refine lv_i2s (v := nI (u_1 10)) hx hb d_Reader_loop_13 (nb_i2ss hs_18) ?_
  refine va_sast hx hb hK.1 hP hD hS 6 2 rfl rfl (vp_in_nI (by first | assumption | omega) (by decide)) d_Reader_loop_14 (fun H_32 locs hP1 hD1 hS1 => ?_)
  rw [nI_clamp (by first | exact Nat.lt_of_lt_of_le (by assumption) (by decide) | exact Nat.lt_of_le_of_lt (by assumption) (by decide) | omega)] at hP1 hD1
  rw [xf_supss te s9 (u_1 10) hs_18] at hP1 hD1
  clear hP hD hS
  have hS := hS1
  have hW7 : (fun w9 : va_W => va_P D classes w9 H_32 ∧ va_D A w9) [(g0, .inr (2, [.ref n0, .ref g1, .ref g2, .ref g3, .ref g4, .ref g5, .ref g6, .ref g7, .ref g8, .ref g9, .ref ga, .ref gb, .int (nI cl), .int (nI ln), .int (nI br), .int (nI lp), .int (nI va)])), (g1, .inl (ax 1, 20, .inl (fun j => nI (kd j)))), (g2, .inl (ax 1, 20, .inl (fun j => nI (ow j)))), (g3, .inl (ax 1, 20, .inl (fun j => nI (sb j)))), (g4, .inl (ax 1, 20, .inl (fun j => nI (f1 j)))), (g5, .inl (ax 1, 20, .inl (fun j => nI (f2 j)))), (g6, .inl (ax 2, 20, .inl (fun j => nI (sup te s9 (u_1 10) j)))), (g7, .inl (ax 2, 20, .inl (fun j => nI (kp j)))), (g8, .inl (ax 0, 20, .inl tm)), (g9, .inl (ax 1, 20, .inl (fun j => nI (nm j)))), (ga, .inl (ax 1, 29, .inl (fun j => nI (ck j)))), (gb, .inl (ax 1, 29, .inl (fun j => nI (co j)))), (r0, .inr (7, [.ref k0, .ref g0, .ref n0, .int (nI 0), .int (nI (u_1 9))])), (k0, .inr (9, [.ref k1, .ref k2, .int (nI ts), .int (nI th), .int (nI (u_1 0)), .int (nI (u_1 1)), .int (nI (u_1 2)), .int (nI (u_1 3))])), (k1, .inl (ax 1, 400, .inl tb)), (k2, .inl (ax 0, 401, .inl (fun j => nI (tk j)))), (n0, .inr (4, [.ref (u_1 4), .ref (u_1 5), .ref (u_1 6), .int (nI (u_1 7))])), ((u_1 4), .inl (ax 1, u_1 8, .inl x_19)), ((u_1 5), .inl (ax 0, u_1 8, .inl x_20)), ((u_1 6), .inl (ax 0, u_1 8, .inl x_21))] := ⟨hP1, hD1⟩
  obtain ⟨hP, hD⟩ := hW7
  clear hP1 hD1 hS1
  have hL_33 : okf (u_1 1) (lst ln (u_1 7) kd ow sb f1 f2 (sup te s9 (u_1 10)) kp nm en (sup kc s9 (kc s9 + (u_1 7 - z9))) tm x_19 x_20 x_21) := (fun q => (hls (okf.of hs_9 q)).read (by first | assumption | omega) (hx_26 q) (by first | assumption | omega) (hop (okf.of (by first | assumption | omega) q)).1 (Nat.le_refl _) (fun i hi => rfl) (fun i hi => rfl) (fun i hi => sup_ne hi) (fun i hi => rfl) (fun i hi => rfl) (fun i hi => rfl))
  have hC_34 : okf (u_1 1) (clm br cl ck co ln kd nm) := (fun q => hcm (okf.of hs_9 q))
  refine lv_aload_n hx hb d_Reader_loop_15 rfl (lv_at hl1 0 rfl) ?_
  refine va_get (D := D) (ci := 7) (v := .ref k0) (C := R_Reader) (T := F_Reader) (N := 5) hx hb hts i_Reader hown hK.1 hP 12 rfl rfl 0 (by decide) (hts _ wd_75) (fun _ h9 => h9) rfl d_Reader_loop_16 ?_
  refine lv_bipush (v := 13) hx hb d_Reader_loop_19 (by decide) ?_
  obtain ⟨hPc, hDc, hFc, hCs⟩ := xw_sub3 (wc := [(k0, .inr (9, [.ref k1, .ref k2, .int (nI ts), .int (nI th), .int (nI (u_1 0)), .int (nI (u_1 1)), .int (nI (u_1 2)), .int (nI (u_1 3))])), (k1, .inl (ax 1, 400, .inl tb)), (k2, .inl (ax 0, 401, .inl (fun j => nI (tk j))))]) hP hD hS hA [13, 14, 15] (by decide) rfl
  have hz := xz_of hN hS
  refine va_callv (va_runV (As := [.int 13]) (rest := []) ⟨hx, hb, hml, hown, hts⟩ (c_K_need l D ax k0 k1 k2 tb tk (u_1 0) (u_1 1) (u_1 2) (u_1 3) cn ts th 13 H_32.size hkz (by assumption) (by first | assumption | omega) (by first | assumption | omega) (by first | assumption | omega) (by first | assumption | omega) (by first | assumption | omega)) (xcV (n := 1) hts wd_571 wd_2 wd_568 wd_569 wd_570 rfl rfl (by decide +kernel) ⟨(show (20) + 1 ≤ (210 + 20 * kf) by omega), (show 8 + (2 + 11) + (800) ≤ (8200 + 800 * kf) by omega)⟩) (xpV (ci := 9) (q0 := 0) (As := [.int 13]) hPc hK hz hDc rfl rfl) rfl rfl hl1.1 rfl (lv_room (Nat.le_of_ble_eq_true rfl)) d_Reader_loop_21 ⟨(show (u_1 8 - cp) + (0) ≤ (MX - cp) by omega), (show (6 * (u_1 8 - cp)) + (0) ≤ (6 * (MX - cp)) by omega)⟩) hS (fun q _ h => hFc q h) hFc (fun u_35 t H_36 locs ht hvm hw hB hz1 hk1 hS1 => ?_)
  try dsimp only at hw
  obtain ⟨hs_38, hs_39, hs_40, hs_41, hs_42, hs_43, hs_44, hs_45⟩ := hw
  obtain ⟨hP1, hD1⟩ := hB
  rw [ht] at hP1
  have hjn := xw_join3 (wl := [(g0, .inr (2, [.ref n0, .ref g1, .ref g2, .ref g3, .ref g4, .ref g5, .ref g6, .ref g7, .ref g8, .ref g9, .ref ga, .ref gb, .int (nI cl), .int (nI ln), .int (nI br), .int (nI lp), .int (nI va)])), (g1, .inl (ax 1, 20, .inl (fun j => nI (kd j)))), (g2, .inl (ax 1, 20, .inl (fun j => nI (ow j)))), (g3, .inl (ax 1, 20, .inl (fun j => nI (sb j)))), (g4, .inl (ax 1, 20, .inl (fun j => nI (f1 j)))), (g5, .inl (ax 1, 20, .inl (fun j => nI (f2 j)))), (g6, .inl (ax 2, 20, .inl (fun j => nI (sup te s9 (u_1 10) j)))), (g7, .inl (ax 2, 20, .inl (fun j => nI (kp j)))), (g8, .inl (ax 0, 20, .inl tm)), (g9, .inl (ax 1, 20, .inl (fun j => nI (nm j)))), (ga, .inl (ax 1, 29, .inl (fun j => nI (ck j)))), (gb, .inl (ax 1, 29, .inl (fun j => nI (co j)))), (r0, .inr (7, [.ref k0, .ref g0, .ref n0, .int (nI 0), .int (nI (u_1 9))])), (n0, .inr (4, [.ref (u_1 4), .ref (u_1 5), .ref (u_1 6), .int (nI (u_1 7))])), ((u_1 4), .inl (ax 1, u_1 8, .inl x_19)), ((u_1 5), .inl (ax 0, u_1 8, .inl x_20)), ((u_1 6), .inl (ax 0, u_1 8, .inl x_21)), (k0, .inr (9, [.ref k1, .ref k2, .int (nI ts), .int (nI th), .int (nI (u_35 0)), .int (nI (u_35 1)), .int (nI (u_35 2)), .int (nI (u_35 3))])), (k1, .inl (ax 1, 400, .inl tb)), (k2, .inl (ax 0, 401, .inl (fun j => nI (tk j))))]) hP hD [13, 14, 15] [0, 1, 2, 3, 4, 5, 6, 7, 8, 9, 10, 11, 12, 16, 17, 18, 19] hCs (by decide) (by decide) hk1 hFc hP1 hD1 rfl
  clear hP1 hD1
  clear hPc hDc hFc hCs hz hz1 hk1 ht hvm
  clear hP hD hS
  have hS := hS1
  obtain ⟨hP, hD⟩ := hjn
  clear hS1
  have hL_46 : okf (u_35 1) (lst ln (u_1 7) kd ow sb f1 f2 (sup te s9 (u_1 10)) kp nm en (sup kc s9 (kc s9 + (u_1 7 - z9))) tm x_19 x_20 x_21) := hL_33.back hs_43
  have hC_47 : okf (u_35 1) (clm br cl ck co ln kd nm) := hC_34.back hs_43
  have hN_48 : okf (u_35 1) (ndv x_19 x_20 x_21 (u_1 7)) := hx_23.back hs_43
  have hQ_49 : okf (u_35 1) (nlq x_19 x_20 x_21 (u_1 7) (L0 ++ x_22)) := hQ_30.back hs_43
  have hO_50 : okf (u_35 1) (s9 = 4294967295 ∨ (s9 < ln ∧ en s9 = 100)) := fun q => Or.inr ⟨by omega, (hop (okf.of (by first | assumption | omega) q)).1⟩
  refine lv_aload_n hx hb d_Reader_loop_24 rfl (lv_at hl1 0 rfl) ?_
  refine va_get (D := D) (ci := 7) (v := .ref g0) (C := R_Reader) (T := F_Reader) (N := 5) hx hb hts i_Reader hown hK.1 hP 12 rfl rfl 1 (by decide) (hts _ wd_76) (fun _ h9 => h9) rfl d_Reader_loop_25 ?_
  refine va_get (D := D) (ci := 2) (v := .ref g7) (C := R_Listing) (T := F_Listing) (N := 17) hx hb hts i_Listing hown hK.1 hP 0 rfl rfl 7 (by decide) (hts _ wd_291) (fun _ h9 => h9) rfl d_Reader_loop_28 ?_
  refine lv_iload_n hx hb d_Reader_loop_31 rfl (lv_at hl1 1 rfl) ?_
  refine lv_aload_n hx hb d_Reader_loop_32 rfl (lv_at hl1 0 rfl) ?_
  refine lv_iconst (v := 1) hx hb d_Reader_loop_33 (by decide) ?_
  obtain ⟨hPc, hDc, hFc, hCs⟩ := xw_sub3 (wc := [(r0, .inr (7, [.ref k0, (.ref g0), .ref n0, .int (nI 0), .int (nI (u_1 9))])), (k0, .inr (9, [.ref k1, .ref k2, .int (nI ts), .int (nI th), .int (nI (u_35 0)), .int (nI (u_35 1)), .int (nI (u_35 2)), .int (nI (u_35 3))])), (k1, .inl (ax 1, 400, .inl tb)), (k2, .inl (ax 0, 401, .inl (fun j => nI (tk j)))), (n0, .inr (4, [.ref (u_1 4), .ref (u_1 5), .ref (u_1 6), .int (nI (u_1 7))])), ((u_1 4), .inl (ax 1, u_1 8, .inl x_19)), ((u_1 5), .inl (ax 0, u_1 8, .inl x_20)), ((u_1 6), .inl (ax 0, u_1 8, .inl x_21))]) hP hD hS hA [12, 17, 18, 19, 13, 14, 15, 16] (by decide) rfl
  have hz := xz_of hN hS
  refine wk_know (fun hk8 hk9 => ?_)
  refine va_calli (va_runV (As := [.int 1]) (rest := [.int (nI s9), .ref g7]) ⟨hx, hb, hml, hown, hts⟩ (c_R_condition l D ax r0 k0 k1 k2 (.ref g0) tb tk (u_35 0) (u_35 1) (u_35 2) (u_35 3) cn ts th 0 (u_1 9) 1 n0 (u_1 4) (u_1 5) (u_1 6) (u_1 8) (u_1 7) x_19 x_20 x_21 MX (L0 ++ x_22) H_36.size (tsl H_36) hkz (by assumption) (by first | assumption | omega) (by first | assumption | omega) (by first | assumption | omega) (by first | assumption | omega) (by first | assumption | omega) (by first | assumption | omega) (by first | assumption | omega) (by first | assumption | omega) (by first | assumption | omega) (by assumption) (by assumption) (by first | assumption | exact okf.nl (by assumption))) (xcV (n := 1) hts wd_539 wd_3 wd_536 wd_538 ps_7 rfl rfl (by decide +kernel) ⟨(show (160) + 1 ≤ (210 + 20 * kf) by omega), (show 8 + (2 + 11) + (6400) ≤ (8200 + 800 * kf) by omega)⟩) (xpV3 (ci := 7) (q0 := 0) (As := [.int 1]) hPc hK hz hDc rfl rfl) rfl rfl hl1.1 rfl (lv_room (Nat.le_of_ble_eq_true rfl)) d_Reader_loop_34 ⟨(show (u_1 8 - cp) + (MX - (u_1 8)) ≤ (MX - cp) by omega), (show (6 * (u_1 8 - cp)) + (6 * (MX - (u_1 8))) ≤ (6 * (MX - cp)) by omega)⟩) hS (fun q _ h => hFc q h) hFc (fun r_53 u_51 t H_52 locs ht hvm hw hB hz1 hk1 hS1 => ?_)
  try dsimp only at hw
  obtain ⟨hw, hs_54, hs_55, hs_56, hs_57, hs_58, hs_59, hs_60, hs_61, hs_62, hs_63, hs_64, hs_65, hs_66, hs_67, hs_68⟩ := hw
  subst hw
  obtain ⟨x_69, x_70, x_71, x_72, hg8, hg9, hx_73, hx_74, hx_75, hx_76, hx_77, hx_78, hP1, hD1⟩ := hB
  rw [ht] at hg8 hg9 hP1
  have hjn := xw_join3 (wl := [(g0, .inr (2, [.ref n0, .ref g1, .ref g2, .ref g3, .ref g4, .ref g5, .ref g6, .ref g7, .ref g8, .ref g9, .ref ga, .ref gb, .int (nI cl), .int (nI ln), .int (nI br), .int (nI lp), .int (nI va)])), (g1, .inl (ax 1, 20, .inl (fun j => nI (kd j)))), (g2, .inl (ax 1, 20, .inl (fun j => nI (ow j)))), (g3, .inl (ax 1, 20, .inl (fun j => nI (sb j)))), (g4, .inl (ax 1, 20, .inl (fun j => nI (f1 j)))), (g5, .inl (ax 1, 20, .inl (fun j => nI (f2 j)))), (g6, .inl (ax 2, 20, .inl (fun j => nI (sup te s9 (u_1 10) j)))), (g7, .inl (ax 2, 20, .inl (fun j => nI (kp j)))), (g8, .inl (ax 0, 20, .inl tm)), (g9, .inl (ax 1, 20, .inl (fun j => nI (nm j)))), (ga, .inl (ax 1, 29, .inl (fun j => nI (ck j)))), (gb, .inl (ax 1, 29, .inl (fun j => nI (co j)))), (r0, .inr (7, [.ref k0, .ref g0, .ref n0, .int (nI 1), .int (nI (u_51 9))])), (k0, .inr (9, [.ref k1, .ref k2, .int (nI ts), .int (nI th), .int (nI (u_51 0)), .int (nI (u_51 1)), .int (nI (u_51 2)), .int (nI (u_51 3))])), (k1, .inl (ax 1, 400, .inl tb)), (k2, .inl (ax 0, 401, .inl (fun j => nI (tk j)))), (n0, .inr (4, [.ref (u_51 4), .ref (u_51 5), .ref (u_51 6), .int (nI (u_51 7))])), ((u_51 4), .inl (ax 1, u_51 8, .inl x_69)), ((u_51 5), .inl (ax 0, u_51 8, .inl x_70)), ((u_51 6), .inl (ax 0, u_51 8, .inl x_71))]) hP hD [12, 17, 18, 19, 13, 14, 15, 16] [0, 1, 2, 3, 4, 5, 6, 7, 8, 9, 10, 11] hCs (by decide) (by decide) hk1 hFc hP1 hD1 rfl
  clear hP1 hD1
  clear hPc hDc hFc hCs hz hz1 hk1 ht hvm
  clear hP hD hS
  have hS := hS1
  obtain ⟨hP, hD⟩ := hjn
  clear hS1
  refine wk_narrow (k := u_1 8 - cp + (u_51 8 - (u_1 8))) (n := 6 * (u_1 8 - cp) + (6 * (u_51 8 - (u_1 8)))) (by first | assumption | omega) (by first | assumption | omega) ?_
  clear hk8 hk9 hg8 hg9
  have hfl_79 := ftf_le (u_51 1)
  have hG_81 : okf (u_51 1) (cmpl 18 x_72 ∧ nbl 1023 x_72) := fun q => (hx_78.2 (okf.of hs_59 q)).2 q
  have hQ_80 : okf (u_51 1) (nlq x_69 x_70 x_71 (u_51 7) ((L0 ++ x_22) ++ x_72)) := fun q => by have h9 := hx_77 q; rw [h9.2]; exact (hQ_49 (okf.of hs_59 q)).app h9.1 (hG_81 q).1 (hG_81 q).2
  refine lv_i2s (v := nI (u_51 10)) hx hb d_Reader_loop_37 (nb_i2ss hs_68) ?_
  refine va_sast hx hb hK.1 hP hD hS 7 2 rfl rfl (vp_in_nI (by first | assumption | omega) (by decide)) d_Reader_loop_38 (fun H_82 locs hP1 hD1 hS1 => ?_)
  rw [nI_clamp (by first | exact Nat.lt_of_lt_of_le (by assumption) (by decide) | exact Nat.lt_of_le_of_lt (by assumption) (by decide) | omega)] at hP1 hD1
  rw [xf_supss kp s9 (u_51 10) hs_68] at hP1 hD1
  clear hP hD hS
  have hS := hS1
  have hW7 : (fun w9 : va_W => va_P D classes w9 H_82 ∧ va_D A w9) [(g0, .inr (2, [.ref n0, .ref g1, .ref g2, .ref g3, .ref g4, .ref g5, .ref g6, .ref g7, .ref g8, .ref g9, .ref ga, .ref gb, .int (nI cl), .int (nI ln), .int (nI br), .int (nI lp), .int (nI va)])), (g1, .inl (ax 1, 20, .inl (fun j => nI (kd j)))), (g2, .inl (ax 1, 20, .inl (fun j => nI (ow j)))), (g3, .inl (ax 1, 20, .inl (fun j => nI (sb j)))), (g4, .inl (ax 1, 20, .inl (fun j => nI (f1 j)))), (g5, .inl (ax 1, 20, .inl (fun j => nI (f2 j)))), (g6, .inl (ax 2, 20, .inl (fun j => nI (sup te s9 (u_1 10) j)))), (g7, .inl (ax 2, 20, .inl (fun j => nI (sup kp s9 (u_51 10) j)))), (g8, .inl (ax 0, 20, .inl tm)), (g9, .inl (ax 1, 20, .inl (fun j => nI (nm j)))), (ga, .inl (ax 1, 29, .inl (fun j => nI (ck j)))), (gb, .inl (ax 1, 29, .inl (fun j => nI (co j)))), (r0, .inr (7, [.ref k0, .ref g0, .ref n0, .int (nI 1), .int (nI (u_51 9))])), (k0, .inr (9, [.ref k1, .ref k2, .int (nI ts), .int (nI th), .int (nI (u_51 0)), .int (nI (u_51 1)), .int (nI (u_51 2)), .int (nI (u_51 3))])), (k1, .inl (ax 1, 400, .inl tb)), (k2, .inl (ax 0, 401, .inl (fun j => nI (tk j)))), (n0, .inr (4, [.ref (u_51 4), .ref (u_51 5), .ref (u_51 6), .int (nI (u_51 7))])), ((u_51 4), .inl (ax 1, u_51 8, .inl x_69)), ((u_51 5), .inl (ax 0, u_51 8, .inl x_70)), ((u_51 6), .inl (ax 0, u_51 8, .inl x_71))] := ⟨hP1, hD1⟩
  obtain ⟨hP, hD⟩ := hW7
  clear hP1 hD1 hS1
  have hL_83 : okf (u_51 1) (lst ln (u_51 7) kd ow sb f1 f2 (sup te s9 (u_1 10)) (sup kp s9 (u_51 10)) nm en (sup (sup kc s9 (kc s9 + (u_1 7 - z9))) s9 ((sup kc s9 (kc s9 + (u_1 7 - z9))) s9 + (u_51 7 - u_1 7))) tm x_69 x_70 x_71) := (fun q => (hL_46 (okf.of hs_59 q)).read (by first | assumption | omega) (hx_76 q) (by first | assumption | omega) (hop (okf.of (by first | assumption | omega) q)).1 (Nat.le_refl _) (fun i hi => rfl) (fun i hi => rfl) (fun i hi => rfl) (fun i hi => sup_ne hi) (fun i hi => rfl) (fun i hi => rfl))
  have hC_84 : okf (u_51 1) (clm br cl ck co ln kd nm) := (fun q => hC_47 (okf.of hs_59 q))
  refine lv_aload_n hx hb d_Reader_loop_39 rfl (lv_at hl1 0 rfl) ?_
  refine va_get (D := D) (ci := 7) (v := .ref g0) (C := R_Reader) (T := F_Reader) (N := 5) hx hb hts i_Reader hown hK.1 hP 12 rfl rfl 1 (by decide) (hts _ wd_76) (fun _ h9 => h9) rfl d_Reader_loop_40 ?_
  refine lv_iconst (v := 1) hx hb d_Reader_loop_43 (by decide) ?_
  refine lv_iload_n hx hb d_Reader_loop_44 rfl (lv_at hl1 1 rfl) ?_
  obtain ⟨hPc, hDc, hFc, hCs⟩ := xw_sub3 (wc := [(g0, .inr (2, [.ref n0, .ref g1, .ref g2, .ref g3, .ref g4, .ref g5, .ref g6, .ref g7, .ref g8, .ref g9, .ref ga, .ref gb, .int (nI cl), .int (nI ln), .int (nI br), .int (nI lp), .int (nI va)])), (g1, .inl (ax 1, 20, .inl (fun j => nI (kd j)))), (g2, .inl (ax 1, 20, .inl (fun j => nI (ow j)))), (g3, .inl (ax 1, 20, .inl (fun j => nI (sb j)))), (g4, .inl (ax 1, 20, .inl (fun j => nI (f1 j)))), (g5, .inl (ax 1, 20, .inl (fun j => nI (f2 j)))), (g6, .inl (ax 2, 20, .inl (fun j => nI ((sup te s9 (u_1 10)) j)))), (g7, .inl (ax 2, 20, .inl (fun j => nI ((sup kp s9 (u_51 10)) j)))), (g8, .inl (ax 0, 20, .inl tm)), (g9, .inl (ax 1, 20, .inl (fun j => nI (nm j)))), (ga, .inl (ax 1, 29, .inl (fun j => nI (ck j)))), (gb, .inl (ax 1, 29, .inl (fun j => nI (co j))))]) hP hD hS hA [0, 1, 2, 3, 4, 5, 6, 7, 8, 9, 10, 11] (by decide) rfl
  have hz := xz_of hN hS
  refine va_callv (va_runV (As := [.int 1, .int (nI s9)]) (rest := []) ⟨hx, hb, hml, hown, hts⟩ (c_L_addClaim l D ax g0 g1 g2 g3 g4 g5 g6 g7 g8 g9 ga gb cl ln br lp va kd ow sb f1 f2 (sup te s9 (u_1 10)) (sup kp s9 (u_51 10)) nm ck co tm n0 1 s9 H_82.size (by first | assumption | omega) (by assumption) (by first | assumption | omega)) (xcV (n := 2) hts wd_613 wd_12 wd_642 wd_611 wd_612 rfl rfl (by decide +kernel) ⟨(show (10) + 1 ≤ (210 + 20 * kf) by omega), (show 8 + (3 + 11) + (400) ≤ (8200 + 800 * kf) by omega)⟩) (xpV (ci := 2) (q0 := 0) (As := [.int 1, .int (nI s9)]) hPc hK hz hDc rfl rfl) rfl rfl hl1.1 rfl (lv_room (Nat.le_of_ble_eq_true rfl)) d_Reader_loop_45 ⟨(show (u_1 8 - cp + (u_51 8 - (u_1 8))) + (0) ≤ (MX - cp) by omega), (show (6 * (u_1 8 - cp) + (6 * (u_51 8 - (u_1 8)))) + (0) ≤ (6 * (MX - cp)) by omega)⟩) hS (fun q _ h => hFc q h) hFc (fun u_85 t H_86 locs ht hvm hw hB hz1 hk1 hS1 => ?_)
  try dsimp only at hw
  obtain ⟨hs_88, hs_89⟩ := hw
  obtain ⟨x_90, x_91, hx_92, hP1, hD1⟩ := hB
  rw [ht] at hP1
  have hjn := xw_join3 (wl := [(r0, .inr (7, [.ref k0, .ref g0, .ref n0, .int (nI 1), .int (nI (u_51 9))])), (k0, .inr (9, [.ref k1, .ref k2, .int (nI ts), .int (nI th), .int (nI (u_51 0)), .int (nI (u_51 1)), .int (nI (u_51 2)), .int (nI (u_51 3))])), (k1, .inl (ax 1, 400, .inl tb)), (k2, .inl (ax 0, 401, .inl (fun j => nI (tk j)))), (n0, .inr (4, [.ref (u_51 4), .ref (u_51 5), .ref (u_51 6), .int (nI (u_51 7))])), ((u_51 4), .inl (ax 1, u_51 8, .inl x_69)), ((u_51 5), .inl (ax 0, u_51 8, .inl x_70)), ((u_51 6), .inl (ax 0, u_51 8, .inl x_71)), (g0, .inr (2, [.ref n0, .ref g1, .ref g2, .ref g3, .ref g4, .ref g5, .ref g6, .ref g7, .ref g8, .ref g9, .ref ga, .ref gb, .int (nI (u_85 0)), .int (nI ln), .int (nI br), .int (nI lp), .int (nI va)])), (g1, .inl (ax 1, 20, .inl (fun j => nI (kd j)))), (g2, .inl (ax 1, 20, .inl (fun j => nI (ow j)))), (g3, .inl (ax 1, 20, .inl (fun j => nI (sb j)))), (g4, .inl (ax 1, 20, .inl (fun j => nI (f1 j)))), (g5, .inl (ax 1, 20, .inl (fun j => nI (f2 j)))), (g6, .inl (ax 2, 20, .inl (fun j => nI ((sup te s9 (u_1 10)) j)))), (g7, .inl (ax 2, 20, .inl (fun j => nI ((sup kp s9 (u_51 10)) j)))), (g8, .inl (ax 0, 20, .inl tm)), (g9, .inl (ax 1, 20, .inl (fun j => nI (nm j)))), (ga, .inl (ax 1, 29, .inl (fun j => nI (x_90 j)))), (gb, .inl (ax 1, 29, .inl (fun j => nI (x_91 j))))]) hP hD [0, 1, 2, 3, 4, 5, 6, 7, 8, 9, 10, 11] [12, 13, 14, 15, 16, 17, 18, 19] hCs (by decide) (by decide) hk1 hFc hP1 hD1 rfl
  clear hP1 hD1
  clear hPc hDc hFc hCs hz hz1 hk1 ht hvm
  clear hP hD hS
  have hS := hS1
  obtain ⟨hP, hD⟩ := hjn
  clear hS1
  have hK_93 : okf (u_51 1) (cll x_90 x_91 (u_85 0) = (0, 0) :: cln pl ++ [(1, s9 + 1)]) := fun q => cll_add (hcq (okf.of (by first | assumption | omega) q)) hx_92 (by first | assumption | omega) (by first | assumption | omega)
  have hC_94 : okf (u_51 1) (clm br (u_85 0) x_90 x_91 ln kd nm) := (fun q => (hC_84 q).one hx_92 (by first | assumption | omega) (Or.inr (Or.inl ⟨Or.inl rfl, (hop (okf.of (by first | assumption | omega) q)).2.1⟩)))
  clear hx_92
  refine lv_aload_n hx hb d_Reader_loop_48 rfl (lv_at hl1 0 rfl) ?_
  refine va_get (D := D) (ci := 7) (v := .ref g0) (C := R_Reader) (T := F_Reader) (N := 5) hx hb hts i_Reader hown hK.1 hP 0 rfl rfl 1 (by decide) (hts _ wd_76) (fun _ h9 => h9) rfl d_Reader_loop_49 ?_
  refine lv_iconst (v := 2) hx hb d_Reader_loop_52 (by decide) ?_
  refine lv_iload_n hx hb d_Reader_loop_53 rfl (lv_at hl1 1 rfl) ?_
  obtain ⟨hPc, hDc, hFc, hCs⟩ := xw_sub3 (wc := [(g0, .inr (2, [.ref n0, .ref g1, .ref g2, .ref g3, .ref g4, .ref g5, .ref g6, .ref g7, .ref g8, .ref g9, .ref ga, .ref gb, .int (nI (u_85 0)), .int (nI ln), .int (nI br), .int (nI lp), .int (nI va)])), (g1, .inl (ax 1, 20, .inl (fun j => nI (kd j)))), (g2, .inl (ax 1, 20, .inl (fun j => nI (ow j)))), (g3, .inl (ax 1, 20, .inl (fun j => nI (sb j)))), (g4, .inl (ax 1, 20, .inl (fun j => nI (f1 j)))), (g5, .inl (ax 1, 20, .inl (fun j => nI (f2 j)))), (g6, .inl (ax 2, 20, .inl (fun j => nI ((sup te s9 (u_1 10)) j)))), (g7, .inl (ax 2, 20, .inl (fun j => nI ((sup kp s9 (u_51 10)) j)))), (g8, .inl (ax 0, 20, .inl tm)), (g9, .inl (ax 1, 20, .inl (fun j => nI (nm j)))), (ga, .inl (ax 1, 29, .inl (fun j => nI (x_90 j)))), (gb, .inl (ax 1, 29, .inl (fun j => nI (x_91 j))))]) hP hD hS hA [8, 9, 10, 11, 12, 13, 14, 15, 16, 17, 18, 19] (by decide) rfl
  have hz := xz_of hN hS
  refine va_callv (va_runV (As := [.int 2, .int (nI s9)]) (rest := []) ⟨hx, hb, hml, hown, hts⟩ (c_L_addClaim l D ax g0 g1 g2 g3 g4 g5 g6 g7 g8 g9 ga gb (u_85 0) ln br lp va kd ow sb f1 f2 (sup te s9 (u_1 10)) (sup kp s9 (u_51 10)) nm x_90 x_91 tm n0 2 s9 H_86.size (by first | assumption | omega) (by assumption) (by first | assumption | omega)) (xcV (n := 2) hts wd_613 wd_12 wd_642 wd_611 wd_612 rfl rfl (by decide +kernel) ⟨(show (10) + 1 ≤ (210 + 20 * kf) by omega), (show 8 + (3 + 11) + (400) ≤ (8200 + 800 * kf) by omega)⟩) (xpV (ci := 2) (q0 := 0) (As := [.int 2, .int (nI s9)]) hPc hK hz hDc rfl rfl) rfl rfl hl1.1 rfl (lv_room (Nat.le_of_ble_eq_true rfl)) d_Reader_loop_54 ⟨(show (u_1 8 - cp + (u_51 8 - (u_1 8))) + (0) ≤ (MX - cp) by omega), (show (6 * (u_1 8 - cp) + (6 * (u_51 8 - (u_1 8)))) + (0) ≤ (6 * (MX - cp)) by omega)⟩) hS (fun q _ h => hFc q h) hFc (fun u_95 t H_96 locs ht hvm hw hB hz1 hk1 hS1 => ?_)
  try dsimp only at hw
  obtain ⟨hs_98, hs_99⟩ := hw
  obtain ⟨x_100, x_101, hx_102, hP1, hD1⟩ := hB
  rw [ht] at hP1
  have hjn := xw_join3 (wl := [(r0, .inr (7, [.ref k0, .ref g0, .ref n0, .int (nI 1), .int (nI (u_51 9))])), (k0, .inr (9, [.ref k1, .ref k2, .int (nI ts), .int (nI th), .int (nI (u_51 0)), .int (nI (u_51 1)), .int (nI (u_51 2)), .int (nI (u_51 3))])), (k1, .inl (ax 1, 400, .inl tb)), (k2, .inl (ax 0, 401, .inl (fun j => nI (tk j)))), (n0, .inr (4, [.ref (u_51 4), .ref (u_51 5), .ref (u_51 6), .int (nI (u_51 7))])), ((u_51 4), .inl (ax 1, u_51 8, .inl x_69)), ((u_51 5), .inl (ax 0, u_51 8, .inl x_70)), ((u_51 6), .inl (ax 0, u_51 8, .inl x_71)), (g0, .inr (2, [.ref n0, .ref g1, .ref g2, .ref g3, .ref g4, .ref g5, .ref g6, .ref g7, .ref g8, .ref g9, .ref ga, .ref gb, .int (nI (u_95 0)), .int (nI ln), .int (nI br), .int (nI lp), .int (nI va)])), (g1, .inl (ax 1, 20, .inl (fun j => nI (kd j)))), (g2, .inl (ax 1, 20, .inl (fun j => nI (ow j)))), (g3, .inl (ax 1, 20, .inl (fun j => nI (sb j)))), (g4, .inl (ax 1, 20, .inl (fun j => nI (f1 j)))), (g5, .inl (ax 1, 20, .inl (fun j => nI (f2 j)))), (g6, .inl (ax 2, 20, .inl (fun j => nI ((sup te s9 (u_1 10)) j)))), (g7, .inl (ax 2, 20, .inl (fun j => nI ((sup kp s9 (u_51 10)) j)))), (g8, .inl (ax 0, 20, .inl tm)), (g9, .inl (ax 1, 20, .inl (fun j => nI (nm j)))), (ga, .inl (ax 1, 29, .inl (fun j => nI (x_100 j)))), (gb, .inl (ax 1, 29, .inl (fun j => nI (x_101 j))))]) hP hD [8, 9, 10, 11, 12, 13, 14, 15, 16, 17, 18, 19] [0, 1, 2, 3, 4, 5, 6, 7] hCs (by decide) (by decide) hk1 hFc hP1 hD1 rfl
  clear hP1 hD1
  clear hPc hDc hFc hCs hz hz1 hk1 ht hvm
  clear hP hD hS
  have hS := hS1
  obtain ⟨hP, hD⟩ := hjn
  clear hS1
  have hK_103 : okf (u_51 1) (cll x_100 x_101 (u_95 0) = (0, 0) :: cln pl ++ [(1, s9 + 1)] ++ [(2, s9 + 1)]) := fun q => cll_add (hK_93 (okf.of (by first | assumption | omega) q)) hx_102 (by first | assumption | omega) (by first | assumption | omega)
  have hC_104 : okf (u_51 1) (clm br (u_95 0) x_100 x_101 ln kd nm) := (fun q => (hC_94 q).one hx_102 (by first | assumption | omega) (Or.inr (Or.inl ⟨Or.inr rfl, (hop (okf.of (by first | assumption | omega) q)).2.1⟩)))
  clear hx_102
  refine lv_aload_n hx hb d_Reader_loop_57 rfl (lv_at hl1 0 rfl) ?_
  refine va_get (D := D) (ci := 7) (v := .ref k0) (C := R_Reader) (T := F_Reader) (N := 5) hx hb hts i_Reader hown hK.1 hP 0 rfl rfl 0 (by decide) (hts _ wd_75) (fun _ h9 => h9) rfl d_Reader_loop_58 ?_
  refine va_get (D := D) (ci := 9) (v := .int (nI (u_51 2))) (C := R_Tokens) (T := F_Tokens) (N := 8) hx hb hts i_Tokens hown hK.1 hP 1 rfl rfl 6 (by decide) (hts _ wd_47) (fun _ h9 => h9) rfl d_Reader_loop_61 ?_
  refine lv_bipush (v := 14) hx hb d_Reader_loop_64 (by decide) ?_
  refine lv_icmp_ne (tgt := 98) hx hb d_Reader_loop_66 (by decide) (fun c_105 => ?_) (fun c_105 => ?_)
  · replace c_105 : ¬ u_51 2 = 14 := fun hq9 => c_105 ((nI_eq (a := u_51 2) (b := 14) (by first | exact Nat.lt_of_lt_of_le (by assumption) (by decide) | exact Nat.lt_of_le_of_lt (by assumption) (by decide) | omega) (by decide)).mpr hq9)
    refine lv_aload_n hx hb d_Reader_loop_98 rfl (lv_at hl1 0 rfl) ?_
    refine va_get (D := D) (ci := 7) (v := .ref k0) (C := R_Reader) (T := F_Reader) (N := 5) hx hb hts i_Reader hown hK.1 hP 0 rfl rfl 0 (by decide) (hts _ wd_75) (fun _ h9 => h9) rfl d_Reader_loop_99 ?_
    refine lv_bipush (v := 15) hx hb d_Reader_loop_102 (by decide) ?_
    obtain ⟨hPc, hDc, hFc, hCs⟩ := xw_sub3 (wc := [(k0, .inr (9, [.ref k1, .ref k2, .int (nI ts), .int (nI th), .int (nI (u_51 0)), .int (nI (u_51 1)), .int (nI (u_51 2)), .int (nI (u_51 3))])), (k1, .inl (ax 1, 400, .inl tb)), (k2, .inl (ax 0, 401, .inl (fun j => nI (tk j))))]) hP hD hS hA [1, 2, 3] (by decide) rfl
    have hz := xz_of hN hS
    refine va_callv (va_runV (As := [.int 15]) (rest := []) ⟨hx, hb, hml, hown, hts⟩ (c_K_need l D ax k0 k1 k2 tb tk (u_51 0) (u_51 1) (u_51 2) (u_51 3) cn ts th 15 H_96.size hkz (by assumption) (by first | assumption | omega) (by first | assumption | omega) (by first | assumption | omega) (by first | assumption | omega) (by first | assumption | omega)) (xcV (n := 1) hts wd_571 wd_2 wd_568 wd_569 wd_570 rfl rfl (by decide +kernel) ⟨(show (20) + 1 ≤ (210 + 20 * kf) by omega), (show 8 + (2 + 11) + (800) ≤ (8200 + 800 * kf) by omega)⟩) (xpV (ci := 9) (q0 := 0) (As := [.int 15]) hPc hK hz hDc rfl rfl) rfl rfl hl1.1 rfl (lv_room (Nat.le_of_ble_eq_true rfl)) d_Reader_loop_104 ⟨(show (u_1 8 - cp + (u_51 8 - (u_1 8))) + (0) ≤ (MX - cp) by omega), (show (6 * (u_1 8 - cp) + (6 * (u_51 8 - (u_1 8)))) + (0) ≤ (6 * (MX - cp)) by omega)⟩) hS (fun q _ h => hFc q h) hFc (fun u_106 t H_107 locs ht hvm hw hB hz1 hk1 hS1 => ?_)
    try dsimp only at hw
    obtain ⟨hs_109, hs_110, hs_111, hs_112, hs_113, hs_114, hs_115, hs_116⟩ := hw
    obtain ⟨hP1, hD1⟩ := hB
    rw [ht] at hP1
    have hjn := xw_join3 (wl := [(r0, .inr (7, [.ref k0, .ref g0, .ref n0, .int (nI 1), .int (nI (u_51 9))])), (n0, .inr (4, [.ref (u_51 4), .ref (u_51 5), .ref (u_51 6), .int (nI (u_51 7))])), ((u_51 4), .inl (ax 1, u_51 8, .inl x_69)), ((u_51 5), .inl (ax 0, u_51 8, .inl x_70)), ((u_51 6), .inl (ax 0, u_51 8, .inl x_71)), (g0, .inr (2, [.ref n0, .ref g1, .ref g2, .ref g3, .ref g4, .ref g5, .ref g6, .ref g7, .ref g8, .ref g9, .ref ga, .ref gb, .int (nI (u_95 0)), .int (nI ln), .int (nI br), .int (nI lp), .int (nI va)])), (g1, .inl (ax 1, 20, .inl (fun j => nI (kd j)))), (g2, .inl (ax 1, 20, .inl (fun j => nI (ow j)))), (g3, .inl (ax 1, 20, .inl (fun j => nI (sb j)))), (g4, .inl (ax 1, 20, .inl (fun j => nI (f1 j)))), (g5, .inl (ax 1, 20, .inl (fun j => nI (f2 j)))), (g6, .inl (ax 2, 20, .inl (fun j => nI ((sup te s9 (u_1 10)) j)))), (g7, .inl (ax 2, 20, .inl (fun j => nI ((sup kp s9 (u_51 10)) j)))), (g8, .inl (ax 0, 20, .inl tm)), (g9, .inl (ax 1, 20, .inl (fun j => nI (nm j)))), (ga, .inl (ax 1, 29, .inl (fun j => nI (x_100 j)))), (gb, .inl (ax 1, 29, .inl (fun j => nI (x_101 j)))), (k0, .inr (9, [.ref k1, .ref k2, .int (nI ts), .int (nI th), .int (nI (u_106 0)), .int (nI (u_106 1)), .int (nI (u_106 2)), .int (nI (u_106 3))])), (k1, .inl (ax 1, 400, .inl tb)), (k2, .inl (ax 0, 401, .inl (fun j => nI (tk j))))]) hP hD [1, 2, 3] [0, 4, 5, 6, 7, 8, 9, 10, 11, 12, 13, 14, 15, 16, 17, 18, 19] hCs (by decide) (by decide) hk1 hFc hP1 hD1 rfl
    clear hP1 hD1
    clear hPc hDc hFc hCs hz hz1 hk1 ht hvm
    clear hP hD hS
    have hS := hS1
    obtain ⟨hP, hD⟩ := hjn
    clear hS1
    have hL_117 : okf (u_106 1) (lst ln (u_51 7) kd ow sb f1 f2 (sup te s9 (u_1 10)) (sup kp s9 (u_51 10)) nm en (sup (sup kc s9 (kc s9 + (u_1 7 - z9))) s9 ((sup kc s9 (kc s9 + (u_1 7 - z9))) s9 + (u_51 7 - u_1 7))) tm x_69 x_70 x_71) := hL_83.back hs_114
    have hC_118 : okf (u_106 1) (clm br (u_95 0) x_100 x_101 ln kd nm) := hC_104.back hs_114
    have hN_119 : okf (u_106 1) (ndv x_69 x_70 x_71 (u_51 7)) := hx_73.back hs_114
    have hQ_120 : okf (u_106 1) (nlq x_69 x_70 x_71 (u_51 7) ((L0 ++ x_22) ++ x_72)) := hQ_80.back hs_114
    have hO_121 : okf (u_106 1) (s9 = 4294967295 ∨ (s9 < ln ∧ en s9 = 100)) := fun q => Or.inr ⟨by omega, (hop (okf.of (by first | assumption | omega) q)).1⟩
    refine lv_aload_n hx hb d_Reader_loop_107 rfl (lv_at hl1 0 rfl) ?_
    refine va_get (D := D) (ci := 7) (v := .ref g0) (C := R_Reader) (T := F_Reader) (N := 5) hx hb hts i_Reader hown hK.1 hP 0 rfl rfl 1 (by decide) (hts _ wd_76) (fun _ h9 => h9) rfl d_Reader_loop_108 ?_
    refine va_get (D := D) (ci := 2) (v := .ref g4) (C := R_Listing) (T := F_Listing) (N := 17) hx hb hts i_Listing hown hK.1 hP 5 rfl rfl 4 (by decide) (hts _ wd_280) (fun _ h9 => h9) rfl d_Reader_loop_111 ?_
    refine lv_iload_n hx hb d_Reader_loop_114 rfl (lv_at hl1 1 rfl) ?_
    have hK_123 : okf (u_106 1) (cll x_100 x_101 (u_95 0) = (0, 0) :: cln (pl ++ [(5, ln, wgh 0 pl, (0, 0), x_22, x_72)])) := fun q => cq_5 (by rw [show ln = s9 + 1 by omega]; exact (hK_103 (okf.of (by first | assumption | omega) q))) (by rw [wgh_0]; decide)
    have hV_122 : okf (u_106 1) (va = vct (pl ++ [(5, ln, wgh 0 pl, (0, 0), x_22, x_72)])) := fun q => by rw [vct_app, vct_x (fun h => by have h8 : 6 ≤ wgh 0 pl := h.2; rw [wgh_0] at h8; omega)]; exact hvc (okf.of (by first | assumption | omega) q)
    refine lv_aload_n hx hb d_Reader_loop_115 rfl (lv_at hl1 0 rfl) ?_
    refine lv_iload_n hx hb d_Reader_loop_116 rfl (lv_at hl1 1 rfl) ?_
    obtain ⟨hPc, hDc, hFc, hCs⟩ := xw_sub3 (wc := [(r0, .inr (7, [.ref k0, .ref g0, .ref n0, .int (nI 1), .int (nI (u_51 9))])), (k0, .inr (9, [.ref k1, .ref k2, .int (nI ts), .int (nI th), .int (nI (u_106 0)), .int (nI (u_106 1)), .int (nI (u_106 2)), .int (nI (u_106 3))])), (k1, .inl (ax 1, 400, .inl tb)), (k2, .inl (ax 0, 401, .inl (fun j => nI (tk j)))), (n0, .inr (4, [.ref (u_51 4), .ref (u_51 5), .ref (u_51 6), .int (nI (u_51 7))])), ((u_51 4), .inl (ax 1, u_51 8, .inl x_69)), ((u_51 5), .inl (ax 0, u_51 8, .inl x_70)), ((u_51 6), .inl (ax 0, u_51 8, .inl x_71)), (g0, .inr (2, [.ref n0, .ref g1, .ref g2, .ref g3, .ref g4, .ref g5, .ref g6, .ref g7, .ref g8, .ref g9, .ref ga, .ref gb, .int (nI (u_95 0)), .int (nI ln), .int (nI br), .int (nI lp), .int (nI va)])), (g1, .inl (ax 1, 20, .inl (fun j => nI (kd j)))), (g2, .inl (ax 1, 20, .inl (fun j => nI (ow j)))), (g3, .inl (ax 1, 20, .inl (fun j => nI (sb j)))), (g4, .inl (ax 1, 20, .inl (fun j => nI (f1 j)))), (g5, .inl (ax 1, 20, .inl (fun j => nI (f2 j)))), (g6, .inl (ax 2, 20, .inl (fun j => nI ((sup te s9 (u_1 10)) j)))), (g7, .inl (ax 2, 20, .inl (fun j => nI ((sup kp s9 (u_51 10)) j)))), (g8, .inl (ax 0, 20, .inl tm)), (g9, .inl (ax 1, 20, .inl (fun j => nI (nm j)))), (ga, .inl (ax 1, 29, .inl (fun j => nI (x_100 j)))), (gb, .inl (ax 1, 29, .inl (fun j => nI (x_101 j))))]) hP hD hS hA [0, 17, 18, 19, 1, 2, 3, 4, 5, 6, 7, 8, 9, 10, 11, 12, 13, 14, 15, 16] (by decide) rfl
    have hz := xz_of hN hS
    refine wk_know (fun hk8 hk9 => ?_)
    refine va_calli (va_runV (As := [.int (nI s9)]) (rest := [.int (nI s9), .ref g4]) ⟨hx, hb, hml, hown, hts⟩ (c_R_statements l kf hst D ax r0 k0 k1 k2 tb tk (u_106 0) (u_106 1) (u_106 2) (u_106 3) cn ts th 1 (u_51 9) n0 (u_51 4) (u_51 5) (u_51 6) (u_51 8) (u_51 7) x_69 x_70 x_71 g0 g1 g2 g3 g4 g5 g6 g7 g8 g9 ga gb (u_95 0) ln br lp va kd ow sb f1 f2 (sup te s9 (u_1 10)) (sup kp s9 (u_51 10)) nm x_100 x_101 tm MX en (sup (sup kc s9 (kc s9 + (u_1 7 - z9))) s9 ((sup kc s9 (kc s9 + (u_1 7 - z9))) s9 + (u_51 7 - u_1 7))) ((5, ln, wgh 0 pl, (0, 0), x_22, x_72) :: sg) (pl ++ [(5, ln, wgh 0 pl, (0, 0), x_22, x_72)]) ((L0 ++ x_22) ++ x_72) s9 H_107.size (tsl H_107) hkz (by assumption) (by first | assumption | omega) (by first | assumption | omega) (by first | assumption | omega) (by first | assumption | omega) (by first | assumption | omega) (by first | assumption | omega) (by first | assumption | omega) (by first | assumption | omega) (by assumption) (by assumption) (by first | assumption | omega) (by first | assumption | omega) (by first | assumption | omega) (by first | assumption | omega) (by first | assumption | omega) (by assumption) (by assumption) (by assumption) (by assumption) (by assumption) (by first | assumption | omega) (by assumption) (by assumption) (by first | assumption | omega)) (xcV (n := 1) hts wd_617 wd_3 wd_614 wd_616 ps_14 rfl rfl (by decide +kernel) ⟨(show (205 + 20 * kf) + 1 ≤ (210 + 20 * kf) by omega), (show 8 + (6 + 11) + (8100 + 800 * kf) ≤ (8200 + 800 * kf) by omega)⟩) (xpV3 (ci := 7) (q0 := 0) (As := [.int (nI s9)]) hPc hK hz hDc rfl rfl) rfl rfl hl1.1 rfl (lv_room (Nat.le_of_ble_eq_true rfl)) d_Reader_loop_117 ⟨(show (u_1 8 - cp + (u_51 8 - (u_1 8))) + (MX - (u_51 8)) ≤ (MX - cp) by omega), (show (6 * (u_1 8 - cp) + (6 * (u_51 8 - (u_1 8)))) + (6 * (MX - (u_51 8))) ≤ (6 * (MX - cp)) by omega)⟩) hS (fun q _ h => hFc q h) hFc (fun r_126 u_124 t H_125 locs ht hvm hw hB hz1 hk1 hS1 => ?_)
    try dsimp only at hw
    obtain ⟨hw, hs_127, hs_128, hs_129, hs_130, hs_131, hs_132, hs_133, hs_134, hs_135, hs_136, hs_137, hs_138, hs_139, hs_140, hs_141, hs_142, hs_143, hs_144, hs_145, hs_146, hs_147, hs_148⟩ := hw
    subst hw
    obtain ⟨x_149, x_150, x_151, x_152, x_153, x_154, x_155, x_156, x_157, x_158, x_159, x_160, x_161, x_162, x_163, x_164, x_165, x_166, hg8, hg9, hx_167, hx_168, hx_169, hx_170, hx_171, hx_172, hx_173, hx_174, hx_175, hx_176, hx_177, hx_178, hx_179, hP1, hD1⟩ := hB
    rw [ht] at hg8 hg9 hP1
    have hjn := xw_join3 (wl := [(r0, .inr (7, [.ref k0, .ref g0, .ref n0, .int (nI (u_124 11)), .int (nI (u_124 9))])), (k0, .inr (9, [.ref k1, .ref k2, .int (nI ts), .int (nI th), .int (nI (u_124 0)), .int (nI (u_124 1)), .int (nI (u_124 2)), .int (nI (u_124 3))])), (k1, .inl (ax 1, 400, .inl tb)), (k2, .inl (ax 0, 401, .inl (fun j => nI (tk j)))), (n0, .inr (4, [.ref (u_124 4), .ref (u_124 5), .ref (u_124 6), .int (nI (u_124 7))])), ((u_124 4), .inl (ax 1, u_124 8, .inl x_160)), ((u_124 5), .inl (ax 0, u_124 8, .inl x_161)), ((u_124 6), .inl (ax 0, u_124 8, .inl x_162)), (g0, .inr (2, [.ref n0, .ref g1, .ref g2, .ref g3, .ref g4, .ref g5, .ref g6, .ref g7, .ref g8, .ref g9, .ref ga, .ref gb, .int (nI (u_124 12)), .int (nI (u_124 13)), .int (nI (u_124 14)), .int (nI (u_124 15)), .int (nI (u_124 16))])), (g1, .inl (ax 1, 20, .inl (fun j => nI (x_149 j)))), (g2, .inl (ax 1, 20, .inl (fun j => nI (x_150 j)))), (g3, .inl (ax 1, 20, .inl (fun j => nI (x_151 j)))), (g4, .inl (ax 1, 20, .inl (fun j => nI (x_152 j)))), (g5, .inl (ax 1, 20, .inl (fun j => nI (x_153 j)))), (g6, .inl (ax 2, 20, .inl (fun j => nI (x_154 j)))), (g7, .inl (ax 2, 20, .inl (fun j => nI (x_155 j)))), (g8, .inl (ax 0, 20, .inl x_159)), (g9, .inl (ax 1, 20, .inl (fun j => nI (x_156 j)))), (ga, .inl (ax 1, 29, .inl (fun j => nI (x_157 j)))), (gb, .inl (ax 1, 29, .inl (fun j => nI (x_158 j))))]) hP hD [0, 17, 18, 19, 1, 2, 3, 4, 5, 6, 7, 8, 9, 10, 11, 12, 13, 14, 15, 16] [] hCs (by decide) (by decide) hk1 hFc hP1 hD1 rfl
    clear hP1 hD1
    clear hPc hDc hFc hCs hz hz1 hk1 ht hvm
    clear hP hD hS
    have hS := hS1
    obtain ⟨hP, hD⟩ := hjn
    clear hS1
    refine wk_narrow (k := u_1 8 - cp + (u_51 8 - (u_1 8)) + (u_124 8 - (u_51 8))) (n := 6 * (u_1 8 - cp) + (6 * (u_51 8 - (u_1 8))) + (6 * (u_124 8 - (u_51 8)))) (by first | assumption | omega) (by first | assumption | omega) ?_
    clear hk8 hk9 hg8 hg9
    have hQ_180 : okf (u_124 1) (nlq x_160 x_161 x_162 (u_124 7) x_166) := fun q => (hx_177 q).1
    refine lv_i2b (v := nI (u_124 10)) hx hb d_Reader_loop_120 (nb_i2bs hs_148) ?_
    refine va_bast hx hb hK.1 hP hD hS 12 1 rfl rfl (vp_in_nI (by first | assumption | omega) (by decide)) d_Reader_loop_121 (fun H_181 locs hP1 hD1 hS1 => ?_)
    rw [nI_clamp (by first | exact Nat.lt_of_lt_of_le (by assumption) (by decide) | exact Nat.lt_of_le_of_lt (by assumption) (by decide) | omega)] at hP1 hD1
    rw [xf_supbs x_152 s9 (u_124 10) hs_148] at hP1 hD1
    clear hP hD hS
    have hS := hS1
    have hW7 : (fun w9 : va_W => va_P D classes w9 H_181 ∧ va_D A w9) [(r0, .inr (7, [.ref k0, .ref g0, .ref n0, .int (nI (u_124 11)), .int (nI (u_124 9))])), (k0, .inr (9, [.ref k1, .ref k2, .int (nI ts), .int (nI th), .int (nI (u_124 0)), .int (nI (u_124 1)), .int (nI (u_124 2)), .int (nI (u_124 3))])), (k1, .inl (ax 1, 400, .inl tb)), (k2, .inl (ax 0, 401, .inl (fun j => nI (tk j)))), (n0, .inr (4, [.ref (u_124 4), .ref (u_124 5), .ref (u_124 6), .int (nI (u_124 7))])), ((u_124 4), .inl (ax 1, u_124 8, .inl x_160)), ((u_124 5), .inl (ax 0, u_124 8, .inl x_161)), ((u_124 6), .inl (ax 0, u_124 8, .inl x_162)), (g0, .inr (2, [.ref n0, .ref g1, .ref g2, .ref g3, .ref g4, .ref g5, .ref g6, .ref g7, .ref g8, .ref g9, .ref ga, .ref gb, .int (nI (u_124 12)), .int (nI (u_124 13)), .int (nI (u_124 14)), .int (nI (u_124 15)), .int (nI (u_124 16))])), (g1, .inl (ax 1, 20, .inl (fun j => nI (x_149 j)))), (g2, .inl (ax 1, 20, .inl (fun j => nI (x_150 j)))), (g3, .inl (ax 1, 20, .inl (fun j => nI (x_151 j)))), (g4, .inl (ax 1, 20, .inl (fun j => nI (sup x_152 s9 (u_124 10) j)))), (g5, .inl (ax 1, 20, .inl (fun j => nI (x_153 j)))), (g6, .inl (ax 2, 20, .inl (fun j => nI (x_154 j)))), (g7, .inl (ax 2, 20, .inl (fun j => nI (x_155 j)))), (g8, .inl (ax 0, 20, .inl x_159)), (g9, .inl (ax 1, 20, .inl (fun j => nI (x_156 j)))), (ga, .inl (ax 1, 29, .inl (fun j => nI (x_157 j)))), (gb, .inl (ax 1, 29, .inl (fun j => nI (x_158 j))))] := ⟨hP1, hD1⟩
    obtain ⟨hP, hD⟩ := hW7
    clear hP1 hD1 hS1
    have hE_182 : okf (u_124 1) (x_163 s9 = 100) := fun q => ((hx_169 q s9 (by first | assumption | omega)).2.2.2.2.2.2.2.2.1.trans (hop (okf.of (by first | assumption | omega) q)).1)
    have hL_183 : okf (u_124 1) (lst (u_124 13) (u_124 7) x_149 x_150 x_151 (sup x_152 s9 (u_124 10)) x_153 x_154 x_155 x_156 x_163 x_164 x_159 x_160 x_161 x_162) := (fun q => (hx_167 q).same (by first | assumption | omega) (hE_182 q) (fun i hi => sup_ne hi) (fun i hi => rfl) (fun i hi => rfl) (fun i hi => rfl) (fun i hi => rfl) (fun i hi => rfl))
    have hC_184 : okf (u_124 1) (clm (u_124 14) (u_124 12) x_157 x_158 (u_124 13) x_149 x_156) := hx_171
    refine lv_aload_n hx hb d_Reader_loop_122 rfl (lv_at hl1 0 rfl) ?_
    refine va_get (D := D) (ci := 7) (v := .ref k0) (C := R_Reader) (T := F_Reader) (N := 5) hx hb hts i_Reader hown hK.1 hP 0 rfl rfl 0 (by decide) (hts _ wd_75) (fun _ h9 => h9) rfl d_Reader_loop_123 ?_
    refine lv_bipush (v := 16) hx hb d_Reader_loop_126 (by decide) ?_
    obtain ⟨hPc, hDc, hFc, hCs⟩ := xw_sub3 (wc := [(k0, .inr (9, [.ref k1, .ref k2, .int (nI ts), .int (nI th), .int (nI (u_124 0)), .int (nI (u_124 1)), .int (nI (u_124 2)), .int (nI (u_124 3))])), (k1, .inl (ax 1, 400, .inl tb)), (k2, .inl (ax 0, 401, .inl (fun j => nI (tk j))))]) hP hD hS hA [1, 2, 3] (by decide) rfl
    have hz := xz_of hN hS
    refine va_callv (va_runV (As := [.int 16]) (rest := []) ⟨hx, hb, hml, hown, hts⟩ (c_K_need l D ax k0 k1 k2 tb tk (u_124 0) (u_124 1) (u_124 2) (u_124 3) cn ts th 16 H_181.size hkz (by assumption) (by first | assumption | omega) (by first | assumption | omega) (by first | assumption | omega) (by first | assumption | omega) (by first | assumption | omega)) (xcV (n := 1) hts wd_571 wd_2 wd_568 wd_569 wd_570 rfl rfl (by decide +kernel) ⟨(show (20) + 1 ≤ (210 + 20 * kf) by omega), (show 8 + (2 + 11) + (800) ≤ (8200 + 800 * kf) by omega)⟩) (xpV (ci := 9) (q0 := 0) (As := [.int 16]) hPc hK hz hDc rfl rfl) rfl rfl hl1.1 rfl (lv_room (Nat.le_of_ble_eq_true rfl)) d_Reader_loop_128 ⟨(show (u_1 8 - cp + (u_51 8 - (u_1 8)) + (u_124 8 - (u_51 8))) + (0) ≤ (MX - cp) by omega), (show (6 * (u_1 8 - cp) + (6 * (u_51 8 - (u_1 8))) + (6 * (u_124 8 - (u_51 8)))) + (0) ≤ (6 * (MX - cp)) by omega)⟩) hS (fun q _ h => hFc q h) hFc (fun u_185 t H_186 locs ht hvm hw hB hz1 hk1 hS1 => ?_)
    try dsimp only at hw
    obtain ⟨hs_188, hs_189, hs_190, hs_191, hs_192, hs_193, hs_194, hs_195⟩ := hw
    obtain ⟨hP1, hD1⟩ := hB
    rw [ht] at hP1
    have hjn := xw_join3 (wl := [(r0, .inr (7, [.ref k0, .ref g0, .ref n0, .int (nI (u_124 11)), .int (nI (u_124 9))])), (n0, .inr (4, [.ref (u_124 4), .ref (u_124 5), .ref (u_124 6), .int (nI (u_124 7))])), ((u_124 4), .inl (ax 1, u_124 8, .inl x_160)), ((u_124 5), .inl (ax 0, u_124 8, .inl x_161)), ((u_124 6), .inl (ax 0, u_124 8, .inl x_162)), (g0, .inr (2, [.ref n0, .ref g1, .ref g2, .ref g3, .ref g4, .ref g5, .ref g6, .ref g7, .ref g8, .ref g9, .ref ga, .ref gb, .int (nI (u_124 12)), .int (nI (u_124 13)), .int (nI (u_124 14)), .int (nI (u_124 15)), .int (nI (u_124 16))])), (g1, .inl (ax 1, 20, .inl (fun j => nI (x_149 j)))), (g2, .inl (ax 1, 20, .inl (fun j => nI (x_150 j)))), (g3, .inl (ax 1, 20, .inl (fun j => nI (x_151 j)))), (g4, .inl (ax 1, 20, .inl (fun j => nI (sup x_152 s9 (u_124 10) j)))), (g5, .inl (ax 1, 20, .inl (fun j => nI (x_153 j)))), (g6, .inl (ax 2, 20, .inl (fun j => nI (x_154 j)))), (g7, .inl (ax 2, 20, .inl (fun j => nI (x_155 j)))), (g8, .inl (ax 0, 20, .inl x_159)), (g9, .inl (ax 1, 20, .inl (fun j => nI (x_156 j)))), (ga, .inl (ax 1, 29, .inl (fun j => nI (x_157 j)))), (gb, .inl (ax 1, 29, .inl (fun j => nI (x_158 j)))), (k0, .inr (9, [.ref k1, .ref k2, .int (nI ts), .int (nI th), .int (nI (u_185 0)), .int (nI (u_185 1)), .int (nI (u_185 2)), .int (nI (u_185 3))])), (k1, .inl (ax 1, 400, .inl tb)), (k2, .inl (ax 0, 401, .inl (fun j => nI (tk j))))]) hP hD [1, 2, 3] [0, 4, 5, 6, 7, 8, 9, 10, 11, 12, 13, 14, 15, 16, 17, 18, 19] hCs (by decide) (by decide) hk1 hFc hP1 hD1 rfl
    clear hP1 hD1
    clear hPc hDc hFc hCs hz hz1 hk1 ht hvm
    clear hP hD hS
    have hS := hS1
    obtain ⟨hP, hD⟩ := hjn
    clear hS1
    have hL_196 : okf (u_185 1) (lst (u_124 13) (u_124 7) x_149 x_150 x_151 (sup x_152 s9 (u_124 10)) x_153 x_154 x_155 x_156 x_163 x_164 x_159 x_160 x_161 x_162) := hL_183.back hs_193
    have hC_197 : okf (u_185 1) (clm (u_124 14) (u_124 12) x_157 x_158 (u_124 13) x_149 x_156) := hC_184.back hs_193
    have hF : okf (u_185 1) ((cls ln (u_124 13) x_163) ∧ (sae s9 ln kd ow sb f1 f2 te kp nm en kc x_149 x_150 x_151 (sup x_152 s9 (u_124 10)) x_153 x_154 x_155 x_156 x_163 x_164 tm x_159) ∧ (lsc (u_124 13) (u_124 7) x_149 (sup x_152 s9 (u_124 10)) x_153 x_154 x_155 x_156 x_164 x_159 x_160 x_161 x_162 s9) ∧ (∀ i, i < z9 → tsn x_160 x_161 x_162 i = tsn fo fl fr i)) := by
      intro q
      have q1 : u_124 1 = 4294967295 := okf.of (by first | assumption | omega) q
      have qb : u_51 1 = 4294967295 := okf.of (by first | assumption | omega) q1
      have qa : u_1 1 = 4294967295 := okf.of (by first | assumption | omega) qb
      have qz : tf = 4294967295 := okf.of (by first | assumption | omega) qa
      have ha := hx_169 q1
      have hc9 := (Nat.lt_of_succ_le (Nat.le_of_eq (hs_16 qa))); have ht9 := hx_25 qa; have hk9 := hx_26 qa
      have hc8 := (Nat.lt_of_succ_le (Nat.le_of_eq (hs_66 qb))); have ht8 := hx_75 qb; have hk8 := hx_76 qb
      have hr1 := hx_170 q1
      obtain ⟨a1, a2, a3, a4, a5, a6, a7, a8, a9, a10, a11⟩ := ha s9 (by first | assumption | omega)
      obtain ⟨ho1, ho2, ho3⟩ := hop qz
      have hT1 := hx_174 q1; have hcl1 := hx_168 q1
      refine ⟨hcl1, ⟨fun i hi he => ?_, a1, a2, a3, a9⟩, ?_, fun i hi => (hT1 i (by first | assumption | omega)).trans ((hk8 i (by first | assumption | omega)).trans (hk9 i hi))⟩
      · obtain ⟨x1, x2, x3, x4, x5, x6, x7, x8, x9, x10, x11⟩ := ha i hi
        exact ⟨x1, x2, x3, (sup_ne he).trans x4, x5, x6.trans (sup_ne he), x7.trans (sup_ne he), x8, x9, x10.trans ((sup_ne he).trans (sup_ne he)), x11⟩
      · have e8 : x_149 s9 = 12 := a1.trans ho2
        have e6 : x_154 s9 = u_1 10 := a6.trans sup_eq
        have e7 : x_155 s9 = u_51 10 := a7.trans sup_eq
        have e4 : (sup x_152 s9 (u_124 10)) s9 = u_124 10 := sup_eq
        have e10 := a10.trans sup_eq
        rw [sup_eq] at e10
        refine ⟨fun h => by omega, fun h => by omega, fun _ => ⟨by omega, by omega, ?_, by omega, by omega, ?_⟩, fun h => by omega⟩
        · rw [e6, e7, e10, hT1 _ (by first | assumption | omega), hT1 _ (by first | assumption | omega), hk8 _ (by first | assumption | omega)]; omega
        · exact Or.inl (a8.trans ho3)
    have hB9 : okf (u_185 1) (bk9 s9 (u_124 13) x_149 x_150 x_151 (sup x_152 s9 (u_124 10)) x_153 x_154 x_155 x_156 x_159 x_166 (ow s9) s9 pl (x_165 ++ [odI (5, ln, wgh 0 pl, (0, 0), x_22, x_72)])) := by
      intro q
      have q1 : u_124 1 = 4294967295 := okf.of (by first | assumption | omega) q
      have qb : u_51 1 = 4294967295 := okf.of (by first | assumption | omega) q1
      have qa : u_1 1 = 4294967295 := okf.of (by first | assumption | omega) qb
      have qz : tf = 4294967295 := okf.of (by first | assumption | omega) qa
      obtain ⟨la, hba⟩ := hx_176 q1
      have hna := hx_177 q1
      have ha := hx_169 q1
      have hr1 := hx_170 q1
      have hg1 := hG_31 qa; have hl1_ := hQ_30 qa; have hc1 := hs_16 qa; have hz1 := (hx_27 qa).2
      have hg2 := hG_81 qb; have hl2_ := hQ_80 qb; have hc2 := hs_66 qb; have hz2 := (hx_77 qb).2
      obtain ⟨a1, a2, a3, a4, a5, a6, a7, a8, a9, a10, a11⟩ := ha s9 (by first | assumption | omega)
      obtain ⟨ho1, ho2, ho3⟩ := hop qz
      have els : ln = s9 + 1 := by omega
      rw [els] at hba
      rw [show ((5, ln, wgh 0 pl, (0, 0), x_22, x_72) : itT) = (5, s9 + 1, wgh 0 pl, (0, 0), x_22, x_72) by rw [els]]
      refine bk9_lp (hba.fr (fun i hp hi => ⟨rfl, rfl, rfl, sup_ne (by first | assumption | omega), rfl, rfl, rfl, rfl, rfl⟩) hna.1.2.2.1 prx.rf) (a1.trans ho2) (sup_eq.trans (hr1.1.trans els)) (a3.trans (hsb qz)) a2 rfl (itm_wh hg1.1 hg1.2 ?_ hg2.1 hg2.2 ?_ (a1.trans ho2) ?_)
      · rw [a6.trans sup_eq]
        exact cnd_at (hnl qz).2.1 hg1.1 hl1_.2.2.1 (prx.tr (show prx (L0 ++ x_22) (L0 ++ x_22 ++ x_72) from ⟨_, rfl⟩) hna.2) (by first | assumption | omega)
      · rw [a7.trans sup_eq]
        exact cnd_at hl1_.2.1 hg2.1 hl2_.2.2.1 hna.2 (by first | assumption | omega)
      · exact Or.inl ⟨a8.trans ho3, wgh_0⟩
    have hB8 : okf (u_185 1) (nlq x_160 x_161 x_162 (u_124 7) x_166 ∧ prx L0 x_166) := fun q => ⟨(hx_177 (okf.of (by first | assumption | omega) q)).1, prx.tr (show prx L0 (L0 ++ x_22 ++ x_72) from ⟨_, List.append_assoc _ _ _⟩) (hx_177 (okf.of (by first | assumption | omega) q)).2⟩
    have hB7 : okf (u_185 1) (u_124 16 = vct (x_165 ++ [odI (5, ln, wgh 0 pl, (0, 0), x_22, x_72)])) := fun q => by rw [vct_app, vct_n (x := odI (5, ln, wgh 0 pl, (0, 0), x_22, x_72)) (show ¬ (6 : Nat) = 5 by decide)]; exact hx_178 (okf.of (by first | assumption | omega) q)
    have hB6 : okf (u_185 1) (cll x_157 x_158 (u_124 12) = (0, 0) :: cln (x_165 ++ [odI (5, ln, wgh 0 pl, (0, 0), x_22, x_72)])) := fun q => cq_n (x := odI (5, ln, wgh 0 pl, (0, 0), x_22, x_72)) (hx_179 (okf.of (by first | assumption | omega) q)) (show ¬ (6 : Nat) = 5 by decide) (show ¬ (6 : Nat) = 8 by decide)
    rw [← hQe]
    refine wk_know (fun hk8 hk9 => ?_)
    refine W.widen (k := MX - cp) (n := 6 * (MX - cp)) (by first | assumption | omega) (by first | assumption | omega) ?_
    obtain ⟨hP9, hD9⟩ := xw_sub2 (wc := (fun (u : Nat → Nat) (xkd : Nat → Nat) (xow : Nat → Nat) (xsb : Nat → Nat) (xf1 : Nat → Nat) (xf2 : Nat → Nat) (xte : Nat → Nat) (xkp : Nat → Nat) (xnm : Nat → Nat) (xck : Nat → Nat) (xco : Nat → Nat) (xtm : Nat → Int32) (xfo : Nat → Int32) (xfl : Nat → Int32) (xfr : Nat → Int32) (xen : Nat → Nat) (xkc : Nat → Nat) (xpl : List itT) (xL : List sgT) => [(r0, .inr (7, [.ref k0, .ref g0, .ref n0, .int (nI (u 11)), .int (nI (u 9))])), (k0, .inr (9, [.ref k1, .ref k2, .int (nI ts), .int (nI th), .int (nI (u 0)), .int (nI (u 1)), .int (nI (u 2)), .int (nI (u 3))])), (k1, .inl (ax 1, 400, .inl tb)), (k2, .inl (ax 0, 401, .inl (fun j => nI (tk j)))), (n0, .inr (4, [.ref (u 4), .ref (u 5), .ref (u 6), .int (nI (u 7))])), (u 4, .inl (ax 1, u 8, .inl xfo)), (u 5, .inl (ax 0, u 8, .inl xfl)), (u 6, .inl (ax 0, u 8, .inl xfr)), (g0, .inr (2, [.ref n0, .ref g1, .ref g2, .ref g3, .ref g4, .ref g5, .ref g6, .ref g7, .ref g8, .ref g9, .ref ga, .ref gb, .int (nI (u 12)), .int (nI (u 13)), .int (nI (u 14)), .int (nI (u 15)), .int (nI (u 16))])), (g1, .inl (ax 1, 20, .inl (fun j => nI (xkd j)))), (g2, .inl (ax 1, 20, .inl (fun j => nI (xow j)))), (g3, .inl (ax 1, 20, .inl (fun j => nI (xsb j)))), (g4, .inl (ax 1, 20, .inl (fun j => nI (xf1 j)))), (g5, .inl (ax 1, 20, .inl (fun j => nI (xf2 j)))), (g6, .inl (ax 2, 20, .inl (fun j => nI (xte j)))), (g7, .inl (ax 2, 20, .inl (fun j => nI (xkp j)))), (g8, .inl (ax 0, 20, .inl xtm)), (g9, .inl (ax 1, 20, .inl (fun j => nI (xnm j)))), (ga, .inl (ax 1, 29, .inl (fun j => nI (xck j)))), (gb, .inl (ax 1, 29, .inl (fun j => nI (xco j))))]) (ixn [(u_185 0), (u_185 1), (u_185 2), (u_185 3), (u_124 4), (u_124 5), (u_124 6), (u_124 7), (u_124 8), (u_124 9), 0, (u_124 11), (u_124 12), (u_124 13), (u_124 14), (u_124 15), (u_124 16)]) x_149 x_150 x_151 (sup x_152 s9 (u_124 10)) x_153 x_154 x_155 x_156 x_157 x_158 x_159 x_160 x_161 x_162 x_163 x_164 (x_165 ++ [odI (5, ln, wgh 0 pl, (0, 0), x_22, x_72)]) x_166) hP hD [0, 17, 18, 19, 1, 2, 3, 4, 5, 6, 7, 8, 9, 10, 11, 12, 13, 14, 15, 16] (by decide) rfl
    have hex0 : okf ((u_185 1)) (lst ((u_124 13)) ((u_124 7)) x_149 x_150 x_151 (sup x_152 s9 (u_124 10)) x_153 x_154 x_155 x_156 x_163 x_164 x_159 x_160 x_161 x_162) := hL_196
    have hex1 : okf ((u_185 1)) (cls ln ((u_124 13)) x_163) := (fun q => (hF q).1)
    have hex2 : okf ((u_185 1)) (sae s9 ln kd ow sb f1 f2 te kp nm en kc x_149 x_150 x_151 (sup x_152 s9 (u_124 10)) x_153 x_154 x_155 x_156 x_163 x_164 tm x_159) := (fun q => (hF q).2.1)
    have hex3 : okf ((u_185 1)) (lsc ((u_124 13)) ((u_124 7)) x_149 (sup x_152 s9 (u_124 10)) x_153 x_154 x_155 x_156 x_164 x_159 x_160 x_161 x_162 s9) := (fun q => (hF q).2.2.1)
    have hex4 : okf ((u_185 1)) (clm ((u_124 14)) ((u_124 12)) x_157 x_158 ((u_124 13)) x_149 x_156) := hC_197
    have hex5 : okf ((u_185 1)) (ndv x_160 x_161 x_162 ((u_124 7))) := (hx_172.back hs_193)
    have hex6 : bts x_160 ((u_124 8)) := (by assumption)
    have hex7 : okf ((u_185 1)) (∀ i, i < z9 → tsn x_160 x_161 x_162 i = tsn fo fl fr i) := (fun q => (hF q).2.2.2)
    have hex8 : brS tk 5 b0 tf ta sg ln br lp pl ((u_185 1)) ((u_185 0)) ((u_124 13)) ((u_124 14)) ((u_124 15)) (x_165 ++ [odI (5, ln, wgh 0 pl, (0, 0), x_22, x_72)]) := (lp_of (by first | assumption | omega) hb0 hb1 hx_28 hs_4 hs_45 hx_78 (vr_n hs_54 (by first | assumption | omega) hs_116) (Or.inr ⟨rfl, rfl⟩) hx_175 hs_147 hs_127 hs_195)
    have hex9 : okf ((u_185 1)) (bk9 s9 ((u_124 13)) x_149 x_150 x_151 (sup x_152 s9 (u_124 10)) x_153 x_154 x_155 x_156 x_159 x_166 (ow s9) s9 pl (x_165 ++ [odI (5, ln, wgh 0 pl, (0, 0), x_22, x_72)])) := hB9
    have hex10 : okf ((u_185 1)) (nlq x_160 x_161 x_162 ((u_124 7)) x_166 ∧ prx L0 x_166) := hB8
    have hex11 : okf ((u_185 1)) ((u_124 16) = vct (x_165 ++ [odI (5, ln, wgh 0 pl, (0, 0), x_22, x_72)])) := hB7
    have hex12 : okf ((u_185 1)) (cll x_157 x_158 ((u_124 12)) = (0, 0) :: cln (x_165 ++ [odI (5, ln, wgh 0 pl, (0, 0), x_22, x_72)])) := hB6
    have hg8 : H_186.size ≤ s.heap.size + ((u_124 8) - cp) := by omega
    have hg9 : tsl H_186 ≤ tsl s.heap + (6 * ((u_124 8) - cp)) := by omega
    have hsp0 : rst tk ((u_185 1)) ((u_185 2)) ((u_185 3)) ((u_185 0)) cn := (by assumption)
    have hsp1 : (u_185 0) ≤ cn := (by first | assumption | omega)
    have hsp2 : (u_185 2) < 128 := (by first | assumption | omega)
    have hsp3 : (u_185 3) < 1024 := (by first | assumption | omega)
    have hsp4 : ta ≤ (u_185 0) := (by first | assumption | omega)
    have hsp5 : ftf tf ≤ ftf ((u_185 1)) := (by first | assumption | omega)
    have hsp6 : z9 ≤ (u_124 7) := (by first | assumption | omega)
    have hsp7 : (u_124 7) + ta ≤ z9 + (u_185 0) + 2 * ((u_124 13) - ln) + 2 := (by first | assumption | omega)
    have hsp8 : (u_124 7) ≤ (u_124 8) := (by first | assumption | omega)
    have hsp9 : cp ≤ (u_124 8) := (by first | assumption | omega)
    have hsp10 : (u_124 8) ≤ MX := (by first | assumption | omega)
    have hsp11 : (u_124 11) ≤ 1 := (by first | assumption | omega)
    have hsp12 : (u_124 12) ≤ 1 + 2 * (u_124 15) + (u_124 13) := (by first | assumption | omega)
    have hsp13 : ln ≤ (u_124 13) := (by first | assumption | omega)
    have hsp14 : (u_124 13) ≤ 20 := (by first | assumption | omega)
    have hsp15 : br ≤ (u_124 14) := (by first | assumption | omega)
    have hsp16 : (u_124 14) ≤ 4 := (by first | assumption | omega)
    have hsp17 : lp ≤ (u_124 15) := (by first | assumption | omega)
    have hsp18 : (u_124 15) ≤ 4 := (by first | assumption | omega)
    have hsp19 : (u_124 16) ≤ (u_124 15) := (by first | assumption | omega)
    exact W.vret hx hb hr (fun t ht hW => ⟨⟨ixn [(u_185 0), (u_185 1), (u_185 2), (u_185 3), (u_124 4), (u_124 5), (u_124 6), (u_124 7), (u_124 8), (u_124 9), 0, (u_124 11), (u_124 12), (u_124 13), (u_124 14), (u_124 15), (u_124 16)], rfl, ⟨hsp0, hsp1, hsp2, hsp3, hsp4, hsp5, hsp6, hsp7, hsp8, hsp9, hsp10, hsp11, hsp12, hsp13, hsp14, hsp15, hsp16, hsp17, hsp18, hsp19⟩, ⟨x_149, x_150, x_151, sup x_152 s9 (u_124 10), x_153, x_154, x_155, x_156, x_157, x_158, x_159, x_160, x_161, x_162, x_163, x_164, (x_165 ++ [odI (5, ln, wgh 0 pl, (0, 0), x_22, x_72)]), x_166, by rw [ht]; exact hg8, by rw [ht]; exact hg9, hex0, hex1, hex2, hex3, hex4, hex5, hex6, hex7, hex8, hex9, hex10, hex11, hex12, by rw [ht]; exact hP9, hD9⟩⟩, hS.F ht⟩) hS.2.2 d_Reader_loop_131
  · replace c_105 : u_51 2 = 14 := (nI_eq (a := u_51 2) (b := 14) (by first | exact Nat.lt_of_lt_of_le (by assumption) (by decide) | exact Nat.lt_of_le_of_lt (by assumption) (by decide) | omega) (by decide)).mp c_105
    obtain ⟨hok9, hts9⟩ := hs_54.go (by first | assumption | omega) (by first | assumption | omega)
    refine lv_aload_n hx hb d_Reader_loop_69 rfl (lv_at hl1 0 rfl) ?_
    refine va_get (D := D) (ci := 7) (v := .ref k0) (C := R_Reader) (T := F_Reader) (N := 5) hx hb hts i_Reader hown hK.1 hP 0 rfl rfl 0 (by decide) (hts _ wd_75) (fun _ h9 => h9) rfl d_Reader_loop_70 ?_
    obtain ⟨hPc, hDc, hFc, hCs⟩ := xw_sub3 (wc := [(k0, .inr (9, [.ref k1, .ref k2, .int (nI ts), .int (nI th), .int (nI (u_51 0)), .int (nI (u_51 1)), .int (nI (u_51 2)), .int (nI (u_51 3))])), (k1, .inl (ax 1, 400, .inl tb)), (k2, .inl (ax 0, 401, .inl (fun j => nI (tk j))))]) hP hD hS hA [1, 2, 3] (by decide) rfl
    have hz := xz_of hN hS
    refine va_callv (va_runV (As := []) (rest := []) ⟨hx, hb, hml, hown, hts⟩ (c_K_pass l D ax k0 k1 k2 tb tk (u_51 0) (u_51 1) (u_51 2) (u_51 3) cn ts th H_96.size hkz (by assumption) (by first | assumption | omega) (by first | assumption | omega) (by first | assumption | omega) (by first | assumption | omega)) (xcV (n := 0) hts wd_531 wd_2 wd_564 wd_529 wd_530 rfl rfl (by decide +kernel) ⟨(show (10) + 1 ≤ (210 + 20 * kf) by omega), (show 8 + (1 + 11) + (400) ≤ (8200 + 800 * kf) by omega)⟩) (xpV (ci := 9) (q0 := 0) (As := []) hPc hK hz hDc rfl rfl) rfl rfl hl1.1 rfl (lv_room (Nat.le_of_ble_eq_true rfl)) d_Reader_loop_73 ⟨(show (u_1 8 - cp + (u_51 8 - (u_1 8))) + (0) ≤ (MX - cp) by omega), (show (6 * (u_1 8 - cp) + (6 * (u_51 8 - (u_1 8)))) + (0) ≤ (6 * (MX - cp)) by omega)⟩) hS (fun q _ h => hFc q h) hFc (fun u_198 t H_199 locs ht hvm hw hB hz1 hk1 hS1 => ?_)
    try dsimp only at hw
    obtain ⟨hs_201, hs_202, hs_203, hs_204, hs_205, hs_206, hs_207, hs_208, hs_209, hs_210⟩ := hw
    obtain ⟨hP1, hD1⟩ := hB
    rw [ht] at hP1
    have hjn := xw_join3 (wl := [(r0, .inr (7, [.ref k0, .ref g0, .ref n0, .int (nI 1), .int (nI (u_51 9))])), (n0, .inr (4, [.ref (u_51 4), .ref (u_51 5), .ref (u_51 6), .int (nI (u_51 7))])), ((u_51 4), .inl (ax 1, u_51 8, .inl x_69)), ((u_51 5), .inl (ax 0, u_51 8, .inl x_70)), ((u_51 6), .inl (ax 0, u_51 8, .inl x_71)), (g0, .inr (2, [.ref n0, .ref g1, .ref g2, .ref g3, .ref g4, .ref g5, .ref g6, .ref g7, .ref g8, .ref g9, .ref ga, .ref gb, .int (nI (u_95 0)), .int (nI ln), .int (nI br), .int (nI lp), .int (nI va)])), (g1, .inl (ax 1, 20, .inl (fun j => nI (kd j)))), (g2, .inl (ax 1, 20, .inl (fun j => nI (ow j)))), (g3, .inl (ax 1, 20, .inl (fun j => nI (sb j)))), (g4, .inl (ax 1, 20, .inl (fun j => nI (f1 j)))), (g5, .inl (ax 1, 20, .inl (fun j => nI (f2 j)))), (g6, .inl (ax 2, 20, .inl (fun j => nI ((sup te s9 (u_1 10)) j)))), (g7, .inl (ax 2, 20, .inl (fun j => nI ((sup kp s9 (u_51 10)) j)))), (g8, .inl (ax 0, 20, .inl tm)), (g9, .inl (ax 1, 20, .inl (fun j => nI (nm j)))), (ga, .inl (ax 1, 29, .inl (fun j => nI (x_100 j)))), (gb, .inl (ax 1, 29, .inl (fun j => nI (x_101 j)))), (k0, .inr (9, [.ref k1, .ref k2, .int (nI ts), .int (nI th), .int (nI (u_198 0)), .int (nI (u_198 1)), .int (nI (u_198 2)), .int (nI (u_198 3))])), (k1, .inl (ax 1, 400, .inl tb)), (k2, .inl (ax 0, 401, .inl (fun j => nI (tk j))))]) hP hD [1, 2, 3] [0, 4, 5, 6, 7, 8, 9, 10, 11, 12, 13, 14, 15, 16, 17, 18, 19] hCs (by decide) (by decide) hk1 hFc hP1 hD1 rfl
    clear hP1 hD1
    clear hPc hDc hFc hCs hz hz1 hk1 ht hvm
    clear hP hD hS
    have hS := hS1
    obtain ⟨hP, hD⟩ := hjn
    clear hS1
    have hL_211 : okf (u_198 1) (lst ln (u_51 7) kd ow sb f1 f2 (sup te s9 (u_1 10)) (sup kp s9 (u_51 10)) nm en (sup (sup kc s9 (kc s9 + (u_1 7 - z9))) s9 ((sup kc s9 (kc s9 + (u_1 7 - z9))) s9 + (u_51 7 - u_1 7))) tm x_69 x_70 x_71) := hL_83.back hs_206
    have hC_212 : okf (u_198 1) (clm br (u_95 0) x_100 x_101 ln kd nm) := hC_104.back hs_206
    have hN_213 : okf (u_198 1) (ndv x_69 x_70 x_71 (u_51 7)) := hx_73.back hs_206
    have hQ_214 : okf (u_198 1) (nlq x_69 x_70 x_71 (u_51 7) ((L0 ++ x_22) ++ x_72)) := hQ_80.back hs_206
    refine lv_aload_n hx hb d_Reader_loop_76 rfl (lv_at hl1 0 rfl) ?_
    refine va_get (D := D) (ci := 7) (v := .ref g0) (C := R_Reader) (T := F_Reader) (N := 5) hx hb hts i_Reader hown hK.1 hP 0 rfl rfl 1 (by decide) (hts _ wd_76) (fun _ h9 => h9) rfl d_Reader_loop_77 ?_
    refine lv_iload_n hx hb d_Reader_loop_80 rfl (lv_at hl1 1 rfl) ?_
    refine lv_aload_n hx hb d_Reader_loop_81 rfl (lv_at hl1 0 rfl) ?_
    refine lv_iconst (v := 0) hx hb d_Reader_loop_82 (by decide) ?_
    obtain ⟨hPc, hDc, hFc, hCs⟩ := xw_sub3 (wc := [(r0, .inr (7, [.ref k0, (.ref g0), .ref n0, .int (nI 1), .int (nI (u_51 9))])), (k0, .inr (9, [.ref k1, .ref k2, .int (nI ts), .int (nI th), .int (nI (u_198 0)), .int (nI (u_198 1)), .int (nI (u_198 2)), .int (nI (u_198 3))])), (k1, .inl (ax 1, 400, .inl tb)), (k2, .inl (ax 0, 401, .inl (fun j => nI (tk j))))]) hP hD hS hA [0, 17, 18, 19] (by decide) rfl
    have hz := xz_of hN hS
    refine va_calli (va_runV (As := [.int 0]) (rest := [.int (nI s9), .ref g0]) ⟨hx, hb, hml, hown, hts⟩ (c_R_term l D ax r0 k0 k1 k2 (.ref g0) tb tk (u_198 0) (u_198 1) (u_198 2) (u_198 3) cn ts th 1 (u_51 9) n0 0 H_199.size hkz (by assumption) (by first | assumption | omega) (by first | assumption | omega) (by first | assumption | omega) (by first | assumption | omega) (by first | assumption | omega)) (xcV (n := 1) hts wd_563 wd_3 wd_560 wd_562 ps_12 rfl rfl (by decide +kernel) ⟨(show (30) + 1 ≤ (210 + 20 * kf) by omega), (show 8 + (5 + 11) + (1200) ≤ (8200 + 800 * kf) by omega)⟩) (xpV (ci := 7) (q0 := 0) (As := [.int 0]) hPc hK hz hDc rfl rfl) rfl rfl hl1.1 rfl (lv_room (Nat.le_of_ble_eq_true rfl)) d_Reader_loop_83 ⟨(show (u_1 8 - cp + (u_51 8 - (u_1 8))) + (0) ≤ (MX - cp) by omega), (show (6 * (u_1 8 - cp) + (6 * (u_51 8 - (u_1 8)))) + (0) ≤ (6 * (MX - cp)) by omega)⟩) hS (fun q _ h => hFc q h) hFc (fun r_217 u_215 t H_216 locs ht hvm hw hB hz1 hk1 hS1 => ?_)
    try dsimp only at hw
    obtain ⟨hw, hs_218, hs_219, hs_220, hs_221, hs_222, hs_223, hs_224, hs_225, hs_226⟩ := hw
    subst hw
    obtain ⟨hP1, hD1⟩ := hB
    rw [ht] at hP1
    have hjn := xw_join3 (wl := [(n0, .inr (4, [.ref (u_51 4), .ref (u_51 5), .ref (u_51 6), .int (nI (u_51 7))])), ((u_51 4), .inl (ax 1, u_51 8, .inl x_69)), ((u_51 5), .inl (ax 0, u_51 8, .inl x_70)), ((u_51 6), .inl (ax 0, u_51 8, .inl x_71)), (g0, .inr (2, [.ref n0, .ref g1, .ref g2, .ref g3, .ref g4, .ref g5, .ref g6, .ref g7, .ref g8, .ref g9, .ref ga, .ref gb, .int (nI (u_95 0)), .int (nI ln), .int (nI br), .int (nI lp), .int (nI va)])), (g1, .inl (ax 1, 20, .inl (fun j => nI (kd j)))), (g2, .inl (ax 1, 20, .inl (fun j => nI (ow j)))), (g3, .inl (ax 1, 20, .inl (fun j => nI (sb j)))), (g4, .inl (ax 1, 20, .inl (fun j => nI (f1 j)))), (g5, .inl (ax 1, 20, .inl (fun j => nI (f2 j)))), (g6, .inl (ax 2, 20, .inl (fun j => nI ((sup te s9 (u_1 10)) j)))), (g7, .inl (ax 2, 20, .inl (fun j => nI ((sup kp s9 (u_51 10)) j)))), (g8, .inl (ax 0, 20, .inl tm)), (g9, .inl (ax 1, 20, .inl (fun j => nI (nm j)))), (ga, .inl (ax 1, 29, .inl (fun j => nI (x_100 j)))), (gb, .inl (ax 1, 29, .inl (fun j => nI (x_101 j)))), (r0, .inr (7, [.ref k0, .ref g0, .ref n0, .int (nI 1), .int (nI (u_51 9))])), (k0, .inr (9, [.ref k1, .ref k2, .int (nI ts), .int (nI th), .int (nI (u_215 0)), .int (nI (u_215 1)), .int (nI (u_215 2)), .int (nI (u_215 3))])), (k1, .inl (ax 1, 400, .inl tb)), (k2, .inl (ax 0, 401, .inl (fun j => nI (tk j))))]) hP hD [0, 17, 18, 19] [1, 2, 3, 4, 5, 6, 7, 8, 9, 10, 11, 12, 13, 14, 15, 16] hCs (by decide) (by decide) hk1 hFc hP1 hD1 rfl
    clear hP1 hD1
    clear hPc hDc hFc hCs hz hz1 hk1 ht hvm
    clear hP hD hS
    have hS := hS1
    obtain ⟨hP, hD⟩ := hjn
    clear hS1
    have hL_227 : okf (u_215 1) (lst ln (u_51 7) kd ow sb f1 f2 (sup te s9 (u_1 10)) (sup kp s9 (u_51 10)) nm en (sup (sup kc s9 (kc s9 + (u_1 7 - z9))) s9 ((sup kc s9 (kc s9 + (u_1 7 - z9))) s9 + (u_51 7 - u_1 7))) tm x_69 x_70 x_71) := hL_211.back hs_223
    have hC_228 : okf (u_215 1) (clm br (u_95 0) x_100 x_101 ln kd nm) := hC_212.back hs_223
    have hN_229 : okf (u_215 1) (ndv x_69 x_70 x_71 (u_51 7)) := hN_213.back hs_223
    have hQ_230 : okf (u_215 1) (nlq x_69 x_70 x_71 (u_51 7) ((L0 ++ x_22) ++ x_72)) := hQ_214.back hs_223
    obtain ⟨hPc, hDc, hFc, hCs⟩ := xw_sub3 (wc := [(g0, .inr (2, [.ref n0, .ref g1, .ref g2, .ref g3, .ref g4, .ref g5, .ref g6, .ref g7, .ref g8, .ref g9, .ref ga, .ref gb, .int (nI (u_95 0)), .int (nI ln), .int (nI br), .int (nI lp), .int (nI va)])), (g1, .inl (ax 1, 20, .inl (fun j => nI (kd j)))), (g2, .inl (ax 1, 20, .inl (fun j => nI (ow j)))), (g3, .inl (ax 1, 20, .inl (fun j => nI (sb j)))), (g4, .inl (ax 1, 20, .inl (fun j => nI (f1 j)))), (g5, .inl (ax 1, 20, .inl (fun j => nI (f2 j)))), (g6, .inl (ax 2, 20, .inl (fun j => nI ((sup te s9 (u_1 10)) j)))), (g7, .inl (ax 2, 20, .inl (fun j => nI ((sup kp s9 (u_51 10)) j)))), (g8, .inl (ax 0, 20, .inl tm)), (g9, .inl (ax 1, 20, .inl (fun j => nI (nm j)))), (ga, .inl (ax 1, 29, .inl (fun j => nI (x_100 j)))), (gb, .inl (ax 1, 29, .inl (fun j => nI (x_101 j))))]) hP hD hS hA [4, 5, 6, 7, 8, 9, 10, 11, 12, 13, 14, 15] (by decide) rfl
    have hz := xz_of hN hS
    refine va_callv (va_runV (As := [.int (nI s9), .int (nI (u_215 4))]) (rest := []) ⟨hx, hb, hml, hown, hts⟩ (c_L_addVariant l D ax g0 g1 g2 g3 g4 g5 g6 g7 g8 g9 ga gb (u_95 0) ln br lp va kd ow sb f1 f2 (sup te s9 (u_1 10)) (sup kp s9 (u_51 10)) nm x_100 x_101 tm n0 s9 (nI (u_215 4)) H_216.size (by first | assumption | omega) (by first | assumption | omega)) (xcV (n := 2) hts wd_646 wd_12 wd_643 wd_644 wd_645 rfl rfl (by decide +kernel) ⟨(show (10) + 1 ≤ (210 + 20 * kf) by omega), (show 8 + (3 + 11) + (400) ≤ (8200 + 800 * kf) by omega)⟩) (xpV (ci := 2) (q0 := 0) (As := [.int (nI s9), .int (nI (u_215 4))]) hPc hK hz hDc rfl rfl) rfl rfl hl1.1 rfl (lv_room (Nat.le_of_ble_eq_true rfl)) d_Reader_loop_86 ⟨(show (u_1 8 - cp + (u_51 8 - (u_1 8))) + (0) ≤ (MX - cp) by omega), (show (6 * (u_1 8 - cp) + (6 * (u_51 8 - (u_1 8)))) + (0) ≤ (6 * (MX - cp)) by omega)⟩) hS (fun q _ h => hFc q h) hFc (fun u_231 t H_232 locs ht hvm hw hB hz1 hk1 hS1 => ?_)
    try dsimp only at hw
    obtain ⟨hP1, hD1⟩ := hB
    rw [ht] at hP1
    have hjn := xw_join3 (wl := [(n0, .inr (4, [.ref (u_51 4), .ref (u_51 5), .ref (u_51 6), .int (nI (u_51 7))])), ((u_51 4), .inl (ax 1, u_51 8, .inl x_69)), ((u_51 5), .inl (ax 0, u_51 8, .inl x_70)), ((u_51 6), .inl (ax 0, u_51 8, .inl x_71)), (r0, .inr (7, [.ref k0, .ref g0, .ref n0, .int (nI 1), .int (nI (u_51 9))])), (k0, .inr (9, [.ref k1, .ref k2, .int (nI ts), .int (nI th), .int (nI (u_215 0)), .int (nI (u_215 1)), .int (nI (u_215 2)), .int (nI (u_215 3))])), (k1, .inl (ax 1, 400, .inl tb)), (k2, .inl (ax 0, 401, .inl (fun j => nI (tk j)))), (g0, .inr (2, [.ref n0, .ref g1, .ref g2, .ref g3, .ref g4, .ref g5, .ref g6, .ref g7, .ref g8, .ref g9, .ref ga, .ref gb, .int (nI (u_95 0)), .int (nI ln), .int (nI br), .int (nI lp), .int (nI (va + 1))])), (g1, .inl (ax 1, 20, .inl (fun j => nI (kd j)))), (g2, .inl (ax 1, 20, .inl (fun j => nI (ow j)))), (g3, .inl (ax 1, 20, .inl (fun j => nI (sb j)))), (g4, .inl (ax 1, 20, .inl (fun j => nI (f1 j)))), (g5, .inl (ax 1, 20, .inl (fun j => nI (f2 j)))), (g6, .inl (ax 2, 20, .inl (fun j => nI ((sup te s9 (u_1 10)) j)))), (g7, .inl (ax 2, 20, .inl (fun j => nI ((sup kp s9 (u_51 10)) j)))), (g8, .inl (ax 0, 20, .inl (upd tm s9 (nI (u_215 4))))), (g9, .inl (ax 1, 20, .inl (fun j => nI (sup nm s9 (6 + va) j)))), (ga, .inl (ax 1, 29, .inl (fun j => nI (x_100 j)))), (gb, .inl (ax 1, 29, .inl (fun j => nI (x_101 j))))]) hP hD [4, 5, 6, 7, 8, 9, 10, 11, 12, 13, 14, 15] [0, 1, 2, 3, 16, 17, 18, 19] hCs (by decide) (by decide) hk1 hFc hP1 hD1 rfl
    clear hP1 hD1
    clear hPc hDc hFc hCs hz hz1 hk1 ht hvm
    clear hP hD hS
    have hS := hS1
    obtain ⟨hP, hD⟩ := hjn
    clear hS1
    have hL_234 : okf (u_215 1) (lst ln (u_51 7) kd ow sb f1 f2 (sup te s9 (u_1 10)) (sup kp s9 (u_51 10)) (sup nm s9 (6 + va)) en (sup (sup kc s9 (kc s9 + (u_1 7 - z9))) s9 ((sup kc s9 (kc s9 + (u_1 7 - z9))) s9 + (u_51 7 - u_1 7))) (upd tm s9 (nI (u_215 4))) x_69 x_70 x_71) := (fun q => (hL_227 q).same (by first | assumption | omega) (hop (okf.of (by first | assumption | omega) q)).1 (fun i hi => rfl) (fun i hi => rfl) (fun i hi => rfl) (fun i hi => rfl) (fun i hi => sup_ne hi) (fun i hi => upd_ne hi))
    have hC_235 : okf (u_215 1) (clm br (u_95 0) x_100 x_101 ln kd (sup nm s9 (6 + va))) := (fun q => (hC_228 q).up (fun i hi => ⟨rfl, fun h => by unfold sup; split; (first | omega | exact h); (first | exact h | omega)⟩))
    refine lv_aload_n hx hb d_Reader_loop_89 rfl (lv_at hl1 0 rfl) ?_
    refine va_get (D := D) (ci := 7) (v := .ref g0) (C := R_Reader) (T := F_Reader) (N := 5) hx hb hts i_Reader hown hK.1 hP 4 rfl rfl 1 (by decide) (hts _ wd_76) (fun _ h9 => h9) rfl d_Reader_loop_90 ?_
    refine lv_iconst (v := 3) hx hb d_Reader_loop_93 (by decide) ?_
    refine lv_iload_n hx hb d_Reader_loop_94 rfl (lv_at hl1 1 rfl) ?_
    obtain ⟨hPc, hDc, hFc, hCs⟩ := xw_sub3 (wc := [(g0, .inr (2, [.ref n0, .ref g1, .ref g2, .ref g3, .ref g4, .ref g5, .ref g6, .ref g7, .ref g8, .ref g9, .ref ga, .ref gb, .int (nI (u_95 0)), .int (nI ln), .int (nI br), .int (nI lp), .int (nI (va + 1))])), (g1, .inl (ax 1, 20, .inl (fun j => nI (kd j)))), (g2, .inl (ax 1, 20, .inl (fun j => nI (ow j)))), (g3, .inl (ax 1, 20, .inl (fun j => nI (sb j)))), (g4, .inl (ax 1, 20, .inl (fun j => nI (f1 j)))), (g5, .inl (ax 1, 20, .inl (fun j => nI (f2 j)))), (g6, .inl (ax 2, 20, .inl (fun j => nI ((sup te s9 (u_1 10)) j)))), (g7, .inl (ax 2, 20, .inl (fun j => nI ((sup kp s9 (u_51 10)) j)))), (g8, .inl (ax 0, 20, .inl (upd tm s9 (nI (u_215 4))))), (g9, .inl (ax 1, 20, .inl (fun j => nI ((sup nm s9 (6 + va)) j)))), (ga, .inl (ax 1, 29, .inl (fun j => nI (x_100 j)))), (gb, .inl (ax 1, 29, .inl (fun j => nI (x_101 j))))]) hP hD hS hA [8, 9, 10, 11, 12, 13, 14, 15, 16, 17, 18, 19] (by decide) rfl
    have hz := xz_of hN hS
    refine va_callv (va_runV (As := [.int 3, .int (nI s9)]) (rest := []) ⟨hx, hb, hml, hown, hts⟩ (c_L_addClaim l D ax g0 g1 g2 g3 g4 g5 g6 g7 g8 g9 ga gb (u_95 0) ln br lp (va + 1) kd ow sb f1 f2 (sup te s9 (u_1 10)) (sup kp s9 (u_51 10)) (sup nm s9 (6 + va)) x_100 x_101 (upd tm s9 (nI (u_215 4))) n0 3 s9 H_232.size (by first | assumption | omega) (by assumption) (by first | assumption | omega)) (xcV (n := 2) hts wd_613 wd_12 wd_642 wd_611 wd_612 rfl rfl (by decide +kernel) ⟨(show (10) + 1 ≤ (210 + 20 * kf) by omega), (show 8 + (3 + 11) + (400) ≤ (8200 + 800 * kf) by omega)⟩) (xpV (ci := 2) (q0 := 0) (As := [.int 3, .int (nI s9)]) hPc hK hz hDc rfl rfl) rfl rfl hl1.1 rfl (lv_room (Nat.le_of_ble_eq_true rfl)) d_Reader_loop_95 ⟨(show (u_1 8 - cp + (u_51 8 - (u_1 8))) + (0) ≤ (MX - cp) by omega), (show (6 * (u_1 8 - cp) + (6 * (u_51 8 - (u_1 8)))) + (0) ≤ (6 * (MX - cp)) by omega)⟩) hS (fun q _ h => hFc q h) hFc (fun u_236 t H_237 locs ht hvm hw hB hz1 hk1 hS1 => ?_)
    try dsimp only at hw
    obtain ⟨hs_239, hs_240⟩ := hw
    obtain ⟨x_241, x_242, hx_243, hP1, hD1⟩ := hB
    rw [ht] at hP1
    have hjn := xw_join3 (wl := [(n0, .inr (4, [.ref (u_51 4), .ref (u_51 5), .ref (u_51 6), .int (nI (u_51 7))])), ((u_51 4), .inl (ax 1, u_51 8, .inl x_69)), ((u_51 5), .inl (ax 0, u_51 8, .inl x_70)), ((u_51 6), .inl (ax 0, u_51 8, .inl x_71)), (r0, .inr (7, [.ref k0, .ref g0, .ref n0, .int (nI 1), .int (nI (u_51 9))])), (k0, .inr (9, [.ref k1, .ref k2, .int (nI ts), .int (nI th), .int (nI (u_215 0)), .int (nI (u_215 1)), .int (nI (u_215 2)), .int (nI (u_215 3))])), (k1, .inl (ax 1, 400, .inl tb)), (k2, .inl (ax 0, 401, .inl (fun j => nI (tk j)))), (g0, .inr (2, [.ref n0, .ref g1, .ref g2, .ref g3, .ref g4, .ref g5, .ref g6, .ref g7, .ref g8, .ref g9, .ref ga, .ref gb, .int (nI (u_236 0)), .int (nI ln), .int (nI br), .int (nI lp), .int (nI (va + 1))])), (g1, .inl (ax 1, 20, .inl (fun j => nI (kd j)))), (g2, .inl (ax 1, 20, .inl (fun j => nI (ow j)))), (g3, .inl (ax 1, 20, .inl (fun j => nI (sb j)))), (g4, .inl (ax 1, 20, .inl (fun j => nI (f1 j)))), (g5, .inl (ax 1, 20, .inl (fun j => nI (f2 j)))), (g6, .inl (ax 2, 20, .inl (fun j => nI ((sup te s9 (u_1 10)) j)))), (g7, .inl (ax 2, 20, .inl (fun j => nI ((sup kp s9 (u_51 10)) j)))), (g8, .inl (ax 0, 20, .inl (upd tm s9 (nI (u_215 4))))), (g9, .inl (ax 1, 20, .inl (fun j => nI ((sup nm s9 (6 + va)) j)))), (ga, .inl (ax 1, 29, .inl (fun j => nI (x_241 j)))), (gb, .inl (ax 1, 29, .inl (fun j => nI (x_242 j))))]) hP hD [8, 9, 10, 11, 12, 13, 14, 15, 16, 17, 18, 19] [0, 1, 2, 3, 4, 5, 6, 7] hCs (by decide) (by decide) hk1 hFc hP1 hD1 rfl
    clear hP1 hD1
    clear hPc hDc hFc hCs hz hz1 hk1 ht hvm
    clear hP hD hS
    have hS := hS1
    obtain ⟨hP, hD⟩ := hjn
    clear hS1
    have hK_244 : okf (u_215 1) (cll x_241 x_242 (u_236 0) = (0, 0) :: cln pl ++ [(1, s9 + 1)] ++ [(2, s9 + 1)] ++ [(3, s9 + 1)]) := fun q => cll_add (hK_103 (okf.of (by first | assumption | omega) q)) hx_243 (by first | assumption | omega) (by first | assumption | omega)
    have hC_245 : okf (u_215 1) (clm br (u_236 0) x_241 x_242 ln kd (sup nm s9 (6 + va))) := (fun q => (hC_235 q).one hx_243 (by first | assumption | omega) (Or.inr (Or.inr ⟨rfl, (hop (okf.of (by first | assumption | omega) q)).2.1, by rw [sup_eq]; omega⟩)))
    clear hx_243
    refine lv_aload_n hx hb d_Reader_loop_98 rfl (lv_at hl1 0 rfl) ?_
    refine va_get (D := D) (ci := 7) (v := .ref k0) (C := R_Reader) (T := F_Reader) (N := 5) hx hb hts i_Reader hown hK.1 hP 4 rfl rfl 0 (by decide) (hts _ wd_75) (fun _ h9 => h9) rfl d_Reader_loop_99 ?_
    refine lv_bipush (v := 15) hx hb d_Reader_loop_102 (by decide) ?_
    obtain ⟨hPc, hDc, hFc, hCs⟩ := xw_sub3 (wc := [(k0, .inr (9, [.ref k1, .ref k2, .int (nI ts), .int (nI th), .int (nI (u_215 0)), .int (nI (u_215 1)), .int (nI (u_215 2)), .int (nI (u_215 3))])), (k1, .inl (ax 1, 400, .inl tb)), (k2, .inl (ax 0, 401, .inl (fun j => nI (tk j))))]) hP hD hS hA [5, 6, 7] (by decide) rfl
    have hz := xz_of hN hS
    refine va_callv (va_runV (As := [.int 15]) (rest := []) ⟨hx, hb, hml, hown, hts⟩ (c_K_need l D ax k0 k1 k2 tb tk (u_215 0) (u_215 1) (u_215 2) (u_215 3) cn ts th 15 H_237.size hkz (by assumption) (by first | assumption | omega) (by first | assumption | omega) (by first | assumption | omega) (by first | assumption | omega) (by first | assumption | omega)) (xcV (n := 1) hts wd_571 wd_2 wd_568 wd_569 wd_570 rfl rfl (by decide +kernel) ⟨(show (20) + 1 ≤ (210 + 20 * kf) by omega), (show 8 + (2 + 11) + (800) ≤ (8200 + 800 * kf) by omega)⟩) (xpV (ci := 9) (q0 := 0) (As := [.int 15]) hPc hK hz hDc rfl rfl) rfl rfl hl1.1 rfl (lv_room (Nat.le_of_ble_eq_true rfl)) d_Reader_loop_104 ⟨(show (u_1 8 - cp + (u_51 8 - (u_1 8))) + (0) ≤ (MX - cp) by omega), (show (6 * (u_1 8 - cp) + (6 * (u_51 8 - (u_1 8)))) + (0) ≤ (6 * (MX - cp)) by omega)⟩) hS (fun q _ h => hFc q h) hFc (fun u_246 t H_247 locs ht hvm hw hB hz1 hk1 hS1 => ?_)
    try dsimp only at hw
    obtain ⟨hs_249, hs_250, hs_251, hs_252, hs_253, hs_254, hs_255, hs_256⟩ := hw
    obtain ⟨hP1, hD1⟩ := hB
    rw [ht] at hP1
    have hjn := xw_join3 (wl := [(n0, .inr (4, [.ref (u_51 4), .ref (u_51 5), .ref (u_51 6), .int (nI (u_51 7))])), ((u_51 4), .inl (ax 1, u_51 8, .inl x_69)), ((u_51 5), .inl (ax 0, u_51 8, .inl x_70)), ((u_51 6), .inl (ax 0, u_51 8, .inl x_71)), (r0, .inr (7, [.ref k0, .ref g0, .ref n0, .int (nI 1), .int (nI (u_51 9))])), (g0, .inr (2, [.ref n0, .ref g1, .ref g2, .ref g3, .ref g4, .ref g5, .ref g6, .ref g7, .ref g8, .ref g9, .ref ga, .ref gb, .int (nI (u_236 0)), .int (nI ln), .int (nI br), .int (nI lp), .int (nI (va + 1))])), (g1, .inl (ax 1, 20, .inl (fun j => nI (kd j)))), (g2, .inl (ax 1, 20, .inl (fun j => nI (ow j)))), (g3, .inl (ax 1, 20, .inl (fun j => nI (sb j)))), (g4, .inl (ax 1, 20, .inl (fun j => nI (f1 j)))), (g5, .inl (ax 1, 20, .inl (fun j => nI (f2 j)))), (g6, .inl (ax 2, 20, .inl (fun j => nI ((sup te s9 (u_1 10)) j)))), (g7, .inl (ax 2, 20, .inl (fun j => nI ((sup kp s9 (u_51 10)) j)))), (g8, .inl (ax 0, 20, .inl (upd tm s9 (nI (u_215 4))))), (g9, .inl (ax 1, 20, .inl (fun j => nI ((sup nm s9 (6 + va)) j)))), (ga, .inl (ax 1, 29, .inl (fun j => nI (x_241 j)))), (gb, .inl (ax 1, 29, .inl (fun j => nI (x_242 j)))), (k0, .inr (9, [.ref k1, .ref k2, .int (nI ts), .int (nI th), .int (nI (u_246 0)), .int (nI (u_246 1)), .int (nI (u_246 2)), .int (nI (u_246 3))])), (k1, .inl (ax 1, 400, .inl tb)), (k2, .inl (ax 0, 401, .inl (fun j => nI (tk j))))]) hP hD [5, 6, 7] [0, 1, 2, 3, 4, 8, 9, 10, 11, 12, 13, 14, 15, 16, 17, 18, 19] hCs (by decide) (by decide) hk1 hFc hP1 hD1 rfl
    clear hP1 hD1
    clear hPc hDc hFc hCs hz hz1 hk1 ht hvm
    clear hP hD hS
    have hS := hS1
    obtain ⟨hP, hD⟩ := hjn
    clear hS1
    have hL_257 : okf (u_246 1) (lst ln (u_51 7) kd ow sb f1 f2 (sup te s9 (u_1 10)) (sup kp s9 (u_51 10)) (sup nm s9 (6 + va)) en (sup (sup kc s9 (kc s9 + (u_1 7 - z9))) s9 ((sup kc s9 (kc s9 + (u_1 7 - z9))) s9 + (u_51 7 - u_1 7))) (upd tm s9 (nI (u_215 4))) x_69 x_70 x_71) := hL_234.back hs_254
    have hC_258 : okf (u_246 1) (clm br (u_236 0) x_241 x_242 ln kd (sup nm s9 (6 + va))) := hC_245.back hs_254
    have hN_259 : okf (u_246 1) (ndv x_69 x_70 x_71 (u_51 7)) := hN_229.back hs_254
    have hQ_260 : okf (u_246 1) (nlq x_69 x_70 x_71 (u_51 7) ((L0 ++ x_22) ++ x_72)) := hQ_230.back hs_254
    have hO_261 : okf (u_246 1) (s9 = 4294967295 ∨ (s9 < ln ∧ en s9 = 100)) := fun q => Or.inr ⟨by omega, (hop (okf.of (by first | assumption | omega) q)).1⟩
    refine lv_aload_n hx hb d_Reader_loop_107 rfl (lv_at hl1 0 rfl) ?_
    refine va_get (D := D) (ci := 7) (v := .ref g0) (C := R_Reader) (T := F_Reader) (N := 5) hx hb hts i_Reader hown hK.1 hP 4 rfl rfl 1 (by decide) (hts _ wd_76) (fun _ h9 => h9) rfl d_Reader_loop_108 ?_
    refine va_get (D := D) (ci := 2) (v := .ref g4) (C := R_Listing) (T := F_Listing) (N := 17) hx hb hts i_Listing hown hK.1 hP 5 rfl rfl 4 (by decide) (hts _ wd_280) (fun _ h9 => h9) rfl d_Reader_loop_111 ?_
    refine lv_iload_n hx hb d_Reader_loop_114 rfl (lv_at hl1 1 rfl) ?_
    have hK_263 : okf (u_246 1) (cll x_241 x_242 (u_236 0) = (0, 0) :: cln (pl ++ [(5, ln, wgh 2 pl, (tmu tk (u_51 0 + 1)), x_22, x_72)])) := fun q => cq_5v (by rw [show ln = s9 + 1 by omega]; exact (hK_244 (okf.of (by first | assumption | omega) q))) wgh_6
    have hV_262 : okf (u_246 1) (va + 1 = vct (pl ++ [(5, ln, wgh 2 pl, (tmu tk (u_51 0 + 1)), x_22, x_72)])) := fun q => by rw [vct_app, vct_y ⟨rfl, wgh_6⟩, ← hvc (okf.of (by first | assumption | omega) q)]
    refine lv_aload_n hx hb d_Reader_loop_115 rfl (lv_at hl1 0 rfl) ?_
    refine lv_iload_n hx hb d_Reader_loop_116 rfl (lv_at hl1 1 rfl) ?_
    obtain ⟨hPc, hDc, hFc, hCs⟩ := xw_sub3 (wc := [(r0, .inr (7, [.ref k0, .ref g0, .ref n0, .int (nI 1), .int (nI (u_51 9))])), (k0, .inr (9, [.ref k1, .ref k2, .int (nI ts), .int (nI th), .int (nI (u_246 0)), .int (nI (u_246 1)), .int (nI (u_246 2)), .int (nI (u_246 3))])), (k1, .inl (ax 1, 400, .inl tb)), (k2, .inl (ax 0, 401, .inl (fun j => nI (tk j)))), (n0, .inr (4, [.ref (u_51 4), .ref (u_51 5), .ref (u_51 6), .int (nI (u_51 7))])), ((u_51 4), .inl (ax 1, u_51 8, .inl x_69)), ((u_51 5), .inl (ax 0, u_51 8, .inl x_70)), ((u_51 6), .inl (ax 0, u_51 8, .inl x_71)), (g0, .inr (2, [.ref n0, .ref g1, .ref g2, .ref g3, .ref g4, .ref g5, .ref g6, .ref g7, .ref g8, .ref g9, .ref ga, .ref gb, .int (nI (u_236 0)), .int (nI ln), .int (nI br), .int (nI lp), .int (nI (va + 1))])), (g1, .inl (ax 1, 20, .inl (fun j => nI (kd j)))), (g2, .inl (ax 1, 20, .inl (fun j => nI (ow j)))), (g3, .inl (ax 1, 20, .inl (fun j => nI (sb j)))), (g4, .inl (ax 1, 20, .inl (fun j => nI (f1 j)))), (g5, .inl (ax 1, 20, .inl (fun j => nI (f2 j)))), (g6, .inl (ax 2, 20, .inl (fun j => nI ((sup te s9 (u_1 10)) j)))), (g7, .inl (ax 2, 20, .inl (fun j => nI ((sup kp s9 (u_51 10)) j)))), (g8, .inl (ax 0, 20, .inl (upd tm s9 (nI (u_215 4))))), (g9, .inl (ax 1, 20, .inl (fun j => nI ((sup nm s9 (6 + va)) j)))), (ga, .inl (ax 1, 29, .inl (fun j => nI (x_241 j)))), (gb, .inl (ax 1, 29, .inl (fun j => nI (x_242 j))))]) hP hD hS hA [4, 17, 18, 19, 0, 1, 2, 3, 5, 6, 7, 8, 9, 10, 11, 12, 13, 14, 15, 16] (by decide) rfl
    have hz := xz_of hN hS
    refine wk_know (fun hk8 hk9 => ?_)
    refine va_calli (va_runV (As := [.int (nI s9)]) (rest := [.int (nI s9), .ref g4]) ⟨hx, hb, hml, hown, hts⟩ (c_R_statements l kf hst D ax r0 k0 k1 k2 tb tk (u_246 0) (u_246 1) (u_246 2) (u_246 3) cn ts th 1 (u_51 9) n0 (u_51 4) (u_51 5) (u_51 6) (u_51 8) (u_51 7) x_69 x_70 x_71 g0 g1 g2 g3 g4 g5 g6 g7 g8 g9 ga gb (u_236 0) ln br lp (va + 1) kd ow sb f1 f2 (sup te s9 (u_1 10)) (sup kp s9 (u_51 10)) (sup nm s9 (6 + va)) x_241 x_242 (upd tm s9 (nI (u_215 4))) MX en (sup (sup kc s9 (kc s9 + (u_1 7 - z9))) s9 ((sup kc s9 (kc s9 + (u_1 7 - z9))) s9 + (u_51 7 - u_1 7))) ((5, ln, wgh 2 pl, (tmu tk (u_51 0 + 1)), x_22, x_72) :: sg) (pl ++ [(5, ln, wgh 2 pl, (tmu tk (u_51 0 + 1)), x_22, x_72)]) ((L0 ++ x_22) ++ x_72) s9 H_247.size (tsl H_247) hkz (by assumption) (by first | assumption | omega) (by first | assumption | omega) (by first | assumption | omega) (by first | assumption | omega) (by first | assumption | omega) (by first | assumption | omega) (by first | assumption | omega) (by first | assumption | omega) (by assumption) (by assumption) (by first | assumption | omega) (by first | assumption | omega) (by first | assumption | omega) (by first | assumption | omega) (by first | assumption | omega) (by assumption) (by assumption) (by assumption) (by assumption) (by assumption) (by first | assumption | omega) (by assumption) (by assumption) (by first | assumption | omega)) (xcV (n := 1) hts wd_617 wd_3 wd_614 wd_616 ps_14 rfl rfl (by decide +kernel) ⟨(show (205 + 20 * kf) + 1 ≤ (210 + 20 * kf) by omega), (show 8 + (6 + 11) + (8100 + 800 * kf) ≤ (8200 + 800 * kf) by omega)⟩) (xpV3 (ci := 7) (q0 := 0) (As := [.int (nI s9)]) hPc hK hz hDc rfl rfl) rfl rfl hl1.1 rfl (lv_room (Nat.le_of_ble_eq_true rfl)) d_Reader_loop_117 ⟨(show (u_1 8 - cp + (u_51 8 - (u_1 8))) + (MX - (u_51 8)) ≤ (MX - cp) by omega), (show (6 * (u_1 8 - cp) + (6 * (u_51 8 - (u_1 8)))) + (6 * (MX - (u_51 8))) ≤ (6 * (MX - cp)) by omega)⟩) hS (fun q _ h => hFc q h) hFc (fun r_266 u_264 t H_265 locs ht hvm hw hB hz1 hk1 hS1 => ?_)
    try dsimp only at hw
    obtain ⟨hw, hs_267, hs_268, hs_269, hs_270, hs_271, hs_272, hs_273, hs_274, hs_275, hs_276, hs_277, hs_278, hs_279, hs_280, hs_281, hs_282, hs_283, hs_284, hs_285, hs_286, hs_287, hs_288⟩ := hw
    subst hw
    obtain ⟨x_289, x_290, x_291, x_292, x_293, x_294, x_295, x_296, x_297, x_298, x_299, x_300, x_301, x_302, x_303, x_304, x_305, x_306, hg8, hg9, hx_307, hx_308, hx_309, hx_310, hx_311, hx_312, hx_313, hx_314, hx_315, hx_316, hx_317, hx_318, hx_319, hP1, hD1⟩ := hB
    rw [ht] at hg8 hg9 hP1
    have hjn := xw_join3 (wl := [(r0, .inr (7, [.ref k0, .ref g0, .ref n0, .int (nI (u_264 11)), .int (nI (u_264 9))])), (k0, .inr (9, [.ref k1, .ref k2, .int (nI ts), .int (nI th), .int (nI (u_264 0)), .int (nI (u_264 1)), .int (nI (u_264 2)), .int (nI (u_264 3))])), (k1, .inl (ax 1, 400, .inl tb)), (k2, .inl (ax 0, 401, .inl (fun j => nI (tk j)))), (n0, .inr (4, [.ref (u_264 4), .ref (u_264 5), .ref (u_264 6), .int (nI (u_264 7))])), ((u_264 4), .inl (ax 1, u_264 8, .inl x_300)), ((u_264 5), .inl (ax 0, u_264 8, .inl x_301)), ((u_264 6), .inl (ax 0, u_264 8, .inl x_302)), (g0, .inr (2, [.ref n0, .ref g1, .ref g2, .ref g3, .ref g4, .ref g5, .ref g6, .ref g7, .ref g8, .ref g9, .ref ga, .ref gb, .int (nI (u_264 12)), .int (nI (u_264 13)), .int (nI (u_264 14)), .int (nI (u_264 15)), .int (nI (u_264 16))])), (g1, .inl (ax 1, 20, .inl (fun j => nI (x_289 j)))), (g2, .inl (ax 1, 20, .inl (fun j => nI (x_290 j)))), (g3, .inl (ax 1, 20, .inl (fun j => nI (x_291 j)))), (g4, .inl (ax 1, 20, .inl (fun j => nI (x_292 j)))), (g5, .inl (ax 1, 20, .inl (fun j => nI (x_293 j)))), (g6, .inl (ax 2, 20, .inl (fun j => nI (x_294 j)))), (g7, .inl (ax 2, 20, .inl (fun j => nI (x_295 j)))), (g8, .inl (ax 0, 20, .inl x_299)), (g9, .inl (ax 1, 20, .inl (fun j => nI (x_296 j)))), (ga, .inl (ax 1, 29, .inl (fun j => nI (x_297 j)))), (gb, .inl (ax 1, 29, .inl (fun j => nI (x_298 j))))]) hP hD [4, 17, 18, 19, 0, 1, 2, 3, 5, 6, 7, 8, 9, 10, 11, 12, 13, 14, 15, 16] [] hCs (by decide) (by decide) hk1 hFc hP1 hD1 rfl
    clear hP1 hD1
    clear hPc hDc hFc hCs hz hz1 hk1 ht hvm
    clear hP hD hS
    have hS := hS1
    obtain ⟨hP, hD⟩ := hjn
    clear hS1
    refine wk_narrow (k := u_1 8 - cp + (u_51 8 - (u_1 8)) + (u_264 8 - (u_51 8))) (n := 6 * (u_1 8 - cp) + (6 * (u_51 8 - (u_1 8))) + (6 * (u_264 8 - (u_51 8)))) (by first | assumption | omega) (by first | assumption | omega) ?_
    clear hk8 hk9 hg8 hg9
    have hQ_320 : okf (u_264 1) (nlq x_300 x_301 x_302 (u_264 7) x_306) := fun q => (hx_317 q).1
    refine lv_i2b (v := nI (u_264 10)) hx hb d_Reader_loop_120 (nb_i2bs hs_288) ?_
    refine va_bast hx hb hK.1 hP hD hS 12 1 rfl rfl (vp_in_nI (by first | assumption | omega) (by decide)) d_Reader_loop_121 (fun H_321 locs hP1 hD1 hS1 => ?_)
    rw [nI_clamp (by first | exact Nat.lt_of_lt_of_le (by assumption) (by decide) | exact Nat.lt_of_le_of_lt (by assumption) (by decide) | omega)] at hP1 hD1
    rw [xf_supbs x_292 s9 (u_264 10) hs_288] at hP1 hD1
    clear hP hD hS
    have hS := hS1
    have hW7 : (fun w9 : va_W => va_P D classes w9 H_321 ∧ va_D A w9) [(r0, .inr (7, [.ref k0, .ref g0, .ref n0, .int (nI (u_264 11)), .int (nI (u_264 9))])), (k0, .inr (9, [.ref k1, .ref k2, .int (nI ts), .int (nI th), .int (nI (u_264 0)), .int (nI (u_264 1)), .int (nI (u_264 2)), .int (nI (u_264 3))])), (k1, .inl (ax 1, 400, .inl tb)), (k2, .inl (ax 0, 401, .inl (fun j => nI (tk j)))), (n0, .inr (4, [.ref (u_264 4), .ref (u_264 5), .ref (u_264 6), .int (nI (u_264 7))])), ((u_264 4), .inl (ax 1, u_264 8, .inl x_300)), ((u_264 5), .inl (ax 0, u_264 8, .inl x_301)), ((u_264 6), .inl (ax 0, u_264 8, .inl x_302)), (g0, .inr (2, [.ref n0, .ref g1, .ref g2, .ref g3, .ref g4, .ref g5, .ref g6, .ref g7, .ref g8, .ref g9, .ref ga, .ref gb, .int (nI (u_264 12)), .int (nI (u_264 13)), .int (nI (u_264 14)), .int (nI (u_264 15)), .int (nI (u_264 16))])), (g1, .inl (ax 1, 20, .inl (fun j => nI (x_289 j)))), (g2, .inl (ax 1, 20, .inl (fun j => nI (x_290 j)))), (g3, .inl (ax 1, 20, .inl (fun j => nI (x_291 j)))), (g4, .inl (ax 1, 20, .inl (fun j => nI (sup x_292 s9 (u_264 10) j)))), (g5, .inl (ax 1, 20, .inl (fun j => nI (x_293 j)))), (g6, .inl (ax 2, 20, .inl (fun j => nI (x_294 j)))), (g7, .inl (ax 2, 20, .inl (fun j => nI (x_295 j)))), (g8, .inl (ax 0, 20, .inl x_299)), (g9, .inl (ax 1, 20, .inl (fun j => nI (x_296 j)))), (ga, .inl (ax 1, 29, .inl (fun j => nI (x_297 j)))), (gb, .inl (ax 1, 29, .inl (fun j => nI (x_298 j))))] := ⟨hP1, hD1⟩
    obtain ⟨hP, hD⟩ := hW7
    clear hP1 hD1 hS1
    have hE_322 : okf (u_264 1) (x_303 s9 = 100) := fun q => ((hx_309 q s9 (by first | assumption | omega)).2.2.2.2.2.2.2.2.1.trans (hop (okf.of (by first | assumption | omega) q)).1)
    have hL_323 : okf (u_264 1) (lst (u_264 13) (u_264 7) x_289 x_290 x_291 (sup x_292 s9 (u_264 10)) x_293 x_294 x_295 x_296 x_303 x_304 x_299 x_300 x_301 x_302) := (fun q => (hx_307 q).same (by first | assumption | omega) (hE_322 q) (fun i hi => sup_ne hi) (fun i hi => rfl) (fun i hi => rfl) (fun i hi => rfl) (fun i hi => rfl) (fun i hi => rfl))
    have hC_324 : okf (u_264 1) (clm (u_264 14) (u_264 12) x_297 x_298 (u_264 13) x_289 x_296) := hx_311
    refine lv_aload_n hx hb d_Reader_loop_122 rfl (lv_at hl1 0 rfl) ?_
    refine va_get (D := D) (ci := 7) (v := .ref k0) (C := R_Reader) (T := F_Reader) (N := 5) hx hb hts i_Reader hown hK.1 hP 0 rfl rfl 0 (by decide) (hts _ wd_75) (fun _ h9 => h9) rfl d_Reader_loop_123 ?_
    refine lv_bipush (v := 16) hx hb d_Reader_loop_126 (by decide) ?_
    obtain ⟨hPc, hDc, hFc, hCs⟩ := xw_sub3 (wc := [(k0, .inr (9, [.ref k1, .ref k2, .int (nI ts), .int (nI th), .int (nI (u_264 0)), .int (nI (u_264 1)), .int (nI (u_264 2)), .int (nI (u_264 3))])), (k1, .inl (ax 1, 400, .inl tb)), (k2, .inl (ax 0, 401, .inl (fun j => nI (tk j))))]) hP hD hS hA [1, 2, 3] (by decide) rfl
    have hz := xz_of hN hS
    refine va_callv (va_runV (As := [.int 16]) (rest := []) ⟨hx, hb, hml, hown, hts⟩ (c_K_need l D ax k0 k1 k2 tb tk (u_264 0) (u_264 1) (u_264 2) (u_264 3) cn ts th 16 H_321.size hkz (by assumption) (by first | assumption | omega) (by first | assumption | omega) (by first | assumption | omega) (by first | assumption | omega) (by first | assumption | omega)) (xcV (n := 1) hts wd_571 wd_2 wd_568 wd_569 wd_570 rfl rfl (by decide +kernel) ⟨(show (20) + 1 ≤ (210 + 20 * kf) by omega), (show 8 + (2 + 11) + (800) ≤ (8200 + 800 * kf) by omega)⟩) (xpV (ci := 9) (q0 := 0) (As := [.int 16]) hPc hK hz hDc rfl rfl) rfl rfl hl1.1 rfl (lv_room (Nat.le_of_ble_eq_true rfl)) d_Reader_loop_128 ⟨(show (u_1 8 - cp + (u_51 8 - (u_1 8)) + (u_264 8 - (u_51 8))) + (0) ≤ (MX - cp) by omega), (show (6 * (u_1 8 - cp) + (6 * (u_51 8 - (u_1 8))) + (6 * (u_264 8 - (u_51 8)))) + (0) ≤ (6 * (MX - cp)) by omega)⟩) hS (fun q _ h => hFc q h) hFc (fun u_325 t H_326 locs ht hvm hw hB hz1 hk1 hS1 => ?_)
    try dsimp only at hw
    obtain ⟨hs_328, hs_329, hs_330, hs_331, hs_332, hs_333, hs_334, hs_335⟩ := hw
    obtain ⟨hP1, hD1⟩ := hB
    rw [ht] at hP1
    have hjn := xw_join3 (wl := [(r0, .inr (7, [.ref k0, .ref g0, .ref n0, .int (nI (u_264 11)), .int (nI (u_264 9))])), (n0, .inr (4, [.ref (u_264 4), .ref (u_264 5), .ref (u_264 6), .int (nI (u_264 7))])), ((u_264 4), .inl (ax 1, u_264 8, .inl x_300)), ((u_264 5), .inl (ax 0, u_264 8, .inl x_301)), ((u_264 6), .inl (ax 0, u_264 8, .inl x_302)), (g0, .inr (2, [.ref n0, .ref g1, .ref g2, .ref g3, .ref g4, .ref g5, .ref g6, .ref g7, .ref g8, .ref g9, .ref ga, .ref gb, .int (nI (u_264 12)), .int (nI (u_264 13)), .int (nI (u_264 14)), .int (nI (u_264 15)), .int (nI (u_264 16))])), (g1, .inl (ax 1, 20, .inl (fun j => nI (x_289 j)))), (g2, .inl (ax 1, 20, .inl (fun j => nI (x_290 j)))), (g3, .inl (ax 1, 20, .inl (fun j => nI (x_291 j)))), (g4, .inl (ax 1, 20, .inl (fun j => nI (sup x_292 s9 (u_264 10) j)))), (g5, .inl (ax 1, 20, .inl (fun j => nI (x_293 j)))), (g6, .inl (ax 2, 20, .inl (fun j => nI (x_294 j)))), (g7, .inl (ax 2, 20, .inl (fun j => nI (x_295 j)))), (g8, .inl (ax 0, 20, .inl x_299)), (g9, .inl (ax 1, 20, .inl (fun j => nI (x_296 j)))), (ga, .inl (ax 1, 29, .inl (fun j => nI (x_297 j)))), (gb, .inl (ax 1, 29, .inl (fun j => nI (x_298 j)))), (k0, .inr (9, [.ref k1, .ref k2, .int (nI ts), .int (nI th), .int (nI (u_325 0)), .int (nI (u_325 1)), .int (nI (u_325 2)), .int (nI (u_325 3))])), (k1, .inl (ax 1, 400, .inl tb)), (k2, .inl (ax 0, 401, .inl (fun j => nI (tk j))))]) hP hD [1, 2, 3] [0, 4, 5, 6, 7, 8, 9, 10, 11, 12, 13, 14, 15, 16, 17, 18, 19] hCs (by decide) (by decide) hk1 hFc hP1 hD1 rfl
    clear hP1 hD1
    clear hPc hDc hFc hCs hz hz1 hk1 ht hvm
    clear hP hD hS
    have hS := hS1
    obtain ⟨hP, hD⟩ := hjn
    clear hS1
    have hL_336 : okf (u_325 1) (lst (u_264 13) (u_264 7) x_289 x_290 x_291 (sup x_292 s9 (u_264 10)) x_293 x_294 x_295 x_296 x_303 x_304 x_299 x_300 x_301 x_302) := hL_323.back hs_333
    have hC_337 : okf (u_325 1) (clm (u_264 14) (u_264 12) x_297 x_298 (u_264 13) x_289 x_296) := hC_324.back hs_333
    have hF : okf (u_325 1) ((cls ln (u_264 13) x_303) ∧ (sae s9 ln kd ow sb f1 f2 te kp nm en kc x_289 x_290 x_291 (sup x_292 s9 (u_264 10)) x_293 x_294 x_295 x_296 x_303 x_304 tm x_299) ∧ (lsc (u_264 13) (u_264 7) x_289 (sup x_292 s9 (u_264 10)) x_293 x_294 x_295 x_296 x_304 x_299 x_300 x_301 x_302 s9) ∧ (∀ i, i < z9 → tsn x_300 x_301 x_302 i = tsn fo fl fr i)) := by
      intro q
      have q1 : u_264 1 = 4294967295 := okf.of (by first | assumption | omega) q
      have qb : u_51 1 = 4294967295 := okf.of (by first | assumption | omega) q1
      have qa : u_1 1 = 4294967295 := okf.of (by first | assumption | omega) qb
      have qz : tf = 4294967295 := okf.of (by first | assumption | omega) qa
      have ha := hx_309 q1
      have hc9 := (Nat.lt_of_succ_le (Nat.le_of_eq (hs_16 qa))); have ht9 := hx_25 qa; have hk9 := hx_26 qa
      have hc8 := (Nat.lt_of_succ_le (Nat.le_of_eq (hs_66 qb))); have ht8 := hx_75 qb; have hk8 := hx_76 qb
      have hr1 := hx_310 q1
      obtain ⟨a1, a2, a3, a4, a5, a6, a7, a8, a9, a10, a11⟩ := ha s9 (by first | assumption | omega)
      obtain ⟨ho1, ho2, ho3⟩ := hop qz
      have hT1 := hx_314 q1; have hcl1 := hx_308 q1
      refine ⟨hcl1, ⟨fun i hi he => ?_, a1, a2, a3, a9⟩, ?_, fun i hi => (hT1 i (by first | assumption | omega)).trans ((hk8 i (by first | assumption | omega)).trans (hk9 i hi))⟩
      · obtain ⟨x1, x2, x3, x4, x5, x6, x7, x8, x9, x10, x11⟩ := ha i hi
        exact ⟨x1, x2, x3, (sup_ne he).trans x4, x5, x6.trans (sup_ne he), x7.trans (sup_ne he), x8.trans (sup_ne he), x9, x10.trans ((sup_ne he).trans (sup_ne he)), x11.trans (upd_ne he)⟩
      · have e8 : x_289 s9 = 12 := a1.trans ho2
        have e6 : x_294 s9 = u_1 10 := a6.trans sup_eq
        have e7 : x_295 s9 = u_51 10 := a7.trans sup_eq
        have e4 : (sup x_292 s9 (u_264 10)) s9 = u_264 10 := sup_eq
        have e10 := a10.trans sup_eq
        rw [sup_eq] at e10
        refine ⟨fun h => by omega, fun h => by omega, fun _ => ⟨by omega, by omega, ?_, by omega, by omega, ?_⟩, fun h => by omega⟩
        · rw [e6, e7, e10, hT1 _ (by first | assumption | omega), hT1 _ (by first | assumption | omega), hk8 _ (by first | assumption | omega)]; omega
        · exact Or.inr ⟨by rw [a8, sup_eq]; omega, by rw [a11, upd_eq]; exact hs_224⟩
    have hB9 : okf (u_325 1) (bk9 s9 (u_264 13) x_289 x_290 x_291 (sup x_292 s9 (u_264 10)) x_293 x_294 x_295 x_296 x_299 x_306 (ow s9) s9 pl (x_305 ++ [odI (5, ln, wgh 2 pl, (tmu tk (u_51 0 + 1)), x_22, x_72)])) := by
      intro q
      have q1 : u_264 1 = 4294967295 := okf.of (by first | assumption | omega) q
      have qb : u_51 1 = 4294967295 := okf.of (by first | assumption | omega) q1
      have qa : u_1 1 = 4294967295 := okf.of (by first | assumption | omega) qb
      have qz : tf = 4294967295 := okf.of (by first | assumption | omega) qa
      obtain ⟨la, hba⟩ := hx_316 q1
      have hna := hx_317 q1
      have ha := hx_309 q1
      have hr1 := hx_310 q1
      have hg1 := hG_31 qa; have hl1_ := hQ_30 qa; have hc1 := hs_16 qa; have hz1 := (hx_27 qa).2
      have hg2 := hG_81 qb; have hl2_ := hQ_80 qb; have hc2 := hs_66 qb; have hz2 := (hx_77 qb).2
      obtain ⟨a1, a2, a3, a4, a5, a6, a7, a8, a9, a10, a11⟩ := ha s9 (by first | assumption | omega)
      obtain ⟨ho1, ho2, ho3⟩ := hop qz
      have els : ln = s9 + 1 := by omega
      rw [els] at hba
      rw [show ((5, ln, wgh 2 pl, (tmu tk (u_51 0 + 1)), x_22, x_72) : itT) = (5, s9 + 1, wgh 2 pl, (tmu tk (u_51 0 + 1)), x_22, x_72) by rw [els]]
      refine bk9_lp (hba.fr (fun i hp hi => ⟨rfl, rfl, rfl, sup_ne (by first | assumption | omega), rfl, rfl, rfl, rfl, rfl⟩) hna.1.2.2.1 prx.rf) (a1.trans ho2) (sup_eq.trans (hr1.1.trans els)) (a3.trans (hsb qz)) a2 rfl (itm_wh hg1.1 hg1.2 ?_ hg2.1 hg2.2 ?_ (a1.trans ho2) ?_)
      · rw [a6.trans sup_eq]
        exact cnd_at (hnl qz).2.1 hg1.1 hl1_.2.2.1 (prx.tr (show prx (L0 ++ x_22) (L0 ++ x_22 ++ x_72) from ⟨_, rfl⟩) hna.2) (by first | assumption | omega)
      · rw [a7.trans sup_eq]
        exact cnd_at hl1_.2.1 hg2.1 hl2_.2.2.1 hna.2 (by first | assumption | omega)
      · exact Or.inr ⟨by rw [a8, sup_eq]; omega, by rw [a8, sup_eq]; omega, by rw [a8, sup_eq]; exact wgh_v (hvc qz), by rw [a11, upd_eq]; exact (hs_226 (okf.of (by first | assumption | omega) (okf.of (by first | assumption | omega) q1 : u_215 1 = 4294967295)) (okf.of (by first | assumption | omega) q1)).trans (by rw [hs_208 hok9]), trb hkz (by have h8 := hs_208 hok9; omega)⟩
    have hB8 : okf (u_325 1) (nlq x_300 x_301 x_302 (u_264 7) x_306 ∧ prx L0 x_306) := fun q => ⟨(hx_317 (okf.of (by first | assumption | omega) q)).1, prx.tr (show prx L0 (L0 ++ x_22 ++ x_72) from ⟨_, List.append_assoc _ _ _⟩) (hx_317 (okf.of (by first | assumption | omega) q)).2⟩
    have hB7 : okf (u_325 1) (u_264 16 = vct (x_305 ++ [odI (5, ln, wgh 2 pl, (tmu tk (u_51 0 + 1)), x_22, x_72)])) := fun q => by rw [vct_app, vct_n (x := odI (5, ln, wgh 2 pl, (tmu tk (u_51 0 + 1)), x_22, x_72)) (show ¬ (6 : Nat) = 5 by decide)]; exact hx_318 (okf.of (by first | assumption | omega) q)
    have hB6 : okf (u_325 1) (cll x_297 x_298 (u_264 12) = (0, 0) :: cln (x_305 ++ [odI (5, ln, wgh 2 pl, (tmu tk (u_51 0 + 1)), x_22, x_72)])) := fun q => cq_n (x := odI (5, ln, wgh 2 pl, (tmu tk (u_51 0 + 1)), x_22, x_72)) (hx_319 (okf.of (by first | assumption | omega) q)) (show ¬ (6 : Nat) = 5 by decide) (show ¬ (6 : Nat) = 8 by decide)
    rw [← hQe]
    refine wk_know (fun hk8 hk9 => ?_)
    refine W.widen (k := MX - cp) (n := 6 * (MX - cp)) (by first | assumption | omega) (by first | assumption | omega) ?_
    obtain ⟨hP9, hD9⟩ := xw_sub2 (wc := (fun (u : Nat → Nat) (xkd : Nat → Nat) (xow : Nat → Nat) (xsb : Nat → Nat) (xf1 : Nat → Nat) (xf2 : Nat → Nat) (xte : Nat → Nat) (xkp : Nat → Nat) (xnm : Nat → Nat) (xck : Nat → Nat) (xco : Nat → Nat) (xtm : Nat → Int32) (xfo : Nat → Int32) (xfl : Nat → Int32) (xfr : Nat → Int32) (xen : Nat → Nat) (xkc : Nat → Nat) (xpl : List itT) (xL : List sgT) => [(r0, .inr (7, [.ref k0, .ref g0, .ref n0, .int (nI (u 11)), .int (nI (u 9))])), (k0, .inr (9, [.ref k1, .ref k2, .int (nI ts), .int (nI th), .int (nI (u 0)), .int (nI (u 1)), .int (nI (u 2)), .int (nI (u 3))])), (k1, .inl (ax 1, 400, .inl tb)), (k2, .inl (ax 0, 401, .inl (fun j => nI (tk j)))), (n0, .inr (4, [.ref (u 4), .ref (u 5), .ref (u 6), .int (nI (u 7))])), (u 4, .inl (ax 1, u 8, .inl xfo)), (u 5, .inl (ax 0, u 8, .inl xfl)), (u 6, .inl (ax 0, u 8, .inl xfr)), (g0, .inr (2, [.ref n0, .ref g1, .ref g2, .ref g3, .ref g4, .ref g5, .ref g6, .ref g7, .ref g8, .ref g9, .ref ga, .ref gb, .int (nI (u 12)), .int (nI (u 13)), .int (nI (u 14)), .int (nI (u 15)), .int (nI (u 16))])), (g1, .inl (ax 1, 20, .inl (fun j => nI (xkd j)))), (g2, .inl (ax 1, 20, .inl (fun j => nI (xow j)))), (g3, .inl (ax 1, 20, .inl (fun j => nI (xsb j)))), (g4, .inl (ax 1, 20, .inl (fun j => nI (xf1 j)))), (g5, .inl (ax 1, 20, .inl (fun j => nI (xf2 j)))), (g6, .inl (ax 2, 20, .inl (fun j => nI (xte j)))), (g7, .inl (ax 2, 20, .inl (fun j => nI (xkp j)))), (g8, .inl (ax 0, 20, .inl xtm)), (g9, .inl (ax 1, 20, .inl (fun j => nI (xnm j)))), (ga, .inl (ax 1, 29, .inl (fun j => nI (xck j)))), (gb, .inl (ax 1, 29, .inl (fun j => nI (xco j))))]) (ixn [(u_325 0), (u_325 1), (u_325 2), (u_325 3), (u_264 4), (u_264 5), (u_264 6), (u_264 7), (u_264 8), (u_264 9), 0, (u_264 11), (u_264 12), (u_264 13), (u_264 14), (u_264 15), (u_264 16)]) x_289 x_290 x_291 (sup x_292 s9 (u_264 10)) x_293 x_294 x_295 x_296 x_297 x_298 x_299 x_300 x_301 x_302 x_303 x_304 (x_305 ++ [odI (5, ln, wgh 2 pl, (tmu tk (u_51 0 + 1)), x_22, x_72)]) x_306) hP hD [0, 17, 18, 19, 1, 2, 3, 4, 5, 6, 7, 8, 9, 10, 11, 12, 13, 14, 15, 16] (by decide) rfl
    have hex0 : okf ((u_325 1)) (lst ((u_264 13)) ((u_264 7)) x_289 x_290 x_291 (sup x_292 s9 (u_264 10)) x_293 x_294 x_295 x_296 x_303 x_304 x_299 x_300 x_301 x_302) := hL_336
    have hex1 : okf ((u_325 1)) (cls ln ((u_264 13)) x_303) := (fun q => (hF q).1)
    have hex2 : okf ((u_325 1)) (sae s9 ln kd ow sb f1 f2 te kp nm en kc x_289 x_290 x_291 (sup x_292 s9 (u_264 10)) x_293 x_294 x_295 x_296 x_303 x_304 tm x_299) := (fun q => (hF q).2.1)
    have hex3 : okf ((u_325 1)) (lsc ((u_264 13)) ((u_264 7)) x_289 (sup x_292 s9 (u_264 10)) x_293 x_294 x_295 x_296 x_304 x_299 x_300 x_301 x_302 s9) := (fun q => (hF q).2.2.1)
    have hex4 : okf ((u_325 1)) (clm ((u_264 14)) ((u_264 12)) x_297 x_298 ((u_264 13)) x_289 x_296) := hC_337
    have hex5 : okf ((u_325 1)) (ndv x_300 x_301 x_302 ((u_264 7))) := (hx_312.back hs_333)
    have hex6 : bts x_300 ((u_264 8)) := (by assumption)
    have hex7 : okf ((u_325 1)) (∀ i, i < z9 → tsn x_300 x_301 x_302 i = tsn fo fl fr i) := (fun q => (hF q).2.2.2)
    have hex8 : brS tk 5 b0 tf ta sg ln br lp pl ((u_325 1)) ((u_325 0)) ((u_264 13)) ((u_264 14)) ((u_264 15)) (x_305 ++ [odI (5, ln, wgh 2 pl, (tmu tk (u_51 0 + 1)), x_22, x_72)]) := (lp_of (by first | assumption | omega) hb0 hb1 hx_28 hs_4 hs_45 hx_78 (vr_y hs_54 (by first | assumption | omega) hok9 (hs_208 hok9) hs_209 hs_225 hs_218 hs_256) (Or.inl ⟨rfl, rfl⟩) hx_315 hs_287 hs_267 hs_335)
    have hex9 : okf ((u_325 1)) (bk9 s9 ((u_264 13)) x_289 x_290 x_291 (sup x_292 s9 (u_264 10)) x_293 x_294 x_295 x_296 x_299 x_306 (ow s9) s9 pl (x_305 ++ [odI (5, ln, wgh 2 pl, (tmu tk (u_51 0 + 1)), x_22, x_72)])) := hB9
    have hex10 : okf ((u_325 1)) (nlq x_300 x_301 x_302 ((u_264 7)) x_306 ∧ prx L0 x_306) := hB8
    have hex11 : okf ((u_325 1)) ((u_264 16) = vct (x_305 ++ [odI (5, ln, wgh 2 pl, (tmu tk (u_51 0 + 1)), x_22, x_72)])) := hB7
    have hex12 : okf ((u_325 1)) (cll x_297 x_298 ((u_264 12)) = (0, 0) :: cln (x_305 ++ [odI (5, ln, wgh 2 pl, (tmu tk (u_51 0 + 1)), x_22, x_72)])) := hB6
    have hg8 : H_326.size ≤ s.heap.size + ((u_264 8) - cp) := by omega
    have hg9 : tsl H_326 ≤ tsl s.heap + (6 * ((u_264 8) - cp)) := by omega
    have hsp0 : rst tk ((u_325 1)) ((u_325 2)) ((u_325 3)) ((u_325 0)) cn := (by assumption)
    have hsp1 : (u_325 0) ≤ cn := (by first | assumption | omega)
    have hsp2 : (u_325 2) < 128 := (by first | assumption | omega)
    have hsp3 : (u_325 3) < 1024 := (by first | assumption | omega)
    have hsp4 : ta ≤ (u_325 0) := (by first | assumption | omega)
    have hsp5 : ftf tf ≤ ftf ((u_325 1)) := (by first | assumption | omega)
    have hsp6 : z9 ≤ (u_264 7) := (by first | assumption | omega)
    have hsp7 : (u_264 7) + ta ≤ z9 + (u_325 0) + 2 * ((u_264 13) - ln) + 2 := (by first | assumption | omega)
    have hsp8 : (u_264 7) ≤ (u_264 8) := (by first | assumption | omega)
    have hsp9 : cp ≤ (u_264 8) := (by first | assumption | omega)
    have hsp10 : (u_264 8) ≤ MX := (by first | assumption | omega)
    have hsp11 : (u_264 11) ≤ 1 := (by first | assumption | omega)
    have hsp12 : (u_264 12) ≤ 1 + 2 * (u_264 15) + (u_264 13) := (by first | assumption | omega)
    have hsp13 : ln ≤ (u_264 13) := (by first | assumption | omega)
    have hsp14 : (u_264 13) ≤ 20 := (by first | assumption | omega)
    have hsp15 : br ≤ (u_264 14) := (by first | assumption | omega)
    have hsp16 : (u_264 14) ≤ 4 := (by first | assumption | omega)
    have hsp17 : lp ≤ (u_264 15) := (by first | assumption | omega)
    have hsp18 : (u_264 15) ≤ 4 := (by first | assumption | omega)
    have hsp19 : (u_264 16) ≤ (u_264 15) := (by first | assumption | omega)
    exact W.vret hx hb hr (fun t ht hW => ⟨⟨ixn [(u_325 0), (u_325 1), (u_325 2), (u_325 3), (u_264 4), (u_264 5), (u_264 6), (u_264 7), (u_264 8), (u_264 9), 0, (u_264 11), (u_264 12), (u_264 13), (u_264 14), (u_264 15), (u_264 16)], rfl, ⟨hsp0, hsp1, hsp2, hsp3, hsp4, hsp5, hsp6, hsp7, hsp8, hsp9, hsp10, hsp11, hsp12, hsp13, hsp14, hsp15, hsp16, hsp17, hsp18, hsp19⟩, ⟨x_289, x_290, x_291, sup x_292 s9 (u_264 10), x_293, x_294, x_295, x_296, x_297, x_298, x_299, x_300, x_301, x_302, x_303, x_304, (x_305 ++ [odI (5, ln, wgh 2 pl, (tmu tk (u_51 0 + 1)), x_22, x_72)]), x_306, by rw [ht]; exact hg8, by rw [ht]; exact hg9, hex0, hex1, hex2, hex3, hex4, hex5, hex6, hex7, hex8, hex9, hex10, hex11, hex12, by rw [ht]; exact hP9, hD9⟩⟩, hS.F ht⟩) hS.2.2 d_Reader_loop_131
