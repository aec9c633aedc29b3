theorem wd_291 : ((Jvm.Cond.fieldLink "TripleDesk$Reader" (113 : Nat) "TripleDesk$Listing" "kept" "[S")) ∈ lw_gd := lw_gd_in (i := 291) (by decide +kernel) rfl
theorem wd_642 : ((Jvm.Cond.methodLink "TripleDesk$Reader" (92 : Nat) ({ cls := "TripleDesk$Listing", name := "addClaim", desc := "(II)V" } : Jvm.MethodName))) ∈ lw_gd := lw_gd_in (i := 642) (by decide +kernel) rfl
theorem wd_643 : ((Jvm.Cond.methodLink "TripleDesk$Reader" (116 : Nat) ({ cls := "TripleDesk$Listing", name := "addVariant", desc := "(II)V" } : Jvm.MethodName))) ∈ lw_gd := lw_gd_in (i := 643) (by decide +kernel) rfl
theorem wd_644 : ((Jvm.Cond.instanceMethod ({ cls := "TripleDesk$Listing", name := "addVariant", desc := "(II)V" } : Jvm.MethodName))) ∈ lw_gd := lw_gd_in (i := 644) (by decide +kernel) rfl
theorem wd_645 : ((Jvm.Cond.selects "TripleDesk$Listing" ({ cls := "TripleDesk$Listing", name := "addVariant", desc := "(II)V" } : Jvm.MethodName) ({ cls := "TripleDesk$Listing", name := "addVariant", desc := "(II)V" } : Jvm.MethodName))) ∈ lw_gd := lw_gd_in (i := 645) (by decide +kernel) rfl
theorem wd_646 : ((Jvm.Cond.code ({ cls := "TripleDesk$Listing", name := "addVariant", desc := "(II)V" } : Jvm.MethodName) prog_4_method_5_code (3 : Nat) (Option.none : Option Jvm.ClassFile.FieldType))) ∈ lw_gd := lw_gd_in (i := 646) (by decide +kernel) rfl
abbrev b_Reader_loop : ByteArray := prog_9_method_8_code
def y_Reader_loop : MethodName := ⟨R_Reader, "loop", "(I)V"⟩
theorem d_Reader_loop_0 : decode b_Reader_loop 0 = .ok (.aload_n 0, 1) := by decide +kernel
theorem d_Reader_loop_1 : decode b_Reader_loop 1 = .ok (.getfield 40, 3) := by decide +kernel
theorem d_Reader_loop_4 : decode b_Reader_loop 4 = .ok (.getfield 88, 3) := by decide +kernel
theorem d_Reader_loop_7 : decode b_Reader_loop 7 = .ok (.iload_n 1, 1) := by decide +kernel
theorem d_Reader_loop_8 : decode b_Reader_loop 8 = .ok (.aload_n 0, 1) := by decide +kernel
theorem d_Reader_loop_9 : decode b_Reader_loop 9 = .ok (.iconst 0, 1) := by decide +kernel
theorem d_Reader_loop_10 : decode b_Reader_loop 10 = .ok (.invokevirtual 29, 3) := by decide +kernel
theorem d_Reader_loop_13 : decode b_Reader_loop 13 = .ok (.i2s, 1) := by decide +kernel
theorem d_Reader_loop_14 : decode b_Reader_loop 14 = .ok (.sastore, 1) := by decide +kernel
theorem d_Reader_loop_15 : decode b_Reader_loop 15 = .ok (.aload_n 0, 1) := by decide +kernel
theorem d_Reader_loop_16 : decode b_Reader_loop 16 = .ok (.getfield 9, 3) := by decide +kernel
theorem d_Reader_loop_19 : decode b_Reader_loop 19 = .ok (.bipush 13, 2) := by decide +kernel
theorem d_Reader_loop_21 : decode b_Reader_loop 21 = .ok (.invokevirtual 95, 3) := by decide +kernel
theorem d_Reader_loop_24 : decode b_Reader_loop 24 = .ok (.aload_n 0, 1) := by decide +kernel
theorem d_Reader_loop_25 : decode b_Reader_loop 25 = .ok (.getfield 40, 3) := by decide +kernel
theorem d_Reader_loop_28 : decode b_Reader_loop 28 = .ok (.getfield 113, 3) := by decide +kernel
theorem d_Reader_loop_31 : decode b_Reader_loop 31 = .ok (.iload_n 1, 1) := by decide +kernel
theorem d_Reader_loop_32 : decode b_Reader_loop 32 = .ok (.aload_n 0, 1) := by decide +kernel
theorem d_Reader_loop_33 : decode b_Reader_loop 33 = .ok (.iconst 1, 1) := by decide +kernel
theorem d_Reader_loop_34 : decode b_Reader_loop 34 = .ok (.invokevirtual 29, 3) := by decide +kernel
theorem d_Reader_loop_37 : decode b_Reader_loop 37 = .ok (.i2s, 1) := by decide +kernel
theorem d_Reader_loop_38 : decode b_Reader_loop 38 = .ok (.sastore, 1) := by decide +kernel
theorem d_Reader_loop_39 : decode b_Reader_loop 39 = .ok (.aload_n 0, 1) := by decide +kernel
theorem d_Reader_loop_40 : decode b_Reader_loop 40 = .ok (.getfield 40, 3) := by decide +kernel
theorem d_Reader_loop_43 : decode b_Reader_loop 43 = .ok (.iconst 1, 1) := by decide +kernel
theorem d_Reader_loop_44 : decode b_Reader_loop 44 = .ok (.iload_n 1, 1) := by decide +kernel
theorem d_Reader_loop_45 : decode b_Reader_loop 45 = .ok (.invokevirtual 92, 3) := by decide +kernel
theorem d_Reader_loop_48 : decode b_Reader_loop 48 = .ok (.aload_n 0, 1) := by decide +kernel
theorem d_Reader_loop_49 : decode b_Reader_loop 49 = .ok (.getfield 40, 3) := by decide +kernel
theorem d_Reader_loop_52 : decode b_Reader_loop 52 = .ok (.iconst 2, 1) := by decide +kernel
theorem d_Reader_loop_53 : decode b_Reader_loop 53 = .ok (.iload_n 1, 1) := by decide +kernel
theorem d_Reader_loop_54 : decode b_Reader_loop 54 = .ok (.invokevirtual 92, 3) := by decide +kernel
theorem d_Reader_loop_57 : decode b_Reader_loop 57 = .ok (.aload_n 0, 1) := by decide +kernel
theorem d_Reader_loop_58 : decode b_Reader_loop 58 = .ok (.getfield 9, 3) := by decide +kernel
theorem d_Reader_loop_61 : decode b_Reader_loop 61 = .ok (.getfield 52, 3) := by decide +kernel
theorem d_Reader_loop_64 : decode b_Reader_loop 64 = .ok (.bipush 14, 2) := by decide +kernel
theorem d_Reader_loop_66 : decode b_Reader_loop 66 = .ok (.if_icmp .ne 32, 3) := by decide +kernel
theorem d_Reader_loop_69 : decode b_Reader_loop 69 = .ok (.aload_n 0, 1) := by decide +kernel
theorem d_Reader_loop_70 : decode b_Reader_loop 70 = .ok (.getfield 9, 3) := by decide +kernel
theorem d_Reader_loop_73 : decode b_Reader_loop 73 = .ok (.invokevirtual 56, 3) := by decide +kernel
theorem d_Reader_loop_76 : decode b_Reader_loop 76 = .ok (.aload_n 0, 1) := by decide +kernel
theorem d_Reader_loop_77 : decode b_Reader_loop 77 = .ok (.getfield 40, 3) := by decide +kernel
theorem d_Reader_loop_80 : decode b_Reader_loop 80 = .ok (.iload_n 1, 1) := by decide +kernel
theorem d_Reader_loop_81 : decode b_Reader_loop 81 = .ok (.aload_n 0, 1) := by decide +kernel
theorem d_Reader_loop_82 : decode b_Reader_loop 82 = .ok (.iconst 0, 1) := by decide +kernel
theorem d_Reader_loop_83 : decode b_Reader_loop 83 = .ok (.invokevirtual 105, 3) := by decide +kernel
theorem d_Reader_loop_86 : decode b_Reader_loop 86 = .ok (.invokevirtual 116, 3) := by decide +kernel
theorem d_Reader_loop_89 : decode b_Reader_loop 89 = .ok (.aload_n 0, 1) := by decide +kernel
theorem d_Reader_loop_90 : decode b_Reader_loop 90 = .ok (.getfield 40, 3) := by decide +kernel
theorem d_Reader_loop_93 : decode b_Reader_loop 93 = .ok (.iconst 3, 1) := by decide +kernel
theorem d_Reader_loop_94 : decode b_Reader_loop 94 = .ok (.iload_n 1, 1) := by decide +kernel
theorem d_Reader_loop_95 : decode b_Reader_loop 95 = .ok (.invokevirtual 92, 3) := by decide +kernel
theorem d_Reader_loop_98 : decode b_Reader_loop 98 = .ok (.aload_n 0, 1) := by decide +kernel
theorem d_Reader_loop_99 : decode b_Reader_loop 99 = .ok (.getfield 9, 3) := by decide +kernel
theorem d_Reader_loop_102 : decode b_Reader_loop 102 = .ok (.bipush 15, 2) := by decide +kernel
theorem d_Reader_loop_104 : decode b_Reader_loop 104 = .ok (.invokevirtual 95, 3) := by decide +kernel
theorem d_Reader_loop_107 : decode b_Reader_loop 107 = .ok (.aload_n 0, 1) := by decide +kernel
theorem d_Reader_loop_108 : decode b_Reader_loop 108 = .ok (.getfield 40, 3) := by decide +kernel
theorem d_Reader_loop_111 : decode b_Reader_loop 111 = .ok (.getfield 107, 3) := by decide +kernel
theorem d_Reader_loop_114 : decode b_Reader_loop 114 = .ok (.iload_n 1, 1) := by decide +kernel
theorem d_Reader_loop_115 : decode b_Reader_loop 115 = .ok (.aload_n 0, 1) := by decide +kernel
theorem d_Reader_loop_116 : decode b_Reader_loop 116 = .ok (.iload_n 1, 1) := by decide +kernel
theorem d_Reader_loop_117 : decode b_Reader_loop 117 = .ok (.invokevirtual 45, 3) := by decide +kernel
theorem d_Reader_loop_120 : decode b_Reader_loop 120 = .ok (.i2b, 1) := by decide +kernel
theorem d_Reader_loop_121 : decode b_Reader_loop 121 = .ok (.bastore, 1) := by decide +kernel
theorem d_Reader_loop_122 : decode b_Reader_loop 122 = .ok (.aload_n 0, 1) := by decide +kernel
theorem d_Reader_loop_123 : decode b_Reader_loop 123 = .ok (.getfield 9, 3) := by decide +kernel
theorem d_Reader_loop_126 : decode b_Reader_loop 126 = .ok (.bipush 16, 2) := by decide +kernel
theorem d_Reader_loop_128 : decode b_Reader_loop 128 = .ok (.invokevirtual 95, 3) := by decide +kernel
theorem d_Reader_loop_131 : decode b_Reader_loop 131 = .ok (.return_, 1) := by decide +kernel
set_option maxHeartbeats 40000000 in
set_option maxRecDepth 100000 in
theorem c_R_loop (l : Launch) (kf : Nat) (hst : CStm l kf) (D : va_G) (ax : Nat → ClassId) (r0 k0 k1 k2 : Nat) (tb : Nat → Int32) (tk : Nat → Nat) (ta tf nx am cn ts th : Nat) (gh at9 : Nat) (n0 n1 n2 n3 cp z9 : Nat) (fo fl fr : Nat → Int32) (g0 g1 g2 g3 g4 g5 g6 g7 g8 g9 ga gb cl ln br lp va : Nat) (kd ow sb f1 f2 te kp nm ck co : Nat → Nat) (tm : Nat → Int32) (MX : Nat) (en kc : Nat → Nat) (sg : List Nat) (s9 : Nat) (sz tz : Nat) (hkz : tkz tk cn) (hrs : rst tk tf nx am ta cn) (hta : ta ≤ cn) (hnx : nx < 128) (ham : am < 1024) (hgh : gh ≤ 1) (hcp : 8 ≤ cp) (hz9 : z9 ≤ cp) (hmx : cp ≤ MX) (hMX : MX ≤ 60000) (hfo : bts fo cp) (hnd : okf tf (ndv fo fl fr z9)) (hln : ln ≤ 20) (hbr : br ≤ 4) (hlp : lp ≤ 4) (hva : va ≤ lp) (hcl : cl ≤ 1 + 2 * lp + ln) (hls : okf tf (lst ln z9 kd ow sb f1 f2 te kp nm en kc tm fo fl fr)) (hcm : okf tf (clm br cl ck co ln kd nm)) (hs9 : s9 < ln) (hbd : 2 * (z9 + (cn - ta) + 2 * (20 - ln) + 4) ≤ MX) (hop : okf tf (en s9 = 100 ∧ kd s9 = 12 ∧ nm s9 = 4294967295)) (hkf : 8 ≤ br + lp + kf) (hva2 : va + 1 ≤ lp) (hcl2 : cl + 2 ≤ 2 * lp + ln) : Met l y_Reader_loop (xws (.code y_Reader_loop b_Reader_loop 2 none)) ({ frames := 210 + 20 * kf, cells := MX - cp, slots := 6 * (MX - cp), locals := 8200 + 800 * kf }) (va_Pc [.ref r0, .int (nI s9)] (xo3 D ax [(r0, .inr (7, [.ref k0, .ref g0, .ref n0, .int (nI gh), .int (nI at9)])), (k0, .inr (9, [.ref k1, .ref k2, .int (nI ts), .int (nI th), .int (nI ta), .int (nI tf), .int (nI nx), .int (nI am)])), (k1, .inl (ax 1, 400, .inl tb)), (k2, .inl (ax 0, 401, .inl (fun j => nI (tk j)))), (n0, .inr (4, [.ref n1, .ref n2, .ref n3, .int (nI z9)])), (n1, .inl (ax 1, cp, .inl fo)), (n2, .inl (ax 0, cp, .inl fl)), (n3, .inl (ax 0, cp, .inl fr)), (g0, .inr (2, [.ref n0, .ref g1, .ref g2, .ref g3, .ref g4, .ref g5, .ref g6, .ref g7, .ref g8, .ref g9, .ref ga, .ref gb, .int (nI cl), .int (nI ln), .int (nI br), .int (nI lp), .int (nI va)])), (g1, .inl (ax 1, 20, .inl (fun j => nI (kd j)))), (g2, .inl (ax 1, 20, .inl (fun j => nI (ow j)))), (g3, .inl (ax 1, 20, .inl (fun j => nI (sb j)))), (g4, .inl (ax 1, 20, .inl (fun j => nI (f1 j)))), (g5, .inl (ax 1, 20, .inl (fun j => nI (f2 j)))), (g6, .inl (ax 2, 20, .inl (fun j => nI (te j)))), (g7, .inl (ax 2, 20, .inl (fun j => nI (kp j)))), (g8, .inl (ax 0, 20, .inl tm)), (g9, .inl (ax 1, 20, .inl (fun j => nI (nm j)))), (ga, .inl (ax 1, 29, .inl (fun j => nI (ck j)))), (gb, .inl (ax 1, 29, .inl (fun j => nI (co j))))] sz tz)) ((va_Qv (fun (u : Nat → Nat) => (rst tk (u 1) (u 2) (u 3) (u 0) cn ∧ u 0 ≤ cn ∧ u 2 < 128 ∧ u 3 < 1024 ∧ ta ≤ u 0 ∧ ftf tf ≤ ftf (u 1) ∧ z9 ≤ u 7 ∧ u 7 + ta ≤ z9 + u 0 + 2 * (u 13 - ln) + 2 ∧ u 7 ≤ u 8 ∧ cp ≤ u 8 ∧ u 8 ≤ MX ∧ u 11 ≤ 1 ∧ u 12 ≤ 1 + 2 * u 15 + u 13 ∧ ln ≤ u 13 ∧ u 13 ≤ 20 ∧ br ≤ u 14 ∧ u 14 ≤ 4 ∧ lp ≤ u 15 ∧ u 15 ≤ 4 ∧ u 16 ≤ u 15 ∧ brS tk 5 tf ta sg ln br lp cl (u 1) (u 0) (u 13) (u 14) (u 15) (u 12))) (fun (u : Nat → Nat) (t9 : State) => ∃ xkd : Nat → Nat, ∃ xow : Nat → Nat, ∃ xsb : Nat → Nat, ∃ xf1 : Nat → Nat, ∃ xf2 : Nat → Nat, ∃ xte : Nat → Nat, ∃ xkp : Nat → Nat, ∃ xnm : Nat → Nat, ∃ xck : Nat → Nat, ∃ xco : Nat → Nat, ∃ xtm : Nat → Int32, ∃ xfo : Nat → Int32, ∃ xfl : Nat → Int32, ∃ xfr : Nat → Int32, ∃ xen : Nat → Nat, ∃ xkc : Nat → Nat, (t9.heap.size ≤ sz + (u 8 - cp)) ∧ (tsl t9.heap ≤ tz + (6 * (u 8 - cp))) ∧ (okf (u 1) (lst (u 13) (u 7) xkd xow xsb xf1 xf2 xte xkp xnm xen xkc xtm xfo xfl xfr)) ∧ (okf (u 1) (cls ln (u 13) xen)) ∧ (okf (u 1) (sae s9 ln kd ow sb f1 f2 te kp nm en kc xkd xow xsb xf1 xf2 xte xkp xnm xen xkc tm xtm)) ∧ (okf (u 1) (lsc (u 13) (u 7) xkd xf1 xf2 xte xkp xnm xkc xtm xfo xfl xfr s9)) ∧ (okf (u 1) (clm (u 14) (u 12) xck xco (u 13) xkd xnm)) ∧ (okf (u 1) (ndv xfo xfl xfr (u 7))) ∧ (bts xfo (u 8)) ∧ (okf (u 1) (∀ i, i < z9 → tsn xfo xfl xfr i = tsn fo fl fr i)) ∧ va_P D classes [(r0, .inr (7, [.ref k0, .ref g0, .ref n0, .int (nI (u 11)), .int (nI (u 9))])), (k0, .inr (9, [.ref k1, .ref k2, .int (nI ts), .int (nI th), .int (nI (u 0)), .int (nI (u 1)), .int (nI (u 2)), .int (nI (u 3))])), (k1, .inl (ax 1, 400, .inl tb)), (k2, .inl (ax 0, 401, .inl (fun j => nI (tk j)))), (n0, .inr (4, [.ref (u 4), .ref (u 5), .ref (u 6), .int (nI (u 7))])), (u 4, .inl (ax 1, u 8, .inl xfo)), (u 5, .inl (ax 0, u 8, .inl xfl)), (u 6, .inl (ax 0, u 8, .inl xfr)), (g0, .inr (2, [.ref n0, .ref g1, .ref g2, .ref g3, .ref g4, .ref g5, .ref g6, .ref g7, .ref g8, .ref g9, .ref ga, .ref gb, .int (nI (u 12)), .int (nI (u 13)), .int (nI (u 14)), .int (nI (u 15)), .int (nI (u 16))])), (g1, .inl (ax 1, 20, .inl (fun j => nI (xkd j)))), (g2, .inl (ax 1, 20, .inl (fun j => nI (xow j)))), (g3, .inl (ax 1, 20, .inl (fun j => nI (xsb j)))), (g4, .inl (ax 1, 20, .inl (fun j => nI (xf1 j)))), (g5, .inl (ax 1, 20, .inl (fun j => nI (xf2 j)))), (g6, .inl (ax 2, 20, .inl (fun j => nI (xte j)))), (g7, .inl (ax 2, 20, .inl (fun j => nI (xkp j)))), (g8, .inl (ax 0, 20, .inl xtm)), (g9, .inl (ax 1, 20, .inl (fun j => nI (xnm j)))), (ga, .inl (ax 1, 29, .inl (fun j => nI (xck j)))), (gb, .inl (ax 1, 29, .inl (fun j => nI (xco j))))] t9.heap ∧ va_D (va_A [(r0, .inr (7, [.ref k0, .ref g0, .ref n0, .int (nI gh), .int (nI at9)])), (k0, .inr (9, [.ref k1, .ref k2, .int (nI ts), .int (nI th), .int (nI ta), .int (nI tf), .int (nI nx), .int (nI am)])), (k1, .inl (ax 1, 400, .inl tb)), (k2, .inl (ax 0, 401, .inl (fun j => nI (tk j)))), (n0, .inr (4, [.ref n1, .ref n2, .ref n3, .int (nI z9)])), (n1, .inl (ax 1, cp, .inl fo)), (n2, .inl (ax 0, cp, .inl fl)), (n3, .inl (ax 0, cp, .inl fr)), (g0, .inr (2, [.ref n0, .ref g1, .ref g2, .ref g3, .ref g4, .ref g5, .ref g6, .ref g7, .ref g8, .ref g9, .ref ga, .ref gb, .int (nI cl), .int (nI ln), .int (nI br), .int (nI lp), .int (nI va)])), (g1, .inl (ax 1, 20, .inl (fun j => nI (kd j)))), (g2, .inl (ax 1, 20, .inl (fun j => nI (ow j)))), (g3, .inl (ax 1, 20, .inl (fun j => nI (sb j)))), (g4, .inl (ax 1, 20, .inl (fun j => nI (f1 j)))), (g5, .inl (ax 1, 20, .inl (fun j => nI (f2 j)))), (g6, .inl (ax 2, 20, .inl (fun j => nI (te j)))), (g7, .inl (ax 2, 20, .inl (fun j => nI (kp j)))), (g8, .inl (ax 0, 20, .inl tm)), (g9, .inl (ax 1, 20, .inl (fun j => nI (nm j)))), (ga, .inl (ax 1, 29, .inl (fun j => nI (ck j)))), (gb, .inl (ax 1, 29, .inl (fun j => nI (co j))))] sz) [(r0, .inr (7, [.ref k0, .ref g0, .ref n0, .int (nI (u 11)), .int (nI (u 9))])), (k0, .inr (9, [.ref k1, .ref k2, .int (nI ts), .int (nI th), .int (nI (u 0)), .int (nI (u 1)), .int (nI (u 2)), .int (nI (u 3))])), (k1, .inl (ax 1, 400, .inl tb)), (k2, .inl (ax 0, 401, .inl (fun j => nI (tk j)))), (n0, .inr (4, [.ref (u 4), .ref (u 5), .ref (u 6), .int (nI (u 7))])), (u 4, .inl (ax 1, u 8, .inl xfo)), (u 5, .inl (ax 0, u 8, .inl xfl)), (u 6, .inl (ax 0, u 8, .inl xfr)), (g0, .inr (2, [.ref n0, .ref g1, .ref g2, .ref g3, .ref g4, .ref g5, .ref g6, .ref g7, .ref g8, .ref g9, .ref ga, .ref gb, .int (nI (u 12)), .int (nI (u 13)), .int (nI (u 14)), .int (nI (u 15)), .int (nI (u 16))])), (g1, .inl (ax 1, 20, .inl (fun j => nI (xkd j)))), (g2, .inl (ax 1, 20, .inl (fun j => nI (xow j)))), (g3, .inl (ax 1, 20, .inl (fun j => nI (xsb j)))), (g4, .inl (ax 1, 20, .inl (fun j => nI (xf1 j)))), (g5, .inl (ax 1, 20, .inl (fun j => nI (xf2 j)))), (g6, .inl (ax 2, 20, .inl (fun j => nI (xte j)))), (g7, .inl (ax 2, 20, .inl (fun j => nI (xkp j)))), (g8, .inl (ax 0, 20, .inl xtm)), (g9, .inl (ax 1, 20, .inl (fun j => nI (xnm j)))), (ga, .inl (ax 1, 29, .inl (fun j => nI (xck j)))), (gb, .inl (ax 1, 29, .inl (fun j => nI (xco j))))]) (va_A [(r0, .inr (7, [.ref k0, .ref g0, .ref n0, .int (nI gh), .int (nI at9)])), (k0, .inr (9, [.ref k1, .ref k2, .int (nI ts), .int (nI th), .int (nI ta), .int (nI tf), .int (nI nx), .int (nI am)])), (k1, .inl (ax 1, 400, .inl tb)), (k2, .inl (ax 0, 401, .inl (fun j => nI (tk j)))), (n0, .inr (4, [.ref n1, .ref n2, .ref n3, .int (nI z9)])), (n1, .inl (ax 1, cp, .inl fo)), (n2, .inl (ax 0, cp, .inl fl)), (n3, .inl (ax 0, cp, .inl fr)), (g0, .inr (2, [.ref n0, .ref g1, .ref g2, .ref g3, .ref g4, .ref g5, .ref g6, .ref g7, .ref g8, .ref g9, .ref ga, .ref gb, .int (nI cl), .int (nI ln), .int (nI br), .int (nI lp), .int (nI va)])), (g1, .inl (ax 1, 20, .inl (fun j => nI (kd j)))), (g2, .inl (ax 1, 20, .inl (fun j => nI (ow j)))), (g3, .inl (ax 1, 20, .inl (fun j => nI (sb j)))), (g4, .inl (ax 1, 20, .inl (fun j => nI (f1 j)))), (g5, .inl (ax 1, 20, .inl (fun j => nI (f2 j)))), (g6, .inl (ax 2, 20, .inl (fun j => nI (te j)))), (g7, .inl (ax 2, 20, .inl (fun j => nI (kp j)))), (g8, .inl (ax 0, 20, .inl tm)), (g9, .inl (ax 1, 20, .inl (fun j => nI (nm j)))), (ga, .inl (ax 1, 29, .inl (fun j => nI (ck j)))), (gb, .inl (ax 1, 29, .inl (fun j => nI (co j))))] sz))) (MX - cp) (6 * (MX - cp)) (va_A [(r0, .inr (7, [.ref k0, .ref g0, .ref n0, .int (nI gh), .int (nI at9)])), (k0, .inr (9, [.ref k1, .ref k2, .int (nI ts), .int (nI th), .int (nI ta), .int (nI tf), .int (nI nx), .int (nI am)])), (k1, .inl (ax 1, 400, .inl tb)), (k2, .inl (ax 0, 401, .inl (fun j => nI (tk j)))), (n0, .inr (4, [.ref n1, .ref n2, .ref n3, .int (nI z9)])), (n1, .inl (ax 1, cp, .inl fo)), (n2, .inl (ax 0, cp, .inl fl)), (n3, .inl (ax 0, cp, .inl fr)), (g0, .inr (2, [.ref n0, .ref g1, .ref g2, .ref g3, .ref g4, .ref g5, .ref g6, .ref g7, .ref g8, .ref g9, .ref ga, .ref gb, .int (nI cl), .int (nI ln), .int (nI br), .int (nI lp), .int (nI va)])), (g1, .inl (ax 1, 20, .inl (fun j => nI (kd j)))), (g2, .inl (ax 1, 20, .inl (fun j => nI (ow j)))), (g3, .inl (ax 1, 20, .inl (fun j => nI (sb j)))), (g4, .inl (ax 1, 20, .inl (fun j => nI (f1 j)))), (g5, .inl (ax 1, 20, .inl (fun j => nI (f2 j)))), (g6, .inl (ax 2, 20, .inl (fun j => nI (te j)))), (g7, .inl (ax 2, 20, .inl (fun j => nI (kp j)))), (g8, .inl (ax 0, 20, .inl tm)), (g9, .inl (ax 1, 20, .inl (fun j => nI (nm j)))), (ga, .inl (ax 1, 29, .inl (fun j => nI (ck j)))), (gb, .inl (ax 1, 29, .inl (fun j => nI (co j))))] sz) := by
  refine Met.ofW (cc := b_Reader_loop) (maxL := 2) (ret := none) (by decide) rfl ?_
  intro p e s m args below meth c s₁ B hml hv
  obtain ⟨rfl, ⟨hsz, hP, hK, hD0⟩, htz⟩ := hv
  have hx := B.exec
  have hb := B.bytes
  have hr := B.returns
  have hts := xw_hts B.pre
  have hown : s.vm.findClass R_Reader = some m.cls := findClass_of_methodNamed B.named
  have hlocks := B.notSynchronized
  subst hsz
  subst htz
  have hD := hD0.self (sz := s.heap.size)
  have hN := xz_entry hP
  generalize hAe : va_A [(r0, .inr (7, [.ref k0, .ref g0, .ref n0, .int (nI gh), .int (nI at9)])), (k0, .inr (9, [.ref k1, .ref k2, .int (nI ts), .int (nI th), .int (nI ta), .int (nI tf), .int (nI nx), .int (nI am)])), (k1, .inl (ax 1, 400, .inl tb)), (k2, .inl (ax 0, 401, .inl (fun j => nI (tk j)))), (n0, .inr (4, [.ref n1, .ref n2, .ref n3, .int (nI z9)])), (n1, .inl (ax 1, cp, .inl fo)), (n2, .inl (ax 0, cp, .inl fl)), (n3, .inl (ax 0, cp, .inl fr)), (g0, .inr (2, [.ref n0, .ref g1, .ref g2, .ref g3, .ref g4, .ref g5, .ref g6, .ref g7, .ref g8, .ref g9, .ref ga, .ref gb, .int (nI cl), .int (nI ln), .int (nI br), .int (nI lp), .int (nI va)])), (g1, .inl (ax 1, 20, .inl (fun j => nI (kd j)))), (g2, .inl (ax 1, 20, .inl (fun j => nI (ow j)))), (g3, .inl (ax 1, 20, .inl (fun j => nI (sb j)))), (g4, .inl (ax 1, 20, .inl (fun j => nI (f1 j)))), (g5, .inl (ax 1, 20, .inl (fun j => nI (f2 j)))), (g6, .inl (ax 2, 20, .inl (fun j => nI (te j)))), (g7, .inl (ax 2, 20, .inl (fun j => nI (kp j)))), (g8, .inl (ax 0, 20, .inl tm)), (g9, .inl (ax 1, 20, .inl (fun j => nI (nm j)))), (ga, .inl (ax 1, 29, .inl (fun j => nI (ck j)))), (gb, .inl (ax 1, 29, .inl (fun j => nI (co j))))] s.heap.size = A at hD hN ⊢
  have hA : ∀ q : Nat, s.heap.size ≤ q → A q := fun q h => by rw [← hAe]; exact Or.inr h
  have hS : va_S A s.heap s.heap [] := va_S.rf
  have hl0 := lv_entry ([.ref r0, .int (nI s9)]) (n := 2) (Nat.le_of_ble_eq_true rfl)
  rw [lg_entry_eq]
  generalize (lg_sl ([.ref r0, .int (nI s9)]) ++ List.replicate (2 - (lg_sl ([.ref r0, .int (nI s9)])).length) Slot.unset).toArray = ls at hl0 ⊢
  have hl1 : lv_has ls 2 [(0, .ref r0), (1, .int (nI s9))] := hl0
  refine xw_gen (fun Z9 hQe => ?_)
  have hsm9 : smn s9 := Or.inl (by first | assumption | omega)
  refine lv_aload_n hx hb d_Reader_loop_0 rfl (lv_at hl1 0 rfl) ?_
  refine va_get (D := D) (ci := 7) (v := .ref g0) (C := R_Reader) (T := F_Reader) (N := 5) hx hb hts i_Reader hown hK.1 hP 0 rfl rfl 1 (by decide) (hts _ wd_76) (fun _ h9 => h9) rfl d_Reader_loop_1 ?_
  refine va_get (D := D) (ci := 2) (v := .ref g6) (C := R_Listing) (T := F_Listing) (N := 17) hx hb hts i_Listing hown hK.1 hP 8 rfl rfl 6 (by decide) (hts _ wd_288) (fun _ h9 => h9) rfl d_Reader_loop_4 ?_
  refine lv_iload_n hx hb d_Reader_loop_7 rfl (lv_at hl1 1 rfl) ?_
  refine lv_aload_n hx hb d_Reader_loop_8 rfl (lv_at hl1 0 rfl) ?_
  refine lv_iconst (v := 0) hx hb d_Reader_loop_9 (by decide) ?_
  obtain ⟨hPc, hDc, hFc, hCs⟩ := xw_sub3 (wc := [(r0, .inr (7, [.ref k0, (.ref g0), .ref n0, .int (nI gh), .int (nI at9)])), (k0, .inr (9, [.ref k1, .ref k2, .int (nI ts), .int (nI th), .int (nI ta), .int (nI tf), .int (nI nx), .int (nI am)])), (k1, .inl (ax 1, 400, .inl tb)), (k2, .inl (ax 0, 401, .inl (fun j => nI (tk j)))), (n0, .inr (4, [.ref n1, .ref n2, .ref n3, .int (nI z9)])), (n1, .inl (ax 1, cp, .inl fo)), (n2, .inl (ax 0, cp, .inl fl)), (n3, .inl (ax 0, cp, .inl fr))]) hP hD hS hA [0, 1, 2, 3, 4, 5, 6, 7] (by decide) rfl
  have hz := xz_of hN hS
  refine wk_know (fun hk8 hk9 => ?_)
  refine va_calli (va_runV (As := [.int 0]) (rest := [.int (nI s9), .ref g6]) ⟨hx, hb, hml, hown, hts⟩ (c_R_condition l D ax r0 k0 k1 k2 (.ref g0) tb tk ta tf nx am cn ts th gh at9 0 n0 n1 n2 n3 cp z9 fo fl fr MX s.heap.size (tsl s.heap) hkz (by assumption) (by first | assumption | omega) (by first | assumption | omega) (by first | assumption | omega) (by first | assumption | omega) (by first | assumption | omega) (by first | assumption | omega) (by first | assumption | omega) (by first | assumption | omega) (by first | assumption | omega) (by assumption) (by assumption)) (xcV (n := 1) hts wd_539 wd_3 wd_536 wd_538 ps_7 rfl rfl (by decide +kernel) ⟨(show (160) + 1 ≤ (210 + 20 * kf) by omega), (show 8 + (2 + 11) + (6400) ≤ (8200 + 800 * kf) by omega)⟩) (xpV3 (ci := 7) (q0 := 0) (As := [.int 0]) hPc hK hz hDc rfl rfl) rfl rfl hl1.1 rfl (lv_room (Nat.le_of_ble_eq_true rfl)) d_Reader_loop_10 ⟨(show (0) + (MX - cp) ≤ (MX - cp) by omega), (show (0) + (6 * (MX - cp)) ≤ (6 * (MX - cp)) by omega)⟩) hS (fun q _ h => hFc q h) hFc (fun r_3 u_1 t H_2 locs ht hvm hw hB hz1 hk1 hS1 => ?_)
  try dsimp only at hw
  obtain ⟨hw, hs_4, hs_5, hs_6, hs_7, hs_8, hs_9, hs_10, hs_11, hs_12, hs_13, hs_14, hs_15, hs_16, hs_17, hs_18, hs_19⟩ := hw
  subst hw
  obtain ⟨x_20, x_21, x_22, hg8, hg9, hx_23, hx_24, hx_25, hx_26, hP1, hD1⟩ := hB
  rw [ht] at hg8 hg9 hP1
  have hjn := xw_join3 (wl := [(g0, .inr (2, [.ref n0, .ref g1, .ref g2, .ref g3, .ref g4, .ref g5, .ref g6, .ref g7, .ref g8, .ref g9, .ref ga, .ref gb, .int (nI cl), .int (nI ln), .int (nI br), .int (nI lp), .int (nI va)])), (g1, .inl (ax 1, 20, .inl (fun j => nI (kd j)))), (g2, .inl (ax 1, 20, .inl (fun j => nI (ow j)))), (g3, .inl (ax 1, 20, .inl (fun j => nI (sb j)))), (g4, .inl (ax 1, 20, .inl (fun j => nI (f1 j)))), (g5, .inl (ax 1, 20, .inl (fun j => nI (f2 j)))), (g6, .inl (ax 2, 20, .inl (fun j => nI (te j)))), (g7, .inl (ax 2, 20, .inl (fun j => nI (kp j)))), (g8, .inl (ax 0, 20, .inl tm)), (g9, .inl (ax 1, 20, .inl (fun j => nI (nm j)))), (ga, .inl (ax 1, 29, .inl (fun j => nI (ck j)))), (gb, .inl (ax 1, 29, .inl (fun j => nI (co j)))), (r0, .inr (7, [.ref k0, .ref g0, .ref n0, .int (nI 0), .int (nI (u_1 9))])), (k0, .inr (9, [.ref k1, .ref k2, .int (nI ts), .int (nI th), .int (nI (u_1 0)), .int (nI (u_1 1)), .int (nI (u_1 2)), .int (nI (u_1 3))])), (k1, .inl (ax 1, 400, .inl tb)), (k2, .inl (ax 0, 401, .inl (fun j => nI (tk j)))), (n0, .inr (4, [.ref (u_1 4), .ref (u_1 5), .ref (u_1 6), .int (nI (u_1 7))])), ((u_1 4), .inl (ax 1, u_1 8, .inl x_20)), ((u_1 5), .inl (ax 0, u_1 8, .inl x_21)), ((u_1 6), .inl (ax 0, u_1 8, .inl x_22))]) hP hD [0, 1, 2, 3, 4, 5, 6, 7] [8, 9, 10, 11, 12, 13, 14, 15, 16, 17, 18, 19] hCs (by decide) (by decide) hk1 hFc hP1 hD1 rfl
  clear hP1 hD1
  clear hPc hDc hFc hCs hz hz1 hk1 ht hvm
  clear hP hD hS
  have hS := hS1
  obtain ⟨hP, hD⟩ := hjn
  clear hS1
  refine wk_narrow (k := u_1 8 - cp) (n := 6 * (u_1 8 - cp)) (by first | assumption | omega) (by first | assumption | omega) ?_
  clear hk8 hk9 hg8 hg9
  have hfl_27 := ftf_le (u_1 1)
  refine lv_i2s (v := nI (u_1 10)) hx hb d_Reader_loop_13 (nb_i2ss hs_18) ?_
  refine va_sast hx hb hK.1 hP hD hS 6 2 rfl rfl (vp_in_nI (by first | assumption | omega) (by decide)) d_Reader_loop_14 (fun H_28 locs hP1 hD1 hS1 => ?_)
  rw [nI_clamp (by first | exact Nat.lt_of_lt_of_le (by assumption) (by decide) | exact Nat.lt_of_le_of_lt (by assumption) (by decide) | omega)] at hP1 hD1
  rw [xf_supss te s9 (u_1 10) hs_18] at hP1 hD1
  clear hP hD hS
  have hS := hS1
  have hW7 : (fun w9 : va_W => va_P D classes w9 H_28 ∧ va_D A w9) [(g0, .inr (2, [.ref n0, .ref g1, .ref g2, .ref g3, .ref g4, .ref g5, .ref g6, .ref g7, .ref g8, .ref g9, .ref ga, .ref gb, .int (nI cl), .int (nI ln), .int (nI br), .int (nI lp), .int (nI va)])), (g1, .inl (ax 1, 20, .inl (fun j => nI (kd j)))), (g2, .inl (ax 1, 20, .inl (fun j => nI (ow j)))), (g3, .inl (ax 1, 20, .inl (fun j => nI (sb j)))), (g4, .inl (ax 1, 20, .inl (fun j => nI (f1 j)))), (g5, .inl (ax 1, 20, .inl (fun j => nI (f2 j)))), (g6, .inl (ax 2, 20, .inl (fun j => nI (sup te s9 (u_1 10) j)))), (g7, .inl (ax 2, 20, .inl (fun j => nI (kp j)))), (g8, .inl (ax 0, 20, .inl tm)), (g9, .inl (ax 1, 20, .inl (fun j => nI (nm j)))), (ga, .inl (ax 1, 29, .inl (fun j => nI (ck j)))), (gb, .inl (ax 1, 29, .inl (fun j => nI (co j)))), (r0, .inr (7, [.ref k0, .ref g0, .ref n0, .int (nI 0), .int (nI (u_1 9))])), (k0, .inr (9, [.ref k1, .ref k2, .int (nI ts), .int (nI th), .int (nI (u_1 0)), .int (nI (u_1 1)), .int (nI (u_1 2)), .int (nI (u_1 3))])), (k1, .inl (ax 1, 400, .inl tb)), (k2, .inl (ax 0, 401, .inl (fun j => nI (tk j)))), (n0, .inr (4, [.ref (u_1 4), .ref (u_1 5), .ref (u_1 6), .int (nI (u_1 7))])), ((u_1 4), .inl (ax 1, u_1 8, .inl x_20)), ((u_1 5), .inl (ax 0, u_1 8, .inl x_21)), ((u_1 6), .inl (ax 0, u_1 8, .inl x_22))] := ⟨hP1, hD1⟩
  obtain ⟨hP, hD⟩ := hW7
  clear hP1 hD1 hS1
  have hL_29 : okf (u_1 1) (lst ln (u_1 7) kd ow sb f1 f2 (sup te s9 (u_1 10)) kp nm en (sup kc s9 (kc s9 + (u_1 7 - z9))) tm x_20 x_21 x_22) := (fun q => (hls (okf.of hs_9 q)).read (by first | assumption | omega) (hx_26 q) (by first | assumption | omega) (hop (okf.of (by first | assumption | omega) q)).1 (Nat.le_refl _) (fun i hi => rfl) (fun i hi => rfl) (fun i hi => sup_ne hi) (fun i hi => rfl) (fun i hi => rfl) (fun i hi => rfl))
  have hC_30 : okf (u_1 1) (clm br cl ck co ln kd nm) := (fun q => hcm (okf.of hs_9 q))
  refine lv_aload_n hx hb d_Reader_loop_15 rfl (lv_at hl1 0 rfl) ?_
  refine va_get (D := D) (ci := 7) (v := .ref k0) (C := R_Reader) (T := F_Reader) (N := 5) hx hb hts i_Reader hown hK.1 hP 12 rfl rfl 0 (by decide) (hts _ wd_75) (fun _ h9 => h9) rfl d_Reader_loop_16 ?_
  refine lv_bipush (v := 13) hx hb d_Reader_loop_19 (by decide) ?_
  obtain ⟨hPc, hDc, hFc, hCs⟩ := xw_sub3 (wc := [(k0, .inr (9, [.ref k1, .ref k2, .int (nI ts), .int (nI th), .int (nI (u_1 0)), .int (nI (u_1 1)), .int (nI (u_1 2)), .int (nI (u_1 3))])), (k1, .inl (ax 1, 400, .inl tb)), (k2, .inl (ax 0, 401, .inl (fun j => nI (tk j))))]) hP hD hS hA [13, 14, 15] (by decide) rfl
  have hz := xz_of hN hS
  refine va_callv (va_runV (As := [.int 13]) (rest := []) ⟨hx, hb, hml, hown, hts⟩ (c_K_need l D ax k0 k1 k2 tb tk (u_1 0) (u_1 1) (u_1 2) (u_1 3) cn ts th 13 H_28.size hkz (by assumption) (by first | assumption | omega) (by first | assumption | omega) (by first | assumption | omega) (by first | assumption | omega) (by first | assumption | omega)) (xcV (n := 1) hts wd_571 wd_2 wd_568 wd_569 wd_570 rfl rfl (by decide +kernel) ⟨(show (20) + 1 ≤ (210 + 20 * kf) by omega), (show 8 + (2 + 11) + (800) ≤ (8200 + 800 * kf) by omega)⟩) (xpV (ci := 9) (q0 := 0) (As := [.int 13]) hPc hK hz hDc rfl rfl) rfl rfl hl1.1 rfl (lv_room (Nat.le_of_ble_eq_true rfl)) d_Reader_loop_21 ⟨(show (u_1 8 - cp) + (0) ≤ (MX - cp) by omega), (show (6 * (u_1 8 - cp)) + (0) ≤ (6 * (MX - cp)) by omega)⟩) hS (fun q _ h => hFc q h) hFc (fun u_31 t H_32 locs ht hvm hw hB hz1 hk1 hS1 => ?_)
  try dsimp only at hw
  obtain ⟨hs_34, hs_35, hs_36, hs_37, hs_38, hs_39, hs_40, hs_41⟩ := hw
  obtain ⟨hP1, hD1⟩ := hB
  rw [ht] at hP1
  have hjn := xw_join3 (wl := [(g0, .inr (2, [.ref n0, .ref g1, .ref g2, .ref g3, .ref g4, .ref g5, .ref g6, .ref g7, .ref g8, .ref g9, .ref ga, .ref gb, .int (nI cl), .int (nI ln), .int (nI br), .int (nI lp), .int (nI va)])), (g1, .inl (ax 1, 20, .inl (fun j => nI (kd j)))), (g2, .inl (ax 1, 20, .inl (fun j => nI (ow j)))), (g3, .inl (ax 1, 20, .inl (fun j => nI (sb j)))), (g4, .inl (ax 1, 20, .inl (fun j => nI (f1 j)))), (g5, .inl (ax 1, 20, .inl (fun j => nI (f2 j)))), (g6, .inl (ax 2, 20, .inl (fun j => nI (sup te s9 (u_1 10) j)))), (g7, .inl (ax 2, 20, .inl (fun j => nI (kp j)))), (g8, .inl (ax 0, 20, .inl tm)), (g9, .inl (ax 1, 20, .inl (fun j => nI (nm j)))), (ga, .inl (ax 1, 29, .inl (fun j => nI (ck j)))), (gb, .inl (ax 1, 29, .inl (fun j => nI (co j)))), (r0, .inr (7, [.ref k0, .ref g0, .ref n0, .int (nI 0), .int (nI (u_1 9))])), (n0, .inr (4, [.ref (u_1 4), .ref (u_1 5), .ref (u_1 6), .int (nI (u_1 7))])), ((u_1 4), .inl (ax 1, u_1 8, .inl x_20)), ((u_1 5), .inl (ax 0, u_1 8, .inl x_21)), ((u_1 6), .inl (ax 0, u_1 8, .inl x_22)), (k0, .inr (9, [.ref k1, .ref k2, .int (nI ts), .int (nI th), .int (nI (u_31 0)), .int (nI (u_31 1)), .int (nI (u_31 2)), .int (nI (u_31 3))])), (k1, .inl (ax 1, 400, .inl tb)), (k2, .inl (ax 0, 401, .inl (fun j => nI (tk j))))]) hP hD [13, 14, 15] [0, 1, 2, 3, 4, 5, 6, 7, 8, 9, 10, 11, 12, 16, 17, 18, 19] hCs (by decide) (by decide) hk1 hFc hP1 hD1 rfl
  clear hP1 hD1
  clear hPc hDc hFc hCs hz hz1 hk1 ht hvm
  clear hP hD hS
  have hS := hS1
  obtain ⟨hP, hD⟩ := hjn
  clear hS1
  have hL_42 : okf (u_31 1) (lst ln (u_1 7) kd ow sb f1 f2 (sup te s9 (u_1 10)) kp nm en (sup kc s9 (kc s9 + (u_1 7 - z9))) tm x_20 x_21 x_22) := hL_29.back hs_39
  have hC_43 : okf (u_31 1) (clm br cl ck co ln kd nm) := hC_30.back hs_39
  have hN_44 : okf (u_31 1) (ndv x_20 x_21 x_22 (u_1 7)) := hx_23.back hs_39
  have hO_45 : okf (u_31 1) (s9 = 4294967295 ∨ (s9 < ln ∧ en s9 = 100)) := fun q => Or.inr ⟨by omega, (hop (okf.of (by first | assumption | omega) q)).1⟩
  refine lv_aload_n hx hb d_Reader_loop_24 rfl (lv_at hl1 0 rfl) ?_
  refine va_get (D := D) (ci := 7) (v := .ref g0) (C := R_Reader) (T := F_Reader) (N := 5) hx hb hts i_Reader hown hK.1 hP 12 rfl rfl 1 (by decide) (hts _ wd_76) (fun _ h9 => h9) rfl d_Reader_loop_25 ?_
  refine va_get (D := D) (ci := 2) (v := .ref g7) (C := R_Listing) (T := F_Listing) (N := 17) hx hb hts i_Listing hown hK.1 hP 0 rfl rfl 7 (by decide) (hts _ wd_291) (fun _ h9 => h9) rfl d_Reader_loop_28 ?_
  refine lv_iload_n hx hb d_Reader_loop_31 rfl (lv_at hl1 1 rfl) ?_
  refine lv_aload_n hx hb d_Reader_loop_32 rfl (lv_at hl1 0 rfl) ?_
  refine lv_iconst (v := 1) hx hb d_Reader_loop_33 (by decide) ?_
  obtain ⟨hPc, hDc, hFc, hCs⟩ := xw_sub3 (wc := [(r0, .inr (7, [.ref k0, (.ref g0), .ref n0, .int (nI 0), .int (nI (u_1 9))])), (k0, .inr (9, [.ref k1, .ref k2, .int (nI ts), .int (nI th), .int (nI (u_31 0)), .int (nI (u_31 1)), .int (nI (u_31 2)), .int (nI (u_31 3))])), (k1, .inl (ax 1, 400, .inl tb)), (k2, .inl (ax 0, 401, .inl (fun j => nI (tk j)))), (n0, .inr (4, [.ref (u_1 4), .ref (u_1 5), .ref (u_1 6), .int (nI (u_1 7))])), ((u_1 4), .inl (ax 1, u_1 8, .inl x_20)), ((u_1 5), .inl (ax 0, u_1 8, .inl x_21)), ((u_1 6), .inl (ax 0, u_1 8, .inl x_22))]) hP hD hS hA [12, 17, 18, 19, 13, 14, 15, 16] (by decide) rfl
  have hz := xz_of hN hS
  refine wk_know (fun hk8 hk9 => ?_)
  refine va_calli (va_runV (As := [.int 1]) (rest := [.int (nI s9), .ref g7]) ⟨hx, hb, hml, hown, hts⟩ (c_R_condition l D ax r0 k0 k1 k2 (.ref g0) tb tk (u_31 0) (u_31 1) (u_31 2) (u_31 3) cn ts th 0 (u_1 9) 1 n0 (u_1 4) (u_1 5) (u_1 6) (u_1 8) (u_1 7) x_20 x_21 x_22 MX H_32.size (tsl H_32) hkz (by assumption) (by first | assumption | omega) (by first | assumption | omega) (by first | assumption | omega) (by first | assumption | omega) (by first | assumption | omega) (by first | assumption | omega) (by first | assumption | omega) (by first | assumption | omega) (by first | assumption | omega) (by assumption) (by assumption)) (xcV (n := 1) hts wd_539 wd_3 wd_536 wd_538 ps_7 rfl rfl (by decide +kernel) ⟨(show (160) + 1 ≤ (210 + 20 * kf) by omega), (show 8 + (2 + 11) + (6400) ≤ (8200 + 800 * kf) by omega)⟩) (xpV3 (ci := 7) (q0 := 0) (As := [.int 1]) hPc hK hz hDc rfl rfl) rfl rfl hl1.1 rfl (lv_room (Nat.le_of_ble_eq_true rfl)) d_Reader_loop_34 ⟨(show (u_1 8 - cp) + (MX - (u_1 8)) ≤ (MX - cp) by omega), (show (6 * (u_1 8 - cp)) + (6 * (MX - (u_1 8))) ≤ (6 * (MX - cp)) by omega)⟩) hS (fun q _ h => hFc q h) hFc (fun r_48 u_46 t H_47 locs ht hvm hw hB hz1 hk1 hS1 => ?_)
  try dsimp only at hw
  obtain ⟨hw, hs_49, hs_50, hs_51, hs_52, hs_53, hs_54, hs_55, hs_56, hs_57, hs_58, hs_59, hs_60, hs_61, hs_62, hs_63, hs_64⟩ := hw
  subst hw
  obtain ⟨x_65, x_66, x_67, hg8, hg9, hx_68, hx_69, hx_70, hx_71, hP1, hD1⟩ := hB
  rw [ht] at hg8 hg9 hP1
  have hjn := xw_join3 (wl := [(g0, .inr (2, [.ref n0, .ref g1, .ref g2, .ref g3, .ref g4, .ref g5, .ref g6, .ref g7, .ref g8, .ref g9, .ref ga, .ref gb, .int (nI cl), .int (nI ln), .int (nI br), .int (nI lp), .int (nI va)])), (g1, .inl (ax 1, 20, .inl (fun j => nI (kd j)))), (g2, .inl (ax 1, 20, .inl (fun j => nI (ow j)))), (g3, .inl (ax 1, 20, .inl (fun j => nI (sb j)))), (g4, .inl (ax 1, 20, .inl (fun j => nI (f1 j)))), (g5, .inl (ax 1, 20, .inl (fun j => nI (f2 j)))), (g6, .inl (ax 2, 20, .inl (fun j => nI (sup te s9 (u_1 10) j)))), (g7, .inl (ax 2, 20, .inl (fun j => nI (kp j)))), (g8, .inl (ax 0, 20, .inl tm)), (g9, .inl (ax 1, 20, .inl (fun j => nI (nm j)))), (ga, .inl (ax 1, 29, .inl (fun j => nI (ck j)))), (gb, .inl (ax 1, 29, .inl (fun j => nI (co j)))), (r0, .inr (7, [.ref k0, .ref g0, .ref n0, .int (nI 1), .int (nI (u_46 9))])), (k0, .inr (9, [.ref k1, .ref k2, .int (nI ts), .int (nI th), .int (nI (u_46 0)), .int (nI (u_46 1)), .int (nI (u_46 2)), .int (nI (u_46 3))])), (k1, .inl (ax 1, 400, .inl tb)), (k2, .inl (ax 0, 401, .inl (fun j => nI (tk j)))), (n0, .inr (4, [.ref (u_46 4), .ref (u_46 5), .ref (u_46 6), .int (nI (u_46 7))])), ((u_46 4), .inl (ax 1, u_46 8, .inl x_65)), ((u_46 5), .inl (ax 0, u_46 8, .inl x_66)), ((u_46 6), .inl (ax 0, u_46 8, .inl x_67))]) hP hD [12, 17, 18, 19, 13, 14, 15, 16] [0, 1, 2, 3, 4, 5, 6, 7, 8, 9, 10, 11] hCs (by decide) (by decide) hk1 hFc hP1 hD1 rfl
  clear hP1 hD1
  clear hPc hDc hFc hCs hz hz1 hk1 ht hvm
  clear hP hD hS
  have hS := hS1
  obtain ⟨hP, hD⟩ := hjn
  clear hS1
  refine wk_narrow (k := u_1 8 - cp + (u_46 8 - (u_1 8))) (n := 6 * (u_1 8 - cp) + (6 * (u_46 8 - (u_1 8)))) (by first | assumption | omega) (by first | assumption | omega) ?_
  clear hk8 hk9 hg8 hg9
  have hfl_72 := ftf_le (u_46 1)
  refine lv_i2s (v := nI (u_46 10)) hx hb d_Reader_loop_37 (nb_i2ss hs_63) ?_
  refine va_sast hx hb hK.1 hP hD hS 7 2 rfl rfl (vp_in_nI (by first | assumption | omega) (by decide)) d_Reader_loop_38 (fun H_73 locs hP1 hD1 hS1 => ?_)
  rw [nI_clamp (by first | exact Nat.lt_of_lt_of_le (by assumption) (by decide) | exact Nat.lt_of_le_of_lt (by assumption) (by decide) | omega)] at hP1 hD1
  rw [xf_supss kp s9 (u_46 10) hs_63] at hP1 hD1
  clear hP hD hS
  have hS := hS1
  have hW7 : (fun w9 : va_W => va_P D classes w9 H_73 ∧ va_D A w9) [(g0, .inr (2, [.ref n0, .ref g1, .ref g2, .ref g3, .ref g4, .ref g5, .ref g6, .ref g7, .ref g8, .ref g9, .ref ga, .ref gb, .int (nI cl), .int (nI ln), .int (nI br), .int (nI lp), .int (nI va)])), (g1, .inl (ax 1, 20, .inl (fun j => nI (kd j)))), (g2, .inl (ax 1, 20, .inl (fun j => nI (ow j)))), (g3, .inl (ax 1, 20, .inl (fun j => nI (sb j)))), (g4, .inl (ax 1, 20, .inl (fun j => nI (f1 j)))), (g5, .inl (ax 1, 20, .inl (fun j => nI (f2 j)))), (g6, .inl (ax 2, 20, .inl (fun j => nI (sup te s9 (u_1 10) j)))), (g7, .inl (ax 2, 20, .inl (fun j => nI (sup kp s9 (u_46 10) j)))), (g8, .inl (ax 0, 20, .inl tm)), (g9, .inl (ax 1, 20, .inl (fun j => nI (nm j)))), (ga, .inl (ax 1, 29, .inl (fun j => nI (ck j)))), (gb, .inl (ax 1, 29, .inl (fun j => nI (co j)))), (r0, .inr (7, [.ref k0, .ref g0, .ref n0, .int (nI 1), .int (nI (u_46 9))])), (k0, .inr (9, [.ref k1, .ref k2, .int (nI ts), .int (nI th), .int (nI (u_46 0)), .int (nI (u_46 1)), .int (nI (u_46 2)), .int (nI (u_46 3))])), (k1, .inl (ax 1, 400, .inl tb)), (k2, .inl (ax 0, 401, .inl (fun j => nI (tk j)))), (n0, .inr (4, [.ref (u_46 4), .ref (u_46 5), .ref (u_46 6), .int (nI (u_46 7))])), ((u_46 4), .inl (ax 1, u_46 8, .inl x_65)), ((u_46 5), .inl (ax 0, u_46 8, .inl x_66)), ((u_46 6), .inl (ax 0, u_46 8, .inl x_67))] := ⟨hP1, hD1⟩
  obtain ⟨hP, hD⟩ := hW7
  clear hP1 hD1 hS1
  have hL_74 : okf (u_46 1) (lst ln (u_46 7) kd ow sb f1 f2 (sup te s9 (u_1 10)) (sup kp s9 (u_46 10)) nm en (sup (sup kc s9 (kc s9 + (u_1 7 - z9))) s9 ((sup kc s9 (kc s9 + (u_1 7 - z9))) s9 + (u_46 7 - u_1 7))) tm x_65 x_66 x_67) := (fun q => (hL_42 (okf.of hs_54 q)).read (by first | assumption | omega) (hx_71 q) (by first | assumption | omega) (hop (okf.of (by first | assumption | omega) q)).1 (Nat.le_refl _) (fun i hi => rfl) (fun i hi => rfl) (fun i hi => rfl) (fun i hi => sup_ne hi) (fun i hi => rfl) (fun i hi => rfl))
  have hC_75 : okf (u_46 1) (clm br cl ck co ln kd nm) := (fun q => hC_43 (okf.of hs_54 q))
  refine lv_aload_n hx hb d_Reader_loop_39 rfl (lv_at hl1 0 rfl) ?_
  refine va_get (D := D) (ci := 7) (v := .ref g0) (C := R_Reader) (T := F_Reader) (N := 5) hx hb hts i_Reader hown hK.1 hP 12 rfl rfl 1 (by decide) (hts _ wd_76) (fun _ h9 => h9) rfl d_Reader_loop_40 ?_
  refine lv_iconst (v := 1) hx hb d_Reader_loop_43 (by decide) ?_
  refine lv_iload_n hx hb d_Reader_loop_44 rfl (lv_at hl1 1 rfl) ?_
  obtain ⟨hPc, hDc, hFc, hCs⟩ := xw_sub3 (wc := [(g0, .inr (2, [.ref n0, .ref g1, .ref g2, .ref g3, .ref g4, .ref g5, .ref g6, .ref g7, .ref g8, .ref g9, .ref ga, .ref gb, .int (nI cl), .int (nI ln), .int (nI br), .int (nI lp), .int (nI va)])), (g1, .inl (ax 1, 20, .inl (fun j => nI (kd j)))), (g2, .inl (ax 1, 20, .inl (fun j => nI (ow j)))), (g3, .inl (ax 1, 20, .inl (fun j => nI (sb j)))), (g4, .inl (ax 1, 20, .inl (fun j => nI (f1 j)))), (g5, .inl (ax 1, 20, .inl (fun j => nI (f2 j)))), (g6, .inl (ax 2, 20, .inl (fun j => nI ((sup te s9 (u_1 10)) j)))), (g7, .inl (ax 2, 20, .inl (fun j => nI ((sup kp s9 (u_46 10)) j)))), (g8, .inl (ax 0, 20, .inl tm)), (g9, .inl (ax 1, 20, .inl (fun j => nI (nm j)))), (ga, .inl (ax 1, 29, .inl (fun j => nI (ck j)))), (gb, .inl (ax 1, 29, .inl (fun j => nI (co j))))]) hP hD hS hA [0, 1, 2, 3, 4, 5, 6, 7, 8, 9, 10, 11] (by decide) rfl
  have hz := xz_of hN hS
  refine va_callv (va_runV (As := [.int 1, .int (nI s9)]) (rest := []) ⟨hx, hb, hml, hown, hts⟩ (c_L_addClaim l D ax g0 g1 g2 g3 g4 g5 g6 g7 g8 g9 ga gb cl ln br lp va kd ow sb f1 f2 (sup te s9 (u_1 10)) (sup kp s9 (u_46 10)) nm ck co tm n0 1 s9 H_73.size (by first | assumption | omega) (by assumption) (by first | assumption | omega)) (xcV (n := 2) hts wd_613 wd_12 wd_642 wd_611 wd_612 rfl rfl (by decide +kernel) ⟨(show (10) + 1 ≤ (210 + 20 * kf) by omega), (show 8 + (3 + 11) + (400) ≤ (8200 + 800 * kf) by omega)⟩) (xpV (ci := 2) (q0 := 0) (As := [.int 1, .int (nI s9)]) hPc hK hz hDc rfl rfl) rfl rfl hl1.1 rfl (lv_room (Nat.le_of_ble_eq_true rfl)) d_Reader_loop_45 ⟨(show (u_1 8 - cp + (u_46 8 - (u_1 8))) + (0) ≤ (MX - cp) by omega), (show (6 * (u_1 8 - cp) + (6 * (u_46 8 - (u_1 8)))) + (0) ≤ (6 * (MX - cp)) by omega)⟩) hS (fun q _ h => hFc q h) hFc (fun u_76 t H_77 locs ht hvm hw hB hz1 hk1 hS1 => ?_)
  try dsimp only at hw
  obtain ⟨hs_79, hs_80⟩ := hw
  obtain ⟨x_81, x_82, hx_83, hP1, hD1⟩ := hB
  rw [ht] at hP1
  have hjn := xw_join3 (wl := [(r0, .inr (7, [.ref k0, .ref g0, .ref n0, .int (nI 1), .int (nI (u_46 9))])), (k0, .inr (9, [.ref k1, .ref k2, .int (nI ts), .int (nI th), .int (nI (u_46 0)), .int (nI (u_46 1)), .int (nI (u_46 2)), .int (nI (u_46 3))])), (k1, .inl (ax 1, 400, .inl tb)), (k2, .inl (ax 0, 401, .inl (fun j => nI (tk j)))), (n0, .inr (4, [.ref (u_46 4), .ref (u_46 5), .ref (u_46 6), .int (nI (u_46 7))])), ((u_46 4), .inl (ax 1, u_46 8, .inl x_65)), ((u_46 5), .inl (ax 0, u_46 8, .inl x_66)), ((u_46 6), .inl (ax 0, u_46 8, .inl x_67)), (g0, .inr (2, [.ref n0, .ref g1, .ref g2, .ref g3, .ref g4, .ref g5, .ref g6, .ref g7, .ref g8, .ref g9, .ref ga, .ref gb, .int (nI (u_76 0)), .int (nI ln), .int (nI br), .int (nI lp), .int (nI va)])), (g1, .inl (ax 1, 20, .inl (fun j => nI (kd j)))), (g2, .inl (ax 1, 20, .inl (fun j => nI (ow j)))), (g3, .inl (ax 1, 20, .inl (fun j => nI (sb j)))), (g4, .inl (ax 1, 20, .inl (fun j => nI (f1 j)))), (g5, .inl (ax 1, 20, .inl (fun j => nI (f2 j)))), (g6, .inl (ax 2, 20, .inl (fun j => nI ((sup te s9 (u_1 10)) j)))), (g7, .inl (ax 2, 20, .inl (fun j => nI ((sup kp s9 (u_46 10)) j)))), (g8, .inl (ax 0, 20, .inl tm)), (g9, .inl (ax 1, 20, .inl (fun j => nI (nm j)))), (ga, .inl (ax 1, 29, .inl (fun j => nI (x_81 j)))), (gb, .inl (ax 1, 29, .inl (fun j => nI (x_82 j))))]) hP hD [0, 1, 2, 3, 4, 5, 6, 7, 8, 9, 10, 11] [12, 13, 14, 15, 16, 17, 18, 19] hCs (by decide) (by decide) hk1 hFc hP1 hD1 rfl
  clear hP1 hD1
  clear hPc hDc hFc hCs hz hz1 hk1 ht hvm
  clear hP hD hS
  have hS := hS1
  obtain ⟨hP, hD⟩ := hjn
  clear hS1
  have hC_84 : okf (u_46 1) (clm br (u_76 0) x_81 x_82 ln kd nm) := (fun q => (hC_75 q).one hx_83 (by first | assumption | omega) (Or.inr (Or.inl ⟨Or.inl rfl, (hop (okf.of (by first | assumption | omega) q)).2.1⟩)))
  clear hx_83
  refine lv_aload_n hx hb d_Reader_loop_48 rfl (lv_at hl1 0 rfl) ?_
  refine va_get (D := D) (ci := 7) (v := .ref g0) (C := R_Reader) (T := F_Reader) (N := 5) hx hb hts i_Reader hown hK.1 hP 0 rfl rfl 1 (by decide) (hts _ wd_76) (fun _ h9 => h9) rfl d_Reader_loop_49 ?_
  refine lv_iconst (v := 2) hx hb d_Reader_loop_52 (by decide) ?_
  refine lv_iload_n hx hb d_Reader_loop_53 rfl (lv_at hl1 1 rfl) ?_
  obtain ⟨hPc, hDc, hFc, hCs⟩ := xw_sub3 (wc := [(g0, .inr (2, [.ref n0, .ref g1, .ref g2, .ref g3, .ref g4, .ref g5, .ref g6, .ref g7, .ref g8, .ref g9, .ref ga, .ref gb, .int (nI (u_76 0)), .int (nI ln), .int (nI br), .int (nI lp), .int (nI va)])), (g1, .inl (ax 1, 20, .inl (fun j => nI (kd j)))), (g2, .inl (ax 1, 20, .inl (fun j => nI (ow j)))), (g3, .inl (ax 1, 20, .inl (fun j => nI (sb j)))), (g4, .inl (ax 1, 20, .inl (fun j => nI (f1 j)))), (g5, .inl (ax 1, 20, .inl (fun j => nI (f2 j)))), (g6, .inl (ax 2, 20, .inl (fun j => nI ((sup te s9 (u_1 10)) j)))), (g7, .inl (ax 2, 20, .inl (fun j => nI ((sup kp s9 (u_46 10)) j)))), (g8, .inl (ax 0, 20, .inl tm)), (g9, .inl (ax 1, 20, .inl (fun j => nI (nm j)))), (ga, .inl (ax 1, 29, .inl (fun j => nI (x_81 j)))), (gb, .inl (ax 1, 29, .inl (fun j => nI (x_82 j))))]) hP hD hS hA [8, 9, 10, 11, 12, 13, 14, 15, 16, 17, 18, 19] (by decide) rfl
  have hz := xz_of hN hS
  refine va_callv (va_runV (As := [.int 2, .int (nI s9)]) (rest := []) ⟨hx, hb, hml, hown, hts⟩ (c_L_addClaim l D ax g0 g1 g2 g3 g4 g5 g6 g7 g8 g9 ga gb (u_76 0) ln br lp va kd ow sb f1 f2 (sup te s9 (u_1 10)) (sup kp s9 (u_46 10)) nm x_81 x_82 tm n0 2 s9 H_77.size (by first | assumption | omega) (by assumption) (by first | assumption | omega)) (xcV (n := 2) hts wd_613 wd_12 wd_642 wd_611 wd_612 rfl rfl (by decide +kernel) ⟨(show (10) + 1 ≤ (210 + 20 * kf) by omega), (show 8 + (3 + 11) + (400) ≤ (8200 + 800 * kf) by omega)⟩) (xpV (ci := 2) (q0 := 0) (As := [.int 2, .int (nI s9)]) hPc hK hz hDc rfl rfl) rfl rfl hl1.1 rfl (lv_room (Nat.le_of_ble_eq_true rfl)) d_Reader_loop_54 ⟨(show (u_1 8 - cp + (u_46 8 - (u_1 8))) + (0) ≤ (MX - cp) by omega), (show (6 * (u_1 8 - cp) + (6 * (u_46 8 - (u_1 8)))) + (0) ≤ (6 * (MX - cp)) by omega)⟩) hS (fun q _ h => hFc q h) hFc (fun u_85 t H_86 locs ht hvm hw hB hz1 hk1 hS1 => ?_)
  try dsimp only at hw
  obtain ⟨hs_88, hs_89⟩ := hw
  obtain ⟨x_90, x_91, hx_92, hP1, hD1⟩ := hB
  rw [ht] at hP1
  have hjn := xw_join3 (wl := [(r0, .inr (7, [.ref k0, .ref g0, .ref n0, .int (nI 1), .int (nI (u_46 9))])), (k0, .inr (9, [.ref k1, .ref k2, .int (nI ts), .int (nI th), .int (nI (u_46 0)), .int (nI (u_46 1)), .int (nI (u_46 2)), .int (nI (u_46 3))])), (k1, .inl (ax 1, 400, .inl tb)), (k2, .inl (ax 0, 401, .inl (fun j => nI (tk j)))), (n0, .inr (4, [.ref (u_46 4), .ref (u_46 5), .ref (u_46 6), .int (nI (u_46 7))])), ((u_46 4), .inl (ax 1, u_46 8, .inl x_65)), ((u_46 5), .inl (ax 0, u_46 8, .inl x_66)), ((u_46 6), .inl (ax 0, u_46 8, .inl x_67)), (g0, .inr (2, [.ref n0, .ref g1, .ref g2, .ref g3, .ref g4, .ref g5, .ref g6, .ref g7, .ref g8, .ref g9, .ref ga, .ref gb, .int (nI (u_85 0)), .int (nI ln), .int (nI br), .int (nI lp), .int (nI va)])), (g1, .inl (ax 1, 20, .inl (fun j => nI (kd j)))), (g2, .inl (ax 1, 20, .inl (fun j => nI (ow j)))), (g3, .inl (ax 1, 20, .inl (fun j => nI (sb j)))), (g4, .inl (ax 1, 20, .inl (fun j => nI (f1 j)))), (g5, .inl (ax 1, 20, .inl (fun j => nI (f2 j)))), (g6, .inl (ax 2, 20, .inl (fun j => nI ((sup te s9 (u_1 10)) j)))), (g7, .inl (ax 2, 20, .inl (fun j => nI ((sup kp s9 (u_46 10)) j)))), (g8, .inl (ax 0, 20, .inl tm)), (g9, .inl (ax 1, 20, .inl (fun j => nI (nm j)))), (ga, .inl (ax 1, 29, .inl (fun j => nI (x_90 j)))), (gb, .inl (ax 1, 29, .inl (fun j => nI (x_91 j))))]) hP hD [8, 9, 10, 11, 12, 13, 14, 15, 16, 17, 18, 19] [0, 1, 2, 3, 4, 5, 6, 7] hCs (by decide) (by decide) hk1 hFc hP1 hD1 rfl
  clear hP1 hD1
  clear hPc hDc hFc hCs hz hz1 hk1 ht hvm
  clear hP hD hS
  have hS := hS1
  obtain ⟨hP, hD⟩ := hjn
  clear hS1
  have hC_93 : okf (u_46 1) (clm br (u_85 0) x_90 x_91 ln kd nm) := (fun q => (hC_84 q).one hx_92 (by first | assumption | omega) (Or.inr (Or.inl ⟨Or.inr rfl, (hop (okf.of (by first | assumption | omega) q)).2.1⟩)))
  clear hx_92
  refine lv_aload_n hx hb d_Reader_loop_57 rfl (lv_at hl1 0 rfl) ?_
  refine va_get (D := D) (ci := 7) (v := .ref k0) (C := R_Reader) (T := F_Reader) (N := 5) hx hb hts i_Reader hown hK.1 hP 0 rfl rfl 0 (by decide) (hts _ wd_75) (fun _ h9 => h9) rfl d_Reader_loop_58 ?_
  refine va_get (D := D) (ci := 9) (v := .int (nI (u_46 2))) (C := R_Tokens) (T := F_Tokens) (N := 8) hx hb hts i_Tokens hown hK.1 hP 1 rfl rfl 6 (by decide) (hts _ wd_47) (fun _ h9 => h9) rfl d_Reader_loop_61 ?_
  refine lv_bipush (v := 14) hx hb d_Reader_loop_64 (by decide) ?_
  refine lv_icmp_ne (tgt := 98) hx hb d_Reader_loop_66 (by decide) (fun c_94 => ?_) (fun c_94 => ?_)
  · replace c_94 : ¬ u_46 2 = 14 := fun hq9 => c_94 ((nI_eq (a := u_46 2) (b := 14) (by first | exact Nat.lt_of_lt_of_le (by assumption) (by decide) | exact Nat.lt_of_le_of_lt (by assumption) (by decide) | omega) (by decide)).mpr hq9)
    refine lv_aload_n hx hb d_Reader_loop_98 rfl (lv_at hl1 0 rfl) ?_
    refine va_get (D := D) (ci := 7) (v := .ref k0) (C := R_Reader) (T := F_Reader) (N := 5) hx hb hts i_Reader hown hK.1 hP 0 rfl rfl 0 (by decide) (hts _ wd_75) (fun _ h9 => h9) rfl d_Reader_loop_99 ?_
    refine lv_bipush (v := 15) hx hb d_Reader_loop_102 (by decide) ?_
    obtain ⟨hPc, hDc, hFc, hCs⟩ := xw_sub3 (wc := [(k0, .inr (9, [.ref k1, .ref k2, .int (nI ts), .int (nI th), .int (nI (u_46 0)), .int (nI (u_46 1)), .int (nI (u_46 2)), .int (nI (u_46 3))])), (k1, .inl (ax 1, 400, .inl tb)), (k2, .inl (ax 0, 401, .inl (fun j => nI (tk j))))]) hP hD hS hA [1, 2, 3] (by decide) rfl
    have hz := xz_of hN hS
    refine va_callv (va_runV (As := [.int 15]) (rest := []) ⟨hx, hb, hml, hown, hts⟩ (c_K_need l D ax k0 k1 k2 tb tk (u_46 0) (u_46 1) (u_46 2) (u_46 3) cn ts th 15 H_86.size hkz (by assumption) (by first | assumption | omega) (by first | assumption | omega) (by first | assumption | omega) (by first | assumption | omega) (by first | assumption | omega)) (xcV (n := 1) hts wd_571 wd_2 wd_568 wd_569 wd_570 rfl rfl (by decide +kernel) ⟨(show (20) + 1 ≤ (210 + 20 * kf) by omega), (show 8 + (2 + 11) + (800) ≤ (8200 + 800 * kf) by omega)⟩) (xpV (ci := 9) (q0 := 0) (As := [.int 15]) hPc hK hz hDc rfl rfl) rfl rfl hl1.1 rfl (lv_room (Nat.le_of_ble_eq_true rfl)) d_Reader_loop_104 ⟨(show (u_1 8 - cp + (u_46 8 - (u_1 8))) + (0) ≤ (MX - cp) by omega), (show (6 * (u_1 8 - cp) + (6 * (u_46 8 - (u_1 8)))) + (0) ≤ (6 * (MX - cp)) by omega)⟩) hS (fun q _ h => hFc q h) hFc (fun u_95 t H_96 locs ht hvm hw hB hz1 hk1 hS1 => ?_)
    try dsimp only at hw
    obtain ⟨hs_98, hs_99, hs_100, hs_101, hs_102, hs_103, hs_104, hs_105⟩ := hw
    obtain ⟨hP1, hD1⟩ := hB
    rw [ht] at hP1
    have hjn := xw_join3 (wl := [(r0, .inr (7, [.ref k0, .ref g0, .ref n0, .int (nI 1), .int (nI (u_46 9))])), (n0, .inr (4, [.ref (u_46 4), .ref (u_46 5), .ref (u_46 6), .int (nI (u_46 7))])), ((u_46 4), .inl (ax 1, u_46 8, .inl x_65)), ((u_46 5), .inl (ax 0, u_46 8, .inl x_66)), ((u_46 6), .inl (ax 0, u_46 8, .inl x_67)), (g0, .inr (2, [.ref n0, .ref g1, .ref g2, .ref g3, .ref g4, .ref g5, .ref g6, .ref g7, .ref g8, .ref g9, .ref ga, .ref gb, .int (nI (u_85 0)), .int (nI ln), .int (nI br), .int (nI lp), .int (nI va)])), (g1, .inl (ax 1, 20, .inl (fun j => nI (kd j)))), (g2, .inl (ax 1, 20, .inl (fun j => nI (ow j)))), (g3, .inl (ax 1, 20, .inl (fun j => nI (sb j)))), (g4, .inl (ax 1, 20, .inl (fun j => nI (f1 j)))), (g5, .inl (ax 1, 20, .inl (fun j => nI (f2 j)))), (g6, .inl (ax 2, 20, .inl (fun j => nI ((sup te s9 (u_1 10)) j)))), (g7, .inl (ax 2, 20, .inl (fun j => nI ((sup kp s9 (u_46 10)) j)))), (g8, .inl (ax 0, 20, .inl tm)), (g9, .inl (ax 1, 20, .inl (fun j => nI (nm j)))), (ga, .inl (ax 1, 29, .inl (fun j => nI (x_90 j)))), (gb, .inl (ax 1, 29, .inl (fun j => nI (x_91 j)))), (k0, .inr (9, [.ref k1, .ref k2, .int (nI ts), .int (nI th), .int (nI (u_95 0)), .int (nI (u_95 1)), .int (nI (u_95 2)), .int (nI (u_95 3))])), (k1, .inl (ax 1, 400, .inl tb)), (k2, .inl (ax 0, 401, .inl (fun j => nI (tk j))))]) hP hD [1, 2, 3] [0, 4, 5, 6, 7, 8, 9, 10, 11, 12, 13, 14, 15, 16, 17, 18, 19] hCs (by decide) (by decide) hk1 hFc hP1 hD1 rfl
    clear hP1 hD1
    clear hPc hDc hFc hCs hz hz1 hk1 ht hvm
    clear hP hD hS
    have hS := hS1
    obtain ⟨hP, hD⟩ := hjn
    clear hS1
    have hL_106 : okf (u_95 1) (lst ln (u_46 7) kd ow sb f1 f2 (sup te s9 (u_1 10)) (sup kp s9 (u_46 10)) nm en (sup (sup kc s9 (kc s9 + (u_1 7 - z9))) s9 ((sup kc s9 (kc s9 + (u_1 7 - z9))) s9 + (u_46 7 - u_1 7))) tm x_65 x_66 x_67) := hL_74.back hs_103
    have hC_107 : okf (u_95 1) (clm br (u_85 0) x_90 x_91 ln kd nm) := hC_93.back hs_103
    have hN_108 : okf (u_95 1) (ndv x_65 x_66 x_67 (u_46 7)) := hx_68.back hs_103
    have hO_109 : okf (u_95 1) (s9 = 4294967295 ∨ (s9 < ln ∧ en s9 = 100)) := fun q => Or.inr ⟨by omega, (hop (okf.of (by first | assumption | omega) q)).1⟩
    refine lv_aload_n hx hb d_Reader_loop_107 rfl (lv_at hl1 0 rfl) ?_
    refine va_get (D := D) (ci := 7) (v := .ref g0) (C := R_Reader) (T := F_Reader) (N := 5) hx hb hts i_Reader hown hK.1 hP 0 rfl rfl 1 (by decide) (hts _ wd_76) (fun _ h9 => h9) rfl d_Reader_loop_108 ?_
    refine va_get (D := D) (ci := 2) (v := .ref g4) (C := R_Listing) (T := F_Listing) (N := 17) hx hb hts i_Listing hown hK.1 hP 5 rfl rfl 4 (by decide) (hts _ wd_280) (fun _ h9 => h9) rfl d_Reader_loop_111 ?_
    refine lv_iload_n hx hb d_Reader_loop_114 rfl (lv_at hl1 1 rfl) ?_
    refine lv_aload_n hx hb d_Reader_loop_115 rfl (lv_at hl1 0 rfl) ?_
    refine lv_iload_n hx hb d_Reader_loop_116 rfl (lv_at hl1 1 rfl) ?_
    obtain ⟨hPc, hDc, hFc, hCs⟩ := xw_sub3 (wc := [(r0, .inr (7, [.ref k0, .ref g0, .ref n0, .int (nI 1), .int (nI (u_46 9))])), (k0, .inr (9, [.ref k1, .ref k2, .int (nI ts), .int (nI th), .int (nI (u_95 0)), .int (nI (u_95 1)), .int (nI (u_95 2)), .int (nI (u_95 3))])), (k1, .inl (ax 1, 400, .inl tb)), (k2, .inl (ax 0, 401, .inl (fun j => nI (tk j)))), (n0, .inr (4, [.ref (u_46 4), .ref (u_46 5), .ref (u_46 6), .int (nI (u_46 7))])), ((u_46 4), .inl (ax 1, u_46 8, .inl x_65)), ((u_46 5), .inl (ax 0, u_46 8, .inl x_66)), ((u_46 6), .inl (ax 0, u_46 8, .inl x_67)), (g0, .inr (2, [.ref n0, .ref g1, .ref g2, .ref g3, .ref g4, .ref g5, .ref g6, .ref g7, .ref g8, .ref g9, .ref ga, .ref gb, .int (nI (u_85 0)), .int (nI ln), .int (nI br), .int (nI lp), .int (nI va)])), (g1, .inl (ax 1, 20, .inl (fun j => nI (kd j)))), (g2, .inl (ax 1, 20, .inl (fun j => nI (ow j)))), (g3, .inl (ax 1, 20, .inl (fun j => nI (sb j)))), (g4, .inl (ax 1, 20, .inl (fun j => nI (f1 j)))), (g5, .inl (ax 1, 20, .inl (fun j => nI (f2 j)))), (g6, .inl (ax 2, 20, .inl (fun j => nI ((sup te s9 (u_1 10)) j)))), (g7, .inl (ax 2, 20, .inl (fun j => nI ((sup kp s9 (u_46 10)) j)))), (g8, .inl (ax 0, 20, .inl tm)), (g9, .inl (ax 1, 20, .inl (fun j => nI (nm j)))), (ga, .inl (ax 1, 29, .inl (fun j => nI (x_90 j)))), (gb, .inl (ax 1, 29, .inl (fun j => nI (x_91 j))))]) hP hD hS hA [0, 17, 18, 19, 1, 2, 3, 4, 5, 6, 7, 8, 9, 10, 11, 12, 13, 14, 15, 16] (by decide) rfl
    have hz := xz_of hN hS
    refine wk_know (fun hk8 hk9 => ?_)
    refine va_calli (va_runV (As := [.int (nI s9)]) (rest := [.int (nI s9), .ref g4]) ⟨hx, hb, hml, hown, hts⟩ (c_R_statements l kf hst D ax r0 k0 k1 k2 tb tk (u_95 0) (u_95 1) (u_95 2) (u_95 3) cn ts th 1 (u_46 9) n0 (u_46 4) (u_46 5) (u_46 6) (u_46 8) (u_46 7) x_65 x_66 x_67 g0 g1 g2 g3 g4 g5 g6 g7 g8 g9 ga gb (u_85 0) ln br lp va kd ow sb f1 f2 (sup te s9 (u_1 10)) (sup kp s9 (u_46 10)) nm x_90 x_91 tm MX en (sup (sup kc s9 (kc s9 + (u_1 7 - z9))) s9 ((sup kc s9 (kc s9 + (u_1 7 - z9))) s9 + (u_46 7 - u_1 7))) (5 :: sg) s9 H_96.size (tsl H_96) hkz (by assumption) (by first | assumption | omega) (by first | assumption | omega) (by first | assumption | omega) (by first | assumption | omega) (by first | assumption | omega) (by first | assumption | omega) (by first | assumption | omega) (by first | assumption | omega) (by assumption) (by assumption) (by first | assumption | omega) (by first | assumption | omega) (by first | assumption | omega) (by first | assumption | omega) (by first | assumption | omega) (by assumption) (by assumption) (by first | assumption | omega) (by assumption) (by assumption) (by first | assumption | omega)) (xcV (n := 1) hts wd_617 wd_3 wd_614 wd_616 ps_14 rfl rfl (by decide +kernel) ⟨(show (205 + 20 * kf) + 1 ≤ (210 + 20 * kf) by omega), (show 8 + (6 + 11) + (8100 + 800 * kf) ≤ (8200 + 800 * kf) by omega)⟩) (xpV3 (ci := 7) (q0 := 0) (As := [.int (nI s9)]) hPc hK hz hDc rfl rfl) rfl rfl hl1.1 rfl (lv_room (Nat.le_of_ble_eq_true rfl)) d_Reader_loop_117 ⟨(show (u_1 8 - cp + (u_46 8 - (u_1 8))) + (MX - (u_46 8)) ≤ (MX - cp) by omega), (show (6 * (u_1 8 - cp) + (6 * (u_46 8 - (u_1 8)))) + (6 * (MX - (u_46 8))) ≤ (6 * (MX - cp)) by omega)⟩) hS (fun q _ h => hFc q h) hFc (fun r_112 u_110 t H_111 locs ht hvm hw hB hz1 hk1 hS1 => ?_)
    try dsimp only at hw
    obtain ⟨hw, hs_113, hs_114, hs_115, hs_116, hs_117, hs_118, hs_119, hs_120, hs_121, hs_122, hs_123, hs_124, hs_125, hs_126, hs_127, hs_128, hs_129, hs_130, hs_131, hs_132, hs_133, hs_134, hs_135⟩ := hw
    subst hw
    obtain ⟨x_136, x_137, x_138, x_139, x_140, x_141, x_142, x_143, x_144, x_145, x_146, x_147, x_148, x_149, x_150, x_151, hg8, hg9, hx_152, hx_153, hx_154, hx_155, hx_156, hx_157, hx_158, hx_159, hP1, hD1⟩ := hB
    rw [ht] at hg8 hg9 hP1
    have hjn := xw_join3 (wl := [(r0, .inr (7, [.ref k0, .ref g0, .ref n0, .int (nI (u_110 11)), .int (nI (u_110 9))])), (k0, .inr (9, [.ref k1, .ref k2, .int (nI ts), .int (nI th), .int (nI (u_110 0)), .int (nI (u_110 1)), .int (nI (u_110 2)), .int (nI (u_110 3))])), (k1, .inl (ax 1, 400, .inl tb)), (k2, .inl (ax 0, 401, .inl (fun j => nI (tk j)))), (n0, .inr (4, [.ref (u_110 4), .ref (u_110 5), .ref (u_110 6), .int (nI (u_110 7))])), ((u_110 4), .inl (ax 1, u_110 8, .inl x_147)), ((u_110 5), .inl (ax 0, u_110 8, .inl x_148)), ((u_110 6), .inl (ax 0, u_110 8, .inl x_149)), (g0, .inr (2, [.ref n0, .ref g1, .ref g2, .ref g3, .ref g4, .ref g5, .ref g6, .ref g7, .ref g8, .ref g9, .ref ga, .ref gb, .int (nI (u_110 12)), .int (nI (u_110 13)), .int (nI (u_110 14)), .int (nI (u_110 15)), .int (nI (u_110 16))])), (g1, .inl (ax 1, 20, .inl (fun j => nI (x_136 j)))), (g2, .inl (ax 1, 20, .inl (fun j => nI (x_137 j)))), (g3, .inl (ax 1, 20, .inl (fun j => nI (x_138 j)))), (g4, .inl (ax 1, 20, .inl (fun j => nI (x_139 j)))), (g5, .inl (ax 1, 20, .inl (fun j => nI (x_140 j)))), (g6, .inl (ax 2, 20, .inl (fun j => nI (x_141 j)))), (g7, .inl (ax 2, 20, .inl (fun j => nI (x_142 j)))), (g8, .inl (ax 0, 20, .inl x_146)), (g9, .inl (ax 1, 20, .inl (fun j => nI (x_143 j)))), (ga, .inl (ax 1, 29, .inl (fun j => nI (x_144 j)))), (gb, .inl (ax 1, 29, .inl (fun j => nI (x_145 j))))]) hP hD [0, 17, 18, 19, 1, 2, 3, 4, 5, 6, 7, 8, 9, 10, 11, 12, 13, 14, 15, 16] [] hCs (by decide) (by decide) hk1 hFc hP1 hD1 rfl
    clear hP1 hD1
    clear hPc hDc hFc hCs hz hz1 hk1 ht hvm
    clear hP hD hS
    have hS := hS1
    obtain ⟨hP, hD⟩ := hjn
    clear hS1
    refine wk_narrow (k := u_1 8 - cp + (u_46 8 - (u_1 8)) + (u_110 8 - (u_46 8))) (n := 6 * (u_1 8 - cp) + (6 * (u_46 8 - (u_1 8))) + (6 * (u_110 8 - (u_46 8)))) (by first | assumption | omega) (by first | assumption | omega) ?_
    clear hk8 hk9 hg8 hg9
    refine lv_i2b (v := nI (u_110 10)) hx hb d_Reader_loop_120 (nb_i2bs hs_135) ?_
    refine va_bast hx hb hK.1 hP hD hS 12 1 rfl rfl (vp_in_nI (by first | assumption | omega) (by decide)) d_Reader_loop_121 (fun H_160 locs hP1 hD1 hS1 => ?_)
    rw [nI_clamp (by first | exact Nat.lt_of_lt_of_le (by assumption) (by decide) | exact Nat.lt_of_le_of_lt (by assumption) (by decide) | omega)] at hP1 hD1
    rw [xf_supbs x_139 s9 (u_110 10) hs_135] at hP1 hD1
    clear hP hD hS
    have hS := hS1
    have hW7 : (fun w9 : va_W => va_P D classes w9 H_160 ∧ va_D A w9) [(r0, .inr (7, [.ref k0, .ref g0, .ref n0, .int (nI (u_110 11)), .int (nI (u_110 9))])), (k0, .inr (9, [.ref k1, .ref k2, .int (nI ts), .int (nI th), .int (nI (u_110 0)), .int (nI (u_110 1)), .int (nI (u_110 2)), .int (nI (u_110 3))])), (k1, .inl (ax 1, 400, .inl tb)), (k2, .inl (ax 0, 401, .inl (fun j => nI (tk j)))), (n0, .inr (4, [.ref (u_110 4), .ref (u_110 5), .ref (u_110 6), .int (nI (u_110 7))])), ((u_110 4), .inl (ax 1, u_110 8, .inl x_147)), ((u_110 5), .inl (ax 0, u_110 8, .inl x_148)), ((u_110 6), .inl (ax 0, u_110 8, .inl x_149)), (g0, .inr (2, [.ref n0, .ref g1, .ref g2, .ref g3, .ref g4, .ref g5, .ref g6, .ref g7, .ref g8, .ref g9, .ref ga, .ref gb, .int (nI (u_110 12)), .int (nI (u_110 13)), .int (nI (u_110 14)), .int (nI (u_110 15)), .int (nI (u_110 16))])), (g1, .inl (ax 1, 20, .inl (fun j => nI (x_136 j)))), (g2, .inl (ax 1, 20, .inl (fun j => nI (x_137 j)))), (g3, .inl (ax 1, 20, .inl (fun j => nI (x_138 j)))), (g4, .inl (ax 1, 20, .inl (fun j => nI (sup x_139 s9 (u_110 10) j)))), (g5, .inl (ax 1, 20, .inl (fun j => nI (x_140 j)))), (g6, .inl (ax 2, 20, .inl (fun j => nI (x_141 j)))), (g7, .inl (ax 2, 20, .inl (fun j => nI (x_142 j)))), (g8, .inl (ax 0, 20, .inl x_146)), (g9, .inl (ax 1, 20, .inl (fun j => nI (x_143 j)))), (ga, .inl (ax 1, 29, .inl (fun j => nI (x_144 j)))), (gb, .inl (ax 1, 29, .inl (fun j => nI (x_145 j))))] := ⟨hP1, hD1⟩
    obtain ⟨hP, hD⟩ := hW7
    clear hP1 hD1 hS1
    have hE_161 : okf (u_110 1) (x_150 s9 = 100) := fun q => ((hx_154 q s9 (by first | assumption | omega)).2.2.2.2.2.2.2.2.1.trans (hop (okf.of (by first | assumption | omega) q)).1)
    have hL_162 : okf (u_110 1) (lst (u_110 13) (u_110 7) x_136 x_137 x_138 (sup x_139 s9 (u_110 10)) x_140 x_141 x_142 x_143 x_150 x_151 x_146 x_147 x_148 x_149) := (fun q => (hx_152 q).same (by first | assumption | omega) (hE_161 q) (fun i hi => sup_ne hi) (fun i hi => rfl) (fun i hi => rfl) (fun i hi => rfl) (fun i hi => rfl) (fun i hi => rfl))
    have hC_163 : okf (u_110 1) (clm (u_110 14) (u_110 12) x_144 x_145 (u_110 13) x_136 x_143) := hx_156
    refine lv_aload_n hx hb d_Reader_loop_122 rfl (lv_at hl1 0 rfl) ?_
    refine va_get (D := D) (ci := 7) (v := .ref k0) (C := R_Reader) (T := F_Reader) (N := 5) hx hb hts i_Reader hown hK.1 hP 0 rfl rfl 0 (by decide) (hts _ wd_75) (fun _ h9 => h9) rfl d_Reader_loop_123 ?_
    refine lv_bipush (v := 16) hx hb d_Reader_loop_126 (by decide) ?_
    obtain ⟨hPc, hDc, hFc, hCs⟩ := xw_sub3 (wc := [(k0, .inr (9, [.ref k1, .ref k2, .int (nI ts), .int (nI th), .int (nI (u_110 0)), .int (nI (u_110 1)), .int (nI (u_110 2)), .int (nI (u_110 3))])), (k1, .inl (ax 1, 400, .inl tb)), (k2, .inl (ax 0, 401, .inl (fun j => nI (tk j))))]) hP hD hS hA [1, 2, 3] (by decide) rfl
    have hz := xz_of hN hS
    refine va_callv (va_runV (As := [.int 16]) (rest := []) ⟨hx, hb, hml, hown, hts⟩ (c_K_need l D ax k0 k1 k2 tb tk (u_110 0) (u_110 1) (u_110 2) (u_110 3) cn ts th 16 H_160.size hkz (by assumption) (by first | assumption | omega) (by first | assumption | omega) (by first | assumption | omega) (by first | assumption | omega) (by first | assumption | omega)) (xcV (n := 1) hts wd_571 wd_2 wd_568 wd_569 wd_570 rfl rfl (by decide +kernel) ⟨(show (20) + 1 ≤ (210 + 20 * kf) by omega), (show 8 + (2 + 11) + (800) ≤ (8200 + 800 * kf) by omega)⟩) (xpV (ci := 9) (q0 := 0) (As := [.int 16]) hPc hK hz hDc rfl rfl) rfl rfl hl1.1 rfl (lv_room (Nat.le_of_ble_eq_true rfl)) d_Reader_loop_128 ⟨(show (u_1 8 - cp + (u_46 8 - (u_1 8)) + (u_110 8 - (u_46 8))) + (0) ≤ (MX - cp) by omega), (show (6 * (u_1 8 - cp) + (6 * (u_46 8 - (u_1 8))) + (6 * (u_110 8 - (u_46 8)))) + (0) ≤ (6 * (MX - cp)) by omega)⟩) hS (fun q _ h => hFc q h) hFc (fun u_164 t H_165 locs ht hvm hw hB hz1 hk1 hS1 => ?_)
    try dsimp only at hw
    obtain ⟨hs_167, hs_168, hs_169, hs_170, hs_171, hs_172, hs_173, hs_174⟩ := hw
    obtain ⟨hP1, hD1⟩ := hB
    rw [ht] at hP1
    have hjn := xw_join3 (wl := [(r0, .inr (7, [.ref k0, .ref g0, .ref n0, .int (nI (u_110 11)), .int (nI (u_110 9))])), (n0, .inr (4, [.ref (u_110 4), .ref (u_110 5), .ref (u_110 6), .int (nI (u_110 7))])), ((u_110 4), .inl (ax 1, u_110 8, .inl x_147)), ((u_110 5), .inl (ax 0, u_110 8, .inl x_148)), ((u_110 6), .inl (ax 0, u_110 8, .inl x_149)), (g0, .inr (2, [.ref n0, .ref g1, .ref g2, .ref g3, .ref g4, .ref g5, .ref g6, .ref g7, .ref g8, .ref g9, .ref ga, .ref gb, .int (nI (u_110 12)), .int (nI (u_110 13)), .int (nI (u_110 14)), .int (nI (u_110 15)), .int (nI (u_110 16))])), (g1, .inl (ax 1, 20, .inl (fun j => nI (x_136 j)))), (g2, .inl (ax 1, 20, .inl (fun j => nI (x_137 j)))), (g3, .inl (ax 1, 20, .inl (fun j => nI (x_138 j)))), (g4, .inl (ax 1, 20, .inl (fun j => nI (sup x_139 s9 (u_110 10) j)))), (g5, .inl (ax 1, 20, .inl (fun j => nI (x_140 j)))), (g6, .inl (ax 2, 20, .inl (fun j => nI (x_141 j)))), (g7, .inl (ax 2, 20, .inl (fun j => nI (x_142 j)))), (g8, .inl (ax 0, 20, .inl x_146)), (g9, .inl (ax 1, 20, .inl (fun j => nI (x_143 j)))), (ga, .inl (ax 1, 29, .inl (fun j => nI (x_144 j)))), (gb, .inl (ax 1, 29, .inl (fun j => nI (x_145 j)))), (k0, .inr (9, [.ref k1, .ref k2, .int (nI ts), .int (nI th), .int (nI (u_164 0)), .int (nI (u_164 1)), .int (nI (u_164 2)), .int (nI (u_164 3))])), (k1, .inl (ax 1, 400, .inl tb)), (k2, .inl (ax 0, 401, .inl (fun j => nI (tk j))))]) hP hD [1, 2, 3] [0, 4, 5, 6, 7, 8, 9, 10, 11, 12, 13, 14, 15, 16, 17, 18, 19] hCs (by decide) (by decide) hk1 hFc hP1 hD1 rfl
    clear hP1 hD1
    clear hPc hDc hFc hCs hz hz1 hk1 ht hvm
    clear hP hD hS
    have hS := hS1
    obtain ⟨hP, hD⟩ := hjn
    clear hS1
    have hL_175 : okf (u_164 1) (lst (u_110 13) (u_110 7) x_136 x_137 x_138 (sup x_139 s9 (u_110 10)) x_140 x_141 x_142 x_143 x_150 x_151 x_146 x_147 x_148 x_149) := hL_162.back hs_172
    have hC_176 : okf (u_164 1) (clm (u_110 14) (u_110 12) x_144 x_145 (u_110 13) x_136 x_143) := hC_163.back hs_172
    have hF : okf (u_164 1) ((cls ln (u_110 13) x_150) ∧ (sae s9 ln kd ow sb f1 f2 te kp nm en kc x_136 x_137 x_138 (sup x_139 s9 (u_110 10)) x_140 x_141 x_142 x_143 x_150 x_151 tm x_146) ∧ (lsc (u_110 13) (u_110 7) x_136 (sup x_139 s9 (u_110 10)) x_140 x_141 x_142 x_143 x_151 x_146 x_147 x_148 x_149 s9) ∧ (∀ i, i < z9 → tsn x_147 x_148 x_149 i = tsn fo fl fr i)) := by
      intro q
      have q1 : u_110 1 = 4294967295 := okf.of (by first | assumption | omega) q
      have qb : u_46 1 = 4294967295 := okf.of (by first | assumption | omega) q1
      have qa : u_1 1 = 4294967295 := okf.of (by first | assumption | omega) qb
      have qz : tf = 4294967295 := okf.of (by first | assumption | omega) qa
      have ha := hx_154 q1
      have hc9 := (Nat.lt_of_succ_le (Nat.le_of_eq (hs_16 qa))); have ht9 := hx_25 qa; have hk9 := hx_26 qa
      have hc8 := (Nat.lt_of_succ_le (Nat.le_of_eq (hs_61 qb))); have ht8 := hx_70 qb; have hk8 := hx_71 qb
      have hr1 := hx_155 q1
      obtain ⟨a1, a2, a3, a4, a5, a6, a7, a8, a9, a10, a11⟩ := ha s9 (by first | assumption | omega)
      obtain ⟨ho1, ho2, ho3⟩ := hop qz
      have hT1 := hx_159 q1; have hcl1 := hx_153 q1
      refine ⟨hcl1, ⟨fun i hi he => ?_, a1, a2, a3, a9⟩, ?_, fun i hi => (hT1 i (by first | assumption | omega)).trans ((hk8 i (by first | assumption | omega)).trans (hk9 i hi))⟩
      · obtain ⟨x1, x2, x3, x4, x5, x6, x7, x8, x9, x10, x11⟩ := ha i hi
        exact ⟨x1, x2, x3, (sup_ne he).trans x4, x5, x6.trans (sup_ne he), x7.trans (sup_ne he), x8, x9, x10.trans ((sup_ne he).trans (sup_ne he)), x11⟩
      · have e8 : x_136 s9 = 12 := a1.trans ho2
        have e6 : x_141 s9 = u_1 10 := a6.trans sup_eq
        have e7 : x_142 s9 = u_46 10 := a7.trans sup_eq
        have e4 : (sup x_139 s9 (u_110 10)) s9 = u_110 10 := sup_eq
        have e10 := a10.trans sup_eq
        rw [sup_eq] at e10
        refine ⟨fun h => by omega, fun h => by omega, fun _ => ⟨by omega, by omega, ?_, by omega, by omega, ?_⟩, fun h => by omega⟩
        · rw [e6, e7, e10, hT1 _ (by first | assumption | omega), hT1 _ (by first | assumption | omega), hk8 _ (by first | assumption | omega)]; omega
        · exact Or.inl (a8.trans ho3)
    rw [← hQe]
    refine wk_know (fun hk8 hk9 => ?_)
    refine W.widen (k := MX - cp) (n := 6 * (MX - cp)) (by first | assumption | omega) (by first | assumption | omega) ?_
    obtain ⟨hP9, hD9⟩ := xw_sub2 (wc := (fun (u : Nat → Nat) (xkd : Nat → Nat) (xow : Nat → Nat) (xsb : Nat → Nat) (xf1 : Nat → Nat) (xf2 : Nat → Nat) (xte : Nat → Nat) (xkp : Nat → Nat) (xnm : Nat → Nat) (xck : Nat → Nat) (xco : Nat → Nat) (xtm : Nat → Int32) (xfo : Nat → Int32) (xfl : Nat → Int32) (xfr : Nat → Int32) (xen : Nat → Nat) (xkc : Nat → Nat) => [(r0, .inr (7, [.ref k0, .ref g0, .ref n0, .int (nI (u 11)), .int (nI (u 9))])), (k0, .inr (9, [.ref k1, .ref k2, .int (nI ts), .int (nI th), .int (nI (u 0)), .int (nI (u 1)), .int (nI (u 2)), .int (nI (u 3))])), (k1, .inl (ax 1, 400, .inl tb)), (k2, .inl (ax 0, 401, .inl (fun j => nI (tk j)))), (n0, .inr (4, [.ref (u 4), .ref (u 5), .ref (u 6), .int (nI (u 7))])), (u 4, .inl (ax 1, u 8, .inl xfo)), (u 5, .inl (ax 0, u 8, .inl xfl)), (u 6, .inl (ax 0, u 8, .inl xfr)), (g0, .inr (2, [.ref n0, .ref g1, .ref g2, .ref g3, .ref g4, .ref g5, .ref g6, .ref g7, .ref g8, .ref g9, .ref ga, .ref gb, .int (nI (u 12)), .int (nI (u 13)), .int (nI (u 14)), .int (nI (u 15)), .int (nI (u 16))])), (g1, .inl (ax 1, 20, .inl (fun j => nI (xkd j)))), (g2, .inl (ax 1, 20, .inl (fun j => nI (xow j)))), (g3, .inl (ax 1, 20, .inl (fun j => nI (xsb j)))), (g4, .inl (ax 1, 20, .inl (fun j => nI (xf1 j)))), (g5, .inl (ax 1, 20, .inl (fun j => nI (xf2 j)))), (g6, .inl (ax 2, 20, .inl (fun j => nI (xte j)))), (g7, .inl (ax 2, 20, .inl (fun j => nI (xkp j)))), (g8, .inl (ax 0, 20, .inl xtm)), (g9, .inl (ax 1, 20, .inl (fun j => nI (xnm j)))), (ga, .inl (ax 1, 29, .inl (fun j => nI (xck j)))), (gb, .inl (ax 1, 29, .inl (fun j => nI (xco j))))]) (ixn [(u_164 0), (u_164 1), (u_164 2), (u_164 3), (u_110 4), (u_110 5), (u_110 6), (u_110 7), (u_110 8), (u_110 9), 0, (u_110 11), (u_110 12), (u_110 13), (u_110 14), (u_110 15), (u_110 16)]) x_136 x_137 x_138 (sup x_139 s9 (u_110 10)) x_140 x_141 x_142 x_143 x_144 x_145 x_146 x_147 x_148 x_149 x_150 x_151) hP hD [0, 17, 18, 19, 1, 2, 3, 4, 5, 6, 7, 8, 9, 10, 11, 12, 13, 14, 15, 16] (by decide) rfl
    have hex0 : okf ((u_164 1)) (lst ((u_110 13)) ((u_110 7)) x_136 x_137 x_138 (sup x_139 s9 (u_110 10)) x_140 x_141 x_142 x_143 x_150 x_151 x_146 x_147 x_148 x_149) := hL_175
    have hex1 : okf ((u_164 1)) (cls ln ((u_110 13)) x_150) := (fun q => (hF q).1)
    have hex2 : okf ((u_164 1)) (sae s9 ln kd ow sb f1 f2 te kp nm en kc x_136 x_137 x_138 (sup x_139 s9 (u_110 10)) x_140 x_141 x_142 x_143 x_150 x_151 tm x_146) := (fun q => (hF q).2.1)
    have hex3 : okf ((u_164 1)) (lsc ((u_110 13)) ((u_110 7)) x_136 (sup x_139 s9 (u_110 10)) x_140 x_141 x_142 x_143 x_151 x_146 x_147 x_148 x_149 s9) := (fun q => (hF q).2.2.1)
    have hex4 : okf ((u_164 1)) (clm ((u_110 14)) ((u_110 12)) x_144 x_145 ((u_110 13)) x_136 x_143) := hC_176
    have hex5 : okf ((u_164 1)) (ndv x_147 x_148 x_149 ((u_110 7))) := (hx_157.back hs_172)
    have hex6 : bts x_147 ((u_110 8)) := (by assumption)
    have hex7 : okf ((u_164 1)) (∀ i, i < z9 → tsn x_147 x_148 x_149 i = tsn fo fl fr i) := (fun q => (hF q).2.2.2)
    have hg8 : H_165.size ≤ s.heap.size + ((u_110 8) - cp) := by omega
    have hg9 : tsl H_165 ≤ tsl s.heap + (6 * ((u_110 8) - cp)) := by omega
    have hsp0 : rst tk ((u_164 1)) ((u_164 2)) ((u_164 3)) ((u_164 0)) cn := (by assumption)
    have hsp1 : (u_164 0) ≤ cn := (by first | assumption | omega)
    have hsp2 : (u_164 2) < 128 := (by first | assumption | omega)
    have hsp3 : (u_164 3) < 1024 := (by first | assumption | omega)
    have hsp4 : ta ≤ (u_164 0) := (by first | assumption | omega)
    have hsp5 : ftf tf ≤ ftf ((u_164 1)) := (by first | assumption | omega)
    have hsp6 : z9 ≤ (u_110 7) := (by first | assumption | omega)
    have hsp7 : (u_110 7) + ta ≤ z9 + (u_164 0) + 2 * ((u_110 13) - ln) + 2 := (by first | assumption | omega)
    have hsp8 : (u_110 7) ≤ (u_110 8) := (by first | assumption | omega)
    have hsp9 : cp ≤ (u_110 8) := (by first | assumption | omega)
    have hsp10 : (u_110 8) ≤ MX := (by first | assumption | omega)
    have hsp11 : (u_110 11) ≤ 1 := (by first | assumption | omega)
    have hsp12 : (u_110 12) ≤ 1 + 2 * (u_110 15) + (u_110 13) := (by first | assumption | omega)
    have hsp13 : ln ≤ (u_110 13) := (by first | assumption | omega)
    have hsp14 : (u_110 13) ≤ 20 := (by first | assumption | omega)
    have hsp15 : br ≤ (u_110 14) := (by first | assumption | omega)
    have hsp16 : (u_110 14) ≤ 4 := (by first | assumption | omega)
    have hsp17 : lp ≤ (u_110 15) := (by first | assumption | omega)
    have hsp18 : (u_110 15) ≤ 4 := (by first | assumption | omega)
    have hsp19 : (u_110 16) ≤ (u_110 15) := (by first | assumption | omega)
    have hsp20 : brS tk 5 tf ta sg ln br lp cl ((u_164 1)) ((u_164 0)) ((u_110 13)) ((u_110 14)) ((u_110 15)) ((u_110 12)) := (lp_of hs_19 hs_4 hs_41 hs_64 (vr_n hs_49 (by first | assumption | omega) hs_105) (by decide) (by first | assumption | omega) hs_133 hs_134 hs_113 hs_174)
    exact W.vret hx hb hr (fun t ht hW => ⟨⟨ixn [(u_164 0), (u_164 1), (u_164 2), (u_164 3), (u_110 4), (u_110 5), (u_110 6), (u_110 7), (u_110 8), (u_110 9), 0, (u_110 11), (u_110 12), (u_110 13), (u_110 14), (u_110 15), (u_110 16)], rfl, ⟨hsp0, hsp1, hsp2, hsp3, hsp4, hsp5, hsp6, hsp7, hsp8, hsp9, hsp10, hsp11, hsp12, hsp13, hsp14, hsp15, hsp16, hsp17, hsp18, hsp19, hsp20⟩, ⟨x_136, x_137, x_138, sup x_139 s9 (u_110 10), x_140, x_141, x_142, x_143, x_144, x_145, x_146, x_147, x_148, x_149, x_150, x_151, by rw [ht]; exact hg8, by rw [ht]; exact hg9, hex0, hex1, hex2, hex3, hex4, hex5, hex6, hex7, by rw [ht]; exact hP9, hD9⟩⟩, hS.F ht⟩) hS.2.2 d_Reader_loop_131
  · replace c_94 : u_46 2 = 14 := (nI_eq (a := u_46 2) (b := 14) (by first | exact Nat.lt_of_lt_of_le (by assumption) (by decide) | exact Nat.lt_of_le_of_lt (by assumption) (by decide) | omega) (by decide)).mp c_94
    obtain ⟨hok9, hts9⟩ := hs_49.go (by first | assumption | omega) (by first | assumption | omega)
    refine lv_aload_n hx hb d_Reader_loop_69 rfl (lv_at hl1 0 rfl) ?_
    refine va_get (D := D) (ci := 7) (v := .ref k0) (C := R_Reader) (T := F_Reader) (N := 5) hx hb hts i_Reader hown hK.1 hP 0 rfl rfl 0 (by decide) (hts _ wd_75) (fun _ h9 => h9) rfl d_Reader_loop_70 ?_
    obtain ⟨hPc, hDc, hFc, hCs⟩ := xw_sub3 (wc := [(k0, .inr (9, [.ref k1, .ref k2, .int (nI ts), .int (nI th), .int (nI (u_46 0)), .int (nI (u_46 1)), .int (nI (u_46 2)), .int (nI (u_46 3))])), (k1, .inl (ax 1, 400, .inl tb)), (k2, .inl (ax 0, 401, .inl (fun j => nI (tk j))))]) hP hD hS hA [1, 2, 3] (by decide) rfl
    have hz := xz_of hN hS
    refine va_callv (va_runV (As := []) (rest := []) ⟨hx, hb, hml, hown, hts⟩ (c_K_pass l D ax k0 k1 k2 tb tk (u_46 0) (u_46 1) (u_46 2) (u_46 3) cn ts th H_86.size hkz (by assumption) (by first | assumption | omega) (by first | assumption | omega) (by first | assumption | omega) (by first | assumption | omega)) (xcV (n := 0) hts wd_531 wd_2 wd_564 wd_529 wd_530 rfl rfl (by decide +kernel) ⟨(show (10) + 1 ≤ (210 + 20 * kf) by omega), (show 8 + (1 + 11) + (400) ≤ (8200 + 800 * kf) by omega)⟩) (xpV (ci := 9) (q0 := 0) (As := []) hPc hK hz hDc rfl rfl) rfl rfl hl1.1 rfl (lv_room (Nat.le_of_ble_eq_true rfl)) d_Reader_loop_73 ⟨(show (u_1 8 - cp + (u_46 8 - (u_1 8))) + (0) ≤ (MX - cp) by omega), (show (6 * (u_1 8 - cp) + (6 * (u_46 8 - (u_1 8)))) + (0) ≤ (6 * (MX - cp)) by omega)⟩) hS (fun q _ h => hFc q h) hFc (fun u_177 t H_178 locs ht hvm hw hB hz1 hk1 hS1 => ?_)
    try dsimp only at hw
    obtain ⟨hs_180, hs_181, hs_182, hs_183, hs_184, hs_185, hs_186, hs_187, hs_188, hs_189⟩ := hw
    obtain ⟨hP1, hD1⟩ := hB
    rw [ht] at hP1
    have hjn := xw_join3 (wl := [(r0, .inr (7, [.ref k0, .ref g0, .ref n0, .int (nI 1), .int (nI (u_46 9))])), (n0, .inr (4, [.ref (u_46 4), .ref (u_46 5), .ref (u_46 6), .int (nI (u_46 7))])), ((u_46 4), .inl (ax 1, u_46 8, .inl x_65)), ((u_46 5), .inl (ax 0, u_46 8, .inl x_66)), ((u_46 6), .inl (ax 0, u_46 8, .inl x_67)), (g0, .inr (2, [.ref n0, .ref g1, .ref g2, .ref g3, .ref g4, .ref g5, .ref g6, .ref g7, .ref g8, .ref g9, .ref ga, .ref gb, .int (nI (u_85 0)), .int (nI ln), .int (nI br), .int (nI lp), .int (nI va)])), (g1, .inl (ax 1, 20, .inl (fun j => nI (kd j)))), (g2, .inl (ax 1, 20, .inl (fun j => nI (ow j)))), (g3, .inl (ax 1, 20, .inl (fun j => nI (sb j)))), (g4, .inl (ax 1, 20, .inl (fun j => nI (f1 j)))), (g5, .inl (ax 1, 20, .inl (fun j => nI (f2 j)))), (g6, .inl (ax 2, 20, .inl (fun j => nI ((sup te s9 (u_1 10)) j)))), (g7, .inl (ax 2, 20, .inl (fun j => nI ((sup kp s9 (u_46 10)) j)))), (g8, .inl (ax 0, 20, .inl tm)), (g9, .inl (ax 1, 20, .inl (fun j => nI (nm j)))), (ga, .inl (ax 1, 29, .inl (fun j => nI (x_90 j)))), (gb, .inl (ax 1, 29, .inl (fun j => nI (x_91 j)))), (k0, .inr (9, [.ref k1, .ref k2, .int (nI ts), .int (nI th), .int (nI (u_177 0)), .int (nI (u_177 1)), .int (nI (u_177 2)), .int (nI (u_177 3))])), (k1, .inl (ax 1, 400, .inl tb)), (k2, .inl (ax 0, 401, .inl (fun j => nI (tk j))))]) hP hD [1, 2, 3] [0, 4, 5, 6, 7, 8, 9, 10, 11, 12, 13, 14, 15, 16, 17, 18, 19] hCs (by decide) (by decide) hk1 hFc hP1 hD1 rfl
    clear hP1 hD1
    clear hPc hDc hFc hCs hz hz1 hk1 ht hvm
    clear hP hD hS
    have hS := hS1
    obtain ⟨hP, hD⟩ := hjn
    clear hS1
    have hL_190 : okf (u_177 1) (lst ln (u_46 7) kd ow sb f1 f2 (sup te s9 (u_1 10)) (sup kp s9 (u_46 10)) nm en (sup (sup kc s9 (kc s9 + (u_1 7 - z9))) s9 ((sup kc s9 (kc s9 + (u_1 7 - z9))) s9 + (u_46 7 - u_1 7))) tm x_65 x_66 x_67) := hL_74.back hs_185
    have hC_191 : okf (u_177 1) (clm br (u_85 0) x_90 x_91 ln kd nm) := hC_93.back hs_185
    have hN_192 : okf (u_177 1) (ndv x_65 x_66 x_67 (u_46 7)) := hx_68.back hs_185
    refine lv_aload_n hx hb d_Reader_loop_76 rfl (lv_at hl1 0 rfl) ?_
    refine va_get (D := D) (ci := 7) (v := .ref g0) (C := R_Reader) (T := F_Reader) (N := 5) hx hb hts i_Reader hown hK.1 hP 0 rfl rfl 1 (by decide) (hts _ wd_76) (fun _ h9 => h9) rfl d_Reader_loop_77 ?_
    refine lv_iload_n hx hb d_Reader_loop_80 rfl (lv_at hl1 1 rfl) ?_
    refine lv_aload_n hx hb d_Reader_loop_81 rfl (lv_at hl1 0 rfl) ?_
    refine lv_iconst (v := 0) hx hb d_Reader_loop_82 (by decide) ?_
    obtain ⟨hPc, hDc, hFc, hCs⟩ := xw_sub3 (wc := [(r0, .inr (7, [.ref k0, (.ref g0), .ref n0, .int (nI 1), .int (nI (u_46 9))])), (k0, .inr (9, [.ref k1, .ref k2, .int (nI ts), .int (nI th), .int (nI (u_177 0)), .int (nI (u_177 1)), .int (nI (u_177 2)), .int (nI (u_177 3))])), (k1, .inl (ax 1, 400, .inl tb)), (k2, .inl (ax 0, 401, .inl (fun j => nI (tk j))))]) hP hD hS hA [0, 17, 18, 19] (by decide) rfl
    have hz := xz_of hN hS
    refine va_calli (va_runV (As := [.int 0]) (rest := [.int (nI s9), .ref g0]) ⟨hx, hb, hml, hown, hts⟩ (c_R_term l D ax r0 k0 k1 k2 (.ref g0) tb tk (u_177 0) (u_177 1) (u_177 2) (u_177 3) cn ts th 1 (u_46 9) n0 0 H_178.size hkz (by assumption) (by first | assumption | omega) (by first | assumption | omega) (by first | assumption | omega) (by first | assumption | omega) (by first | assumption | omega)) (xcV (n := 1) hts wd_563 wd_3 wd_560 wd_562 ps_12 rfl rfl (by decide +kernel) ⟨(show (30) + 1 ≤ (210 + 20 * kf) by omega), (show 8 + (5 + 11) + (1200) ≤ (8200 + 800 * kf) by omega)⟩) (xpV (ci := 7) (q0 := 0) (As := [.int 0]) hPc hK hz hDc rfl rfl) rfl rfl hl1.1 rfl (lv_room (Nat.le_of_ble_eq_true rfl)) d_Reader_loop_83 ⟨(show (u_1 8 - cp + (u_46 8 - (u_1 8))) + (0) ≤ (MX - cp) by omega), (show (6 * (u_1 8 - cp) + (6 * (u_46 8 - (u_1 8)))) + (0) ≤ (6 * (MX - cp)) by omega)⟩) hS (fun q _ h => hFc q h) hFc (fun r_195 u_193 t H_194 locs ht hvm hw hB hz1 hk1 hS1 => ?_)
    try dsimp only at hw
    obtain ⟨hw, hs_196, hs_197, hs_198, hs_199, hs_200, hs_201, hs_202, hs_203⟩ := hw
    subst hw
    obtain ⟨hP1, hD1⟩ := hB
    rw [ht] at hP1
    have hjn := xw_join3 (wl := [(n0, .inr (4, [.ref (u_46 4), .ref (u_46 5), .ref (u_46 6), .int (nI (u_46 7))])), ((u_46 4), .inl (ax 1, u_46 8, .inl x_65)), ((u_46 5), .inl (ax 0, u_46 8, .inl x_66)), ((u_46 6), .inl (ax 0, u_46 8, .inl x_67)), (g0, .inr (2, [.ref n0, .ref g1, .ref g2, .ref g3, .ref g4, .ref g5, .ref g6, .ref g7, .ref g8, .ref g9, .ref ga, .ref gb, .int (nI (u_85 0)), .int (nI ln), .int (nI br), .int (nI lp), .int (nI va)])), (g1, .inl (ax 1, 20, .inl (fun j => nI (kd j)))), (g2, .inl (ax 1, 20, .inl (fun j => nI (ow j)))), (g3, .inl (ax 1, 20, .inl (fun j => nI (sb j)))), (g4, .inl (ax 1, 20, .inl (fun j => nI (f1 j)))), (g5, .inl (ax 1, 20, .inl (fun j => nI (f2 j)))), (g6, .inl (ax 2, 20, .inl (fun j => nI ((sup te s9 (u_1 10)) j)))), (g7, .inl (ax 2, 20, .inl (fun j => nI ((sup kp s9 (u_46 10)) j)))), (g8, .inl (ax 0, 20, .inl tm)), (g9, .inl (ax 1, 20, .inl (fun j => nI (nm j)))), (ga, .inl (ax 1, 29, .inl (fun j => nI (x_90 j)))), (gb, .inl (ax 1, 29, .inl (fun j => nI (x_91 j)))), (r0, .inr (7, [.ref k0, .ref g0, .ref n0, .int (nI 1), .int (nI (u_46 9))])), (k0, .inr (9, [.ref k1, .ref k2, .int (nI ts), .int (nI th), .int (nI (u_193 0)), .int (nI (u_193 1)), .int (nI (u_193 2)), .int (nI (u_193 3))])), (k1, .inl (ax 1, 400, .inl tb)), (k2, .inl (ax 0, 401, .inl (fun j => nI (tk j))))]) hP hD [0, 17, 18, 19] [1, 2, 3, 4, 5, 6, 7, 8, 9, 10, 11, 12, 13, 14, 15, 16] hCs (by decide) (by decide) hk1 hFc hP1 hD1 rfl
    clear hP1 hD1
    clear hPc hDc hFc hCs hz hz1 hk1 ht hvm
    clear hP hD hS
    have hS := hS1
    obtain ⟨hP, hD⟩ := hjn
    clear hS1
    have hL_204 : okf (u_193 1) (lst ln (u_46 7) kd ow sb f1 f2 (sup te s9 (u_1 10)) (sup kp s9 (u_46 10)) nm en (sup (sup kc s9 (kc s9 + (u_1 7 - z9))) s9 ((sup kc s9 (kc s9 + (u_1 7 - z9))) s9 + (u_46 7 - u_1 7))) tm x_65 x_66 x_67) := hL_190.back hs_201
    have hC_205 : okf (u_193 1) (clm br (u_85 0) x_90 x_91 ln kd nm) := hC_191.back hs_201
    have hN_206 : okf (u_193 1) (ndv x_65 x_66 x_67 (u_46 7)) := hN_192.back hs_201
    obtain ⟨hPc, hDc, hFc, hCs⟩ := xw_sub3 (wc := [(g0, .inr (2, [.ref n0, .ref g1, .ref g2, .ref g3, .ref g4, .ref g5, .ref g6, .ref g7, .ref g8, .ref g9, .ref ga, .ref gb, .int (nI (u_85 0)), .int (nI ln), .int (nI br), .int (nI lp), .int (nI va)])), (g1, .inl (ax 1, 20, .inl (fun j => nI (kd j)))), (g2, .inl (ax 1, 20, .inl (fun j => nI (ow j)))), (g3, .inl (ax 1, 20, .inl (fun j => nI (sb j)))), (g4, .inl (ax 1, 20, .inl (fun j => nI (f1 j)))), (g5, .inl (ax 1, 20, .inl (fun j => nI (f2 j)))), (g6, .inl (ax 2, 20, .inl (fun j => nI ((sup te s9 (u_1 10)) j)))), (g7, .inl (ax 2, 20, .inl (fun j => nI ((sup kp s9 (u_46 10)) j)))), (g8, .inl (ax 0, 20, .inl tm)), (g9, .inl (ax 1, 20, .inl (fun j => nI (nm j)))), (ga, .inl (ax 1, 29, .inl (fun j => nI (x_90 j)))), (gb, .inl (ax 1, 29, .inl (fun j => nI (x_91 j))))]) hP hD hS hA [4, 5, 6, 7, 8, 9, 10, 11, 12, 13, 14, 15] (by decide) rfl
    have hz := xz_of hN hS
    refine va_callv (va_runV (As := [.int (nI s9), .int (nI (u_193 4))]) (rest := []) ⟨hx, hb, hml, hown, hts⟩ (c_L_addVariant l D ax g0 g1 g2 g3 g4 g5 g6 g7 g8 g9 ga gb (u_85 0) ln br lp va kd ow sb f1 f2 (sup te s9 (u_1 10)) (sup kp s9 (u_46 10)) nm x_90 x_91 tm n0 s9 (nI (u_193 4)) H_194.size (by first | assumption | omega) (by first | assumption | omega)) (xcV (n := 2) hts wd_646 wd_12 wd_643 wd_644 wd_645 rfl rfl (by decide +kernel) ⟨(show (10) + 1 ≤ (210 + 20 * kf) by omega), (show 8 + (3 + 11) + (400) ≤ (8200 + 800 * kf) by omega)⟩) (xpV (ci := 2) (q0 := 0) (As := [.int (nI s9), .int (nI (u_193 4))]) hPc hK hz hDc rfl rfl) rfl rfl hl1.1 rfl (lv_room (Nat.le_of_ble_eq_true rfl)) d_Reader_loop_86 ⟨(show (u_1 8 - cp + (u_46 8 - (u_1 8))) + (0) ≤ (MX - cp) by omega), (show (6 * (u_1 8 - cp) + (6 * (u_46 8 - (u_1 8)))) + (0) ≤ (6 * (MX - cp)) by omega)⟩) hS (fun q _ h => hFc q h) hFc (fun u_207 t H_208 locs ht hvm hw hB hz1 hk1 hS1 => ?_)
    try dsimp only at hw
    obtain ⟨hP1, hD1⟩ := hB
    rw [ht] at hP1
    have hjn := xw_join3 (wl := [(n0, .inr (4, [.ref (u_46 4), .ref (u_46 5), .ref (u_46 6), .int (nI (u_46 7))])), ((u_46 4), .inl (ax 1, u_46 8, .inl x_65)), ((u_46 5), .inl (ax 0, u_46 8, .inl x_66)), ((u_46 6), .inl (ax 0, u_46 8, .inl x_67)), (r0, .inr (7, [.ref k0, .ref g0, .ref n0, .int (nI 1), .int (nI (u_46 9))])), (k0, .inr (9, [.ref k1, .ref k2, .int (nI ts), .int (nI th), .int (nI (u_193 0)), .int (nI (u_193 1)), .int (nI (u_193 2)), .int (nI (u_193 3))])), (k1, .inl (ax 1, 400, .inl tb)), (k2, .inl (ax 0, 401, .inl (fun j => nI (tk j)))), (g0, .inr (2, [.ref n0, .ref g1, .ref g2, .ref g3, .ref g4, .ref g5, .ref g6, .ref g7, .ref g8, .ref g9, .ref ga, .ref gb, .int (nI (u_85 0)), .int (nI ln), .int (nI br), .int (nI lp), .int (nI (va + 1))])), (g1, .inl (ax 1, 20, .inl (fun j => nI (kd j)))), (g2, .inl (ax 1, 20, .inl (fun j => nI (ow j)))), (g3, .inl (ax 1, 20, .inl (fun j => nI (sb j)))), (g4, .inl (ax 1, 20, .inl (fun j => nI (f1 j)))), (g5, .inl (ax 1, 20, .inl (fun j => nI (f2 j)))), (g6, .inl (ax 2, 20, .inl (fun j => nI ((sup te s9 (u_1 10)) j)))), (g7, .inl (ax 2, 20, .inl (fun j => nI ((sup kp s9 (u_46 10)) j)))), (g8, .inl (ax 0, 20, .inl (upd tm s9 (nI (u_193 4))))), (g9, .inl (ax 1, 20, .inl (fun j => nI (sup nm s9 (6 + va) j)))), (ga, .inl (ax 1, 29, .inl (fun j => nI (x_90 j)))), (gb, .inl (ax 1, 29, .inl (fun j => nI (x_91 j))))]) hP hD [4, 5, 6, 7, 8, 9, 10, 11, 12, 13, 14, 15] [0, 1, 2, 3, 16, 17, 18, 19] hCs (by decide) (by decide) hk1 hFc hP1 hD1 rfl
    clear hP1 hD1
    clear hPc hDc hFc hCs hz hz1 hk1 ht hvm
    clear hP hD hS
    have hS := hS1
    obtain ⟨hP, hD⟩ := hjn
    clear hS1
    have hL_210 : okf (u_193 1) (lst ln (u_46 7) kd ow sb f1 f2 (sup te s9 (u_1 10)) (sup kp s9 (u_46 10)) (sup nm s9 (6 + va)) en (sup (sup kc s9 (kc s9 + (u_1 7 - z9))) s9 ((sup kc s9 (kc s9 + (u_1 7 - z9))) s9 + (u_46 7 - u_1 7))) (upd tm s9 (nI (u_193 4))) x_65 x_66 x_67) := (fun q => (hL_204 q).same (by first | assumption | omega) (hop (okf.of (by first | assumption | omega) q)).1 (fun i hi => rfl) (fun i hi => rfl) (fun i hi => rfl) (fun i hi => rfl) (fun i hi => sup_ne hi) (fun i hi => upd_ne hi))
    have hC_211 : okf (u_193 1) (clm br (u_85 0) x_90 x_91 ln kd (sup nm s9 (6 + va))) := (fun q => (hC_205 q).up (fun i hi => ⟨rfl, fun h => by unfold sup; split; (first | omega | exact h); (first | exact h | omega)⟩))
    refine lv_aload_n hx hb d_Reader_loop_89 rfl (lv_at hl1 0 rfl) ?_
    refine va_get (D := D) (ci := 7) (v := .ref g0) (C := R_Reader) (T := F_Reader) (N := 5) hx hb hts i_Reader hown hK.1 hP 4 rfl rfl 1 (by decide) (hts _ wd_76) (fun _ h9 => h9) rfl d_Reader_loop_90 ?_
    refine lv_iconst (v := 3) hx hb d_Reader_loop_93 (by decide) ?_
    refine lv_iload_n hx hb d_Reader_loop_94 rfl (lv_at hl1 1 rfl) ?_
    obtain ⟨hPc, hDc, hFc, hCs⟩ := xw_sub3 (wc := [(g0, .inr (2, [.ref n0, .ref g1, .ref g2, .ref g3, .ref g4, .ref g5, .ref g6, .ref g7, .ref g8, .ref g9, .ref ga, .ref gb, .int (nI (u_85 0)), .int (nI ln), .int (nI br), .int (nI lp), .int (nI (va + 1))])), (g1, .inl (ax 1, 20, .inl (fun j => nI (kd j)))), (g2, .inl (ax 1, 20, .inl (fun j => nI (ow j)))), (g3, .inl (ax 1, 20, .inl (fun j => nI (sb j)))), (g4, .inl (ax 1, 20, .inl (fun j => nI (f1 j)))), (g5, .inl (ax 1, 20, .inl (fun j => nI (f2 j)))), (g6, .inl (ax 2, 20, .inl (fun j => nI ((sup te s9 (u_1 10)) j)))), (g7, .inl (ax 2, 20, .inl (fun j => nI ((sup kp s9 (u_46 10)) j)))), (g8, .inl (ax 0, 20, .inl (upd tm s9 (nI (u_193 4))))), (g9, .inl (ax 1, 20, .inl (fun j => nI ((sup nm s9 (6 + va)) j)))), (ga, .inl (ax 1, 29, .inl (fun j => nI (x_90 j)))), (gb, .inl (ax 1, 29, .inl (fun j => nI (x_91 j))))]) hP hD hS hA [8, 9, 10, 11, 12, 13, 14, 15, 16, 17, 18, 19] (by decide) rfl
    have hz := xz_of hN hS
    refine va_callv (va_runV (As := [.int 3, .int (nI s9)]) (rest := []) ⟨hx, hb, hml, hown, hts⟩ (c_L_addClaim l D ax g0 g1 g2 g3 g4 g5 g6 g7 g8 g9 ga gb (u_85 0) ln br lp (va + 1) kd ow sb f1 f2 (sup te s9 (u_1 10)) (sup kp s9 (u_46 10)) (sup nm s9 (6 + va)) x_90 x_91 (upd tm s9 (nI (u_193 4))) n0 3 s9 H_208.size (by first | assumption | omega) (by assumption) (by first | assumption | omega)) (xcV (n := 2) hts wd_613 wd_12 wd_642 wd_611 wd_612 rfl rfl (by decide +kernel) ⟨(show (10) + 1 ≤ (210 + 20 * kf) by omega), (show 8 + (3 + 11) + (400) ≤ (8200 + 800 * kf) by omega)⟩) (xpV (ci := 2) (q0 := 0) (As := [.int 3, .int (nI s9)]) hPc hK hz hDc rfl rfl) rfl rfl hl1.1 rfl (lv_room (Nat.le_of_ble_eq_true rfl)) d_Reader_loop_95 ⟨(show (u_1 8 - cp + (u_46 8 - (u_1 8))) + (0) ≤ (MX - cp) by omega), (show (6 * (u_1 8 - cp) + (6 * (u_46 8 - (u_1 8)))) + (0) ≤ (6 * (MX - cp)) by omega)⟩) hS (fun q _ h => hFc q h) hFc (fun u_212 t H_213 locs ht hvm hw hB hz1 hk1 hS1 => ?_)
    try dsimp only at hw
    obtain ⟨hs_215, hs_216⟩ := hw
    obtain ⟨x_217, x_218, hx_219, hP1, hD1⟩ := hB
    rw [ht] at hP1
    have hjn := xw_join3 (wl := [(n0, .inr (4, [.ref (u_46 4), .ref (u_46 5), .ref (u_46 6), .int (nI (u_46 7))])), ((u_46 4), .inl (ax 1, u_46 8, .inl x_65)), ((u_46 5), .inl (ax 0, u_46 8, .inl x_66)), ((u_46 6), .inl (ax 0, u_46 8, .inl x_67)), (r0, .inr (7, [.ref k0, .ref g0, .ref n0, .int (nI 1), .int (nI (u_46 9))])), (k0, .inr (9, [.ref k1, .ref k2, .int (nI ts), .int (nI th), .int (nI (u_193 0)), .int (nI (u_193 1)), .int (nI (u_193 2)), .int (nI (u_193 3))])), (k1, .inl (ax 1, 400, .inl tb)), (k2, .inl (ax 0, 401, .inl (fun j => nI (tk j)))), (g0, .inr (2, [.ref n0, .ref g1, .ref g2, .ref g3, .ref g4, .ref g5, .ref g6, .ref g7, .ref g8, .ref g9, .ref ga, .ref gb, .int (nI (u_212 0)), .int (nI ln), .int (nI br), .int (nI lp), .int (nI (va + 1))])), (g1, .inl (ax 1, 20, .inl (fun j => nI (kd j)))), (g2, .inl (ax 1, 20, .inl (fun j => nI (ow j)))), (g3, .inl (ax 1, 20, .inl (fun j => nI (sb j)))), (g4, .inl (ax 1, 20, .inl (fun j => nI (f1 j)))), (g5, .inl (ax 1, 20, .inl (fun j => nI (f2 j)))), (g6, .inl (ax 2, 20, .inl (fun j => nI ((sup te s9 (u_1 10)) j)))), (g7, .inl (ax 2, 20, .inl (fun j => nI ((sup kp s9 (u_46 10)) j)))), (g8, .inl (ax 0, 20, .inl (upd tm s9 (nI (u_193 4))))), (g9, .inl (ax 1, 20, .inl (fun j => nI ((sup nm s9 (6 + va)) j)))), (ga, .inl (ax 1, 29, .inl (fun j => nI (x_217 j)))), (gb, .inl (ax 1, 29, .inl (fun j => nI (x_218 j))))]) hP hD [8, 9, 10, 11, 12, 13, 14, 15, 16, 17, 18, 19] [0, 1, 2, 3, 4, 5, 6, 7] hCs (by decide) (by decide) hk1 hFc hP1 hD1 rfl
    clear hP1 hD1
    clear hPc hDc hFc hCs hz hz1 hk1 ht hvm
    clear hP hD hS
    have hS := hS1
    obtain ⟨hP, hD⟩ := hjn
    clear hS1
    have hC_220 : okf (u_193 1) (clm br (u_212 0) x_217 x_218 ln kd (sup nm s9 (6 + va))) := (fun q => (hC_211 q).one hx_219 (by first | assumption | omega) (Or.inr (Or.inr ⟨rfl, (hop (okf.of (by first | assumption | omega) q)).2.1, by rw [sup_eq]; omega⟩)))
    clear hx_219
    refine lv_aload_n hx hb d_Reader_loop_98 rfl (lv_at hl1 0 rfl) ?_
    refine va_get (D := D) (ci := 7) (v := .ref k0) (C := R_Reader) (T := F_Reader) (N := 5) hx hb hts i_Reader hown hK.1 hP 4 rfl rfl 0 (by decide) (hts _ wd_75) (fun _ h9 => h9) rfl d_Reader_loop_99 ?_
    refine lv_bipush (v := 15) hx hb d_Reader_loop_102 (by decide) ?_
    obtain ⟨hPc, hDc, hFc, hCs⟩ := xw_sub3 (wc := [(k0, .inr (9, [.ref k1, .ref k2, .int (nI ts), .int (nI th), .int (nI (u_193 0)), .int (nI (u_193 1)), .int (nI (u_193 2)), .int (nI (u_193 3))])), (k1, .inl (ax 1, 400, .inl tb)), (k2, .inl (ax 0, 401, .inl (fun j => nI (tk j))))]) hP hD hS hA [5, 6, 7] (by decide) rfl
    have hz := xz_of hN hS
    refine va_callv (va_runV (As := [.int 15]) (rest := []) ⟨hx, hb, hml, hown, hts⟩ (c_K_need l D ax k0 k1 k2 tb tk (u_193 0) (u_193 1) (u_193 2) (u_193 3) cn ts th 15 H_213.size hkz (by assumption) (by first | assumption | omega) (by first | assumption | omega) (by first | assumption | omega) (by first | assumption | omega) (by first | assumption | omega)) (xcV (n := 1) hts wd_571 wd_2 wd_568 wd_569 wd_570 rfl rfl (by decide +kernel) ⟨(show (20) + 1 ≤ (210 + 20 * kf) by omega), (show 8 + (2 + 11) + (800) ≤ (8200 + 800 * kf) by omega)⟩) (xpV (ci := 9) (q0 := 0) (As := [.int 15]) hPc hK hz hDc rfl rfl) rfl rfl hl1.1 rfl (lv_room (Nat.le_of_ble_eq_true rfl)) d_Reader_loop_104 ⟨(show (u_1 8 - cp + (u_46 8 - (u_1 8))) + (0) ≤ (MX - cp) by omega), (show (6 * (u_1 8 - cp) + (6 * (u_46 8 - (u_1 8)))) + (0) ≤ (6 * (MX - cp)) by omega)⟩) hS (fun q _ h => hFc q h) hFc (fun u_221 t H_222 locs ht hvm hw hB hz1 hk1 hS1 => ?_)
    try dsimp only at hw
    obtain ⟨hs_224, hs_225, hs_226, hs_227, hs_228, hs_229, hs_230, hs_231⟩ := hw
    obtain ⟨hP1, hD1⟩ := hB
    rw [ht] at hP1
    have hjn := xw_join3 (wl := [(n0, .inr (4, [.ref (u_46 4), .ref (u_46 5), .ref (u_46 6), .int (nI (u_46 7))])), ((u_46 4), .inl (ax 1, u_46 8, .inl x_65)), ((u_46 5), .inl (ax 0, u_46 8, .inl x_66)), ((u_46 6), .inl (ax 0, u_46 8, .inl x_67)), (r0, .inr (7, [.ref k0, .ref g0, .ref n0, .int (nI 1), .int (nI (u_46 9))])), (g0, .inr (2, [.ref n0, .ref g1, .ref g2, .ref g3, .ref g4, .ref g5, .ref g6, .ref g7, .ref g8, .ref g9, .ref ga, .ref gb, .int (nI (u_212 0)), .int (nI ln), .int (nI br), .int (nI lp), .int (nI (va + 1))])), (g1, .inl (ax 1, 20, .inl (fun j => nI (kd j)))), (g2, .inl (ax 1, 20, .inl (fun j => nI (ow j)))), (g3, .inl (ax 1, 20, .inl (fun j => nI (sb j)))), (g4, .inl (ax 1, 20, .inl (fun j => nI (f1 j)))), (g5, .inl (ax 1, 20, .inl (fun j => nI (f2 j)))), (g6, .inl (ax 2, 20, .inl (fun j => nI ((sup te s9 (u_1 10)) j)))), (g7, .inl (ax 2, 20, .inl (fun j => nI ((sup kp s9 (u_46 10)) j)))), (g8, .inl (ax 0, 20, .inl (upd tm s9 (nI (u_193 4))))), (g9, .inl (ax 1, 20, .inl (fun j => nI ((sup nm s9 (6 + va)) j)))), (ga, .inl (ax 1, 29, .inl (fun j => nI (x_217 j)))), (gb, .inl (ax 1, 29, .inl (fun j => nI (x_218 j)))), (k0, .inr (9, [.ref k1, .ref k2, .int (nI ts), .int (nI th), .int (nI (u_221 0)), .int (nI (u_221 1)), .int (nI (u_221 2)), .int (nI (u_221 3))])), (k1, .inl (ax 1, 400, .inl tb)), (k2, .inl (ax 0, 401, .inl (fun j => nI (tk j))))]) hP hD [5, 6, 7] [0, 1, 2, 3, 4, 8, 9, 10, 11, 12, 13, 14, 15, 16, 17, 18, 19] hCs (by decide) (by decide) hk1 hFc hP1 hD1 rfl
    clear hP1 hD1
    clear hPc hDc hFc hCs hz hz1 hk1 ht hvm
    clear hP hD hS
    have hS := hS1
    obtain ⟨hP, hD⟩ := hjn
    clear hS1
    have hL_232 : okf (u_221 1) (lst ln (u_46 7) kd ow sb f1 f2 (sup te s9 (u_1 10)) (sup kp s9 (u_46 10)) (sup nm s9 (6 + va)) en (sup (sup kc s9 (kc s9 + (u_1 7 - z9))) s9 ((sup kc s9 (kc s9 + (u_1 7 - z9))) s9 + (u_46 7 - u_1 7))) (upd tm s9 (nI (u_193 4))) x_65 x_66 x_67) := hL_210.back hs_229
    have hC_233 : okf (u_221 1) (clm br (u_212 0) x_217 x_218 ln kd (sup nm s9 (6 + va))) := hC_220.back hs_229
    have hN_234 : okf (u_221 1) (ndv x_65 x_66 x_67 (u_46 7)) := hN_206.back hs_229
    have hO_235 : okf (u_221 1) (s9 = 4294967295 ∨ (s9 < ln ∧ en s9 = 100)) := fun q => Or.inr ⟨by omega, (hop (okf.of (by first | assumption | omega) q)).1⟩
    refine lv_aload_n hx hb d_Reader_loop_107 rfl (lv_at hl1 0 rfl) ?_
    refine va_get (D := D) (ci := 7) (v := .ref g0) (C := R_Reader) (T := F_Reader) (N := 5) hx hb hts i_Reader hown hK.1 hP 4 rfl rfl 1 (by decide) (hts _ wd_76) (fun _ h9 => h9) rfl d_Reader_loop_108 ?_
    refine va_get (D := D) (ci := 2) (v := .ref g4) (C := R_Listing) (T := F_Listing) (N := 17) hx hb hts i_Listing hown hK.1 hP 5 rfl rfl 4 (by decide) (hts _ wd_280) (fun _ h9 => h9) rfl d_Reader_loop_111 ?_
    refine lv_iload_n hx hb d_Reader_loop_114 rfl (lv_at hl1 1 rfl) ?_
    refine lv_aload_n hx hb d_Reader_loop_115 rfl (lv_at hl1 0 rfl) ?_
    refine lv_iload_n hx hb d_Reader_loop_116 rfl (lv_at hl1 1 rfl) ?_
    obtain ⟨hPc, hDc, hFc, hCs⟩ := xw_sub3 (wc := [(r0, .inr (7, [.ref k0, .ref g0, .ref n0, .int (nI 1), .int (nI (u_46 9))])), (k0, .inr (9, [.ref k1, .ref k2, .int (nI ts), .int (nI th), .int (nI (u_221 0)), .int (nI (u_221 1)), .int (nI (u_221 2)), .int (nI (u_221 3))])), (k1, .inl (ax 1, 400, .inl tb)), (k2, .inl (ax 0, 401, .inl (fun j => nI (tk j)))), (n0, .inr (4, [.ref (u_46 4), .ref (u_46 5), .ref (u_46 6), .int (nI (u_46 7))])), ((u_46 4), .inl (ax 1, u_46 8, .inl x_65)), ((u_46 5), .inl (ax 0, u_46 8, .inl x_66)), ((u_46 6), .inl (ax 0, u_46 8, .inl x_67)), (g0, .inr (2, [.ref n0, .ref g1, .ref g2, .ref g3, .ref g4, .ref g5, .ref g6, .ref g7, .ref g8, .ref g9, .ref ga, .ref gb, .int (nI (u_212 0)), .int (nI ln), .int (nI br), .int (nI lp), .int (nI (va + 1))])), (g1, .inl (ax 1, 20, .inl (fun j => nI (kd j)))), (g2, .inl (ax 1, 20, .inl (fun j => nI (ow j)))), (g3, .inl (ax 1, 20, .inl (fun j => nI (sb j)))), (g4, .inl (ax 1, 20, .inl (fun j => nI (f1 j)))), (g5, .inl (ax 1, 20, .inl (fun j => nI (f2 j)))), (g6, .inl (ax 2, 20, .inl (fun j => nI ((sup te s9 (u_1 10)) j)))), (g7, .inl (ax 2, 20, .inl (fun j => nI ((sup kp s9 (u_46 10)) j)))), (g8, .inl (ax 0, 20, .inl (upd tm s9 (nI (u_193 4))))), (g9, .inl (ax 1, 20, .inl (fun j => nI ((sup nm s9 (6 + va)) j)))), (ga, .inl (ax 1, 29, .inl (fun j => nI (x_217 j)))), (gb, .inl (ax 1, 29, .inl (fun j => nI (x_218 j))))]) hP hD hS hA [4, 17, 18, 19, 0, 1, 2, 3, 5, 6, 7, 8, 9, 10, 11, 12, 13, 14, 15, 16] (by decide) rfl
    have hz := xz_of hN hS
    refine wk_know (fun hk8 hk9 => ?_)
    refine va_calli (va_runV (As := [.int (nI s9)]) (rest := [.int (nI s9), .ref g4]) ⟨hx, hb, hml, hown, hts⟩ (c_R_statements l kf hst D ax r0 k0 k1 k2 tb tk (u_221 0) (u_221 1) (u_221 2) (u_221 3) cn ts th 1 (u_46 9) n0 (u_46 4) (u_46 5) (u_46 6) (u_46 8) (u_46 7) x_65 x_66 x_67 g0 g1 g2 g3 g4 g5 g6 g7 g8 g9 ga gb (u_212 0) ln br lp (va + 1) kd ow sb f1 f2 (sup te s9 (u_1 10)) (sup kp s9 (u_46 10)) (sup nm s9 (6 + va)) x_217 x_218 (upd tm s9 (nI (u_193 4))) MX en (sup (sup kc s9 (kc s9 + (u_1 7 - z9))) s9 ((sup kc s9 (kc s9 + (u_1 7 - z9))) s9 + (u_46 7 - u_1 7))) (5 :: sg) s9 H_222.size (tsl H_222) hkz (by assumption) (by first | assumption | omega) (by first | assumption | omega) (by first | assumption | omega) (by first | assumption | omega) (by first | assumption | omega) (by first | assumption | omega) (by first | assumption | omega) (by first | assumption | omega) (by assumption) (by assumption) (by first | assumption | omega) (by first | assumption | omega) (by first | assumption | omega) (by first | assumption | omega) (by first | assumption | omega) (by assumption) (by assumption) (by first | assumption | omega) (by assumption) (by assumption) (by first | assumption | omega)) (xcV (n := 1) hts wd_617 wd_3 wd_614 wd_616 ps_14 rfl rfl (by decide +kernel) ⟨(show (205 + 20 * kf) + 1 ≤ (210 + 20 * kf) by omega), (show 8 + (6 + 11) + (8100 + 800 * kf) ≤ (8200 + 800 * kf) by omega)⟩) (xpV3 (ci := 7) (q0 := 0) (As := [.int (nI s9)]) hPc hK hz hDc rfl rfl) rfl rfl hl1.1 rfl (lv_room (Nat.le_of_ble_eq_true rfl)) d_Reader_loop_117 ⟨(show (u_1 8 - cp + (u_46 8 - (u_1 8))) + (MX - (u_46 8)) ≤ (MX - cp) by omega), (show (6 * (u_1 8 - cp) + (6 * (u_46 8 - (u_1 8)))) + (6 * (MX - (u_46 8))) ≤ (6 * (MX - cp)) by omega)⟩) hS (fun q _ h => hFc q h) hFc (fun r_238 u_236 t H_237 locs ht hvm hw hB hz1 hk1 hS1 => ?_)
    try dsimp only at hw
    obtain ⟨hw, hs_239, hs_240, hs_241, hs_242, hs_243, hs_244, hs_245, hs_246, hs_247, hs_248, hs_249, hs_250, hs_251, hs_252, hs_253, hs_254, hs_255, hs_256, hs_257, hs_258, hs_259, hs_260, hs_261⟩ := hw
    subst hw
    obtain ⟨x_262, x_263, x_264, x_265, x_266, x_267, x_268, x_269, x_270, x_271, x_272, x_273, x_274, x_275, x_276, x_277, hg8, hg9, hx_278, hx_279, hx_280, hx_281, hx_282, hx_283, hx_284, hx_285, hP1, hD1⟩ := hB
    rw [ht] at hg8 hg9 hP1
    have hjn := xw_join3 (wl := [(r0, .inr (7, [.ref k0, .ref g0, .ref n0, .int (nI (u_236 11)), .int (nI (u_236 9))])), (k0, .inr (9, [.ref k1, .ref k2, .int (nI ts), .int (nI th), .int (nI (u_236 0)), .int (nI (u_236 1)), .int (nI (u_236 2)), .int (nI (u_236 3))])), (k1, .inl (ax 1, 400, .inl tb)), (k2, .inl (ax 0, 401, .inl (fun j => nI (tk j)))), (n0, .inr (4, [.ref (u_236 4), .ref (u_236 5), .ref (u_236 6), .int (nI (u_236 7))])), ((u_236 4), .inl (ax 1, u_236 8, .inl x_273)), ((u_236 5), .inl (ax 0, u_236 8, .inl x_274)), ((u_236 6), .inl (ax 0, u_236 8, .inl x_275)), (g0, .inr (2, [.ref n0, .ref g1, .ref g2, .ref g3, .ref g4, .ref g5, .ref g6, .ref g7, .ref g8, .ref g9, .ref ga, .ref gb, .int (nI (u_236 12)), .int (nI (u_236 13)), .int (nI (u_236 14)), .int (nI (u_236 15)), .int (nI (u_236 16))])), (g1, .inl (ax 1, 20, .inl (fun j => nI (x_262 j)))), (g2, .inl (ax 1, 20, .inl (fun j => nI (x_263 j)))), (g3, .inl (ax 1, 20, .inl (fun j => nI (x_264 j)))), (g4, .inl (ax 1, 20, .inl (fun j => nI (x_265 j)))), (g5, .inl (ax 1, 20, .inl (fun j => nI (x_266 j)))), (g6, .inl (ax 2, 20, .inl (fun j => nI (x_267 j)))), (g7, .inl (ax 2, 20, .inl (fun j => nI (x_268 j)))), (g8, .inl (ax 0, 20, .inl x_272)), (g9, .inl (ax 1, 20, .inl (fun j => nI (x_269 j)))), (ga, .inl (ax 1, 29, .inl (fun j => nI (x_270 j)))), (gb, .inl (ax 1, 29, .inl (fun j => nI (x_271 j))))]) hP hD [4, 17, 18, 19, 0, 1, 2, 3, 5, 6, 7, 8, 9, 10, 11, 12, 13, 14, 15, 16] [] hCs (by decide) (by decide) hk1 hFc hP1 hD1 rfl
    clear hP1 hD1
    clear hPc hDc hFc hCs hz hz1 hk1 ht hvm
    clear hP hD hS
    have hS := hS1
    obtain ⟨hP, hD⟩ := hjn
    clear hS1
    refine wk_narrow (k := u_1 8 - cp + (u_46 8 - (u_1 8)) + (u_236 8 - (u_46 8))) (n := 6 * (u_1 8 - cp) + (6 * (u_46 8 - (u_1 8))) + (6 * (u_236 8 - (u_46 8)))) (by first | assumption | omega) (by first | assumption | omega) ?_
    clear hk8 hk9 hg8 hg9
    refine lv_i2b (v := nI (u_236 10)) hx hb d_Reader_loop_120 (nb_i2bs hs_261) ?_
    refine va_bast hx hb hK.1 hP hD hS 12 1 rfl rfl (vp_in_nI (by first | assumption | omega) (by decide)) d_Reader_loop_121 (fun H_286 locs hP1 hD1 hS1 => ?_)
    rw [nI_clamp (by first | exact Nat.lt_of_lt_of_le (by assumption) (by decide) | exact Nat.lt_of_le_of_lt (by assumption) (by decide) | omega)] at hP1 hD1
    rw [xf_supbs x_265 s9 (u_236 10) hs_261] at hP1 hD1
    clear hP hD hS
    have hS := hS1
    have hW7 : (fun w9 : va_W => va_P D classes w9 H_286 ∧ va_D A w9) [(r0, .inr (7, [.ref k0, .ref g0, .ref n0, .int (nI (u_236 11)), .int (nI (u_236 9))])), (k0, .inr (9, [.ref k1, .ref k2, .int (nI ts), .int (nI th), .int (nI (u_236 0)), .int (nI (u_236 1)), .int (nI (u_236 2)), .int (nI (u_236 3))])), (k1, .inl (ax 1, 400, .inl tb)), (k2, .inl (ax 0, 401, .inl (fun j => nI (tk j)))), (n0, .inr (4, [.ref (u_236 4), .ref (u_236 5), .ref (u_236 6), .int (nI (u_236 7))])), ((u_236 4), .inl (ax 1, u_236 8, .inl x_273)), ((u_236 5), .inl (ax 0, u_236 8, .inl x_274)), ((u_236 6), .inl (ax 0, u_236 8, .inl x_275)), (g0, .inr (2, [.ref n0, .ref g1, .ref g2, .ref g3, .ref g4, .ref g5, .ref g6, .ref g7, .ref g8, .ref g9, .ref ga, .ref gb, .int (nI (u_236 12)), .int (nI (u_236 13)), .int (nI (u_236 14)), .int (nI (u_236 15)), .int (nI (u_236 16))])), (g1, .inl (ax 1, 20, .inl (fun j => nI (x_262 j)))), (g2, .inl (ax 1, 20, .inl (fun j => nI (x_263 j)))), (g3, .inl (ax 1, 20, .inl (fun j => nI (x_264 j)))), (g4, .inl (ax 1, 20, .inl (fun j => nI (sup x_265 s9 (u_236 10) j)))), (g5, .inl (ax 1, 20, .inl (fun j => nI (x_266 j)))), (g6, .inl (ax 2, 20, .inl (fun j => nI (x_267 j)))), (g7, .inl (ax 2, 20, .inl (fun j => nI (x_268 j)))), (g8, .inl (ax 0, 20, .inl x_272)), (g9, .inl (ax 1, 20, .inl (fun j => nI (x_269 j)))), (ga, .inl (ax 1, 29, .inl (fun j => nI (x_270 j)))), (gb, .inl (ax 1, 29, .inl (fun j => nI (x_271 j))))] := ⟨hP1, hD1⟩
    obtain ⟨hP, hD⟩ := hW7
    clear hP1 hD1 hS1
    have hE_287 : okf (u_236 1) (x_276 s9 = 100) := fun q => ((hx_280 q s9 (by first | assumption | omega)).2.2.2.2.2.2.2.2.1.trans (hop (okf.of (by first | assumption | omega) q)).1)
    have hL_288 : okf (u_236 1) (lst (u_236 13) (u_236 7) x_262 x_263 x_264 (sup x_265 s9 (u_236 10)) x_266 x_267 x_268 x_269 x_276 x_277 x_272 x_273 x_274 x_275) := (fun q => (hx_278 q).same (by first | assumption | omega) (hE_287 q) (fun i hi => sup_ne hi) (fun i hi => rfl) (fun i hi => rfl) (fun i hi => rfl) (fun i hi => rfl) (fun i hi => rfl))
    have hC_289 : okf (u_236 1) (clm (u_236 14) (u_236 12) x_270 x_271 (u_236 13) x_262 x_269) := hx_282
    refine lv_aload_n hx hb d_Reader_loop_122 rfl (lv_at hl1 0 rfl) ?_
    refine va_get (D := D) (ci := 7) (v := .ref k0) (C := R_Reader) (T := F_Reader) (N := 5) hx hb hts i_Reader hown hK.1 hP 0 rfl rfl 0 (by decide) (hts _ wd_75) (fun _ h9 => h9) rfl d_Reader_loop_123 ?_
    refine lv_bipush (v := 16) hx hb d_Reader_loop_126 (by decide) ?_
    obtain ⟨hPc, hDc, hFc, hCs⟩ := xw_sub3 (wc := [(k0, .inr (9, [.ref k1, .ref k2, .int (nI ts), .int (nI th), .int (nI (u_236 0)), .int (nI (u_236 1)), .int (nI (u_236 2)), .int (nI (u_236 3))])), (k1, .inl (ax 1, 400, .inl tb)), (k2, .inl (ax 0, 401, .inl (fun j => nI (tk j))))]) hP hD hS hA [1, 2, 3] (by decide) rfl
    have hz := xz_of hN hS
    refine va_callv (va_runV (As := [.int 16]) (rest := []) ⟨hx, hb, hml, hown, hts⟩ (c_K_need l D ax k0 k1 k2 tb tk (u_236 0) (u_236 1) (u_236 2) (u_236 3) cn ts th 16 H_286.size hkz (by assumption) (by first | assumption | omega) (by first | assumption | omega) (by first | assumption | omega) (by first | assumption | omega) (by first | assumption | omega)) (xcV (n := 1) hts wd_571 wd_2 wd_568 wd_569 wd_570 rfl rfl (by decide +kernel) ⟨(show (20) + 1 ≤ (210 + 20 * kf) by omega), (show 8 + (2 + 11) + (800) ≤ (8200 + 800 * kf) by omega)⟩) (xpV (ci := 9) (q0 := 0) (As := [.int 16]) hPc hK hz hDc rfl rfl) rfl rfl hl1.1 rfl (lv_room (Nat.le_of_ble_eq_true rfl)) d_Reader_loop_128 ⟨(show (u_1 8 - cp + (u_46 8 - (u_1 8)) + (u_236 8 - (u_46 8))) + (0) ≤ (MX - cp) by omega), (show (6 * (u_1 8 - cp) + (6 * (u_46 8 - (u_1 8))) + (6 * (u_236 8 - (u_46 8)))) + (0) ≤ (6 * (MX - cp)) by omega)⟩) hS (fun q _ h => hFc q h) hFc (fun u_290 t H_291 locs ht hvm hw hB hz1 hk1 hS1 => ?_)
    try dsimp only at hw
    obtain ⟨hs_293, hs_294, hs_295, hs_296, hs_297, hs_298, hs_299, hs_300⟩ := hw
    obtain ⟨hP1, hD1⟩ := hB
    rw [ht] at hP1
    have hjn := xw_join3 (wl := [(r0, .inr (7, [.ref k0, .ref g0, .ref n0, .int (nI (u_236 11)), .int (nI (u_236 9))])), (n0, .inr (4, [.ref (u_236 4), .ref (u_236 5), .ref (u_236 6), .int (nI (u_236 7))])), ((u_236 4), .inl (ax 1, u_236 8, .inl x_273)), ((u_236 5), .inl (ax 0, u_236 8, .inl x_274)), ((u_236 6), .inl (ax 0, u_236 8, .inl x_275)), (g0, .inr (2, [.ref n0, .ref g1, .ref g2, .ref g3, .ref g4, .ref g5, .ref g6, .ref g7, .ref g8, .ref g9, .ref ga, .ref gb, .int (nI (u_236 12)), .int (nI (u_236 13)), .int (nI (u_236 14)), .int (nI (u_236 15)), .int (nI (u_236 16))])), (g1, .inl (ax 1, 20, .inl (fun j => nI (x_262 j)))), (g2, .inl (ax 1, 20, .inl (fun j => nI (x_263 j)))), (g3, .inl (ax 1, 20, .inl (fun j => nI (x_264 j)))), (g4, .inl (ax 1, 20, .inl (fun j => nI (sup x_265 s9 (u_236 10) j)))), (g5, .inl (ax 1, 20, .inl (fun j => nI (x_266 j)))), (g6, .inl (ax 2, 20, .inl (fun j => nI (x_267 j)))), (g7, .inl (ax 2, 20, .inl (fun j => nI (x_268 j)))), (g8, .inl (ax 0, 20, .inl x_272)), (g9, .inl (ax 1, 20, .inl (fun j => nI (x_269 j)))), (ga, .inl (ax 1, 29, .inl (fun j => nI (x_270 j)))), (gb, .inl (ax 1, 29, .inl (fun j => nI (x_271 j)))), (k0, .inr (9, [.ref k1, .ref k2, .int (nI ts), .int (nI th), .int (nI (u_290 0)), .int (nI (u_290 1)), .int (nI (u_290 2)), .int (nI (u_290 3))])), (k1, .inl (ax 1, 400, .inl tb)), (k2, .inl (ax 0, 401, .inl (fun j => nI (tk j))))]) hP hD [1, 2, 3] [0, 4, 5, 6, 7, 8, 9, 10, 11, 12, 13, 14, 15, 16, 17, 18, 19] hCs (by decide) (by decide) hk1 hFc hP1 hD1 rfl
    clear hP1 hD1
    clear hPc hDc hFc hCs hz hz1 hk1 ht hvm
    clear hP hD hS
    have hS := hS1
    obtain ⟨hP, hD⟩ := hjn
    clear hS1
    have hL_301 : okf (u_290 1) (lst (u_236 13) (u_236 7) x_262 x_263 x_264 (sup x_265 s9 (u_236 10)) x_266 x_267 x_268 x_269 x_276 x_277 x_272 x_273 x_274 x_275) := hL_288.back hs_298
    have hC_302 : okf (u_290 1) (clm (u_236 14) (u_236 12) x_270 x_271 (u_236 13) x_262 x_269) := hC_289.back hs_298
    have hF : okf (u_290 1) ((cls ln (u_236 13) x_276) ∧ (sae s9 ln kd ow sb f1 f2 te kp nm en kc x_262 x_263 x_264 (sup x_265 s9 (u_236 10)) x_266 x_267 x_268 x_269 x_276 x_277 tm x_272) ∧ (lsc (u_236 13) (u_236 7) x_262 (sup x_265 s9 (u_236 10)) x_266 x_267 x_268 x_269 x_277 x_272 x_273 x_274 x_275 s9) ∧ (∀ i, i < z9 → tsn x_273 x_274 x_275 i = tsn fo fl fr i)) := by
      intro q
      have q1 : u_236 1 = 4294967295 := okf.of (by first | assumption | omega) q
      have qb : u_46 1 = 4294967295 := okf.of (by first | assumption | omega) q1
      have qa : u_1 1 = 4294967295 := okf.of (by first | assumption | omega) qb
      have qz : tf = 4294967295 := okf.of (by first | assumption | omega) qa
      have ha := hx_280 q1
      have hc9 := (Nat.lt_of_succ_le (Nat.le_of_eq (hs_16 qa))); have ht9 := hx_25 qa; have hk9 := hx_26 qa
      have hc8 := (Nat.lt_of_succ_le (Nat.le_of_eq (hs_61 qb))); have ht8 := hx_70 qb; have hk8 := hx_71 qb
      have hr1 := hx_281 q1
      obtain ⟨a1, a2, a3, a4, a5, a6, a7, a8, a9, a10, a11⟩ := ha s9 (by first | assumption | omega)
      obtain ⟨ho1, ho2, ho3⟩ := hop qz
      have hT1 := hx_285 q1; have hcl1 := hx_279 q1
      refine ⟨hcl1, ⟨fun i hi he => ?_, a1, a2, a3, a9⟩, ?_, fun i hi => (hT1 i (by first | assumption | omega)).trans ((hk8 i (by first | assumption | omega)).trans (hk9 i hi))⟩
      · obtain ⟨x1, x2, x3, x4, x5, x6, x7, x8, x9, x10, x11⟩ := ha i hi
        exact ⟨x1, x2, x3, (sup_ne he).trans x4, x5, x6.trans (sup_ne he), x7.trans (sup_ne he), x8.trans (sup_ne he), x9, x10.trans ((sup_ne he).trans (sup_ne he)), x11.trans (upd_ne he)⟩
      · have e8 : x_262 s9 = 12 := a1.trans ho2
        have e6 : x_267 s9 = u_1 10 := a6.trans sup_eq
        have e7 : x_268 s9 = u_46 10 := a7.trans sup_eq
        have e4 : (sup x_265 s9 (u_236 10)) s9 = u_236 10 := sup_eq
        have e10 := a10.trans sup_eq
        rw [sup_eq] at e10
        refine ⟨fun h => by omega, fun h => by omega, fun _ => ⟨by omega, by omega, ?_, by omega, by omega, ?_⟩, fun h => by omega⟩
        · rw [e6, e7, e10, hT1 _ (by first | assumption | omega), hT1 _ (by first | assumption | omega), hk8 _ (by first | assumption | omega)]; omega
        · exact Or.inr ⟨by rw [a8, sup_eq]; omega, by rw [a11, upd_eq]; exact hs_202⟩
    rw [← hQe]
    refine wk_know (fun hk8 hk9 => ?_)
    refine W.widen (k := MX - cp) (n := 6 * (MX - cp)) (by first | assumption | omega) (by first | assumption | omega) ?_
    obtain ⟨hP9, hD9⟩ := xw_sub2 (wc := (fun (u : Nat → Nat) (xkd : Nat → Nat) (xow : Nat → Nat) (xsb : Nat → Nat) (xf1 : Nat → Nat) (xf2 : Nat → Nat) (xte : Nat → Nat) (xkp : Nat → Nat) (xnm : Nat → Nat) (xck : Nat → Nat) (xco : Nat → Nat) (xtm : Nat → Int32) (xfo : Nat → Int32) (xfl : Nat → Int32) (xfr : Nat → Int32) (xen : Nat → Nat) (xkc : Nat → Nat) => [(r0, .inr (7, [.ref k0, .ref g0, .ref n0, .int (nI (u 11)), .int (nI (u 9))])), (k0, .inr (9, [.ref k1, .ref k2, .int (nI ts), .int (nI th), .int (nI (u 0)), .int (nI (u 1)), .int (nI (u 2)), .int (nI (u 3))])), (k1, .inl (ax 1, 400, .inl tb)), (k2, .inl (ax 0, 401, .inl (fun j => nI (tk j)))), (n0, .inr (4, [.ref (u 4), .ref (u 5), .ref (u 6), .int (nI (u 7))])), (u 4, .inl (ax 1, u 8, .inl xfo)), (u 5, .inl (ax 0, u 8, .inl xfl)), (u 6, .inl (ax 0, u 8, .inl xfr)), (g0, .inr (2, [.ref n0, .ref g1, .ref g2, .ref g3, .ref g4, .ref g5, .ref g6, .ref g7, .ref g8, .ref g9, .ref ga, .ref gb, .int (nI (u 12)), .int (nI (u 13)), .int (nI (u 14)), .int (nI (u 15)), .int (nI (u 16))])), (g1, .inl (ax 1, 20, .inl (fun j => nI (xkd j)))), (g2, .inl (ax 1, 20, .inl (fun j => nI (xow j)))), (g3, .inl (ax 1, 20, .inl (fun j => nI (xsb j)))), (g4, .inl (ax 1, 20, .inl (fun j => nI (xf1 j)))), (g5, .inl (ax 1, 20, .inl (fun j => nI (xf2 j)))), (g6, .inl (ax 2, 20, .inl (fun j => nI (xte j)))), (g7, .inl (ax 2, 20, .inl (fun j => nI (xkp j)))), (g8, .inl (ax 0, 20, .inl xtm)), (g9, .inl (ax 1, 20, .inl (fun j => nI (xnm j)))), (ga, .inl (ax 1, 29, .inl (fun j => nI (xck j)))), (gb, .inl (ax 1, 29, .inl (fun j => nI (xco j))))]) (ixn [(u_290 0), (u_290 1), (u_290 2), (u_290 3), (u_236 4), (u_236 5), (u_236 6), (u_236 7), (u_236 8), (u_236 9), 0, (u_236 11), (u_236 12), (u_236 13), (u_236 14), (u_236 15), (u_236 16)]) x_262 x_263 x_264 (sup x_265 s9 (u_236 10)) x_266 x_267 x_268 x_269 x_270 x_271 x_272 x_273 x_274 x_275 x_276 x_277) hP hD [0, 17, 18, 19, 1, 2, 3, 4, 5, 6, 7, 8, 9, 10, 11, 12, 13, 14, 15, 16] (by decide) rfl
    have hex0 : okf ((u_290 1)) (lst ((u_236 13)) ((u_236 7)) x_262 x_263 x_264 (sup x_265 s9 (u_236 10)) x_266 x_267 x_268 x_269 x_276 x_277 x_272 x_273 x_274 x_275) := hL_301
    have hex1 : okf ((u_290 1)) (cls ln ((u_236 13)) x_276) := (fun q => (hF q).1)
    have hex2 : okf ((u_290 1)) (sae s9 ln kd ow sb f1 f2 te kp nm en kc x_262 x_263 x_264 (sup x_265 s9 (u_236 10)) x_266 x_267 x_268 x_269 x_276 x_277 tm x_272) := (fun q => (hF q).2.1)
    have hex3 : okf ((u_290 1)) (lsc ((u_236 13)) ((u_236 7)) x_262 (sup x_265 s9 (u_236 10)) x_266 x_267 x_268 x_269 x_277 x_272 x_273 x_274 x_275 s9) := (fun q => (hF q).2.2.1)
    have hex4 : okf ((u_290 1)) (clm ((u_236 14)) ((u_236 12)) x_270 x_271 ((u_236 13)) x_262 x_269) := hC_302
    have hex5 : okf ((u_290 1)) (ndv x_273 x_274 x_275 ((u_236 7))) := (hx_283.back hs_298)
    have hex6 : bts x_273 ((u_236 8)) := (by assumption)
    have hex7 : okf ((u_290 1)) (∀ i, i < z9 → tsn x_273 x_274 x_275 i = tsn fo fl fr i) := (fun q => (hF q).2.2.2)
    have hg8 : H_291.size ≤ s.heap.size + ((u_236 8) - cp) := by omega
    have hg9 : tsl H_291 ≤ tsl s.heap + (6 * ((u_236 8) - cp)) := by omega
    have hsp0 : rst tk ((u_290 1)) ((u_290 2)) ((u_290 3)) ((u_290 0)) cn := (by assumption)
    have hsp1 : (u_290 0) ≤ cn := (by first | assumption | omega)
    have hsp2 : (u_290 2) < 128 := (by first | assumption | omega)
    have hsp3 : (u_290 3) < 1024 := (by first | assumption | omega)
    have hsp4 : ta ≤ (u_290 0) := (by first | assumption | omega)
    have hsp5 : ftf tf ≤ ftf ((u_290 1)) := (by first | assumption | omega)
    have hsp6 : z9 ≤ (u_236 7) := (by first | assumption | omega)
    have hsp7 : (u_236 7) + ta ≤ z9 + (u_290 0) + 2 * ((u_236 13) - ln) + 2 := (by first | assumption | omega)
    have hsp8 : (u_236 7) ≤ (u_236 8) := (by first | assumption | omega)
    have hsp9 : cp ≤ (u_236 8) := (by first | assumption | omega)
    have hsp10 : (u_236 8) ≤ MX := (by first | assumption | omega)
    have hsp11 : (u_236 11) ≤ 1 := (by first | assumption | omega)
    have hsp12 : (u_236 12) ≤ 1 + 2 * (u_236 15) + (u_236 13) := (by first | assumption | omega)
    have hsp13 : ln ≤ (u_236 13) := (by first | assumption | omega)
    have hsp14 : (u_236 13) ≤ 20 := (by first | assumption | omega)
    have hsp15 : br ≤ (u_236 14) := (by first | assumption | omega)
    have hsp16 : (u_236 14) ≤ 4 := (by first | assumption | omega)
    have hsp17 : lp ≤ (u_236 15) := (by first | assumption | omega)
    have hsp18 : (u_236 15) ≤ 4 := (by first | assumption | omega)
    have hsp19 : (u_236 16) ≤ (u_236 15) := (by first | assumption | omega)
    have hsp20 : brS tk 5 tf ta sg ln br lp cl ((u_290 1)) ((u_290 0)) ((u_236 13)) ((u_236 14)) ((u_236 15)) ((u_236 12)) := (lp_of hs_19 hs_4 hs_41 hs_64 (vr_y hs_49 (by first | assumption | omega) hok9 (hs_187 hok9) hs_188 hs_203 hs_196 hs_231) (by decide) (by first | assumption | omega) hs_259 hs_260 hs_239 hs_300)
    exact W.vret hx hb hr (fun t ht hW => ⟨⟨ixn [(u_290 0), (u_290 1), (u_290 2), (u_290 3), (u_236 4), (u_236 5), (u_236 6), (u_236 7), (u_236 8), (u_236 9), 0, (u_236 11), (u_236 12), (u_236 13), (u_236 14), (u_236 15), (u_236 16)], rfl, ⟨hsp0, hsp1, hsp2, hsp3, hsp4, hsp5, hsp6, hsp7, hsp8, hsp9, hsp10, hsp11, hsp12, hsp13, hsp14, hsp15, hsp16, hsp17, hsp18, hsp19, hsp20⟩, ⟨x_262, x_263, x_264, sup x_265 s9 (u_236 10), x_266, x_267, x_268, x_269, x_270, x_271, x_272, x_273, x_274, x_275, x_276, x_277, by rw [ht]; exact hg8, by rw [ht]; exact hg9, hex0, hex1, hex2, hex3, hex4, hex5, hex6, hex7, by rw [ht]; exact hP9, hD9⟩⟩, hS.F ht⟩) hS.2.2 d_Reader_loop_131
