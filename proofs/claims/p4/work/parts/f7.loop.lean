theorem wd_291 : ((Jvm.Cond.fieldLink "TripleDesk$Reader" (113 : Nat) "TripleDesk$Listing" "kept" "[S")) ∈ lw_gd := lw_gd_in (i := 291) (by decide +kernel) rfl
theorem wd_642 : ((Jvm.Cond.methodLink "TripleDesk$Reader" (92 : Nat) ({ cls := "TripleDesk$Listing", name := "addClaim", desc := "(II)V" } : Jvm.MethodName))) ∈ lw_gd := lw_gd_in (i := 642) (by decide +kernel) rfl
theorem wd_643 : ((Jvm.Cond.methodLink "TripleDesk$Reader" (116 : Nat) ({ cls := "TripleDesk$Listing", name := "addVariant", desc := "(II)V" } : Jvm.MethodName))) ∈ lw_gd := lw_gd_in (i := 643) (by decide +kernel) rfl
theorem wd_644 : ((Jvm.Cond.instanceMethod ({ cls := "TripleDesk$Listing", name := "addVariant", desc := "(II)V" } : Jvm.MethodName))) ∈ lw_gd := lw_gd_in (i := 644) (by decide +kernel) rfl
theorem wd_645 : ((Jvm.Cond.selects "TripleDesk$Listing" ({ cls := "TripleDesk$Listing", name := "addVariant", desc := "(II)V" } : Jvm.MethodName) ({ cls := "TripleDesk$Listing", name := "addVariant", desc := "(II)V" } : Jvm.MethodName))) ∈ lw_gd := lw_gd_in (i := 645) (by decide +kernel) rfl
theorem wd_646 : ((Jvm.Cond.code ({ cls := "TripleDesk$Listing", name := "addVariant", desc := "(II)V" } : Jvm.MethodName) prog_4_method_5_code (3 : Nat) (Option.none : Option Jvm.ClassFile.FieldType))) ∈ lw_gd := lw_gd_in (i := 646) (by decide +kernel) rfl
abbrev b_Reader_loop : ByteArray := prog_9_method_8_code
def y_Reader_loop : MethodName := ⟨R_Reader, "loop", "(I)V"⟩
theorem d_Reader_loop_0 : decode b_Reader_loop 0 = .ok (.aload_n 0, 1) := by decide +kernel
theorem d_Reader_loop_1 : decode b_Reader_loop 1 = .ok (.getfield 40, 3) := by decide +kernel
theorem d_Reader_loop_4 : decode b_Reader_loop 4 = .ok (.getfield 88, 3) := by decide +kernel
theorem d_Reader_loop_7 : decode b_Reader_loop 7 = .ok (.iload_n 1, 1) := by decide +kernel
theorem d_Reader_loop_8 : decode b_Reader_loop 8 = .ok (.aload_n 0, 1) := by decide +kernel
theorem d_Reader_loop_9 : decode b_Reader_loop 9 = .ok (.iconst 0, 1) := by decide +kernel
theorem d_Reader_loop_10 : decode b_Reader_loop 10 = .ok (.invokevirtual 29, 3) := by decide +kernel
theorem d_Reader_loop_13 : decode b_Reader_loop 13 = .ok (.i2s, 1) := by decide +kernel
theorem d_Reader_loop_14 : decode b_Reader_loop 14 = .ok (.sastore, 1) := by decide +kernel
theorem d_Reader_loop_15 : decode b_Reader_loop 15 = .ok (.aload_n 0, 1) := by decide +kernel
theorem d_Reader_loop_16 : decode b_Reader_loop 16 = .ok (.getfield 9, 3) := by decide +kernel
theorem d_Reader_loop_19 : decode b_Reader_loop 19 = .ok (.bipush 13, 2) := by decide +kernel
theorem d_Reader_loop_21 : decode b_Reader_loop 21 = .ok (.invokevirtual 95, 3) := by decide +kernel
theorem d_Reader_loop_24 : decode b_Reader_loop 24 = .ok (.aload_n 0, 1) := by decide +kernel
theorem d_Reader_loop_25 : decode b_Reader_loop 25 = .ok (.getfield 40, 3) := by decide +kernel
theorem d_Reader_loop_28 : decode b_Reader_loop 28 = .ok (.getfield 113, 3) := by decide +kernel
theorem d_Reader_loop_31 : decode b_Reader_loop 31 = .ok (.iload_n 1, 1) := by decide +kernel
theorem d_Reader_loop_32 : decode b_Reader_loop 32 = .ok (.aload_n 0, 1) := by decide +kernel
theorem d_Reader_loop_33 : decode b_Reader_loop 33 = .ok (.iconst 1, 1) := by decide +kernel
theorem d_Reader_loop_34 : decode b_Reader_loop 34 = .ok (.invokevirtual 29, 3) := by decide +kernel
theorem d_Reader_loop_37 : decode b_Reader_loop 37 = .ok (.i2s, 1) := by decide +kernel
theorem d_Reader_loop_38 : decode b_Reader_loop 38 = .ok (.sastore, 1) := by decide +kernel
theorem d_Reader_loop_39 : decode b_Reader_loop 39 = .ok (.aload_n 0, 1) := by decide +kernel
theorem d_Reader_loop_40 : decode b_Reader_loop 40 = .ok (.getfield 40, 3) := by decide +kernel
theorem d_Reader_loop_43 : decode b_Reader_loop 43 = .ok (.iconst 1, 1) := by decide +kernel
theorem d_Reader_loop_44 : decode b_Reader_loop 44 = .ok (.iload_n 1, 1) := by decide +kernel
theorem d_Reader_loop_45 : decode b_Reader_loop 45 = .ok (.invokevirtual 92, 3) := by decide +kernel
theorem d_Reader_loop_48 : decode b_Reader_loop 48 = .ok (.aload_n 0, 1) := by decide +kernel
theorem d_Reader_loop_49 : decode b_Reader_loop 49 = .ok (.getfield 40, 3) := by decide +kernel
theorem d_Reader_loop_52 : decode b_Reader_loop 52 = .ok (.iconst 2, 1) := by decide +kernel
theorem d_Reader_loop_53 : decode b_Reader_loop 53 = .ok (.iload_n 1, 1) := by decide +kernel
theorem d_Reader_loop_54 : decode b_Reader_loop 54 = .ok (.invokevirtual 92, 3) := by decide +kernel
theorem d_Reader_loop_57 : decode b_Reader_loop 57 = .ok (.aload_n 0, 1) := by decide +kernel
theorem d_Reader_loop_58 : decode b_Reader_loop 58 = .ok (.getfield 9, 3) := by decide +kernel
theorem d_Reader_loop_61 : decode b_Reader_loop 61 = .ok (.getfield 52, 3) := by decide +kernel
theorem d_Reader_loop_64 : decode b_Reader_loop 64 = .ok (.bipush 14, 2) := by decide +kernel
theorem d_Reader_loop_66 : decode b_Reader_loop 66 = .ok (.if_icmp .ne 32, 3) := by decide +kernel
theorem d_Reader_loop_69 : decode b_Reader_loop 69 = .ok (.aload_n 0, 1) := by decide +kernel
theorem d_Reader_loop_70 : decode b_Reader_loop 70 = .ok (.getfield 9, 3) := by decide +kernel
theorem d_Reader_loop_73 : decode b_Reader_loop 73 = .ok (.invokevirtual 56, 3) := by decide +kernel
theorem d_Reader_loop_76 : decode b_Reader_loop 76 = .ok (.aload_n 0, 1) := by decide +kernel
theorem d_Reader_loop_77 : decode b_Reader_loop 77 = .ok (.getfield 40, 3) := by decide +kernel
theorem d_Reader_loop_80 : decode b_Reader_loop 80 = .ok (.iload_n 1, 1) := by decide +kernel
theorem d_Reader_loop_81 : decode b_Reader_loop 81 = .ok (.aload_n 0, 1) := by decide +kernel
theorem d_Reader_loop_82 : decode b_Reader_loop 82 = .ok (.iconst 0, 1) := by decide +kernel
theorem d_Reader_loop_83 : decode b_Reader_loop 83 = .ok (.invokevirtual 105, 3) := by decide +kernel
theorem d_Reader_loop_86 : decode b_Reader_loop 86 = .ok (.invokevirtual 116, 3) := by decide +kernel
theorem d_Reader_loop_89 : decode b_Reader_loop 89 = .ok (.aload_n 0, 1) := by decide +kernel
theorem d_Reader_loop_90 : decode b_Reader_loop 90 = .ok (.getfield 40, 3) := by decide +kernel
theorem d_Reader_loop_93 : decode b_Reader_loop 93 = .ok (.iconst 3, 1) := by decide +kernel
theorem d_Reader_loop_94 : decode b_Reader_loop 94 = .ok (.iload_n 1, 1) := by decide +kernel
theorem d_Reader_loop_95 : decode b_Reader_loop 95 = .ok (.invokevirtual 92, 3) := by decide +kernel
theorem d_Reader_loop_98 : decode b_Reader_loop 98 = .ok (.aload_n 0, 1) := by decide +kernel
theorem d_Reader_loop_99 : decode b_Reader_loop 99 = .ok (.getfield 9, 3) := by decide +kernel
theorem d_Reader_loop_102 : decode b_Reader_loop 102 = .ok (.bipush 15, 2) := by decide +kernel
theorem d_Reader_loop_104 : decode b_Reader_loop 104 = .ok (.invokevirtual 95, 3) := by decide +kernel
theorem d_Reader_loop_107 : decode b_Reader_loop 107 = .ok (.aload_n 0, 1) := by decide +kernel
theorem d_Reader_loop_108 : decode b_Reader_loop 108 = .ok (.getfield 40, 3) := by decide +kernel
theorem d_Reader_loop_111 : decode b_Reader_loop 111 = .ok (.getfield 107, 3) := by decide +kernel
theorem d_Reader_loop_114 : decode b_Reader_loop 114 = .ok (.iload_n 1, 1) := by decide +kernel
theorem d_Reader_loop_115 : decode b_Reader_loop 115 = .ok (.aload_n 0, 1) := by decide +kernel
theorem d_Reader_loop_116 : decode b_Reader_loop 116 = .ok (.iload_n 1, 1) := by decide +kernel
theorem d_Reader_loop_117 : decode b_Reader_loop 117 = .ok (.invokevirtual 45, 3) := by decide +kernel
theorem d_Reader_loop_120 : decode b_Reader_loop 120 = .ok (.i2b, 1) := by decide +kernel
theorem d_Reader_loop_121 : decode b_Reader_loop 121 = .ok (.bastore, 1) := by decide +kernel
theorem d_Reader_loop_122 : decode b_Reader_loop 122 = .ok (.aload_n 0, 1) := by decide +kernel
theorem d_Reader_loop_123 : decode b_Reader_loop 123 = .ok (.getfield 9, 3) := by decide +kernel
theorem d_Reader_loop_126 : decode b_Reader_loop 126 = .ok (.bipush 16, 2) := by decide +kernel
theorem d_Reader_loop_128 : decode b_Reader_loop 128 = .ok (.invokevirtual 95, 3) := by decide +kernel
theorem d_Reader_loop_131 : decode b_Reader_loop 131 = .ok (.return_, 1) := by decide +kernel
set_option maxHeartbeats 40000000 in
set_option maxRecDepth 100000 in
theorem c_R_loop (l : Launch) (kf : Nat) (hst : CStm l kf) (D : va_G) (ax : Nat → ClassId) (r0 k0 k1 k2 : Nat) (tb : Nat → Int32) (tk : Nat → Nat) (ta tf nx am cn ts th : Nat) (gh at9 : Nat) (n0 n1 n2 n3 cp z9 : Nat) (fo fl fr : Nat → Int32) (g0 g1 g2 g3 g4 g5 g6 g7 g8 g9 ga gb cl ln br lp va : Nat) (kd ow sb f1 f2 te kp nm ck co : Nat → Nat) (tm : Nat → Int32) (MX : Nat) (en kc : Nat → Nat) (s9 : Nat) (sz tz : Nat) (hkz : tkz tk cn) (hrs : rst tk tf nx am ta cn) (hta : ta ≤ cn) (hnx : nx < 128) (ham : am < 1024) (hgh : gh ≤ 1) (hcp : 8 ≤ cp) (hz9 : z9 ≤ cp) (hmx : cp ≤ MX) (hMX : MX ≤ 60000) (hfo : bts fo cp) (hnd : okf tf (ndv fo fl fr z9)) (hln : ln ≤ 20) (hbr : br ≤ 4) (hlp : lp ≤ 4) (hva : va ≤ lp) (hcl : cl ≤ 29) (hls : okf tf (lst ln z9 kd ow sb f1 f2 te kp nm en kc tm fo fl fr)) (hcm : okf tf (clm br cl ck co ln kd nm)) (hs9 : s9 < ln) (hbd : 2 * (z9 + (cn - ta) + 2 * (20 - ln) + 4) ≤ MX) (hop : okf tf (en s9 = 100 ∧ kd s9 = 12 ∧ nm s9 = 4294967295)) (hkf : 8 ≤ br + lp + kf) (hva2 : va + 1 ≤ lp) : Met l y_Reader_loop (xws (.code y_Reader_loop b_Reader_loop 2 none)) ({ frames := 210 + 20 * kf, cells := MX - cp, slots := 6 * (MX - cp), locals := 8200 + 800 * kf }) (va_Pc [.ref r0, .int (nI s9)] (xo3 D ax [(r0, .inr (7, [.ref k0, .ref g0, .ref n0, .int (nI gh), .int (nI at9)])), (k0, .inr (9, [.ref k1, .ref k2, .int (nI ts), .int (nI th), .int (nI ta), .int (nI tf), .int (nI nx), .int (nI am)])), (k1, .inl (ax 1, 400, .inl tb)), (k2, .inl (ax 0, 401, .inl (fun j => nI (tk j)))), (n0, .inr (4, [.ref n1, .ref n2, .ref n3, .int (nI z9)])), (n1, .inl (ax 1, cp, .inl fo)), (n2, .inl (ax 0, cp, .inl fl)), (n3, .inl (ax 0, cp, .inl fr)), (g0, .inr (2, [.ref n0, .ref g1, .ref g2, .ref g3, .ref g4, .ref g5, .ref g6, .ref g7, .ref g8, .ref g9, .ref ga, .ref gb, .int (nI cl), .int (nI ln), .int (nI br), .int (nI lp), .int (nI va)])), (g1, .inl (ax 1, 20, .inl (fun j => nI (kd j)))), (g2, .inl (ax 1, 20, .inl (fun j => nI (ow j)))), (g3, .inl (ax 1, 20, .inl (fun j => nI (sb j)))), (g4, .inl (ax 1, 20, .inl (fun j => nI (f1 j)))), (g5, .inl (ax 1, 20, .inl (fun j => nI (f2 j)))), (g6, .inl (ax 2, 20, .inl (fun j => nI (te j)))), (g7, .inl (ax 2, 20, .inl (fun j => nI (kp j)))), (g8, .inl (ax 0, 20, .inl tm)), (g9, .inl (ax 1, 20, .inl (fun j => nI (nm j)))), (ga, .inl (ax 1, 29, .inl (fun j => nI (ck j)))), (gb, .inl (ax 1, 29, .inl (fun j => nI (co j))))] sz tz)) ((va_Qv (fun (u : Nat → Nat) => (rst tk (u 1) (u 2) (u 3) (u 0) cn ∧ u 0 ≤ cn ∧ u 2 < 128 ∧ u 3 < 1024 ∧ ta ≤ u 0 ∧ ftf tf ≤ ftf (u 1) ∧ z9 ≤ u 7 ∧ u 7 + ta ≤ z9 + u 0 + 2 * (u 13 - ln) + 2 ∧ u 7 ≤ u 8 ∧ cp ≤ u 8 ∧ u 8 ≤ MX ∧ u 11 ≤ 1 ∧ u 12 ≤ 29 ∧ ln ≤ u 13 ∧ u 13 ≤ 20 ∧ br ≤ u 14 ∧ u 14 ≤ 4 ∧ lp ≤ u 15 ∧ u 15 ≤ 4 ∧ u 16 ≤ u 15)) (fun (u : Nat → Nat) (t9 : State) => ∃ xkd : Nat → Nat, ∃ xow : Nat → Nat, ∃ xsb : Nat → Nat, ∃ xf1 : Nat → Nat, ∃ xf2 : Nat → Nat, ∃ xte : Nat → Nat, ∃ xkp : Nat → Nat, ∃ xnm : Nat → Nat, ∃ xck : Nat → Nat, ∃ xco : Nat → Nat, ∃ xtm : Nat → Int32, ∃ xfo : Nat → Int32, ∃ xfl : Nat → Int32, ∃ xfr : Nat → Int32, ∃ xen : Nat → Nat, ∃ xkc : Nat → Nat, (t9.heap.size ≤ sz + (u 8 - cp)) ∧ (tsl t9.heap ≤ tz + (6 * (u 8 - cp))) ∧ (okf (u 1) (lst (u 13) (u 7) xkd xow xsb xf1 xf2 xte xkp xnm xen xkc xtm xfo xfl xfr)) ∧ (okf (u 1) (cls ln (u 13) xen)) ∧ (okf (u 1) (sae s9 ln kd ow sb f1 f2 te kp nm en kc xkd xow xsb xf1 xf2 xte xkp xnm xen xkc tm xtm)) ∧ (okf (u 1) (lsc (u 13) (u 7) xkd xf1 xf2 xte xkp xnm xkc xtm xfo xfl xfr s9)) ∧ (okf (u 1) (clm (u 14) (u 12) xck xco (u 13) xkd xnm)) ∧ (okf (u 1) (ndv xfo xfl xfr (u 7))) ∧ (bts xfo (u 8)) ∧ (okf (u 1) (∀ i, i < z9 → tsn xfo xfl xfr i = tsn fo fl fr i)) ∧ va_P D classes [(r0, .inr (7, [.ref k0, .ref g0, .ref n0, .int (nI (u 11)), .int (nI (u 9))])), (k0, .inr (9, [.ref k1, .ref k2, .int (nI ts), .int (nI th), .int (nI (u 0)), .int (nI (u 1)), .int (nI (u 2)), .int (nI (u 3))])), (k1, .inl (ax 1, 400, .inl tb)), (k2, .inl (ax 0, 401, .inl (fun j => nI (tk j)))), (n0, .inr (4, [.ref (u 4), .ref (u 5), .ref (u 6), .int (nI (u 7))])), (u 4, .inl (ax 1, u 8, .inl xfo)), (u 5, .inl (ax 0, u 8, .inl xfl)), (u 6, .inl (ax 0, u 8, .inl xfr)), (g0, .inr (2, [.ref n0, .ref g1, .ref g2, .ref g3, .ref g4, .ref g5, .ref g6, .ref g7, .ref g8, .ref g9, .ref ga, .ref gb, .int (nI (u 12)), .int (nI (u 13)), .int (nI (u 14)), .int (nI (u 15)), .int (nI (u 16))])), (g1, .inl (ax 1, 20, .inl (fun j => nI (xkd j)))), (g2, .inl (ax 1, 20, .inl (fun j => nI (xow j)))), (g3, .inl (ax 1, 20, .inl (fun j => nI (xsb j)))), (g4, .inl (ax 1, 20, .inl (fun j => nI (xf1 j)))), (g5, .inl (ax 1, 20, .inl (fun j => nI (xf2 j)))), (g6, .inl (ax 2, 20, .inl (fun j => nI (xte j)))), (g7, .inl (ax 2, 20, .inl (fun j => nI (xkp j)))), (g8, .inl (ax 0, 20, .inl xtm)), (g9, .inl (ax 1, 20, .inl (fun j => nI (xnm j)))), (ga, .inl (ax 1, 29, .inl (fun j => nI (xck j)))), (gb, .inl (ax 1, 29, .inl (fun j => nI (xco j))))] t9.heap ∧ va_D (va_A [(r0, .inr (7, [.ref k0, .ref g0, .ref n0, .int (nI gh), .int (nI at9)])), (k0, .inr (9, [.ref k1, .ref k2, .int (nI ts), .int (nI th), .int (nI ta), .int (nI tf), .int (nI nx), .int (nI am)])), (k1, .inl (ax 1, 400, .inl tb)), (k2, .inl (ax 0, 401, .inl (fun j => nI (tk j)))), (n0, .inr (4, [.ref n1, .ref n2, .ref n3, .int (nI z9)])), (n1, .inl (ax 1, cp, .inl fo)), (n2, .inl (ax 0, cp, .inl fl)), (n3, .inl (ax 0, cp, .inl fr)), (g0, .inr (2, [.ref n0, .ref g1, .ref g2, .ref g3, .ref g4, .ref g5, .ref g6, .ref g7, .ref g8, .ref g9, .ref ga, .ref gb, .int (nI cl), .int (nI ln), .int (nI br), .int (nI lp), .int (nI va)])), (g1, .inl (ax 1, 20, .inl (fun j => nI (kd j)))), (g2, .inl (ax 1, 20, .inl (fun j => nI (ow j)))), (g3, .inl (ax 1, 20, .inl (fun j => nI (sb j)))), (g4, .inl (ax 1, 20, .inl (fun j => nI (f1 j)))), (g5, .inl (ax 1, 20, .inl (fun j => nI (f2 j)))), (g6, .inl (ax 2, 20, .inl (fun j => nI (te j)))), (g7, .inl (ax 2, 20, .inl (fun j => nI (kp j)))), (g8, .inl (ax 0, 20, .inl tm)), (g9, .inl (ax 1, 20, .inl (fun j => nI (nm j)))), (ga, .inl (ax 1, 29, .inl (fun j => nI (ck j)))), (gb, .inl (ax 1, 29, .inl (fun j => nI (co j))))] sz) [(r0, .inr (7, [.ref k0, .ref g0, .ref n0, .int (nI (u 11)), .int (nI (u 9))])), (k0, .inr (9, [.ref k1, .ref k2, .int (nI ts), .int (nI th), .int (nI (u 0)), .int (nI (u 1)), .int (nI (u 2)), .int (nI (u 3))])), (k1, .inl (ax 1, 400, .inl tb)), (k2, .inl (ax 0, 401, .inl (fun j => nI (tk j)))), (n0, .inr (4, [.ref (u 4), .ref (u 5), .ref (u 6), .int (nI (u 7))])), (u 4, .inl (ax 1, u 8, .inl xfo)), (u 5, .inl (ax 0, u 8, .inl xfl)), (u 6, .inl (ax 0, u 8, .inl xfr)), (g0, .inr (2, [.ref n0, .ref g1, .ref g2, .ref g3, .ref g4, .ref g5, .ref g6, .ref g7, .ref g8, .ref g9, .ref ga, .ref gb, .int (nI (u 12)), .int (nI (u 13)), .int (nI (u 14)), .int (nI (u 15)), .int (nI (u 16))])), (g1, .inl (ax 1, 20, .inl (fun j => nI (xkd j)))), (g2, .inl (ax 1, 20, .inl (fun j => nI (xow j)))), (g3, .inl (ax 1, 20, .inl (fun j => nI (xsb j)))), (g4, .inl (ax 1, 20, .inl (fun j => nI (xf1 j)))), (g5, .inl (ax 1, 20, .inl (fun j => nI (xf2 j)))), (g6, .inl (ax 2, 20, .inl (fun j => nI (xte j)))), (g7, .inl (ax 2, 20, .inl (fun j => nI (xkp j)))), (g8, .inl (ax 0, 20, .inl xtm)), (g9, .inl (ax 1, 20, .inl (fun j => nI (xnm j)))), (ga, .inl (ax 1, 29, .inl (fun j => nI (xck j)))), (gb, .inl (ax 1, 29, .inl (fun j => nI (xco j))))]) (va_A [(r0, .inr (7, [.ref k0, .ref g0, .ref n0, .int (nI gh), .int (nI at9)])), (k0, .inr (9, [.ref k1, .ref k2, .int (nI ts), .int (nI th), .int (nI ta), .int (nI tf), .int (nI nx), .int (nI am)])), (k1, .inl (ax 1, 400, .inl tb)), (k2, .inl (ax 0, 401, .inl (fun j => nI (tk j)))), (n0, .inr (4, [.ref n1, .ref n2, .ref n3, .int (nI z9)])), (n1, .inl (ax 1, cp, .inl fo)), (n2, .inl (ax 0, cp, .inl fl)), (n3, .inl (ax 0, cp, .inl fr)), (g0, .inr (2, [.ref n0, .ref g1, .ref g2, .ref g3, .ref g4, .ref g5, .ref g6, .ref g7, .ref g8, .ref g9, .ref ga, .ref gb, .int (nI cl), .int (nI ln), .int (nI br), .int (nI lp), .int (nI va)])), (g1, .inl (ax 1, 20, .inl (fun j => nI (kd j)))), (g2, .inl (ax 1, 20, .inl (fun j => nI (ow j)))), (g3, .inl (ax 1, 20, .inl (fun j => nI (sb j)))), (g4, .inl (ax 1, 20, .inl (fun j => nI (f1 j)))), (g5, .inl (ax 1, 20, .inl (fun j => nI (f2 j)))), (g6, .inl (ax 2, 20, .inl (fun j => nI (te j)))), (g7, .inl (ax 2, 20, .inl (fun j => nI (kp j)))), (g8, .inl (ax 0, 20, .inl tm)), (g9, .inl (ax 1, 20, .inl (fun j => nI (nm j)))), (ga, .inl (ax 1, 29, .inl (fun j => nI (ck j)))), (gb, .inl (ax 1, 29, .inl (fun j => nI (co j))))] sz))) (MX - cp) (6 * (MX - cp)) (va_A [(r0, .inr (7, [.ref k0, .ref g0, .ref n0, .int (nI gh), .int (nI at9)])), (k0, .inr (9, [.ref k1, .ref k2, .int (nI ts), .int (nI th), .int (nI ta), .int (nI tf), .int (nI nx), .int (nI am)])), (k1, .inl (ax 1, 400, .inl tb)), (k2, .inl (ax 0, 401, .inl (fun j => nI (tk j)))), (n0, .inr (4, [.ref n1, .ref n2, .ref n3, .int (nI z9)])), (n1, .inl (ax 1, cp, .inl fo)), (n2, .inl (ax 0, cp, .inl fl)), (n3, .inl (ax 0, cp, .inl fr)), (g0, .inr (2, [.ref n0, .ref g1, .ref g2, .ref g3, .ref g4, .ref g5, .ref g6, .ref g7, .ref g8, .ref g9, .ref ga, .ref gb, .int (nI cl), .int (nI ln), .int (nI br), .int (nI lp), .int (nI va)])), (g1, .inl (ax 1, 20, .inl (fun j => nI (kd j)))), (g2, .inl (ax 1, 20, .inl (fun j => nI (ow j)))), (g3, .inl (ax 1, 20, .inl (fun j => nI (sb j)))), (g4, .inl (ax 1, 20, .inl (fun j => nI (f1 j)))), (g5, .inl (ax 1, 20, .inl (fun j => nI (f2 j)))), (g6, .inl (ax 2, 20, .inl (fun j => nI (te j)))), (g7, .inl (ax 2, 20, .inl (fun j => nI (kp j)))), (g8, .inl (ax 0, 20, .inl tm)), (g9, .inl (ax 1, 20, .inl (fun j => nI (nm j)))), (ga, .inl (ax 1, 29, .inl (fun j => nI (ck j)))), (gb, .inl (ax 1, 29, .inl (fun j => nI (co j))))] sz) := by
  refine Met.ofW (cc := b_Reader_loop) (maxL := 2) (ret := none) (by decide) rfl ?_
  intro p e s m args below meth c s₁ B hml hv
  obtain ⟨rfl, ⟨hsz, hP, hK, hD0⟩, htz⟩ := hv
  have hx := B.exec
  have hb := B.bytes
  have hr := B.returns
  have hts := xw_hts B.pre
  have hown : s.vm.findClass R_Reader = some m.cls := findClass_of_methodNamed B.named
  have hlocks := B.notSynchronized
  subst hsz
  subst htz
  have hD := hD0.self (sz := s.heap.size)
  have hN := xz_entry hP
  generalize hAe : va_A [(r0, .inr (7, [.ref k0, .ref g0, .ref n0, .int (nI gh), .int (nI at9)])), (k0, .inr (9, [.ref k1, .ref k2, .int (nI ts), .int (nI th), .int (nI ta), .int (nI tf), .int (nI nx), .int (nI am)])), (k1, .inl (ax 1, 400, .inl tb)), (k2, .inl (ax 0, 401, .inl (fun j => nI (tk j)))), (n0, .inr (4, [.ref n1, .ref n2, .ref n3, .int (nI z9)])), (n1, .inl (ax 1, cp, .inl fo)), (n2, .inl (ax 0, cp, .inl fl)), (n3, .inl (ax 0, cp, .inl fr)), (g0, .inr (2, [.ref n0, .ref g1, .ref g2, .ref g3, .ref g4, .ref g5, .ref g6, .ref g7, .ref g8, .ref g9, .ref ga, .ref gb, .int (nI cl), .int (nI ln), .int (nI br), .int (nI lp), .int (nI va)])), (g1, .inl (ax 1, 20, .inl (fun j => nI (kd j)))), (g2, .inl (ax 1, 20, .inl (fun j => nI (ow j)))), (g3, .inl (ax 1, 20, .inl (fun j => nI (sb j)))), (g4, .inl (ax 1, 20, .inl (fun j => nI (f1 j)))), (g5, .inl (ax 1, 20, .inl (fun j => nI (f2 j)))), (g6, .inl (ax 2, 20, .inl (fun j => nI (te j)))), (g7, .inl (ax 2, 20, .inl (fun j => nI (kp j)))), (g8, .inl (ax 0, 20, .inl tm)), (g9, .inl (ax 1, 20, .inl (fun j => nI (nm j)))), (ga, .inl (ax 1, 29, .inl (fun j => nI (ck j)))), (gb, .inl (ax 1, 29, .inl (fun j => nI (co j))))] s.heap.size = A at hD hN ⊢
  have hA : ∀ q : Nat, s.heap.size ≤ q → A q := fun q h => by rw [← hAe]; exact Or.inr h
  have hS : va_S A s.heap s.heap [] := va_S.rf
  have hl0 := lv_entry ([.ref r0, .int (nI s9)]) (n := 2) (Nat.le_of_ble_eq_true rfl)
  rw [lg_entry_eq]
  generalize (lg_sl ([.ref r0, .int (nI s9)]) ++ List.replicate (2 - (lg_sl ([.ref r0, .int (nI s9)])).length) Slot.unset).toArray = ls at hl0 ⊢
  have hl1 : lv_has ls 2 [(0, .ref r0), (1, .int (nI s9))] := hl0
  refine xw_gen (fun Z9 hQe => ?_)
  have hsm9 : smn s9 := Or.inl (by first | assumption | omega)
  refine lv_aload_n hx hb d_Reader_loop_0 rfl (lv_at hl1 0 rfl) ?_
  refine va_get (D := D) (ci := 7) (v := .ref g0) (C := R_Reader) (T := F_Reader) (N := 5) hx hb hts i_Reader hown hK.1 hP 0 rfl rfl 1 (by decide) (hts _ wd_76) (fun _ h9 => h9) rfl d_Reader_loop_1 ?_
  refine va_get (D := D) (ci := 2) (v := .ref g6) (C := R_Listing) (T := F_Listing) (N := 17) hx hb hts i_Listing hown hK.1 hP 8 rfl rfl 6 (by decide) (hts _ wd_288) (fun _ h9 => h9) rfl d_Reader_loop_4 ?_
  refine lv_iload_n hx hb d_Reader_loop_7 rfl (lv_at hl1 1 rfl) ?_
  refine lv_aload_n hx hb d_Reader_loop_8 rfl (lv_at hl1 0 rfl) ?_
  refine lv_iconst (v := 0) hx hb d_Reader_loop_9 (by decide) ?_
  obtain ⟨hPc, hDc, hFc, hCs⟩ := xw_sub3 (wc := [(r0, .inr (7, [.ref k0, (.ref g0), .ref n0, .int (nI gh), .int (nI at9)])), (k0, .inr (9, [.ref k1, .ref k2, .int (nI ts), .int (nI th), .int (nI ta), .int (nI tf), .int (nI nx), .int (nI am)])), (k1, .inl (ax 1, 400, .inl tb)), (k2, .inl (ax 0, 401, .inl (fun j => nI (tk j)))), (n0, .inr (4, [.ref n1, .ref n2, .ref n3, .int (nI z9)])), (n1, .inl (ax 1, cp, .inl fo)), (n2, .inl (ax 0, cp, .inl fl)), (n3, .inl (ax 0, cp, .inl fr))]) hP hD hS hA [0, 1, 2, 3, 4, 5, 6, 7] (by decide) rfl
  have hz := xz_of hN hS
  refine wk_know (fun hk8 hk9 => ?_)
  refine va_calli (va_runV (As := [.int 0]) (rest := [.int (nI s9), .ref g6]) ⟨hx, hb, hml, hown, hts⟩ (c_R_condition l D ax r0 k0 k1 k2 (.ref g0) tb tk ta tf nx am cn ts th gh at9 0 n0 n1 n2 n3 cp z9 fo fl fr MX s.heap.size (tsl s.heap) hkz (by assumption) (by first | assumption | omega) (by first | assumption | omega) (by first | assumption | omega) (by first | assumption | omega) (by first | assumption | omega) (by first | assumption | omega) (by first | assumption | omega) (by first | assumption | omega) (by first | assumption | omega) (by assumption) (by assumption)) (xcV (n := 1) hts wd_539 wd_3 wd_536 wd_538 ps_7 rfl rfl (by decide +kernel) ⟨(show (160) + 1 ≤ (210 + 20 * kf) by omega), (show 8 + (2 + 11) + (6400) ≤ (8200 + 800 * kf) by omega)⟩) (xpV3 (ci := 7) (q0 := 0) (As := [.int 0]) hPc hK hz hDc rfl rfl) rfl rfl hl1.1 rfl (lv_room (Nat.le_of_ble_eq_true rfl)) d_Reader_loop_10 ⟨(show (0) + (MX - cp) ≤ (MX - cp) by omega), (show (0) + (6 * (MX - cp)) ≤ (6 * (MX - cp)) by omega)⟩) hS (fun q _ h => hFc q h) hFc (fun r_3 u_1 t H_2 locs ht hvm hw hB hz1 hk1 hS1 => ?_)
  try dsimp only at hw
  obtain ⟨hw, hs_4, hs_5, hs_6, hs_7, hs_8, hs_9, hs_10, hs_11, hs_12, hs_13, hs_14, hs_15, hs_16, hs_17, hs_18, hs_19⟩ := hw
  subst hw
  obtain ⟨x_20, x_21, x_22, hg8, hg9, hx_23, hx_24, hx_25, hx_26, hP1, hD1⟩ := hB
  rw [ht] at hg8 hg9 hP1
  have hjn := xw_join3 (wl := [(g0, .inr (2, [.ref n0, .ref g1, .ref g2, .ref g3, .ref g4, .ref g5, .ref g6, .ref g7, .ref g8, .ref g9, .ref ga, .ref gb, .int (nI cl), .int (nI ln), .int (nI br), .int (nI lp), .int (nI va)])), (g1, .inl (ax 1, 20, .inl (fun j => nI (kd j)))), (g2, .inl (ax 1, 20, .inl (fun j => nI (ow j)))), (g3, .inl (ax 1, 20, .inl (fun j => nI (sb j)))), (g4, .inl (ax 1, 20, .inl (fun j => nI (f1 j)))), (g5, .inl (ax 1, 20, .inl (fun j => nI (f2 j)))), (g6, .inl (ax 2, 20, .inl (fun j => nI (te j)))), (g7, .inl (ax 2, 20, .inl (fun j => nI (kp j)))), (g8, .inl (ax 0, 20, .inl tm)), (g9, .inl (ax 1, 20, .inl (fun j => nI (nm j)))), (ga, .inl (ax 1, 29, .inl (fun j => nI (ck j)))), (gb, .inl (ax 1, 29, .inl (fun j => nI (co j)))), (r0, .inr (7, [.ref k0, .ref g0, .ref n0, .int (nI 0), .int (nI (u_1 9))])), (k0, .inr (9, [.ref k1, .ref k2, .int (nI ts), .int (nI th), .int (nI (u_1 0)), .int (nI (u_1 1)), .int (nI (u_1 2)), .int (nI (u_1 3))])), (k1, .inl (ax 1, 400, .inl tb)), (k2, .inl (ax 0, 401, .inl (fun j => nI (tk j)))), (n0, .inr (4, [.ref (u_1 4), .ref (u_1 5), .ref (u_1 6), .int (nI (u_1 7))])), ((u_1 4), .inl (ax 1, u_1 8, .inl x_20)), ((u_1 5), .inl (ax 0, u_1 8, .inl x_21)), ((u_1 6), .inl (ax 0, u_1 8, .inl x_22))]) hP hD [0, 1, 2, 3, 4, 5, 6, 7] [8, 9, 10, 11, 12, 13, 14, 15, 16, 17, 18, 19] hCs (by decide) (by decide) hk1 hFc hP1 hD1 rfl
  clear hP1 hD1
  clear hPc hDc hFc hCs hz hz1 hk1 ht hvm
  clear hP hD hS
  have hS := hS1
  obtain ⟨hP, hD⟩ := hjn
  clear hS1
  refine wk_narrow (k := u_1 8 - cp) (n := 6 * (u_1 8 - cp)) (by first | assumption | omega) (by first | assumption | omega) ?_
  clear hk8 hk9 hg8 hg9
  have hfl_27 := ftf_le (u_1 1)
  refine lv_i2s (v := nI (u_1 10)) hx hb d_Reader_loop_13 (nb_i2ss hs_18) ?_
  refine va_sast hx hb hK.1 hP hD hS 6 2 rfl rfl (vp_in_nI (by first | assumption | omega) (by decide)) d_Reader_loop_14 (fun H_28 locs hP1 hD1 hS1 => ?_)
  rw [nI_clamp (by first | exact Nat.lt_of_lt_of_le (by assumption) (by decide) | exact Nat.lt_of_le_of_lt (by assumption) (by decide) | omega)] at hP1 hD1
  rw [xf_supss te s9 (u_1 10) hs_18] at hP1 hD1
  clear hP hD hS
  have hS := hS1
  have hW7 : (fun w9 : va_W => va_P D classes w9 H_28 ∧ va_D A w9) [(g0, .inr (2, [.ref n0, .ref g1, .ref g2, .ref g3, .ref g4, .ref g5, .ref g6, .ref g7, .ref g8, .ref g9, .ref ga, .ref gb, .int (nI cl), .int (nI ln), .int (nI br), .int (nI lp), .int (nI va)])), (g1, .inl (ax 1, 20, .inl (fun j => nI (kd j)))), (g2, .inl (ax 1, 20, .inl (fun j => nI (ow j)))), (g3, .inl (ax 1, 20, .inl (fun j => nI (sb j)))), (g4, .inl (ax 1, 20, .inl (fun j => nI (f1 j)))), (g5, .inl (ax 1, 20, .inl (fun j => nI (f2 j)))), (g6, .inl (ax 2, 20, .inl (fun j => nI (sup te s9 (u_1 10) j)))), (g7, .inl (ax 2, 20, .inl (fun j => nI (kp j)))), (g8, .inl (ax 0, 20, .inl tm)), (g9, .inl (ax 1, 20, .inl (fun j => nI (nm j)))), (ga, .inl (ax 1, 29, .inl (fun j => nI (ck j)))), (gb, .inl (ax 1, 29, .inl (fun j => nI (co j)))), (r0, .inr (7, [.ref k0, .ref g0, .ref n0, .int (nI 0), .int (nI (u_1 9))])), (k0, .inr (9, [.ref k1, .ref k2, .int (nI ts), .int (nI th), .int (nI (u_1 0)), .int (nI (u_1 1)), .int (nI (u_1 2)), .int (nI (u_1 3))])), (k1, .inl (ax 1, 400, .inl tb)), (k2, .inl (ax 0, 401, .inl (fun j => nI (tk j)))), (n0, .inr (4, [.ref (u_1 4), .ref (u_1 5), .ref (u_1 6), .int (nI (u_1 7))])), ((u_1 4), .inl (ax 1, u_1 8, .inl x_20)), ((u_1 5), .inl (ax 0, u_1 8, .inl x_21)), ((u_1 6), .inl (ax 0, u_1 8, .inl x_22))] := ⟨hP1, hD1⟩
  obtain ⟨hP, hD⟩ := hW7
  clear hP1 hD1 hS1
  have hL_29 : okf (u_1 1) (lst ln (u_1 7) kd ow sb f1 f2 (sup te s9 (u_1 10)) kp nm en (sup kc s9 (kc s9 + (u_1 7 - z9))) tm x_20 x_21 x_22) := (fun q => (hls (okf.of hs_9 q)).read (by first | assumption | omega) (hx_26 q) (by first | assumption | omega) (hop (okf.of (by first | assumption | omega) q)).1 (Nat.le_refl _) (fun i hi => rfl) (fun i hi => rfl) (fun i hi => sup_ne hi) (fun i hi => rfl) (fun i hi => rfl) (fun i hi => rfl))
  have hC_30 : okf (u_1 1) (clm br cl ck co ln kd nm) := (fun q => hcm (okf.of hs_9 q))
  refine lv_aload_n hx hb d_Reader_loop_15 rfl (lv_at hl1 0 rfl) ?_
  refine va_get (D := D) (ci := 7) (v := .ref k0) (C := R_Reader) (T := F_Reader) (N := 5) hx hb hts i_Reader hown hK.1 hP 12 rfl rfl 0 (by decide) (hts _ wd_75) (fun _ h9 => h9) rfl d_Reader_loop_16 ?_
  refine lv_bipush (v := 13) hx hb d_Reader_loop_19 (by decide) ?_
  obtain ⟨hPc, hDc, hFc, hCs⟩ := xw_sub3 (wc := [(k0, .inr (9, [.ref k1, .ref k2, .int (nI ts), .int (nI th), .int (nI (u_1 0)), .int (nI (u_1 1)), .int (nI (u_1 2)), .int (nI (u_1 3))])), (k1, .inl (ax 1, 400, .inl tb)), (k2, .inl (ax 0, 401, .inl (fun j => nI (tk j))))]) hP hD hS hA [13, 14, 15] (by decide) rfl
  have hz := xz_of hN hS
  refine va_callv (va_runV (As := [.int 13]) (rest := []) ⟨hx, hb, hml, hown, hts⟩ (c_K_need l D ax k0 k1 k2 tb tk (u_1 0) (u_1 1) (u_1 2) (u_1 3) cn ts th 13 H_28.size hkz (by assumption) (by first | assumption | omega) (by first | assumption | omega) (by first | assumption | omega) (by first | assumption | omega) (by first | assumption | omega)) (xcV (n := 1) hts wd_571 wd_2 wd_568 wd_569 wd_570 rfl rfl (by decide +kernel) ⟨(show (20) + 1 ≤ (210 + 20 * kf) by omega), (show 8 + (2 + 11) + (800) ≤ (8200 + 800 * kf) by omega)⟩) (xpV (ci := 9) (q0 := 0) (As := [.int 13]) hPc hK hz hDc rfl rfl) rfl rfl hl1.1 rfl (lv_room (Nat.le_of_ble_eq_true rfl)) d_Reader_loop_21 ⟨(show (u_1 8 - cp) + (0) ≤ (MX - cp) by omega), (show (6 * (u_1 8 - cp)) + (0) ≤ (6 * (MX - cp)) by omega)⟩) hS (fun q _ h => hFc q h) hFc (fun u_31 t H_32 locs ht hvm hw hB hz1 hk1 hS1 => ?_)
  try dsimp only at hw
  obtain ⟨hs_34, hs_35, hs_36, hs_37, hs_38, hs_39, hs_40, hs_41⟩ := hw
  obtain ⟨hP1, hD1⟩ := hB
  rw [ht] at hP1
  have hjn := xw_join3 (wl := [(g0, .inr (2, [.ref n0, .ref g1, .ref g2, .ref g3, .ref g4, .ref g5, .ref g6, .ref g7, .ref g8, .ref g9, .ref ga, .ref gb, .int (nI cl), .int (nI ln), .int (nI br), .int (nI lp), .int (nI va)])), (g1, .inl (ax 1, 20, .inl (fun j => nI (kd j)))), (g2, .inl (ax 1, 20, .inl (fun j => nI (ow j)))), (g3, .inl (ax 1, 20, .inl (fun j => nI (sb j)))), (g4, .inl (ax 1, 20, .inl (fun j => nI (f1 j)))), (g5, .inl (ax 1, 20, .inl (fun j => nI (f2 j)))), (g6, .inl (ax 2, 20, .inl (fun j => nI (sup te s9 (u_1 10) j)))), (g7, .inl (ax 2, 20, .inl (fun j => nI (kp j)))), (g8, .inl (ax 0, 20, .inl tm)), (g9, .inl (ax 1, 20, .inl (fun j => nI (nm j)))), (ga, .inl (ax 1, 29, .inl (fun j => nI (ck j)))), (gb, .inl (ax 1, 29, .inl (fun j => nI (co j)))), (r0, .inr (7, [.ref k0, .ref g0, .ref n0, .int (nI 0), .int (nI (u_1 9))])), (n0, .inr (4, [.ref (u_1 4), .ref (u_1 5), .ref (u_1 6), .int (nI (u_1 7))])), ((u_1 4), .inl (ax 1, u_1 8, .inl x_20)), ((u_1 5), .inl (ax 0, u_1 8, .inl x_21)), ((u_1 6), .inl (ax 0, u_1 8, .inl x_22)), (k0, .inr (9, [.ref k1, .ref k2, .int (nI ts), .int (nI th), .int (nI (u_31 0)), .int (nI (u_31 1)), .int (nI (u_31 2)), .int (nI (u_31 3))])), (k1, .inl (ax 1, 400, .inl tb)), (k2, .inl (ax 0, 401, .inl (fun j => nI (tk j))))]) hP hD [13, 14, 15] [0, 1, 2, 3, 4, 5, 6, 7, 8, 9, 10, 11, 12, 16, 17, 18, 19] hCs (by decide) (by decide) hk1 hFc hP1 hD1 rfl
  clear hP1 hD1
  clear hPc hDc hFc hCs hz hz1 hk1 ht hvm
  clear hP hD hS
  have hS := hS1
  obtain ⟨hP, hD⟩ := hjn
  clear hS1
  have hL_42 : okf (u_31 1) (lst ln (u_1 7) kd ow sb f1 f2 (sup te s9 (u_1 10)) kp nm en (sup kc s9 (kc s9 + (u_1 7 - z9))) tm x_20 x_21 x_22) := hL_29.back hs_39
  have hC_43 : okf (u_31 1) (clm br cl ck co ln kd nm) := hC_30.back hs_39
  have hN_44 : okf (u_31 1) (ndv x_20 x_21 x_22 (u_1 7)) := hx_23.back hs_39
  have hO_45 : okf (u_31 1) (s9 = 4294967295 ∨ (s9 < ln ∧ en s9 = 100)) := fun q => Or.inr ⟨by omega, (hop (okf.of (by first | assumption | omega) q)).1⟩
  refine lv_aload_n hx hb d_Reader_loop_24 rfl (lv_at hl1 0 rfl) ?_
  refine va_get (D := D) (ci := 7) (v := .ref g0) (C := R_Reader) (T := F_Reader) (N := 5) hx hb hts i_Reader hown hK.1 hP 12 rfl rfl 1 (by decide) (hts _ wd_76) (fun _ h9 => h9) rfl d_Reader_loop_25 ?_
  refine va_get (D := D) (ci := 2) (v := .ref g7) (C := R_Listing) (T := F_Listing) (N := 17) hx hb hts i_Listing hown hK.1 hP 0 rfl rfl 7 (by decide) (hts _ wd_291) (fun _ h9 => h9) rfl d_Reader_loop_28 ?_
  refine lv_iload_n hx hb d_Reader_loop_31 rfl (lv_at hl1 1 rfl) ?_
  refine lv_aload_n hx hb d_Reader_loop_32 rfl (lv_at hl1 0 rfl) ?_
  refine lv_iconst (v := 1) hx hb d_Reader_loop_33 (by decide) ?_
  obtain ⟨hPc, hDc, hFc, hCs⟩ := xw_sub3 (wc := [(r0, .inr (7, [.ref k0, (.ref g0), .ref n0, .int (nI 0), .int (nI (u_1 9))])), (k0, .inr (9, [.ref k1, .ref k2, .int (nI ts), .int (nI th), .int (nI (u_31 0)), .int (nI (u_31 1)), .int (nI (u_31 2)), .int (nI (u_31 3))])), (k1, .inl (ax 1, 400, .inl tb)), (k2, .inl (ax 0, 401, .inl (fun j => nI (tk j)))), (n0, .inr (4, [.ref (u_1 4), .ref (u_1 5), .ref (u_1 6), .int (nI (u_1 7))])), ((u_1 4), .inl (ax 1, u_1 8, .inl x_20)), ((u_1 5), .inl (ax 0, u_1 8, .inl x_21)), ((u_1 6), .inl (ax 0, u_1 8, .inl x_22))]) hP hD hS hA [12, 17, 18, 19, 13, 14, 15, 16] (by decide) rfl
  have hz := xz_of hN hS
  refine wk_know (fun hk8 hk9 => ?_)
  refine va_calli (va_runV (As := [.int 1]) (rest := [.int (nI s9), .ref g7]) ⟨hx, hb, hml, hown, hts⟩ (c_R_condition l D ax r0 k0 k1 k2 (.ref g0) tb tk (u_31 0) (u_31 1) (u_31 2) (u_31 3) cn ts th 0 (u_1 9) 1 n0 (u_1 4) (u_1 5) (u_1 6) (u_1 8) (u_1 7) x_20 x_21 x_22 MX H_32.size (tsl H_32) hkz (by assumption) (by first | assumption | omega) (by first | assumption | omega) (by first | assumption | omega) (by first | assumption | omega) (by first | assumption | omega) (by first | assumption | omega) (by first | assumption | omega) (by first | assumption | omega) (by first | assumption | omega) (by assumption) (by assumption)) (xcV (n := 1) hts wd_539 wd_3 wd_536 wd_538 ps_7 rfl rfl (by decide +kernel) ⟨(show (160) + 1 ≤ (210 + 20 * kf) by omega), (show 8 + (2 + 11) + (6400) ≤ (8200 + 800 * kf) by omega)⟩) (xpV3 (ci := 7) (q0 := 0) (As := [.int 1]) hPc hK hz hDc rfl rfl) rfl rfl hl1.1 rfl (lv_room (Nat.le_of_ble_eq_true rfl)) d_Reader_loop_34 ⟨(show (u_1 8 - cp) + (MX - (u_1 8)) ≤ (MX - cp) by omega), (show (6 * (u_1 8 - cp)) + (6 * (MX - (u_1 8))) ≤ (6 * (MX - cp)) by omega)⟩) hS (fun q _ h => hFc q h) hFc (fun r_48 u_46 t H_47 locs ht hvm hw hB hz1 hk1 hS1 => ?_)
  try dsimp only at hw
  obtain ⟨hw, hs_49, hs_50, hs_51, hs_52, hs_53, hs_54, hs_55, hs_56, hs_57, hs_58, hs_59, hs_60, hs_61, hs_62, hs_63, hs_64⟩ := hw
  subst hw
  obtain ⟨x_65, x_66, x_67, hg8, hg9, hx_68, hx_69, hx_70, hx_71, hP1, hD1⟩ := hB
  rw [ht] at hg8 hg9 hP1
  have hjn := xw_join3 (wl := [(g0, .inr (2, [.ref n0, .ref g1, .ref g2, .ref g3, .ref g4, .ref g5, .ref g6, .ref g7, .ref g8, .ref g9, .ref ga, .ref gb, .int (nI cl), .int (nI ln), .int (nI br), .int (nI lp), .int (nI va)])), (g1, .inl (ax 1, 20, .inl (fun j => nI (kd j)))), (g2, .inl (ax 1, 20, .inl (fun j => nI (ow j)))), (g3, .inl (ax 1, 20, .inl (fun j => nI (sb j)))), (g4, .inl (ax 1, 20, .inl (fun j => nI (f1 j)))), (g5, .inl (ax 1, 20, .inl (fun j => nI (f2 j)))), (g6, .inl (ax 2, 20, .inl (fun j => nI (sup te s9 (u_1 10) j)))), (g7, .inl (ax 2, 20, .inl (fun j => nI (kp j)))), (g8, .inl (ax 0, 20, .inl tm)), (g9, .inl (ax 1, 20, .inl (fun j => nI (nm j)))), (ga, .inl (ax 1, 29, .inl (fun j => nI (ck j)))), (gb, .inl (ax 1, 29, .inl (fun j => nI (co j)))), (r0, .inr (7, [.ref k0, .ref g0, .ref n0, .int (nI 1), .int (nI (u_46 9))])), (k0, .inr (9, [.ref k1, .ref k2, .int (nI ts), .int (nI th), .int (nI (u_46 0)), .int (nI (u_46 1)), .int (nI (u_46 2)), .int (nI (u_46 3))])), (k1, .inl (ax 1, 400, .inl tb)), (k2, .inl (ax 0, 401, .inl (fun j => nI (tk j)))), (n0, .inr (4, [.ref (u_46 4), .ref (u_46 5), .ref (u_46 6), .int (nI (u_46 7))])), ((u_46 4), .inl (ax 1, u_46 8, .inl x_65)), ((u_46 5), .inl (ax 0, u_46 8, .inl x_66)), ((u_46 6), .inl (ax 0, u_46 8, .inl x_67))]) hP hD [12, 17, 18, 19, 13, 14, 15, 16] [0, 1, 2, 3, 4, 5, 6, 7, 8, 9, 10, 11] hCs (by decide) (by decide) hk1 hFc hP1 hD1 rfl
  clear hP1 hD1
  clear hPc hDc hFc hCs hz hz1 hk1 ht hvm
  clear hP hD hS
  have hS := hS1
  obtain ⟨hP, hD⟩ := hjn
  clear hS1
  refine wk_narrow (k := u_1 8 - cp + (u_46 8 - (u_1 8))) (n := 6 * (u_1 8 - cp) + (6 * (u_46 8 - (u_1 8)))) (by first | assumption | omega) (by first | assumption | omega) ?_
  clear hk8 hk9 hg8 hg9
  have hfl_72 := ftf_le (u_46 1)
  refine lv_i2s (v := nI (u_46 10)) hx hb d_Reader_loop_37 (nb_i2ss hs_63) ?_
  refine va_sast hx hb hK.1 hP hD hS 7 2 rfl rfl (vp_in_nI (by first | assumption | omega) (by decide)) d_Reader_loop_38 (fun H_73 locs hP1 hD1 hS1 => ?_)
  rw [nI_clamp (by first | exact Nat.lt_of_lt_of_le (by assumption) (by decide) | exact Nat.lt_of_le_of_lt (by assumption) (by decide) | omega)] at hP1 hD1
  rw [xf_supss kp s9 (u_46 10) hs_63] at hP1 hD1
  clear hP hD hS
  have hS := hS1
  have hW7 : (fun w9 : va_W => va_P D classes w9 H_73 ∧ va_D A w9) [(g0, .inr (2, [.ref n0, .ref g1, .ref g2, .ref g3, .ref g4, .ref g5, .ref g6, .ref g7, .ref g8, .ref g9, .ref ga, .ref gb, .int (nI cl), .int (nI ln), .int (nI br), .int (nI lp), .int (nI va)])), (g1, .inl (ax 1, 20, .inl (fun j => nI (kd j)))), (g2, .inl (ax 1, 20, .inl (fun j => nI (ow j)))), (g3, .inl (ax 1, 20, .inl (fun j => nI (sb j)))), (g4, .inl (ax 1, 20, .inl (fun j => nI (f1 j)))), (g5, .inl (ax 1, 20, .inl (fun j => nI (f2 j)))), (g6, .inl (ax 2, 20, .inl (fun j => nI (sup te s9 (u_1 10) j)))), (g7, .inl (ax 2, 20, .inl (fun j => nI (sup kp s9 (u_46 10) j)))), (g8, .inl (ax 0, 20, .inl tm)), (g9, .inl (ax 1, 20, .inl (fun j => nI (nm j)))), (ga, .inl (ax 1, 29, .inl (fun j => nI (ck j)))), (gb, .inl (ax 1, 29, .inl (fun j => nI (co j)))), (r0, .inr (7, [.ref k0, .ref g0, .ref n0, .int (nI 1), .int (nI (u_46 9))])), (k0, .inr (9, [.ref k1, .ref k2, .int (nI ts), .int (nI th), .int (nI (u_46 0)), .int (nI (u_46 1)), .int (nI (u_46 2)), .int (nI (u_46 3))])), (k1, .inl (ax 1, 400, .inl tb)), (k2, .inl (ax 0, 401, .inl (fun j => nI (tk j)))), (n0, .inr (4, [.ref (u_46 4), .ref (u_46 5), .ref (u_46 6), .int (nI (u_46 7))])), ((u_46 4), .inl (ax 1, u_46 8, .inl x_65)), ((u_46 5), .inl (ax 0, u_46 8, .inl x_66)), ((u_46 6), .inl (ax 0, u_46 8, .inl x_67))] := ⟨hP1, hD1⟩
  obtain ⟨hP, hD⟩ := hW7
  clear hP1 hD1 hS1
  have hL_74 : okf (u_46 1) (lst ln (u_46 7) kd ow sb f1 f2 (sup te s9 (u_1 10)) (sup kp s9 (u_46 10)) nm en (sup (sup kc s9 (kc s9 + (u_1 7 - z9))) s9 ((sup kc s9 (kc s9 + (u_1 7 - z9))) s9 + (u_46 7 - u_1 7))) tm x_65 x_66 x_67) := (fun q => (hL_42 (okf.of hs_54 q)).read (by first | assumption | omega) (hx_71 q) (by first | assumption | omega) (hop (okf.of (by first | assumption | omega) q)).1 (Nat.le_refl _) (fun i hi => rfl) (fun i hi => rfl) (fun i hi => rfl) (fun i hi => sup_ne hi) (fun i hi => rfl) (fun i hi => rfl))
  have hC_75 : okf (u_46 1) (clm br cl ck co ln kd nm) := (fun q => hC_43 (okf.of hs_54 q))
  refine lv_aload_n hx hb d_Reader_loop_39 rfl (lv_at hl1 0 rfl) ?_
  refine va_get (D := D) (ci := 7) (v := .ref g0) (C := R_Reader) (T := F_Reader) (N := 5) hx hb hts i_Reader hown hK.1 hP 12 rfl rfl 1 (by decide) (hts _ wd_76) (fun _ h9 => h9) rfl d_Reader_loop_40 ?_
  refine lv_iconst (v := 1) hx hb d_Reader_loop_43 (by decide) ?_
  refine lv_iload_n hx hb d_Reader_loop_44 rfl (lv_at hl1 1 rfl) ?_
  obtain ⟨hPc, hDc, hFc, hCs⟩ := xw_sub3 (wc := [(g0, .inr (2, [.ref n0, .ref g1, .ref g2, .ref g3, .ref g4, .ref g5, .ref g6, .ref g7, .ref g8, .ref g9, .ref ga, .ref gb, .int (nI cl), .int (nI ln), .int (nI br), .int (nI lp), .int (nI va)])), (g1, .inl (ax 1, 20, .inl (fun j => nI (kd j)))), (g2, .inl (ax 1, 20, .inl (fun j => nI (ow j)))), (g3, .inl (ax 1, 20, .inl (fun j => nI (sb j)))), (g4, .inl (ax 1, 20, .inl (fun j => nI (f1 j)))), (g5, .inl (ax 1, 20, .inl (fun j => nI (f2 j)))), (g6, .inl (ax 2, 20, .inl (fun j => nI ((sup te s9 (u_1 10)) j)))), (g7, .inl (ax 2, 20, .inl (fun j => nI ((sup kp s9 (u_46 10)) j)))), (g8, .inl (ax 0, 20, .inl tm)), (g9, .inl (ax 1, 20, .inl (fun j => nI (nm j)))), (ga, .inl (ax 1, 29, .inl (fun j => nI (ck j)))), (gb, .inl (ax 1, 29, .inl (fun j => nI (co j))))]) hP hD hS hA [0, 1, 2, 3, 4, 5, 6, 7, 8, 9, 10, 11] (by decide) rfl
  have hz := xz_of hN hS
  refine va_callv (va_runV (As := [.int 1, .int (nI s9)]) (rest := []) ⟨hx, hb, hml, hown, hts⟩ (c_L_addClaim l D ax g0 g1 g2 g3 g4 g5 g6 g7 g8 g9 ga gb cl ln br lp va kd ow sb f1 f2 (sup te s9 (u_1 10)) (sup kp s9 (u_46 10)) nm ck co tm n0 1 s9 H_73.size (by first | assumption | omega) (by assumption) (by first | assumption | omega)) (xcV (n := 2) hts wd_613 wd_12 wd_642 wd_611 wd_612 rfl rfl (by decide +kernel) ⟨(show (10) + 1 ≤ (210 + 20 * kf) by omega), (show 8 + (3 + 11) + (400) ≤ (8200 + 800 * kf) by omega)⟩) (xpV (ci := 2) (q0 := 0) (As := [.int 1, .int (nI s9)]) hPc hK hz hDc rfl rfl) rfl rfl hl1.1 rfl (lv_room (Nat.le_of_ble_eq_true rfl)) d_Reader_loop_45 ⟨(show (u_1 8 - cp + (u_46 8 - (u_1 8))) + (0) ≤ (MX - cp) by omega), (show (6 * (u_1 8 - cp) + (6 * (u_46 8 - (u_1 8)))) + (0) ≤ (6 * (MX - cp)) by omega)⟩) hS (fun q _ h => hFc q h) hFc (fun u_76 t H_77 locs ht hvm hw hB hz1 hk1 hS1 => ?_)
  try dsimp only at hw
  have hs_79 := hw
  obtain ⟨x_80, x_81, hx_82, hP1, hD1⟩ := hB
  rw [ht] at hP1
  have hjn := xw_join3 (wl := [(r0, .inr (7, [.ref k0, .ref g0, .ref n0, .int (nI 1), .int (nI (u_46 9))])), (k0, .inr (9, [.ref k1, .ref k2, .int (nI ts), .int (nI th), .int (nI (u_46 0)), .int (nI (u_46 1)), .int (nI (u_46 2)), .int (nI (u_46 3))])), (k1, .inl (ax 1, 400, .inl tb)), (k2, .inl (ax 0, 401, .inl (fun j => nI (tk j)))), (n0, .inr (4, [.ref (u_46 4), .ref (u_46 5), .ref (u_46 6), .int (nI (u_46 7))])), ((u_46 4), .inl (ax 1, u_46 8, .inl x_65)), ((u_46 5), .inl (ax 0, u_46 8, .inl x_66)), ((u_46 6), .inl (ax 0, u_46 8, .inl x_67)), (g0, .inr (2, [.ref n0, .ref g1, .ref g2, .ref g3, .ref g4, .ref g5, .ref g6, .ref g7, .ref g8, .ref g9, .ref ga, .ref gb, .int (nI (u_76 0)), .int (nI ln), .int (nI br), .int (nI lp), .int (nI va)])), (g1, .inl (ax 1, 20, .inl (fun j => nI (kd j)))), (g2, .inl (ax 1, 20, .inl (fun j => nI (ow j)))), (g3, .inl (ax 1, 20, .inl (fun j => nI (sb j)))), (g4, .inl (ax 1, 20, .inl (fun j => nI (f1 j)))), (g5, .inl (ax 1, 20, .inl (fun j => nI (f2 j)))), (g6, .inl (ax 2, 20, .inl (fun j => nI ((sup te s9 (u_1 10)) j)))), (g7, .inl (ax 2, 20, .inl (fun j => nI ((sup kp s9 (u_46 10)) j)))), (g8, .inl (ax 0, 20, .inl tm)), (g9, .inl (ax 1, 20, .inl (fun j => nI (nm j)))), (ga, .inl (ax 1, 29, .inl (fun j => nI (x_80 j)))), (gb, .inl (ax 1, 29, .inl (fun j => nI (x_81 j))))]) hP hD [0, 1, 2, 3, 4, 5, 6, 7, 8, 9, 10, 11] [12, 13, 14, 15, 16, 17, 18, 19] hCs (by decide) (by decide) hk1 hFc hP1 hD1 rfl
  clear hP1 hD1
  clear hPc hDc hFc hCs hz hz1 hk1 ht hvm
  clear hP hD hS
  have hS := hS1
  obtain ⟨hP, hD⟩ := hjn
  clear hS1
  have hC_83 : okf (u_46 1) (clm br (u_76 0) x_80 x_81 ln kd nm) := (fun q => (hC_75 q).one hx_82 (by first | assumption | omega) (Or.inr (Or.inl ⟨Or.inl rfl, (hop (okf.of (by first | assumption | omega) q)).2.1⟩)))
  clear hx_82
  refine lv_aload_n hx hb d_Reader_loop_48 rfl (lv_at hl1 0 rfl) ?_
  refine va_get (D := D) (ci := 7) (v := .ref g0) (C := R_Reader) (T := F_Reader) (N := 5) hx hb hts i_Reader hown hK.1 hP 0 rfl rfl 1 (by decide) (hts _ wd_76) (fun _ h9 => h9) rfl d_Reader_loop_49 ?_
  refine lv_iconst (v := 2) hx hb d_Reader_loop_52 (by decide) ?_
  refine lv_iload_n hx hb d_Reader_loop_53 rfl (lv_at hl1 1 rfl) ?_
  obtain ⟨hPc, hDc, hFc, hCs⟩ := xw_sub3 (wc := [(g0, .inr (2, [.ref n0, .ref g1, .ref g2, .ref g3, .ref g4, .ref g5, .ref g6, .ref g7, .ref g8, .ref g9, .ref ga, .ref gb, .int (nI (u_76 0)), .int (nI ln), .int (nI br), .int (nI lp), .int (nI va)])), (g1, .inl (ax 1, 20, .inl (fun j => nI (kd j)))), (g2, .inl (ax 1, 20, .inl (fun j => nI (ow j)))), (g3, .inl (ax 1, 20, .inl (fun j => nI (sb j)))), (g4, .inl (ax 1, 20, .inl (fun j => nI (f1 j)))), (g5, .inl (ax 1, 20, .inl (fun j => nI (f2 j)))), (g6, .inl (ax 2, 20, .inl (fun j => nI ((sup te s9 (u_1 10)) j)))), (g7, .inl (ax 2, 20, .inl (fun j => nI ((sup kp s9 (u_46 10)) j)))), (g8, .inl (ax 0, 20, .inl tm)), (g9, .inl (ax 1, 20, .inl (fun j => nI (nm j)))), (ga, .inl (ax 1, 29, .inl (fun j => nI (x_80 j)))), (gb, .inl (ax 1, 29, .inl (fun j => nI (x_81 j))))]) hP hD hS hA [8, 9, 10, 11, 12, 13, 14, 15, 16, 17, 18, 19] (by decide) rfl
  have hz := xz_of hN hS
  refine va_callv (va_runV (As := [.int 2, .int (nI s9)]) (rest := []) ⟨hx, hb, hml, hown, hts⟩ (c_L_addClaim l D ax g0 g1 g2 g3 g4 g5 g6 g7 g8 g9 ga gb (u_76 0) ln br lp va kd ow sb f1 f2 (sup te s9 (u_1 10)) (sup kp s9 (u_46 10)) nm x_80 x_81 tm n0 2 s9 H_77.size (by first | assumption | omega) (by assumption) (by first | assumption | omega)) (xcV (n := 2) hts wd_613 wd_12 wd_642 wd_611 wd_612 rfl rfl (by decide +kernel) ⟨(show (10) + 1 ≤ (210 + 20 * kf) by omega), (show 8 + (3 + 11) + (400) ≤ (8200 + 800 * kf) by omega)⟩) (xpV (ci := 2) (q0 := 0) (As := [.int 2, .int (nI s9)]) hPc hK hz hDc rfl rfl) rfl rfl hl1.1 rfl (lv_room (Nat.le_of_ble_eq_true rfl)) d_Reader_loop_54 ⟨(show (u_1 8 - cp + (u_46 8 - (u_1 8))) + (0) ≤ (MX - cp) by omega), (show (6 * (u_1 8 - cp) + (6 * (u_46 8 - (u_1 8)))) + (0) ≤ (6 * (MX - cp)) by omega)⟩) hS (fun q _ h => hFc q h) hFc (fun u_84 t H_85 locs ht hvm hw hB hz1 hk1 hS1 => ?_)
  try dsimp only at hw
  have hs_87 := hw
  obtain ⟨x_88, x_89, hx_90, hP1, hD1⟩ := hB
  rw [ht] at hP1
  have hjn := xw_join3 (wl := [(r0, .inr (7, [.ref k0, .ref g0, .ref n0, .int (nI 1), .int (nI (u_46 9))])), (k0, .inr (9, [.ref k1, .ref k2, .int (nI ts), .int (nI th), .int (nI (u_46 0)), .int (nI (u_46 1)), .int (nI (u_46 2)), .int (nI (u_46 3))])), (k1, .inl (ax 1, 400, .inl tb)), (k2, .inl (ax 0, 401, .inl (fun j => nI (tk j)))), (n0, .inr (4, [.ref (u_46 4), .ref (u_46 5), .ref (u_46 6), .int (nI (u_46 7))])), ((u_46 4), .inl (ax 1, u_46 8, .inl x_65)), ((u_46 5), .inl (ax 0, u_46 8, .inl x_66)), ((u_46 6), .inl (ax 0, u_46 8, .inl x_67)), (g0, .inr (2, [.ref n0, .ref g1, .ref g2, .ref g3, .ref g4, .ref g5, .ref g6, .ref g7, .ref g8, .ref g9, .ref ga, .ref gb, .int (nI (u_84 0)), .int (nI ln), .int (nI br), .int (nI lp), .int (nI va)])), (g1, .inl (ax 1, 20, .inl (fun j => nI (kd j)))), (g2, .inl (ax 1, 20, .inl (fun j => nI (ow j)))), (g3, .inl (ax 1, 20, .inl (fun j => nI (sb j)))), (g4, .inl (ax 1, 20, .inl (fun j => nI (f1 j)))), (g5, .inl (ax 1, 20, .inl (fun j => nI (f2 j)))), (g6, .inl (ax 2, 20, .inl (fun j => nI ((sup te s9 (u_1 10)) j)))), (g7, .inl (ax 2, 20, .inl (fun j => nI ((sup kp s9 (u_46 10)) j)))), (g8, .inl (ax 0, 20, .inl tm)), (g9, .inl (ax 1, 20, .inl (fun j => nI (nm j)))), (ga, .inl (ax 1, 29, .inl (fun j => nI (x_88 j)))), (gb, .inl (ax 1, 29, .inl (fun j => nI (x_89 j))))]) hP hD [8, 9, 10, 11, 12, 13, 14, 15, 16, 17, 18, 19] [0, 1, 2, 3, 4, 5, 6, 7] hCs (by decide) (by decide) hk1 hFc hP1 hD1 rfl
  clear hP1 hD1
  clear hPc hDc hFc hCs hz hz1 hk1 ht hvm
  clear hP hD hS
  have hS := hS1
  obtain ⟨hP, hD⟩ := hjn
  clear hS1
  have hC_91 : okf (u_46 1) (clm br (u_84 0) x_88 x_89 ln kd nm) := (fun q => (hC_83 q).one hx_90 (by first | assumption | omega) (Or.inr (Or.inl ⟨Or.inr rfl, (hop (okf.of (by first | assumption | omega) q)).2.1⟩)))
  clear hx_90
  refine lv_aload_n hx hb d_Reader_loop_57 rfl (lv_at hl1 0 rfl) ?_
  refine va_get (D := D) (ci := 7) (v := .ref k0) (C := R_Reader) (T := F_Reader) (N := 5) hx hb hts i_Reader hown hK.1 hP 0 rfl rfl 0 (by decide) (hts _ wd_75) (fun _ h9 => h9) rfl d_Reader_loop_58 ?_
  refine va_get (D := D) (ci := 9) (v := .int (nI (u_46 2))) (C := R_Tokens) (T := F_Tokens) (N := 8) hx hb hts i_Tokens hown hK.1 hP 1 rfl rfl 6 (by decide) (hts _ wd_47) (fun _ h9 => h9) rfl d_Reader_loop_61 ?_
  refine lv_bipush (v := 14) hx hb d_Reader_loop_64 (by decide) ?_
  refine lv_icmp_ne (tgt := 98) hx hb d_Reader_loop_66 (by decide) (fun c_92 => ?_) (fun c_92 => ?_)
  · replace c_92 : ¬ u_46 2 = 14 := fun hq9 => c_92 ((nI_eq (a := u_46 2) (b := 14) (by first | exact Nat.lt_of_lt_of_le (by assumption) (by decide) | exact Nat.lt_of_le_of_lt (by assumption) (by decide) | omega) (by decide)).mpr hq9)
    refine lv_aload_n hx hb d_Reader_loop_98 rfl (lv_at hl1 0 rfl) ?_
    refine va_get (D := D) (ci := 7) (v := .ref k0) (C := R_Reader) (T := F_Reader) (N := 5) hx hb hts i_Reader hown hK.1 hP 0 rfl rfl 0 (by decide) (hts _ wd_75) (fun _ h9 => h9) rfl d_Reader_loop_99 ?_
    refine lv_bipush (v := 15) hx hb d_Reader_loop_102 (by decide) ?_
    obtain ⟨hPc, hDc, hFc, hCs⟩ := xw_sub3 (wc := [(k0, .inr (9, [.ref k1, .ref k2, .int (nI ts), .int (nI th), .int (nI (u_46 0)), .int (nI (u_46 1)), .int (nI (u_46 2)), .int (nI (u_46 3))])), (k1, .inl (ax 1, 400, .inl tb)), (k2, .inl (ax 0, 401, .inl (fun j => nI (tk j))))]) hP hD hS hA [1, 2, 3] (by decide) rfl
    have hz := xz_of hN hS
    refine va_callv (va_runV (As := [.int 15]) (rest := []) ⟨hx, hb, hml, hown, hts⟩ (c_K_need l D ax k0 k1 k2 tb tk (u_46 0) (u_46 1) (u_46 2) (u_46 3) cn ts th 15 H_85.size hkz (by assumption) (by first | assumption | omega) (by first | assumption | omega) (by first | assumption | omega) (by first | assumption | omega) (by first | assumption | omega)) (xcV (n := 1) hts wd_571 wd_2 wd_568 wd_569 wd_570 rfl rfl (by decide +kernel) ⟨(show (20) + 1 ≤ (210 + 20 * kf) by omega), (show 8 + (2 + 11) + (800) ≤ (8200 + 800 * kf) by omega)⟩) (xpV (ci := 9) (q0 := 0) (As := [.int 15]) hPc hK hz hDc rfl rfl) rfl rfl hl1.1 rfl (lv_room (Nat.le_of_ble_eq_true rfl)) d_Reader_loop_104 ⟨(show (u_1 8 - cp + (u_46 8 - (u_1 8))) + (0) ≤ (MX - cp) by omega), (show (6 * (u_1 8 - cp) + (6 * (u_46 8 - (u_1 8)))) + (0) ≤ (6 * (MX - cp)) by omega)⟩) hS (fun q _ h => hFc q h) hFc (fun u_93 t H_94 locs ht hvm hw hB hz1 hk1 hS1 => ?_)
    try dsimp only at hw
    obtain ⟨hs_96, hs_97, hs_98, hs_99, hs_100, hs_101, hs_102, hs_103⟩ := hw
    obtain ⟨hP1, hD1⟩ := hB
    rw [ht] at hP1
    have hjn := xw_join3 (wl := [(r0, .inr (7, [.ref k0, .ref g0, .ref n0, .int (nI 1), .int (nI (u_46 9))])), (n0, .inr (4, [.ref (u_46 4), .ref (u_46 5), .ref (u_46 6), .int (nI (u_46 7))])), ((u_46 4), .inl (ax 1, u_46 8, .inl x_65)), ((u_46 5), .inl (ax 0, u_46 8, .inl x_66)), ((u_46 6), .inl (ax 0, u_46 8, .inl x_67)), (g0, .inr (2, [.ref n0, .ref g1, .ref g2, .ref g3, .ref g4, .ref g5, .ref g6, .ref g7, .ref g8, .ref g9, .ref ga, .ref gb, .int (nI (u_84 0)), .int (nI ln), .int (nI br), .int (nI lp), .int (nI va)])), (g1, .inl (ax 1, 20, .inl (fun j => nI (kd j)))), (g2, .inl (ax 1, 20, .inl (fun j => nI (ow j)))), (g3, .inl (ax 1, 20, .inl (fun j => nI (sb j)))), (g4, .inl (ax 1, 20, .inl (fun j => nI (f1 j)))), (g5, .inl (ax 1, 20, .inl (fun j => nI (f2 j)))), (g6, .inl (ax 2, 20, .inl (fun j => nI ((sup te s9 (u_1 10)) j)))), (g7, .inl (ax 2, 20, .inl (fun j => nI ((sup kp s9 (u_46 10)) j)))), (g8, .inl (ax 0, 20, .inl tm)), (g9, .inl (ax 1, 20, .inl (fun j => nI (nm j)))), (ga, .inl (ax 1, 29, .inl (fun j => nI (x_88 j)))), (gb, .inl (ax 1, 29, .inl (fun j => nI (x_89 j)))), (k0, .inr (9, [.ref k1, .ref k2, .int (nI ts), .int (nI th), .int (nI (u_93 0)), .int (nI (u_93 1)), .int (nI (u_93 2)), .int (nI (u_93 3))])), (k1, .inl (ax 1, 400, .inl tb)), (k2, .inl (ax 0, 401, .inl (fun j => nI (tk j))))]) hP hD [1, 2, 3] [0, 4, 5, 6, 7, 8, 9, 10, 11, 12, 13, 14, 15, 16, 17, 18, 19] hCs (by decide) (by decide) hk1 hFc hP1 hD1 rfl
    clear hP1 hD1
    clear hPc hDc hFc hCs hz hz1 hk1 ht hvm
    clear hP hD hS
    have hS := hS1
    obtain ⟨hP, hD⟩ := hjn
    clear hS1
    have hL_104 : okf (u_93 1) (lst ln (u_46 7) kd ow sb f1 f2 (sup te s9 (u_1 10)) (sup kp s9 (u_46 10)) nm en (sup (sup kc s9 (kc s9 + (u_1 7 - z9))) s9 ((sup kc s9 (kc s9 + (u_1 7 - z9))) s9 + (u_46 7 - u_1 7))) tm x_65 x_66 x_67) := hL_74.back hs_101
    have hC_105 : okf (u_93 1) (clm br (u_84 0) x_88 x_89 ln kd nm) := hC_91.back hs_101
    have hN_106 : okf (u_93 1) (ndv x_65 x_66 x_67 (u_46 7)) := hx_68.back hs_101
    have hO_107 : okf (u_93 1) (s9 = 4294967295 ∨ (s9 < ln ∧ en s9 = 100)) := fun q => Or.inr ⟨by omega, (hop (okf.of (by first | assumption | omega) q)).1⟩
    refine lv_aload_n hx hb d_Reader_loop_107 rfl (lv_at hl1 0 rfl) ?_
    refine va_get (D := D) (ci := 7) (v := .ref g0) (C := R_Reader) (T := F_Reader) (N := 5) hx hb hts i_Reader hown hK.1 hP 0 rfl rfl 1 (by decide) (hts _ wd_76) (fun _ h9 => h9) rfl d_Reader_loop_108 ?_
    refine va_get (D := D) (ci := 2) (v := .ref g4) (C := R_Listing) (T := F_Listing) (N := 17) hx hb hts i_Listing hown hK.1 hP 5 rfl rfl 4 (by decide) (hts _ wd_280) (fun _ h9 => h9) rfl d_Reader_loop_111 ?_
    refine lv_iload_n hx hb d_Reader_loop_114 rfl (lv_at hl1 1 rfl) ?_
    refine lv_aload_n hx hb d_Reader_loop_115 rfl (lv_at hl1 0 rfl) ?_
    refine lv_iload_n hx hb d_Reader_loop_116 rfl (lv_at hl1 1 rfl) ?_
    obtain ⟨hPc, hDc, hFc, hCs⟩ := xw_sub3 (wc := [(r0, .inr (7, [.ref k0, .ref g0, .ref n0, .int (nI 1), .int (nI (u_46 9))])), (k0, .inr (9, [.ref k1, .ref k2, .int (nI ts), .int (nI th), .int (nI (u_93 0)), .int (nI (u_93 1)), .int (nI (u_93 2)), .int (nI (u_93 3))])), (k1, .inl (ax 1, 400, .inl tb)), (k2, .inl (ax 0, 401, .inl (fun j => nI (tk j)))), (n0, .inr (4, [.ref (u_46 4), .ref (u_46 5), .ref (u_46 6), .int (nI (u_46 7))])), ((u_46 4), .inl (ax 1, u_46 8, .inl x_65)), ((u_46 5), .inl (ax 0, u_46 8, .inl x_66)), ((u_46 6), .inl (ax 0, u_46 8, .inl x_67)), (g0, .inr (2, [.ref n0, .ref g1, .ref g2, .ref g3, .ref g4, .ref g5, .ref g6, .ref g7, .ref g8, .ref g9, .ref ga, .ref gb, .int (nI (u_84 0)), .int (nI ln), .int (nI br), .int (nI lp), .int (nI va)])), (g1, .inl (ax 1, 20, .inl (fun j => nI (kd j)))), (g2, .inl (ax 1, 20, .inl (fun j => nI (ow j)))), (g3, .inl (ax 1, 20, .inl (fun j => nI (sb j)))), (g4, .inl (ax 1, 20, .inl (fun j => nI (f1 j)))), (g5, .inl (ax 1, 20, .inl (fun j => nI (f2 j)))), (g6, .inl (ax 2, 20, .inl (fun j => nI ((sup te s9 (u_1 10)) j)))), (g7, .inl (ax 2, 20, .inl (fun j => nI ((sup kp s9 (u_46 10)) j)))), (g8, .inl (ax 0, 20, .inl tm)), (g9, .inl (ax 1, 20, .inl (fun j => nI (nm j)))), (ga, .inl (ax 1, 29, .inl (fun j => nI (x_88 j)))), (gb, .inl (ax 1, 29, .inl (fun j => nI (x_89 j))))]) hP hD hS hA [0, 17, 18, 19, 1, 2, 3, 4, 5, 6, 7, 8, 9, 10, 11, 12, 13, 14, 15, 16] (by decide) rfl
    have hz := xz_of hN hS
    refine wk_know (fun hk8 hk9 => ?_)
    refine va_calli (va_runV (As := [.int (nI s9)]) (rest := [.int (nI s9), .ref g4]) ⟨hx, hb, hml, hown, hts⟩ (c_R_statements l kf hst D ax r0 k0 k1 k2 tb tk (u_93 0) (u_93 1) (u_93 2) (u_93 3) cn ts th 1 (u_46 9) n0 (u_46 4) (u_46 5) (u_46 6) (u_46 8) (u_46 7) x_65 x_66 x_67 g0 g1 g2 g3 g4 g5 g6 g7 g8 g9 ga gb (u_84 0) ln br lp va kd ow sb f1 f2 (sup te s9 (u_1 10)) (sup kp s9 (u_46 10)) nm x_88 x_89 tm MX en (sup (sup kc s9 (kc s9 + (u_1 7 - z9))) s9 ((sup kc s9 (kc s9 + (u_1 7 - z9))) s9 + (u_46 7 - u_1 7))) s9 H_94.size (tsl H_94) hkz (by assumption) (by first | assumption | omega) (by first | assumption | omega) (by first | assumption | omega) (by first | assumption | omega) (by first | assumption | omega) (by first | assumption | omega) (by first | assumption | omega) (by first | assumption | omega) (by assumption) (by assumption) (by first | assumption | omega) (by first | assumption | omega) (by first | assumption | omega) (by first | assumption | omega) (by first | assumption | omega) (by assumption) (by assumption) (by first | assumption | omega) (by assumption) (by assumption) (by first | assumption | omega)) (xcV (n := 1) hts wd_617 wd_3 wd_614 wd_616 ps_14 rfl rfl (by decide +kernel) ⟨(show (205 + 20 * kf) + 1 ≤ (210 + 20 * kf) by omega), (show 8 + (6 + 11) + (8100 + 800 * kf) ≤ (8200 + 800 * kf) by omega)⟩) (xpV3 (ci := 7) (q0 := 0) (As := [.int (nI s9)]) hPc hK hz hDc rfl rfl) rfl rfl hl1.1 rfl (lv_room (Nat.le_of_ble_eq_true rfl)) d_Reader_loop_117 ⟨(show (u_1 8 - cp + (u_46 8 - (u_1 8))) + (MX - (u_46 8)) ≤ (MX - cp) by omega), (show (6 * (u_1 8 - cp) + (6 * (u_46 8 - (u_1 8)))) + (6 * (MX - (u_46 8))) ≤ (6 * (MX - cp)) by omega)⟩) hS (fun q _ h => hFc q h) hFc (fun r_110 u_108 t H_109 locs ht hvm hw hB hz1 hk1 hS1 => ?_)
    try dsimp only at hw
    obtain ⟨hw, hs_111, hs_112, hs_113, hs_114, hs_115, hs_116, hs_117, hs_118, hs_119, hs_120, hs_121, hs_122, hs_123, hs_124, hs_125, hs_126, hs_127, hs_128, hs_129, hs_130, hs_131⟩ := hw
    subst hw
    obtain ⟨x_132, x_133, x_134, x_135, x_136, x_137, x_138, x_139, x_140, x_141, x_142, x_143, x_144, x_145, x_146, x_147, hg8, hg9, hx_148, hx_149, hx_150, hx_151, hx_152, hx_153, hx_154, hx_155, hP1, hD1⟩ := hB
    rw [ht] at hg8 hg9 hP1
    have hjn := xw_join3 (wl := [(r0, .inr (7, [.ref k0, .ref g0, .ref n0, .int (nI (u_108 11)), .int (nI (u_108 9))])), (k0, .inr (9, [.ref k1, .ref k2, .int (nI ts), .int (nI th), .int (nI (u_108 0)), .int (nI (u_108 1)), .int (nI (u_108 2)), .int (nI (u_108 3))])), (k1, .inl (ax 1, 400, .inl tb)), (k2, .inl (ax 0, 401, .inl (fun j => nI (tk j)))), (n0, .inr (4, [.ref (u_108 4), .ref (u_108 5), .ref (u_108 6), .int (nI (u_108 7))])), ((u_108 4), .inl (ax 1, u_108 8, .inl x_143)), ((u_108 5), .inl (ax 0, u_108 8, .inl x_144)), ((u_108 6), .inl (ax 0, u_108 8, .inl x_145)), (g0, .inr (2, [.ref n0, .ref g1, .ref g2, .ref g3, .ref g4, .ref g5, .ref g6, .ref g7, .ref g8, .ref g9, .ref ga, .ref gb, .int (nI (u_108 12)), .int (nI (u_108 13)), .int (nI (u_108 14)), .int (nI (u_108 15)), .int (nI (u_108 16))])), (g1, .inl (ax 1, 20, .inl (fun j => nI (x_132 j)))), (g2, .inl (ax 1, 20, .inl (fun j => nI (x_133 j)))), (g3, .inl (ax 1, 20, .inl (fun j => nI (x_134 j)))), (g4, .inl (ax 1, 20, .inl (fun j => nI (x_135 j)))), (g5, .inl (ax 1, 20, .inl (fun j => nI (x_136 j)))), (g6, .inl (ax 2, 20, .inl (fun j => nI (x_137 j)))), (g7, .inl (ax 2, 20, .inl (fun j => nI (x_138 j)))), (g8, .inl (ax 0, 20, .inl x_142)), (g9, .inl (ax 1, 20, .inl (fun j => nI (x_139 j)))), (ga, .inl (ax 1, 29, .inl (fun j => nI (x_140 j)))), (gb, .inl (ax 1, 29, .inl (fun j => nI (x_141 j))))]) hP hD [0, 17, 18, 19, 1, 2, 3, 4, 5, 6, 7, 8, 9, 10, 11, 12, 13, 14, 15, 16] [] hCs (by decide) (by decide) hk1 hFc hP1 hD1 rfl
    clear hP1 hD1
    clear hPc hDc hFc hCs hz hz1 hk1 ht hvm
    clear hP hD hS
    have hS := hS1
    obtain ⟨hP, hD⟩ := hjn
    clear hS1
    refine wk_narrow (k := u_1 8 - cp + (u_46 8 - (u_1 8)) + (u_108 8 - (u_46 8))) (n := 6 * (u_1 8 - cp) + (6 * (u_46 8 - (u_1 8))) + (6 * (u_108 8 - (u_46 8)))) (by first | assumption | omega) (by first | assumption | omega) ?_
    clear hk8 hk9 hg8 hg9
    refine lv_i2b (v := nI (u_108 10)) hx hb d_Reader_loop_120 (nb_i2bs hs_131) ?_
    refine va_bast hx hb hK.1 hP hD hS 12 1 rfl rfl (vp_in_nI (by first | assumption | omega) (by decide)) d_Reader_loop_121 (fun H_156 locs hP1 hD1 hS1 => ?_)
    rw [nI_clamp (by first | exact Nat.lt_of_lt_of_le (by assumption) (by decide) | exact Nat.lt_of_le_of_lt (by assumption) (by decide) | omega)] at hP1 hD1
    rw [xf_supbs x_135 s9 (u_108 10) hs_131] at hP1 hD1
    clear hP hD hS
    have hS := hS1
    have hW7 : (fun w9 : va_W => va_P D classes w9 H_156 ∧ va_D A w9) [(r0, .inr (7, [.ref k0, .ref g0, .ref n0, .int (nI (u_108 11)), .int (nI (u_108 9))])), (k0, .inr (9, [.ref k1, .ref k2, .int (nI ts), .int (nI th), .int (nI (u_108 0)), .int (nI (u_108 1)), .int (nI (u_108 2)), .int (nI (u_108 3))])), (k1, .inl (ax 1, 400, .inl tb)), (k2, .inl (ax 0, 401, .inl (fun j => nI (tk j)))), (n0, .inr (4, [.ref (u_108 4), .ref (u_108 5), .ref (u_108 6), .int (nI (u_108 7))])), ((u_108 4), .inl (ax 1, u_108 8, .inl x_143)), ((u_108 5), .inl (ax 0, u_108 8, .inl x_144)), ((u_108 6), .inl (ax 0, u_108 8, .inl x_145)), (g0, .inr (2, [.ref n0, .ref g1, .ref g2, .ref g3, .ref g4, .ref g5, .ref g6, .ref g7, .ref g8, .ref g9, .ref ga, .ref gb, .int (nI (u_108 12)), .int (nI (u_108 13)), .int (nI (u_108 14)), .int (nI (u_108 15)), .int (nI (u_108 16))])), (g1, .inl (ax 1, 20, .inl (fun j => nI (x_132 j)))), (g2, .inl (ax 1, 20, .inl (fun j => nI (x_133 j)))), (g3, .inl (ax 1, 20, .inl (fun j => nI (x_134 j)))), (g4, .inl (ax 1, 20, .inl (fun j => nI (sup x_135 s9 (u_108 10) j)))), (g5, .inl (ax 1, 20, .inl (fun j => nI (x_136 j)))), (g6, .inl (ax 2, 20, .inl (fun j => nI (x_137 j)))), (g7, .inl (ax 2, 20, .inl (fun j => nI (x_138 j)))), (g8, .inl (ax 0, 20, .inl x_142)), (g9, .inl (ax 1, 20, .inl (fun j => nI (x_139 j)))), (ga, .inl (ax 1, 29, .inl (fun j => nI (x_140 j)))), (gb, .inl (ax 1, 29, .inl (fun j => nI (x_141 j))))] := ⟨hP1, hD1⟩
    obtain ⟨hP, hD⟩ := hW7
    clear hP1 hD1 hS1
    have hE_157 : okf (u_108 1) (x_146 s9 = 100) := fun q => ((hx_150 q s9 (by first | assumption | omega)).2.2.2.2.2.2.2.2.1.trans (hop (okf.of (by first | assumption | omega) q)).1)
    have hL_158 : okf (u_108 1) (lst (u_108 13) (u_108 7) x_132 x_133 x_134 (sup x_135 s9 (u_108 10)) x_136 x_137 x_138 x_139 x_146 x_147 x_142 x_143 x_144 x_145) := (fun q => (hx_148 q).same (by first | assumption | omega) (hE_157 q) (fun i hi => sup_ne hi) (fun i hi => rfl) (fun i hi => rfl) (fun i hi => rfl) (fun i hi => rfl) (fun i hi => rfl))
    have hC_159 : okf (u_108 1) (clm (u_108 14) (u_108 12) x_140 x_141 (u_108 13) x_132 x_139) := hx_152
    refine lv_aload_n hx hb d_Reader_loop_122 rfl (lv_at hl1 0 rfl) ?_
    refine va_get (D := D) (ci := 7) (v := .ref k0) (C := R_Reader) (T := F_Reader) (N := 5) hx hb hts i_Reader hown hK.1 hP 0 rfl rfl 0 (by decide) (hts _ wd_75) (fun _ h9 => h9) rfl d_Reader_loop_123 ?_
    refine lv_bipush (v := 16) hx hb d_Reader_loop_126 (by decide) ?_
    obtain ⟨hPc, hDc, hFc, hCs⟩ := xw_sub3 (wc := [(k0, .inr (9, [.ref k1, .ref k2, .int (nI ts), .int (nI th), .int (nI (u_108 0)), .int (nI (u_108 1)), .int (nI (u_108 2)), .int (nI (u_108 3))])), (k1, .inl (ax 1, 400, .inl tb)), (k2, .inl (ax 0, 401, .inl (fun j => nI (tk j))))]) hP hD hS hA [1, 2, 3] (by decide) rfl
    have hz := xz_of hN hS
    refine va_callv (va_runV (As := [.int 16]) (rest := []) ⟨hx, hb, hml, hown, hts⟩ (c_K_need l D ax k0 k1 k2 tb tk (u_108 0) (u_108 1) (u_108 2) (u_108 3) cn ts th 16 H_156.size hkz (by assumption) (by first | assumption | omega) (by first | assumption | omega) (by first | assumption | omega) (by first | assumption | omega) (by first | assumption | omega)) (xcV (n := 1) hts wd_571 wd_2 wd_568 wd_569 wd_570 rfl rfl (by decide +kernel) ⟨(show (20) + 1 ≤ (210 + 20 * kf) by omega), (show 8 + (2 + 11) + (800) ≤ (8200 + 800 * kf) by omega)⟩) (xpV (ci := 9) (q0 := 0) (As := [.int 16]) hPc hK hz hDc rfl rfl) rfl rfl hl1.1 rfl (lv_room (Nat.le_of_ble_eq_true rfl)) d_Reader_loop_128 ⟨(show (u_1 8 - cp + (u_46 8 - (u_1 8)) + (u_108 8 - (u_46 8))) + (0) ≤ (MX - cp) by omega), (show (6 * (u_1 8 - cp) + (6 * (u_46 8 - (u_1 8))) + (6 * (u_108 8 - (u_46 8)))) + (0) ≤ (6 * (MX - cp)) by omega)⟩) hS (fun q _ h => hFc q h) hFc (fun u_160 t H_161 locs ht hvm hw hB hz1 hk1 hS1 => ?_)
    try dsimp only at hw
    obtain ⟨hs_163, hs_164, hs_165, hs_166, hs_167, hs_168, hs_169, hs_170⟩ := hw
    obtain ⟨hP1, hD1⟩ := hB
    rw [ht] at hP1
    have hjn := xw_join3 (wl := [(r0, .inr (7, [.ref k0, .ref g0, .ref n0, .int (nI (u_108 11)), .int (nI (u_108 9))])), (n0, .inr (4, [.ref (u_108 4), .ref (u_108 5), .ref (u_108 6), .int (nI (u_108 7))])), ((u_108 4), .inl (ax 1, u_108 8, .inl x_143)), ((u_108 5), .inl (ax 0, u_108 8, .inl x_144)), ((u_108 6), .inl (ax 0, u_108 8, .inl x_145)), (g0, .inr (2, [.ref n0, .ref g1, .ref g2, .ref g3, .ref g4, .ref g5, .ref g6, .ref g7, .ref g8, .ref g9, .ref ga, .ref gb, .int (nI (u_108 12)), .int (nI (u_108 13)), .int (nI (u_108 14)), .int (nI (u_108 15)), .int (nI (u_108 16))])), (g1, .inl (ax 1, 20, .inl (fun j => nI (x_132 j)))), (g2, .inl (ax 1, 20, .inl (fun j => nI (x_133 j)))), (g3, .inl (ax 1, 20, .inl (fun j => nI (x_134 j)))), (g4, .inl (ax 1, 20, .inl (fun j => nI (sup x_135 s9 (u_108 10) j)))), (g5, .inl (ax 1, 20, .inl (fun j => nI (x_136 j)))), (g6, .inl (ax 2, 20, .inl (fun j => nI (x_137 j)))), (g7, .inl (ax 2, 20, .inl (fun j => nI (x_138 j)))), (g8, .inl (ax 0, 20, .inl x_142)), (g9, .inl (ax 1, 20, .inl (fun j => nI (x_139 j)))), (ga, .inl (ax 1, 29, .inl (fun j => nI (x_140 j)))), (gb, .inl (ax 1, 29, .inl (fun j => nI (x_141 j)))), (k0, .inr (9, [.ref k1, .ref k2, .int (nI ts), .int (nI th), .int (nI (u_160 0)), .int (nI (u_160 1)), .int (nI (u_160 2)), .int (nI (u_160 3))])), (k1, .inl (ax 1, 400, .inl tb)), (k2, .inl (ax 0, 401, .inl (fun j => nI (tk j))))]) hP hD [1, 2, 3] [0, 4, 5, 6, 7, 8, 9, 10, 11, 12, 13, 14, 15, 16, 17, 18, 19] hCs (by decide) (by decide) hk1 hFc hP1 hD1 rfl
    clear hP1 hD1
    clear hPc hDc hFc hCs hz hz1 hk1 ht hvm
    clear hP hD hS
    have hS := hS1
    obtain ⟨hP, hD⟩ := hjn
    clear hS1
    have hL_171 : okf (u_160 1) (lst (u_108 13) (u_108 7) x_132 x_133 x_134 (sup x_135 s9 (u_108 10)) x_136 x_137 x_138 x_139 x_146 x_147 x_142 x_143 x_144 x_145) := hL_158.back hs_168
    have hC_172 : okf (u_160 1) (clm (u_108 14) (u_108 12) x_140 x_141 (u_108 13) x_132 x_139) := hC_159.back hs_168
    have hF : okf (u_160 1) ((cls ln (u_108 13) x_146) ∧ (sae s9 ln kd ow sb f1 f2 te kp nm en kc x_132 x_133 x_134 (sup x_135 s9 (u_108 10)) x_136 x_137 x_138 x_139 x_146 x_147 tm x_142) ∧ (lsc (u_108 13) (u_108 7) x_132 (sup x_135 s9 (u_108 10)) x_136 x_137 x_138 x_139 x_147 x_142 x_143 x_144 x_145 s9) ∧ (∀ i, i < z9 → tsn x_143 x_144 x_145 i = tsn fo fl fr i)) := by
      intro q
      have q1 : u_108 1 = 4294967295 := okf.of (by first | assumption | omega) q
      have qb : u_46 1 = 4294967295 := okf.of (by first | assumption | omega) q1
      have qa : u_1 1 = 4294967295 := okf.of (by first | assumption | omega) qb
      have qz : tf = 4294967295 := okf.of (by first | assumption | omega) qa
      have ha := hx_150 q1
      have hc9 := (Nat.lt_of_succ_le (Nat.le_of_eq (hs_16 qa))); have ht9 := hx_25 qa; have hk9 := hx_26 qa
      have hc8 := (Nat.lt_of_succ_le (Nat.le_of_eq (hs_61 qb))); have ht8 := hx_70 qb; have hk8 := hx_71 qb
      have hr1 := hx_151 q1
      obtain ⟨a1, a2, a3, a4, a5, a6, a7, a8, a9, a10, a11⟩ := ha s9 (by first | assumption | omega)
      obtain ⟨ho1, ho2, ho3⟩ := hop qz
      have hT1 := hx_155 q1; have hcl1 := hx_149 q1
      refine ⟨hcl1, ⟨fun i hi he => ?_, a1, a2, a3, a9⟩, ?_, fun i hi => (hT1 i (by first | assumption | omega)).trans ((hk8 i (by first | assumption | omega)).trans (hk9 i hi))⟩
      · obtain ⟨x1, x2, x3, x4, x5, x6, x7, x8, x9, x10, x11⟩ := ha i hi
        exact ⟨x1, x2, x3, (sup_ne he).trans x4, x5, x6.trans (sup_ne he), x7.trans (sup_ne he), x8, x9, x10.trans ((sup_ne he).trans (sup_ne he)), x11⟩
      · have e8 : x_132 s9 = 12 := a1.trans ho2
        have e6 : x_137 s9 = u_1 10 := a6.trans sup_eq
        have e7 : x_138 s9 = u_46 10 := a7.trans sup_eq
        have e4 : (sup x_135 s9 (u_108 10)) s9 = u_108 10 := sup_eq
        have e10 := a10.trans sup_eq
        rw [sup_eq] at e10
        refine ⟨fun h => by omega, fun h => by omega, fun _ => ⟨by omega, by omega, ?_, by omega, by omega, ?_⟩, fun h => by omega⟩
        · rw [e6, e7, e10, hT1 _ (by first | assumption | omega), hT1 _ (by first | assumption | omega), hk8 _ (by first | assumption | omega)]; omega
        · exact Or.inl (a8.trans ho3)
    rw [← hQe]
    refine wk_know (fun hk8 hk9 => ?_)
    refine W.widen (k := MX - cp) (n := 6 * (MX - cp)) (by first | assumption | omega) (by first | assumption | omega) ?_
    obtain ⟨hP9, hD9⟩ := xw_sub2 (wc := (fun (u : Nat → Nat) (xkd : Nat → Nat) (xow : Nat → Nat) (xsb : Nat → Nat) (xf1 : Nat → Nat) (xf2 : Nat → Nat) (xte : Nat → Nat) (xkp : Nat → Nat) (xnm : Nat → Nat) (xck : Nat → Nat) (xco : Nat → Nat) (xtm : Nat → Int32) (xfo : Nat → Int32) (xfl : Nat → Int32) (xfr : Nat → Int32) (xen : Nat → Nat) (xkc : Nat → Nat) => [(r0, .inr (7, [.ref k0, .ref g0, .ref n0, .int (nI (u 11)), .int (nI (u 9))])), (k0, .inr (9, [.ref k1, .ref k2, .int (nI ts), .int (nI th), .int (nI (u 0)), .int (nI (u 1)), .int (nI (u 2)), .int (nI (u 3))])), (k1, .inl (ax 1, 400, .inl tb)), (k2, .inl (ax 0, 401, .inl (fun j => nI (tk j)))), (n0, .inr (4, [.ref (u 4), .ref (u 5), .ref (u 6), .int (nI (u 7))])), (u 4, .inl (ax 1, u 8, .inl xfo)), (u 5, .inl (ax 0, u 8, .inl xfl)), (u 6, .inl (ax 0, u 8, .inl xfr)), (g0, .inr (2, [.ref n0, .ref g1, .ref g2, .ref g3, .ref g4, .ref g5, .ref g6, .ref g7, .ref g8, .ref g9, .ref ga, .ref gb, .int (nI (u 12)), .int (nI (u 13)), .int (nI (u 14)), .int (nI (u 15)), .int (nI (u 16))])), (g1, .inl (ax 1, 20, .inl (fun j => nI (xkd j)))), (g2, .inl (ax 1, 20, .inl (fun j => nI (xow j)))), (g3, .inl (ax 1, 20, .inl (fun j => nI (xsb j)))), (g4, .inl (ax 1, 20, .inl (fun j => nI (xf1 j)))), (g5, .inl (ax 1, 20, .inl (fun j => nI (xf2 j)))), (g6, .inl (ax 2, 20, .inl (fun j => nI (xte j)))), (g7, .inl (ax 2, 20, .inl (fun j => nI (xkp j)))), (g8, .inl (ax 0, 20, .inl xtm)), (g9, .inl (ax 1, 20, .inl (fun j => nI (xnm j)))), (ga, .inl (ax 1, 29, .inl (fun j => nI (xck j)))), (gb, .inl (ax 1, 29, .inl (fun j => nI (xco j))))]) (ixn [(u_160 0), (u_160 1), (u_160 2), (u_160 3), (u_108 4), (u_108 5), (u_108 6), (u_108 7), (u_108 8), (u_108 9), 0, (u_108 11), (u_108 12), (u_108 13), (u_108 14), (u_108 15), (u_108 16)]) x_132 x_133 x_134 (sup x_135 s9 (u_108 10)) x_136 x_137 x_138 x_139 x_140 x_141 x_142 x_143 x_144 x_145 x_146 x_147) hP hD [0, 17, 18, 19, 1, 2, 3, 4, 5, 6, 7, 8, 9, 10, 11, 12, 13, 14, 15, 16] (by decide) rfl
    have hex0 : okf ((u_160 1)) (lst ((u_108 13)) ((u_108 7)) x_132 x_133 x_134 (sup x_135 s9 (u_108 10)) x_136 x_137 x_138 x_139 x_146 x_147 x_142 x_143 x_144 x_145) := hL_171
    have hex1 : okf ((u_160 1)) (cls ln ((u_108 13)) x_146) := (fun q => (hF q).1)
    have hex2 : okf ((u_160 1)) (sae s9 ln kd ow sb f1 f2 te kp nm en kc x_132 x_133 x_134 (sup x_135 s9 (u_108 10)) x_136 x_137 x_138 x_139 x_146 x_147 tm x_142) := (fun q => (hF q).2.1)
    have hex3 : okf ((u_160 1)) (lsc ((u_108 13)) ((u_108 7)) x_132 (sup x_135 s9 (u_108 10)) x_136 x_137 x_138 x_139 x_147 x_142 x_143 x_144 x_145 s9) := (fun q => (hF q).2.2.1)
    have hex4 : okf ((u_160 1)) (clm ((u_108 14)) ((u_108 12)) x_140 x_141 ((u_108 13)) x_132 x_139) := hC_172
    have hex5 : okf ((u_160 1)) (ndv x_143 x_144 x_145 ((u_108 7))) := (hx_153.back hs_168)
    have hex6 : bts x_143 ((u_108 8)) := (by assumption)
    have hex7 : okf ((u_160 1)) (∀ i, i < z9 → tsn x_143 x_144 x_145 i = tsn fo fl fr i) := (fun q => (hF q).2.2.2)
    have hg8 : H_161.size ≤ s.heap.size + ((u_108 8) - cp) := by omega
    have hg9 : tsl H_161 ≤ tsl s.heap + (6 * ((u_108 8) - cp)) := by omega
    have hsp0 : rst tk ((u_160 1)) ((u_160 2)) ((u_160 3)) ((u_160 0)) cn := (by assumption)
    have hsp1 : (u_160 0) ≤ cn := (by first | assumption | omega)
    have hsp2 : (u_160 2) < 128 := (by first | assumption | omega)
    have hsp3 : (u_160 3) < 1024 := (by first | assumption | omega)
    have hsp4 : ta ≤ (u_160 0) := (by first | assumption | omega)
    have hsp5 : ftf tf ≤ ftf ((u_160 1)) := (by first | assumption | omega)
    have hsp6 : z9 ≤ (u_108 7) := (by first | assumption | omega)
    have hsp7 : (u_108 7) + ta ≤ z9 + (u_160 0) + 2 * ((u_108 13) - ln) + 2 := (by first | assumption | omega)
    have hsp8 : (u_108 7) ≤ (u_108 8) := (by first | assumption | omega)
    have hsp9 : cp ≤ (u_108 8) := (by first | assumption | omega)
    have hsp10 : (u_108 8) ≤ MX := (by first | assumption | omega)
    have hsp11 : (u_108 11) ≤ 1 := (by first | assumption | omega)
    have hsp12 : (u_108 12) ≤ 29 := (by first | assumption | omega)
    have hsp13 : ln ≤ (u_108 13) := (by first | assumption | omega)
    have hsp14 : (u_108 13) ≤ 20 := (by first | assumption | omega)
    have hsp15 : br ≤ (u_108 14) := (by first | assumption | omega)
    have hsp16 : (u_108 14) ≤ 4 := (by first | assumption | omega)
    have hsp17 : lp ≤ (u_108 15) := (by first | assumption | omega)
    have hsp18 : (u_108 15) ≤ 4 := (by first | assumption | omega)
    have hsp19 : (u_108 16) ≤ (u_108 15) := (by first | assumption | omega)
    exact W.vret hx hb hr (fun t ht hW => ⟨⟨ixn [(u_160 0), (u_160 1), (u_160 2), (u_160 3), (u_108 4), (u_108 5), (u_108 6), (u_108 7), (u_108 8), (u_108 9), 0, (u_108 11), (u_108 12), (u_108 13), (u_108 14), (u_108 15), (u_108 16)], rfl, ⟨hsp0, hsp1, hsp2, hsp3, hsp4, hsp5, hsp6, hsp7, hsp8, hsp9, hsp10, hsp11, hsp12, hsp13, hsp14, hsp15, hsp16, hsp17, hsp18, hsp19⟩, ⟨x_132, x_133, x_134, sup x_135 s9 (u_108 10), x_136, x_137, x_138, x_139, x_140, x_141, x_142, x_143, x_144, x_145, x_146, x_147, by rw [ht]; exact hg8, by rw [ht]; exact hg9, hex0, hex1, hex2, hex3, hex4, hex5, hex6, hex7, by rw [ht]; exact hP9, hD9⟩⟩, hS.F ht⟩) hS.2.2 d_Reader_loop_131
  · replace c_92 : u_46 2 = 14 := (nI_eq (a := u_46 2) (b := 14) (by first | exact Nat.lt_of_lt_of_le (by assumption) (by decide) | exact Nat.lt_of_le_of_lt (by assumption) (by decide) | omega) (by decide)).mp c_92
    obtain ⟨hok9, hts9⟩ := hs_49.go (by first | assumption | omega) (by first | assumption | omega)
    refine lv_aload_n hx hb d_Reader_loop_69 rfl (lv_at hl1 0 rfl) ?_
    refine va_get (D := D) (ci := 7) (v := .ref k0) (C := R_Reader) (T := F_Reader) (N := 5) hx hb hts i_Reader hown hK.1 hP 0 rfl rfl 0 (by decide) (hts _ wd_75) (fun _ h9 => h9) rfl d_Reader_loop_70 ?_
    obtain ⟨hPc, hDc, hFc, hCs⟩ := xw_sub3 (wc := [(k0, .inr (9, [.ref k1, .ref k2, .int (nI ts), .int (nI th), .int (nI (u_46 0)), .int (nI (u_46 1)), .int (nI (u_46 2)), .int (nI (u_46 3))])), (k1, .inl (ax 1, 400, .inl tb)), (k2, .inl (ax 0, 401, .inl (fun j => nI (tk j))))]) hP hD hS hA [1, 2, 3] (by decide) rfl
    have hz := xz_of hN hS
    refine va_callv (va_runV (As := []) (rest := []) ⟨hx, hb, hml, hown, hts⟩ (c_K_pass l D ax k0 k1 k2 tb tk (u_46 0) (u_46 1) (u_46 2) (u_46 3) cn ts th H_85.size hkz (by assumption) (by first | assumption | omega) (by first | assumption | omega) (by first | assumption | omega) (by first | assumption | omega)) (xcV (n := 0) hts wd_531 wd_2 wd_564 wd_529 wd_530 rfl rfl (by decide +kernel) ⟨(show (10) + 1 ≤ (210 + 20 * kf) by omega), (show 8 + (1 + 11) + (400) ≤ (8200 + 800 * kf) by omega)⟩) (xpV (ci := 9) (q0 := 0) (As := []) hPc hK hz hDc rfl rfl) rfl rfl hl1.1 rfl (lv_room (Nat.le_of_ble_eq_true rfl)) d_Reader_loop_73 ⟨(show (u_1 8 - cp + (u_46 8 - (u_1 8))) + (0) ≤ (MX - cp) by omega), (show (6 * (u_1 8 - cp) + (6 * (u_46 8 - (u_1 8)))) + (0) ≤ (6 * (MX - cp)) by omega)⟩) hS (fun q _ h => hFc q h) hFc (fun u_173 t H_174 locs ht hvm hw hB hz1 hk1 hS1 => ?_)
    try dsimp only at hw
    obtain ⟨hs_176, hs_177, hs_178, hs_179, hs_180, hs_181, hs_182, hs_183, hs_184, hs_185⟩ := hw
    obtain ⟨hP1, hD1⟩ := hB
    rw [ht] at hP1
    have hjn := xw_join3 (wl := [(r0, .inr (7, [.ref k0, .ref g0, .ref n0, .int (nI 1), .int (nI (u_46 9))])), (n0, .inr (4, [.ref (u_46 4), .ref (u_46 5), .ref (u_46 6), .int (nI (u_46 7))])), ((u_46 4), .inl (ax 1, u_46 8, .inl x_65)), ((u_46 5), .inl (ax 0, u_46 8, .inl x_66)), ((u_46 6), .inl (ax 0, u_46 8, .inl x_67)), (g0, .inr (2, [.ref n0, .ref g1, .ref g2, .ref g3, .ref g4, .ref g5, .ref g6, .ref g7, .ref g8, .ref g9, .ref ga, .ref gb, .int (nI (u_84 0)), .int (nI ln), .int (nI br), .int (nI lp), .int (nI va)])), (g1, .inl (ax 1, 20, .inl (fun j => nI (kd j)))), (g2, .inl (ax 1, 20, .inl (fun j => nI (ow j)))), (g3, .inl (ax 1, 20, .inl (fun j => nI (sb j)))), (g4, .inl (ax 1, 20, .inl (fun j => nI (f1 j)))), (g5, .inl (ax 1, 20, .inl (fun j => nI (f2 j)))), (g6, .inl (ax 2, 20, .inl (fun j => nI ((sup te s9 (u_1 10)) j)))), (g7, .inl (ax 2, 20, .inl (fun j => nI ((sup kp s9 (u_46 10)) j)))), (g8, .inl (ax 0, 20, .inl tm)), (g9, .inl (ax 1, 20, .inl (fun j => nI (nm j)))), (ga, .inl (ax 1, 29, .inl (fun j => nI (x_88 j)))), (gb, .inl (ax 1, 29, .inl (fun j => nI (x_89 j)))), (k0, .inr (9, [.ref k1, .ref k2, .int (nI ts), .int (nI th), .int (nI (u_173 0)), .int (nI (u_173 1)), .int (nI (u_173 2)), .int (nI (u_173 3))])), (k1, .inl (ax 1, 400, .inl tb)), (k2, .inl (ax 0, 401, .inl (fun j => nI (tk j))))]) hP hD [1, 2, 3] [0, 4, 5, 6, 7, 8, 9, 10, 11, 12, 13, 14, 15, 16, 17, 18, 19] hCs (by decide) (by decide) hk1 hFc hP1 hD1 rfl
    clear hP1 hD1
    clear hPc hDc hFc hCs hz hz1 hk1 ht hvm
    clear hP hD hS
    have hS := hS1
    obtain ⟨hP, hD⟩ := hjn
    clear hS1
    have hL_186 : okf (u_173 1) (lst ln (u_46 7) kd ow sb f1 f2 (sup te s9 (u_1 10)) (sup kp s9 (u_46 10)) nm en (sup (sup kc s9 (kc s9 + (u_1 7 - z9))) s9 ((sup kc s9 (kc s9 + (u_1 7 - z9))) s9 + (u_46 7 - u_1 7))) tm x_65 x_66 x_67) := hL_74.back hs_181
    have hC_187 : okf (u_173 1) (clm br (u_84 0) x_88 x_89 ln kd nm) := hC_91.back hs_181
    have hN_188 : okf (u_173 1) (ndv x_65 x_66 x_67 (u_46 7)) := hx_68.back hs_181
    refine lv_aload_n hx hb d_Reader_loop_76 rfl (lv_at hl1 0 rfl) ?_
    refine va_get (D := D) (ci := 7) (v := .ref g0) (C := R_Reader) (T := F_Reader) (N := 5) hx hb hts i_Reader hown hK.1 hP 0 rfl rfl 1 (by decide) (hts _ wd_76) (fun _ h9 => h9) rfl d_Reader_loop_77 ?_
    refine lv_iload_n hx hb d_Reader_loop_80 rfl (lv_at hl1 1 rfl) ?_
    refine lv_aload_n hx hb d_Reader_loop_81 rfl (lv_at hl1 0 rfl) ?_
    refine lv_iconst (v := 0) hx hb d_Reader_loop_82 (by decide) ?_
    obtain ⟨hPc, hDc, hFc, hCs⟩ := xw_sub3 (wc := [(r0, .inr (7, [.ref k0, (.ref g0), .ref n0, .int (nI 1), .int (nI (u_46 9))])), (k0, .inr (9, [.ref k1, .ref k2, .int (nI ts), .int (nI th), .int (nI (u_173 0)), .int (nI (u_173 1)), .int (nI (u_173 2)), .int (nI (u_173 3))])), (k1, .inl (ax 1, 400, .inl tb)), (k2, .inl (ax 0, 401, .inl (fun j => nI (tk j))))]) hP hD hS hA [0, 17, 18, 19] (by decide) rfl
    have hz := xz_of hN hS
    refine va_calli (va_runV (As := [.int 0]) (rest := [.int (nI s9), .ref g0]) ⟨hx, hb, hml, hown, hts⟩ (c_R_term l D ax r0 k0 k1 k2 (.ref g0) tb tk (u_173 0) (u_173 1) (u_173 2) (u_173 3) cn ts th 1 (u_46 9) n0 0 H_174.size hkz (by assumption) (by first | assumption | omega) (by first | assumption | omega) (by first | assumption | omega) (by first | assumption | omega) (by first | assumption | omega)) (xcV (n := 1) hts wd_563 wd_3 wd_560 wd_562 ps_12 rfl rfl (by decide +kernel) ⟨(show (30) + 1 ≤ (210 + 20 * kf) by omega), (show 8 + (5 + 11) + (1200) ≤ (8200 + 800 * kf) by omega)⟩) (xpV (ci := 7) (q0 := 0) (As := [.int 0]) hPc hK hz hDc rfl rfl) rfl rfl hl1.1 rfl (lv_room (Nat.le_of_ble_eq_true rfl)) d_Reader_loop_83 ⟨(show (u_1 8 - cp + (u_46 8 - (u_1 8))) + (0) ≤ (MX - cp) by omega), (show (6 * (u_1 8 - cp) + (6 * (u_46 8 - (u_1 8)))) + (0) ≤ (6 * (MX - cp)) by omega)⟩) hS (fun q _ h => hFc q h) hFc (fun r_191 u_189 t H_190 locs ht hvm hw hB hz1 hk1 hS1 => ?_)
    try dsimp only at hw
    obtain ⟨hw, hs_192, hs_193, hs_194, hs_195, hs_196, hs_197, hs_198, hs_199⟩ := hw
    subst hw
    obtain ⟨hP1, hD1⟩ := hB
    rw [ht] at hP1
    have hjn := xw_join3 (wl := [(n0, .inr (4, [.ref (u_46 4), .ref (u_46 5), .ref (u_46 6), .int (nI (u_46 7))])), ((u_46 4), .inl (ax 1, u_46 8, .inl x_65)), ((u_46 5), .inl (ax 0, u_46 8, .inl x_66)), ((u_46 6), .inl (ax 0, u_46 8, .inl x_67)), (g0, .inr (2, [.ref n0, .ref g1, .ref g2, .ref g3, .ref g4, .ref g5, .ref g6, .ref g7, .ref g8, .ref g9, .ref ga, .ref gb, .int (nI (u_84 0)), .int (nI ln), .int (nI br), .int (nI lp), .int (nI va)])), (g1, .inl (ax 1, 20, .inl (fun j => nI (kd j)))), (g2, .inl (ax 1, 20, .inl (fun j => nI (ow j)))), (g3, .inl (ax 1, 20, .inl (fun j => nI (sb j)))), (g4, .inl (ax 1, 20, .inl (fun j => nI (f1 j)))), (g5, .inl (ax 1, 20, .inl (fun j => nI (f2 j)))), (g6, .inl (ax 2, 20, .inl (fun j => nI ((sup te s9 (u_1 10)) j)))), (g7, .inl (ax 2, 20, .inl (fun j => nI ((sup kp s9 (u_46 10)) j)))), (g8, .inl (ax 0, 20, .inl tm)), (g9, .inl (ax 1, 20, .inl (fun j => nI (nm j)))), (ga, .inl (ax 1, 29, .inl (fun j => nI (x_88 j)))), (gb, .inl (ax 1, 29, .inl (fun j => nI (x_89 j)))), (r0, .inr (7, [.ref k0, .ref g0, .ref n0, .int (nI 1), .int (nI (u_46 9))])), (k0, .inr (9, [.ref k1, .ref k2, .int (nI ts), .int (nI th), .int (nI (u_189 0)), .int (nI (u_189 1)), .int (nI (u_189 2)), .int (nI (u_189 3))])), (k1, .inl (ax 1, 400, .inl tb)), (k2, .inl (ax 0, 401, .inl (fun j => nI (tk j))))]) hP hD [0, 17, 18, 19] [1, 2, 3, 4, 5, 6, 7, 8, 9, 10, 11, 12, 13, 14, 15, 16] hCs (by decide) (by decide) hk1 hFc hP1 hD1 rfl
    clear hP1 hD1
    clear hPc hDc hFc hCs hz hz1 hk1 ht hvm
    clear hP hD hS
    have hS := hS1
    obtain ⟨hP, hD⟩ := hjn
    clear hS1
    have hL_200 : okf (u_189 1) (lst ln (u_46 7) kd ow sb f1 f2 (sup te s9 (u_1 10)) (sup kp s9 (u_46 10)) nm en (sup (sup kc s9 (kc s9 + (u_1 7 - z9))) s9 ((sup kc s9 (kc s9 + (u_1 7 - z9))) s9 + (u_46 7 - u_1 7))) tm x_65 x_66 x_67) := hL_186.back hs_197
    have hC_201 : okf (u_189 1) (clm br (u_84 0) x_88 x_89 ln kd nm) := hC_187.back hs_197
    have hN_202 : okf (u_189 1) (ndv x_65 x_66 x_67 (u_46 7)) := hN_188.back hs_197
    obtain ⟨hPc, hDc, hFc, hCs⟩ := xw_sub3 (wc := [(g0, .inr (2, [.ref n0, .ref g1, .ref g2, .ref g3, .ref g4, .ref g5, .ref g6, .ref g7, .ref g8, .ref g9, .ref ga, .ref gb, .int (nI (u_84 0)), .int (nI ln), .int (nI br), .int (nI lp), .int (nI va)])), (g1, .inl (ax 1, 20, .inl (fun j => nI (kd j)))), (g2, .inl (ax 1, 20, .inl (fun j => nI (ow j)))), (g3, .inl (ax 1, 20, .inl (fun j => nI (sb j)))), (g4, .inl (ax 1, 20, .inl (fun j => nI (f1 j)))), (g5, .inl (ax 1, 20, .inl (fun j => nI (f2 j)))), (g6, .inl (ax 2, 20, .inl (fun j => nI ((sup te s9 (u_1 10)) j)))), (g7, .inl (ax 2, 20, .inl (fun j => nI ((sup kp s9 (u_46 10)) j)))), (g8, .inl (ax 0, 20, .inl tm)), (g9, .inl (ax 1, 20, .inl (fun j => nI (nm j)))), (ga, .inl (ax 1, 29, .inl (fun j => nI (x_88 j)))), (gb, .inl (ax 1, 29, .inl (fun j => nI (x_89 j))))]) hP hD hS hA [4, 5, 6, 7, 8, 9, 10, 11, 12, 13, 14, 15] (by decide) rfl
    have hz := xz_of hN hS
    refine va_callv (va_runV (As := [.int (nI s9), .int (nI (u_189 4))]) (rest := []) ⟨hx, hb, hml, hown, hts⟩ (c_L_addVariant l D ax g0 g1 g2 g3 g4 g5 g6 g7 g8 g9 ga gb (u_84 0) ln br lp va kd ow sb f1 f2 (sup te s9 (u_1 10)) (sup kp s9 (u_46 10)) nm x_88 x_89 tm n0 s9 (nI (u_189 4)) H_190.size (by first | assumption | omega) (by first | assumption | omega)) (xcV (n := 2) hts wd_646 wd_12 wd_643 wd_644 wd_645 rfl rfl (by decide +kernel) ⟨(show (10) + 1 ≤ (210 + 20 * kf) by omega), (show 8 + (3 + 11) + (400) ≤ (8200 + 800 * kf) by omega)⟩) (xpV (ci := 2) (q0 := 0) (As := [.int (nI s9), .int (nI (u_189 4))]) hPc hK hz hDc rfl rfl) rfl rfl hl1.1 rfl (lv_room (Nat.le_of_ble_eq_true rfl)) d_Reader_loop_86 ⟨(show (u_1 8 - cp + (u_46 8 - (u_1 8))) + (0) ≤ (MX - cp) by omega), (show (6 * (u_1 8 - cp) + (6 * (u_46 8 - (u_1 8)))) + (0) ≤ (6 * (MX - cp)) by omega)⟩) hS (fun q _ h => hFc q h) hFc (fun u_203 t H_204 locs ht hvm hw hB hz1 hk1 hS1 => ?_)
    try dsimp only at hw
    obtain ⟨hP1, hD1⟩ := hB
    rw [ht] at hP1
    have hjn := xw_join3 (wl := [(n0, .inr (4, [.ref (u_46 4), .ref (u_46 5), .ref (u_46 6), .int (nI (u_46 7))])), ((u_46 4), .inl (ax 1, u_46 8, .inl x_65)), ((u_46 5), .inl (ax 0, u_46 8, .inl x_66)), ((u_46 6), .inl (ax 0, u_46 8, .inl x_67)), (r0, .inr (7, [.ref k0, .ref g0, .ref n0, .int (nI 1), .int (nI (u_46 9))])), (k0, .inr (9, [.ref k1, .ref k2, .int (nI ts), .int (nI th), .int (nI (u_189 0)), .int (nI (u_189 1)), .int (nI (u_189 2)), .int (nI (u_189 3))])), (k1, .inl (ax 1, 400, .inl tb)), (k2, .inl (ax 0, 401, .inl (fun j => nI (tk j)))), (g0, .inr (2, [.ref n0, .ref g1, .ref g2, .ref g3, .ref g4, .ref g5, .ref g6, .ref g7, .ref g8, .ref g9, .ref ga, .ref gb, .int (nI (u_84 0)), .int (nI ln), .int (nI br), .int (nI lp), .int (nI (va + 1))])), (g1, .inl (ax 1, 20, .inl (fun j => nI (kd j)))), (g2, .inl (ax 1, 20, .inl (fun j => nI (ow j)))), (g3, .inl (ax 1, 20, .inl (fun j => nI (sb j)))), (g4, .inl (ax 1, 20, .inl (fun j => nI (f1 j)))), (g5, .inl (ax 1, 20, .inl (fun j => nI (f2 j)))), (g6, .inl (ax 2, 20, .inl (fun j => nI ((sup te s9 (u_1 10)) j)))), (g7, .inl (ax 2, 20, .inl (fun j => nI ((sup kp s9 (u_46 10)) j)))), (g8, .inl (ax 0, 20, .inl (upd tm s9 (nI (u_189 4))))), (g9, .inl (ax 1, 20, .inl (fun j => nI (sup nm s9 (6 + va) j)))), (ga, .inl (ax 1, 29, .inl (fun j => nI (x_88 j)))), (gb, .inl (ax 1, 29, .inl (fun j => nI (x_89 j))))]) hP hD [4, 5, 6, 7, 8, 9, 10, 11, 12, 13, 14, 15] [0, 1, 2, 3, 16, 17, 18, 19] hCs (by decide) (by decide) hk1 hFc hP1 hD1 rfl
    clear hP1 hD1
    clear hPc hDc hFc hCs hz hz1 hk1 ht hvm
    clear hP hD hS
    have hS := hS1
    obtain ⟨hP, hD⟩ := hjn
    clear hS1
    have hL_206 : okf (u_189 1) (lst ln (u_46 7) kd ow sb f1 f2 (sup te s9 (u_1 10)) (sup kp s9 (u_46 10)) (sup nm s9 (6 + va)) en (sup (sup kc s9 (kc s9 + (u_1 7 - z9))) s9 ((sup kc s9 (kc s9 + (u_1 7 - z9))) s9 + (u_46 7 - u_1 7))) (upd tm s9 (nI (u_189 4))) x_65 x_66 x_67) := (fun q => (hL_200 q).same (by first | assumption | omega) (hop (okf.of (by first | assumption | omega) q)).1 (fun i hi => rfl) (fun i hi => rfl) (fun i hi => rfl) (fun i hi => rfl) (fun i hi => sup_ne hi) (fun i hi => upd_ne hi))
    have hC_207 : okf (u_189 1) (clm br (u_84 0) x_88 x_89 ln kd (sup nm s9 (6 + va))) := (fun q => (hC_201 q).up (fun i hi => ⟨rfl, fun h => by unfold sup; split; (first | omega | exact h); (first | exact h | omega)⟩))
    refine lv_aload_n hx hb d_Reader_loop_89 rfl (lv_at hl1 0 rfl) ?_
    refine va_get (D := D) (ci := 7) (v := .ref g0) (C := R_Reader) (T := F_Reader) (N := 5) hx hb hts i_Reader hown hK.1 hP 4 rfl rfl 1 (by decide) (hts _ wd_76) (fun _ h9 => h9) rfl d_Reader_loop_90 ?_
    refine lv_iconst (v := 3) hx hb d_Reader_loop_93 (by decide) ?_
    refine lv_iload_n hx hb d_Reader_loop_94 rfl (lv_at hl1 1 rfl) ?_
    obtain ⟨hPc, hDc, hFc, hCs⟩ := xw_sub3 (wc := [(g0, .inr (2, [.ref n0, .ref g1, .ref g2, .ref g3, .ref g4, .ref g5, .ref g6, .ref g7, .ref g8, .ref g9, .ref ga, .ref gb, .int (nI (u_84 0)), .int (nI ln), .int (nI br), .int (nI lp), .int (nI (va + 1))])), (g1, .inl (ax 1, 20, .inl (fun j => nI (kd j)))), (g2, .inl (ax 1, 20, .inl (fun j => nI (ow j)))), (g3, .inl (ax 1, 20, .inl (fun j => nI (sb j)))), (g4, .inl (ax 1, 20, .inl (fun j => nI (f1 j)))), (g5, .inl (ax 1, 20, .inl (fun j => nI (f2 j)))), (g6, .inl (ax 2, 20, .inl (fun j => nI ((sup te s9 (u_1 10)) j)))), (g7, .inl (ax 2, 20, .inl (fun j => nI ((sup kp s9 (u_46 10)) j)))), (g8, .inl (ax 0, 20, .inl (upd tm s9 (nI (u_189 4))))), (g9, .inl (ax 1, 20, .inl (fun j => nI ((sup nm s9 (6 + va)) j)))), (ga, .inl (ax 1, 29, .inl (fun j => nI (x_88 j)))), (gb, .inl (ax 1, 29, .inl (fun j => nI (x_89 j))))]) hP hD hS hA [8, 9, 10, 11, 12, 13, 14, 15, 16, 17, 18, 19] (by decide) rfl
    have hz := xz_of hN hS
    refine va_callv (va_runV (As := [.int 3, .int (nI s9)]) (rest := []) ⟨hx, hb, hml, hown, hts⟩ (c_L_addClaim l D ax g0 g1 g2 g3 g4 g5 g6 g7 g8 g9 ga gb (u_84 0) ln br lp (va + 1) kd ow sb f1 f2 (sup te s9 (u_1 10)) (sup kp s9 (u_46 10)) (sup nm s9 (6 + va)) x_88 x_89 (upd tm s9 (nI (u_189 4))) n0 3 s9 H_204.size (by first | assumption | omega) (by assumption) (by first | assumption | omega)) (xcV (n := 2) hts wd_613 wd_12 wd_642 wd_611 wd_612 rfl rfl (by decide +kernel) ⟨(show (10) + 1 ≤ (210 + 20 * kf) by omega), (show 8 + (3 + 11) + (400) ≤ (8200 + 800 * kf) by omega)⟩) (xpV (ci := 2) (q0 := 0) (As := [.int 3, .int (nI s9)]) hPc hK hz hDc rfl rfl) rfl rfl hl1.1 rfl (lv_room (Nat.le_of_ble_eq_true rfl)) d_Reader_loop_95 ⟨(show (u_1 8 - cp + (u_46 8 - (u_1 8))) + (0) ≤ (MX - cp) by omega), (show (6 * (u_1 8 - cp) + (6 * (u_46 8 - (u_1 8)))) + (0) ≤ (6 * (MX - cp)) by omega)⟩) hS (fun q _ h => hFc q h) hFc (fun u_208 t H_209 locs ht hvm hw hB hz1 hk1 hS1 => ?_)
    try dsimp only at hw
    have hs_211 := hw
    obtain ⟨x_212, x_213, hx_214, hP1, hD1⟩ := hB
    rw [ht] at hP1
    have hjn := xw_join3 (wl := [(n0, .inr (4, [.ref (u_46 4), .ref (u_46 5), .ref (u_46 6), .int (nI (u_46 7))])), ((u_46 4), .inl (ax 1, u_46 8, .inl x_65)), ((u_46 5), .inl (ax 0, u_46 8, .inl x_66)), ((u_46 6), .inl (ax 0, u_46 8, .inl x_67)), (r0, .inr (7, [.ref k0, .ref g0, .ref n0, .int (nI 1), .int (nI (u_46 9))])), (k0, .inr (9, [.ref k1, .ref k2, .int (nI ts), .int (nI th), .int (nI (u_189 0)), .int (nI (u_189 1)), .int (nI (u_189 2)), .int (nI (u_189 3))])), (k1, .inl (ax 1, 400, .inl tb)), (k2, .inl (ax 0, 401, .inl (fun j => nI (tk j)))), (g0, .inr (2, [.ref n0, .ref g1, .ref g2, .ref g3, .ref g4, .ref g5, .ref g6, .ref g7, .ref g8, .ref g9, .ref ga, .ref gb, .int (nI (u_208 0)), .int (nI ln), .int (nI br), .int (nI lp), .int (nI (va + 1))])), (g1, .inl (ax 1, 20, .inl (fun j => nI (kd j)))), (g2, .inl (ax 1, 20, .inl (fun j => nI (ow j)))), (g3, .inl (ax 1, 20, .inl (fun j => nI (sb j)))), (g4, .inl (ax 1, 20, .inl (fun j => nI (f1 j)))), (g5, .inl (ax 1, 20, .inl (fun j => nI (f2 j)))), (g6, .inl (ax 2, 20, .inl (fun j => nI ((sup te s9 (u_1 10)) j)))), (g7, .inl (ax 2, 20, .inl (fun j => nI ((sup kp s9 (u_46 10)) j)))), (g8, .inl (ax 0, 20, .inl (upd tm s9 (nI (u_189 4))))), (g9, .inl (ax 1, 20, .inl (fun j => nI ((sup nm s9 (6 + va)) j)))), (ga, .inl (ax 1, 29, .inl (fun j => nI (x_212 j)))), (gb, .inl (ax 1, 29, .inl (fun j => nI (x_213 j))))]) hP hD [8, 9, 10, 11, 12, 13, 14, 15, 16, 17, 18, 19] [0, 1, 2, 3, 4, 5, 6, 7] hCs (by decide) (by decide) hk1 hFc hP1 hD1 rfl
    clear hP1 hD1
    clear hPc hDc hFc hCs hz hz1 hk1 ht hvm
    clear hP hD hS
    have hS := hS1
    obtain ⟨hP, hD⟩ := hjn
    clear hS1
    have hC_215 : okf (u_189 1) (clm br (u_208 0) x_212 x_213 ln kd (sup nm s9 (6 + va))) := (fun q => (hC_207 q).one hx_214 (by first | assumption | omega) (Or.inr (Or.inr ⟨rfl, (hop (okf.of (by first | assumption | omega) q)).2.1, by rw [sup_eq]; omega⟩)))
    clear hx_214
    refine lv_aload_n hx hb d_Reader_loop_98 rfl (lv_at hl1 0 rfl) ?_
    refine va_get (D := D) (ci := 7) (v := .ref k0) (C := R_Reader) (T := F_Reader) (N := 5) hx hb hts i_Reader hown hK.1 hP 4 rfl rfl 0 (by decide) (hts _ wd_75) (fun _ h9 => h9) rfl d_Reader_loop_99 ?_
    refine lv_bipush (v := 15) hx hb d_Reader_loop_102 (by decide) ?_
    obtain ⟨hPc, hDc, hFc, hCs⟩ := xw_sub3 (wc := [(k0, .inr (9, [.ref k1, .ref k2, .int (nI ts), .int (nI th), .int (nI (u_189 0)), .int (nI (u_189 1)), .int (nI (u_189 2)), .int (nI (u_189 3))])), (k1, .inl (ax 1, 400, .inl tb)), (k2, .inl (ax 0, 401, .inl (fun j => nI (tk j))))]) hP hD hS hA [5, 6, 7] (by decide) rfl
    have hz := xz_of hN hS
    refine va_callv (va_runV (As := [.int 15]) (rest := []) ⟨hx, hb, hml, hown, hts⟩ (c_K_need l D ax k0 k1 k2 tb tk (u_189 0) (u_189 1) (u_189 2) (u_189 3) cn ts th 15 H_209.size hkz (by assumption) (by first | assumption | omega) (by first | assumption | omega) (by first | assumption | omega) (by first | assumption | omega) (by first | assumption | omega)) (xcV (n := 1) hts wd_571 wd_2 wd_568 wd_569 wd_570 rfl rfl (by decide +kernel) ⟨(show (20) + 1 ≤ (210 + 20 * kf) by omega), (show 8 + (2 + 11) + (800) ≤ (8200 + 800 * kf) by omega)⟩) (xpV (ci := 9) (q0 := 0) (As := [.int 15]) hPc hK hz hDc rfl rfl) rfl rfl hl1.1 rfl (lv_room (Nat.le_of_ble_eq_true rfl)) d_Reader_loop_104 ⟨(show (u_1 8 - cp + (u_46 8 - (u_1 8))) + (0) ≤ (MX - cp) by omega), (show (6 * (u_1 8 - cp) + (6 * (u_46 8 - (u_1 8)))) + (0) ≤ (6 * (MX - cp)) by omega)⟩) hS (fun q _ h => hFc q h) hFc (fun u_216 t H_217 locs ht hvm hw hB hz1 hk1 hS1 => ?_)
    try dsimp only at hw
    obtain ⟨hs_219, hs_220, hs_221, hs_222, hs_223, hs_224, hs_225, hs_226⟩ := hw
    obtain ⟨hP1, hD1⟩ := hB
    rw [ht] at hP1
    have hjn := xw_join3 (wl := [(n0, .inr (4, [.ref (u_46 4), .ref (u_46 5), .ref (u_46 6), .int (nI (u_46 7))])), ((u_46 4), .inl (ax 1, u_46 8, .inl x_65)), ((u_46 5), .inl (ax 0, u_46 8, .inl x_66)), ((u_46 6), .inl (ax 0, u_46 8, .inl x_67)), (r0, .inr (7, [.ref k0, .ref g0, .ref n0, .int (nI 1), .int (nI (u_46 9))])), (g0, .inr (2, [.ref n0, .ref g1, .ref g2, .ref g3, .ref g4, .ref g5, .ref g6, .ref g7, .ref g8, .ref g9, .ref ga, .ref gb, .int (nI (u_208 0)), .int (nI ln), .int (nI br), .int (nI lp), .int (nI (va + 1))])), (g1, .inl (ax 1, 20, .inl (fun j => nI (kd j)))), (g2, .inl (ax 1, 20, .inl (fun j => nI (ow j)))), (g3, .inl (ax 1, 20, .inl (fun j => nI (sb j)))), (g4, .inl (ax 1, 20, .inl (fun j => nI (f1 j)))), (g5, .inl (ax 1, 20, .inl (fun j => nI (f2 j)))), (g6, .inl (ax 2, 20, .inl (fun j => nI ((sup te s9 (u_1 10)) j)))), (g7, .inl (ax 2, 20, .inl (fun j => nI ((sup kp s9 (u_46 10)) j)))), (g8, .inl (ax 0, 20, .inl (upd tm s9 (nI (u_189 4))))), (g9, .inl (ax 1, 20, .inl (fun j => nI ((sup nm s9 (6 + va)) j)))), (ga, .inl (ax 1, 29, .inl (fun j => nI (x_212 j)))), (gb, .inl (ax 1, 29, .inl (fun j => nI (x_213 j)))), (k0, .inr (9, [.ref k1, .ref k2, .int (nI ts), .int (nI th), .int (nI (u_216 0)), .int (nI (u_216 1)), .int (nI (u_216 2)), .int (nI (u_216 3))])), (k1, .inl (ax 1, 400, .inl tb)), (k2, .inl (ax 0, 401, .inl (fun j => nI (tk j))))]) hP hD [5, 6, 7] [0, 1, 2, 3, 4, 8, 9, 10, 11, 12, 13, 14, 15, 16, 17, 18, 19] hCs (by decide) (by decide) hk1 hFc hP1 hD1 rfl
    clear hP1 hD1
    clear hPc hDc hFc hCs hz hz1 hk1 ht hvm
    clear hP hD hS
    have hS := hS1
    obtain ⟨hP, hD⟩ := hjn
    clear hS1
    have hL_227 : okf (u_216 1) (lst ln (u_46 7) kd ow sb f1 f2 (sup te s9 (u_1 10)) (sup kp s9 (u_46 10)) (sup nm s9 (6 + va)) en (sup (sup kc s9 (kc s9 + (u_1 7 - z9))) s9 ((sup kc s9 (kc s9 + (u_1 7 - z9))) s9 + (u_46 7 - u_1 7))) (upd tm s9 (nI (u_189 4))) x_65 x_66 x_67) := hL_206.back hs_224
    have hC_228 : okf (u_216 1) (clm br (u_208 0) x_212 x_213 ln kd (sup nm s9 (6 + va))) := hC_215.back hs_224
    have hN_229 : okf (u_216 1) (ndv x_65 x_66 x_67 (u_46 7)) := hN_202.back hs_224
    have hO_230 : okf (u_216 1) (s9 = 4294967295 ∨ (s9 < ln ∧ en s9 = 100)) := fun q => Or.inr ⟨by omega, (hop (okf.of (by first | assumption | omega) q)).1⟩
    refine lv_aload_n hx hb d_Reader_loop_107 rfl (lv_at hl1 0 rfl) ?_
    refine va_get (D := D) (ci := 7) (v := .ref g0) (C := R_Reader) (T := F_Reader) (N := 5) hx hb hts i_Reader hown hK.1 hP 4 rfl rfl 1 (by decide) (hts _ wd_76) (fun _ h9 => h9) rfl d_Reader_loop_108 ?_
    refine va_get (D := D) (ci := 2) (v := .ref g4) (C := R_Listing) (T := F_Listing) (N := 17) hx hb hts i_Listing hown hK.1 hP 5 rfl rfl 4 (by decide) (hts _ wd_280) (fun _ h9 => h9) rfl d_Reader_loop_111 ?_
    refine lv_iload_n hx hb d_Reader_loop_114 rfl (lv_at hl1 1 rfl) ?_
    refine lv_aload_n hx hb d_Reader_loop_115 rfl (lv_at hl1 0 rfl) ?_
    refine lv_iload_n hx hb d_Reader_loop_116 rfl (lv_at hl1 1 rfl) ?_
    obtain ⟨hPc, hDc, hFc, hCs⟩ := xw_sub3 (wc := [(r0, .inr (7, [.ref k0, .ref g0, .ref n0, .int (nI 1), .int (nI (u_46 9))])), (k0, .inr (9, [.ref k1, .ref k2, .int (nI ts), .int (nI th), .int (nI (u_216 0)), .int (nI (u_216 1)), .int (nI (u_216 2)), .int (nI (u_216 3))])), (k1, .inl (ax 1, 400, .inl tb)), (k2, .inl (ax 0, 401, .inl (fun j => nI (tk j)))), (n0, .inr (4, [.ref (u_46 4), .ref (u_46 5), .ref (u_46 6), .int (nI (u_46 7))])), ((u_46 4), .inl (ax 1, u_46 8, .inl x_65)), ((u_46 5), .inl (ax 0, u_46 8, .inl x_66)), ((u_46 6), .inl (ax 0, u_46 8, .inl x_67)), (g0, .inr (2, [.ref n0, .ref g1, .ref g2, .ref g3, .ref g4, .ref g5, .ref g6, .ref g7, .ref g8, .ref g9, .ref ga, .ref gb, .int (nI (u_208 0)), .int (nI ln), .int (nI br), .int (nI lp), .int (nI (va + 1))])), (g1, .inl (ax 1, 20, .inl (fun j => nI (kd j)))), (g2, .inl (ax 1, 20, .inl (fun j => nI (ow j)))), (g3, .inl (ax 1, 20, .inl (fun j => nI (sb j)))), (g4, .inl (ax 1, 20, .inl (fun j => nI (f1 j)))), (g5, .inl (ax 1, 20, .inl (fun j => nI (f2 j)))), (g6, .inl (ax 2, 20, .inl (fun j => nI ((sup te s9 (u_1 10)) j)))), (g7, .inl (ax 2, 20, .inl (fun j => nI ((sup kp s9 (u_46 10)) j)))), (g8, .inl (ax 0, 20, .inl (upd tm s9 (nI (u_189 4))))), (g9, .inl (ax 1, 20, .inl (fun j => nI ((sup nm s9 (6 + va)) j)))), (ga, .inl (ax 1, 29, .inl (fun j => nI (x_212 j)))), (gb, .inl (ax 1, 29, .inl (fun j => nI (x_213 j))))]) hP hD hS hA [4, 17, 18, 19, 0, 1, 2, 3, 5, 6, 7, 8, 9, 10, 11, 12, 13, 14, 15, 16] (by decide) rfl
    have hz := xz_of hN hS
    refine wk_know (fun hk8 hk9 => ?_)
    refine va_calli (va_runV (As := [.int (nI s9)]) (rest := [.int (nI s9), .ref g4]) ⟨hx, hb, hml, hown, hts⟩ (c_R_statements l kf hst D ax r0 k0 k1 k2 tb tk (u_216 0) (u_216 1) (u_216 2) (u_216 3) cn ts th 1 (u_46 9) n0 (u_46 4) (u_46 5) (u_46 6) (u_46 8) (u_46 7) x_65 x_66 x_67 g0 g1 g2 g3 g4 g5 g6 g7 g8 g9 ga gb (u_208 0) ln br lp (va + 1) kd ow sb f1 f2 (sup te s9 (u_1 10)) (sup kp s9 (u_46 10)) (sup nm s9 (6 + va)) x_212 x_213 (upd tm s9 (nI (u_189 4))) MX en (sup (sup kc s9 (kc s9 + (u_1 7 - z9))) s9 ((sup kc s9 (kc s9 + (u_1 7 - z9))) s9 + (u_46 7 - u_1 7))) s9 H_217.size (tsl H_217) hkz (by assumption) (by first | assumption | omega) (by first | assumption | omega) (by first | assumption | omega) (by first | assumption | omega) (by first | assumption | omega) (by first | assumption | omega) (by first | assumption | omega) (by first | assumption | omega) (by assumption) (by assumption) (by first | assumption | omega) (by first | assumption | omega) (by first | assumption | omega) (by first | assumption | omega) (by first | assumption | omega) (by assumption) (by assumption) (by first | assumption | omega) (by assumption) (by assumption) (by first | assumption | omega)) (xcV (n := 1) hts wd_617 wd_3 wd_614 wd_616 ps_14 rfl rfl (by decide +kernel) ⟨(show (205 + 20 * kf) + 1 ≤ (210 + 20 * kf) by omega), (show 8 + (6 + 11) + (8100 + 800 * kf) ≤ (8200 + 800 * kf) by omega)⟩) (xpV3 (ci := 7) (q0 := 0) (As := [.int (nI s9)]) hPc hK hz hDc rfl rfl) rfl rfl hl1.1 rfl (lv_room (Nat.le_of_ble_eq_true rfl)) d_Reader_loop_117 ⟨(show (u_1 8 - cp + (u_46 8 - (u_1 8))) + (MX - (u_46 8)) ≤ (MX - cp) by omega), (show (6 * (u_1 8 - cp) + (6 * (u_46 8 - (u_1 8)))) + (6 * (MX - (u_46 8))) ≤ (6 * (MX - cp)) by omega)⟩) hS (fun q _ h => hFc q h) hFc (fun r_233 u_231 t H_232 locs ht hvm hw hB hz1 hk1 hS1 => ?_)
    try dsimp only at hw
    obtain ⟨hw, hs_234, hs_235, hs_236, hs_237, hs_238, hs_239, hs_240, hs_241, hs_242, hs_243, hs_244, hs_245, hs_246, hs_247, hs_248, hs_249, hs_250, hs_251, hs_252, hs_253, hs_254⟩ := hw
    subst hw
    obtain ⟨x_255, x_256, x_257, x_258, x_259, x_260, x_261, x_262, x_263, x_264, x_265, x_266, x_267, x_268, x_269, x_270, hg8, hg9, hx_271, hx_272, hx_273, hx_274, hx_275, hx_276, hx_277, hx_278, hP1, hD1⟩ := hB
    rw [ht] at hg8 hg9 hP1
    have hjn := xw_join3 (wl := [(r0, .inr (7, [.ref k0, .ref g0, .ref n0, .int (nI (u_231 11)), .int (nI (u_231 9))])), (k0, .inr (9, [.ref k1, .ref k2, .int (nI ts), .int (nI th), .int (nI (u_231 0)), .int (nI (u_231 1)), .int (nI (u_231 2)), .int (nI (u_231 3))])), (k1, .inl (ax 1, 400, .inl tb)), (k2, .inl (ax 0, 401, .inl (fun j => nI (tk j)))), (n0, .inr (4, [.ref (u_231 4), .ref (u_231 5), .ref (u_231 6), .int (nI (u_231 7))])), ((u_231 4), .inl (ax 1, u_231 8, .inl x_266)), ((u_231 5), .inl (ax 0, u_231 8, .inl x_267)), ((u_231 6), .inl (ax 0, u_231 8, .inl x_268)), (g0, .inr (2, [.ref n0, .ref g1, .ref g2, .ref g3, .ref g4, .ref g5, .ref g6, .ref g7, .ref g8, .ref g9, .ref ga, .ref gb, .int (nI (u_231 12)), .int (nI (u_231 13)), .int (nI (u_231 14)), .int (nI (u_231 15)), .int (nI (u_231 16))])), (g1, .inl (ax 1, 20, .inl (fun j => nI (x_255 j)))), (g2, .inl (ax 1, 20, .inl (fun j => nI (x_256 j)))), (g3, .inl (ax 1, 20, .inl (fun j => nI (x_257 j)))), (g4, .inl (ax 1, 20, .inl (fun j => nI (x_258 j)))), (g5, .inl (ax 1, 20, .inl (fun j => nI (x_259 j)))), (g6, .inl (ax 2, 20, .inl (fun j => nI (x_260 j)))), (g7, .inl (ax 2, 20, .inl (fun j => nI (x_261 j)))), (g8, .inl (ax 0, 20, .inl x_265)), (g9, .inl (ax 1, 20, .inl (fun j => nI (x_262 j)))), (ga, .inl (ax 1, 29, .inl (fun j => nI (x_263 j)))), (gb, .inl (ax 1, 29, .inl (fun j => nI (x_264 j))))]) hP hD [4, 17, 18, 19, 0, 1, 2, 3, 5, 6, 7, 8, 9, 10, 11, 12, 13, 14, 15, 16] [] hCs (by decide) (by decide) hk1 hFc hP1 hD1 rfl
    clear hP1 hD1
    clear hPc hDc hFc hCs hz hz1 hk1 ht hvm
    clear hP hD hS
    have hS := hS1
    obtain ⟨hP, hD⟩ := hjn
    clear hS1
    refine wk_narrow (k := u_1 8 - cp + (u_46 8 - (u_1 8)) + (u_231 8 - (u_46 8))) (n := 6 * (u_1 8 - cp) + (6 * (u_46 8 - (u_1 8))) + (6 * (u_231 8 - (u_46 8)))) (by first | assumption | omega) (by first | assumption | omega) ?_
    clear hk8 hk9 hg8 hg9
    refine lv_i2b (v := nI (u_231 10)) hx hb d_Reader_loop_120 (nb_i2bs hs_254) ?_
    refine va_bast hx hb hK.1 hP hD hS 12 1 rfl rfl (vp_in_nI (by first | assumption | omega) (by decide)) d_Reader_loop_121 (fun H_279 locs hP1 hD1 hS1 => ?_)
    rw [nI_clamp (by first | exact Nat.lt_of_lt_of_le (by assumption) (by decide) | exact Nat.lt_of_le_of_lt (by assumption) (by decide) | omega)] at hP1 hD1
    rw [xf_supbs x_258 s9 (u_231 10) hs_254] at hP1 hD1
    clear hP hD hS
    have hS := hS1
    have hW7 : (fun w9 : va_W => va_P D classes w9 H_279 ∧ va_D A w9) [(r0, .inr (7, [.ref k0, .ref g0, .ref n0, .int (nI (u_231 11)), .int (nI (u_231 9))])), (k0, .inr (9, [.ref k1, .ref k2, .int (nI ts), .int (nI th), .int (nI (u_231 0)), .int (nI (u_231 1)), .int (nI (u_231 2)), .int (nI (u_231 3))])), (k1, .inl (ax 1, 400, .inl tb)), (k2, .inl (ax 0, 401, .inl (fun j => nI (tk j)))), (n0, .inr (4, [.ref (u_231 4), .ref (u_231 5), .ref (u_231 6), .int (nI (u_231 7))])), ((u_231 4), .inl (ax 1, u_231 8, .inl x_266)), ((u_231 5), .inl (ax 0, u_231 8, .inl x_267)), ((u_231 6), .inl (ax 0, u_231 8, .inl x_268)), (g0, .inr (2, [.ref n0, .ref g1, .ref g2, .ref g3, .ref g4, .ref g5, .ref g6, .ref g7, .ref g8, .ref g9, .ref ga, .ref gb, .int (nI (u_231 12)), .int (nI (u_231 13)), .int (nI (u_231 14)), .int (nI (u_231 15)), .int (nI (u_231 16))])), (g1, .inl (ax 1, 20, .inl (fun j => nI (x_255 j)))), (g2, .inl (ax 1, 20, .inl (fun j => nI (x_256 j)))), (g3, .inl (ax 1, 20, .inl (fun j => nI (x_257 j)))), (g4, .inl (ax 1, 20, .inl (fun j => nI (sup x_258 s9 (u_231 10) j)))), (g5, .inl (ax 1, 20, .inl (fun j => nI (x_259 j)))), (g6, .inl (ax 2, 20, .inl (fun j => nI (x_260 j)))), (g7, .inl (ax 2, 20, .inl (fun j => nI (x_261 j)))), (g8, .inl (ax 0, 20, .inl x_265)), (g9, .inl (ax 1, 20, .inl (fun j => nI (x_262 j)))), (ga, .inl (ax 1, 29, .inl (fun j => nI (x_263 j)))), (gb, .inl (ax 1, 29, .inl (fun j => nI (x_264 j))))] := ⟨hP1, hD1⟩
    obtain ⟨hP, hD⟩ := hW7
    clear hP1 hD1 hS1
    have hE_280 : okf (u_231 1) (x_269 s9 = 100) := fun q => ((hx_273 q s9 (by first | assumption | omega)).2.2.2.2.2.2.2.2.1.trans (hop (okf.of (by first | assumption | omega) q)).1)
    have hL_281 : okf (u_231 1) (lst (u_231 13) (u_231 7) x_255 x_256 x_257 (sup x_258 s9 (u_231 10)) x_259 x_260 x_261 x_262 x_269 x_270 x_265 x_266 x_267 x_268) := (fun q => (hx_271 q).same (by first | assumption | omega) (hE_280 q) (fun i hi => sup_ne hi) (fun i hi => rfl) (fun i hi => rfl) (fun i hi => rfl) (fun i hi => rfl) (fun i hi => rfl))
    have hC_282 : okf (u_231 1) (clm (u_231 14) (u_231 12) x_263 x_264 (u_231 13) x_255 x_262) := hx_275
    refine lv_aload_n hx hb d_Reader_loop_122 rfl (lv_at hl1 0 rfl) ?_
    refine va_get (D := D) (ci := 7) (v := .ref k0) (C := R_Reader) (T := F_Reader) (N := 5) hx hb hts i_Reader hown hK.1 hP 0 rfl rfl 0 (by decide) (hts _ wd_75) (fun _ h9 => h9) rfl d_Reader_loop_123 ?_
    refine lv_bipush (v := 16) hx hb d_Reader_loop_126 (by decide) ?_
    obtain ⟨hPc, hDc, hFc, hCs⟩ := xw_sub3 (wc := [(k0, .inr (9, [.ref k1, .ref k2, .int (nI ts), .int (nI th), .int (nI (u_231 0)), .int (nI (u_231 1)), .int (nI (u_231 2)), .int (nI (u_231 3))])), (k1, .inl (ax 1, 400, .inl tb)), (k2, .inl (ax 0, 401, .inl (fun j => nI (tk j))))]) hP hD hS hA [1, 2, 3] (by decide) rfl
    have hz := xz_of hN hS
    refine va_callv (va_runV (As := [.int 16]) (rest := []) ⟨hx, hb, hml, hown, hts⟩ (c_K_need l D ax k0 k1 k2 tb tk (u_231 0) (u_231 1) (u_231 2) (u_231 3) cn ts th 16 H_279.size hkz (by assumption) (by first | assumption | omega) (by first | assumption | omega) (by first | assumption | omega) (by first | assumption | omega) (by first | assumption | omega)) (xcV (n := 1) hts wd_571 wd_2 wd_568 wd_569 wd_570 rfl rfl (by decide +kernel) ⟨(show (20) + 1 ≤ (210 + 20 * kf) by omega), (show 8 + (2 + 11) + (800) ≤ (8200 + 800 * kf) by omega)⟩) (xpV (ci := 9) (q0 := 0) (As := [.int 16]) hPc hK hz hDc rfl rfl) rfl rfl hl1.1 rfl (lv_room (Nat.le_of_ble_eq_true rfl)) d_Reader_loop_128 ⟨(show (u_1 8 - cp + (u_46 8 - (u_1 8)) + (u_231 8 - (u_46 8))) + (0) ≤ (MX - cp) by omega), (show (6 * (u_1 8 - cp) + (6 * (u_46 8 - (u_1 8))) + (6 * (u_231 8 - (u_46 8)))) + (0) ≤ (6 * (MX - cp)) by omega)⟩) hS (fun q _ h => hFc q h) hFc (fun u_283 t H_284 locs ht hvm hw hB hz1 hk1 hS1 => ?_)
    try dsimp only at hw
    obtain ⟨hs_286, hs_287, hs_288, hs_289, hs_290, hs_291, hs_292, hs_293⟩ := hw
    obtain ⟨hP1, hD1⟩ := hB
    rw [ht] at hP1
    have hjn := xw_join3 (wl := [(r0, .inr (7, [.ref k0, .ref g0, .ref n0, .int (nI (u_231 11)), .int (nI (u_231 9))])), (n0, .inr (4, [.ref (u_231 4), .ref (u_231 5), .ref (u_231 6), .int (nI (u_231 7))])), ((u_231 4), .inl (ax 1, u_231 8, .inl x_266)), ((u_231 5), .inl (ax 0, u_231 8, .inl x_267)), ((u_231 6), .inl (ax 0, u_231 8, .inl x_268)), (g0, .inr (2, [.ref n0, .ref g1, .ref g2, .ref g3, .ref g4, .ref g5, .ref g6, .ref g7, .ref g8, .ref g9, .ref ga, .ref gb, .int (nI (u_231 12)), .int (nI (u_231 13)), .int (nI (u_231 14)), .int (nI (u_231 15)), .int (nI (u_231 16))])), (g1, .inl (ax 1, 20, .inl (fun j => nI (x_255 j)))), (g2, .inl (ax 1, 20, .inl (fun j => nI (x_256 j)))), (g3, .inl (ax 1, 20, .inl (fun j => nI (x_257 j)))), (g4, .inl (ax 1, 20, .inl (fun j => nI (sup x_258 s9 (u_231 10) j)))), (g5, .inl (ax 1, 20, .inl (fun j => nI (x_259 j)))), (g6, .inl (ax 2, 20, .inl (fun j => nI (x_260 j)))), (g7, .inl (ax 2, 20, .inl (fun j => nI (x_261 j)))), (g8, .inl (ax 0, 20, .inl x_265)), (g9, .inl (ax 1, 20, .inl (fun j => nI (x_262 j)))), (ga, .inl (ax 1, 29, .inl (fun j => nI (x_263 j)))), (gb, .inl (ax 1, 29, .inl (fun j => nI (x_264 j)))), (k0, .inr (9, [.ref k1, .ref k2, .int (nI ts), .int (nI th), .int (nI (u_283 0)), .int (nI (u_283 1)), .int (nI (u_283 2)), .int (nI (u_283 3))])), (k1, .inl (ax 1, 400, .inl tb)), (k2, .inl (ax 0, 401, .inl (fun j => nI (tk j))))]) hP hD [1, 2, 3] [0, 4, 5, 6, 7, 8, 9, 10, 11, 12, 13, 14, 15, 16, 17, 18, 19] hCs (by decide) (by decide) hk1 hFc hP1 hD1 rfl
    clear hP1 hD1
    clear hPc hDc hFc hCs hz hz1 hk1 ht hvm
    clear hP hD hS
    have hS := hS1
    obtain ⟨hP, hD⟩ := hjn
    clear hS1
    have hL_294 : okf (u_283 1) (lst (u_231 13) (u_231 7) x_255 x_256 x_257 (sup x_258 s9 (u_231 10)) x_259 x_260 x_261 x_262 x_269 x_270 x_265 x_266 x_267 x_268) := hL_281.back hs_291
    have hC_295 : okf (u_283 1) (clm (u_231 14) (u_231 12) x_263 x_264 (u_231 13) x_255 x_262) := hC_282.back hs_291
    have hF : okf (u_283 1) ((cls ln (u_231 13) x_269) ∧ (sae s9 ln kd ow sb f1 f2 te kp nm en kc x_255 x_256 x_257 (sup x_258 s9 (u_231 10)) x_259 x_260 x_261 x_262 x_269 x_270 tm x_265) ∧ (lsc (u_231 13) (u_231 7) x_255 (sup x_258 s9 (u_231 10)) x_259 x_260 x_261 x_262 x_270 x_265 x_266 x_267 x_268 s9) ∧ (∀ i, i < z9 → tsn x_266 x_267 x_268 i = tsn fo fl fr i)) := by
      intro q
      have q1 : u_231 1 = 4294967295 := okf.of (by first | assumption | omega) q
      have qb : u_46 1 = 4294967295 := okf.of (by first | assumption | omega) q1
      have qa : u_1 1 = 4294967295 := okf.of (by first | assumption | omega) qb
      have qz : tf = 4294967295 := okf.of (by first | assumption | omega) qa
      have ha := hx_273 q1
      have hc9 := (Nat.lt_of_succ_le (Nat.le_of_eq (hs_16 qa))); have ht9 := hx_25 qa; have hk9 := hx_26 qa
      have hc8 := (Nat.lt_of_succ_le (Nat.le_of_eq (hs_61 qb))); have ht8 := hx_70 qb; have hk8 := hx_71 qb
      have hr1 := hx_274 q1
      obtain ⟨a1, a2, a3, a4, a5, a6, a7, a8, a9, a10, a11⟩ := ha s9 (by first | assumption | omega)
      obtain ⟨ho1, ho2, ho3⟩ := hop qz
      have hT1 := hx_278 q1; have hcl1 := hx_272 q1
      refine ⟨hcl1, ⟨fun i hi he => ?_, a1, a2, a3, a9⟩, ?_, fun i hi => (hT1 i (by first | assumption | omega)).trans ((hk8 i (by first | assumption | omega)).trans (hk9 i hi))⟩
      · obtain ⟨x1, x2, x3, x4, x5, x6, x7, x8, x9, x10, x11⟩ := ha i hi
        exact ⟨x1, x2, x3, (sup_ne he).trans x4, x5, x6.trans (sup_ne he), x7.trans (sup_ne he), x8.trans (sup_ne he), x9, x10.trans ((sup_ne he).trans (sup_ne he)), x11.trans (upd_ne he)⟩
      · have e8 : x_255 s9 = 12 := a1.trans ho2
        have e6 : x_260 s9 = u_1 10 := a6.trans sup_eq
        have e7 : x_261 s9 = u_46 10 := a7.trans sup_eq
        have e4 : (sup x_258 s9 (u_231 10)) s9 = u_231 10 := sup_eq
        have e10 := a10.trans sup_eq
        rw [sup_eq] at e10
        refine ⟨fun h => by omega, fun h => by omega, fun _ => ⟨by omega, by omega, ?_, by omega, by omega, ?_⟩, fun h => by omega⟩
        · rw [e6, e7, e10, hT1 _ (by first | assumption | omega), hT1 _ (by first | assumption | omega), hk8 _ (by first | assumption | omega)]; omega
        · exact Or.inr ⟨by rw [a8, sup_eq]; omega, by rw [a11, upd_eq]; exact hs_198⟩
    rw [← hQe]
    refine wk_know (fun hk8 hk9 => ?_)
    refine W.widen (k := MX - cp) (n := 6 * (MX - cp)) (by first | assumption | omega) (by first | assumption | omega) ?_
    obtain ⟨hP9, hD9⟩ := xw_sub2 (wc := (fun (u : Nat → Nat) (xkd : Nat → Nat) (xow : Nat → Nat) (xsb : Nat → Nat) (xf1 : Nat → Nat) (xf2 : Nat → Nat) (xte : Nat → Nat) (xkp : Nat → Nat) (xnm : Nat → Nat) (xck : Nat → Nat) (xco : Nat → Nat) (xtm : Nat → Int32) (xfo : Nat → Int32) (xfl : Nat → Int32) (xfr : Nat → Int32) (xen : Nat → Nat) (xkc : Nat → Nat) => [(r0, .inr (7, [.ref k0, .ref g0, .ref n0, .int (nI (u 11)), .int (nI (u 9))])), (k0, .inr (9, [.ref k1, .ref k2, .int (nI ts), .int (nI th), .int (nI (u 0)), .int (nI (u 1)), .int (nI (u 2)), .int (nI (u 3))])), (k1, .inl (ax 1, 400, .inl tb)), (k2, .inl (ax 0, 401, .inl (fun j => nI (tk j)))), (n0, .inr (4, [.ref (u 4), .ref (u 5), .ref (u 6), .int (nI (u 7))])), (u 4, .inl (ax 1, u 8, .inl xfo)), (u 5, .inl (ax 0, u 8, .inl xfl)), (u 6, .inl (ax 0, u 8, .inl xfr)), (g0, .inr (2, [.ref n0, .ref g1, .ref g2, .ref g3, .ref g4, .ref g5, .ref g6, .ref g7, .ref g8, .ref g9, .ref ga, .ref gb, .int (nI (u 12)), .int (nI (u 13)), .int (nI (u 14)), .int (nI (u 15)), .int (nI (u 16))])), (g1, .inl (ax 1, 20, .inl (fun j => nI (xkd j)))), (g2, .inl (ax 1, 20, .inl (fun j => nI (xow j)))), (g3, .inl (ax 1, 20, .inl (fun j => nI (xsb j)))), (g4, .inl (ax 1, 20, .inl (fun j => nI (xf1 j)))), (g5, .inl (ax 1, 20, .inl (fun j => nI (xf2 j)))), (g6, .inl (ax 2, 20, .inl (fun j => nI (xte j)))), (g7, .inl (ax 2, 20, .inl (fun j => nI (xkp j)))), (g8, .inl (ax 0, 20, .inl xtm)), (g9, .inl (ax 1, 20, .inl (fun j => nI (xnm j)))), (ga, .inl (ax 1, 29, .inl (fun j => nI (xck j)))), (gb, .inl (ax 1, 29, .inl (fun j => nI (xco j))))]) (ixn [(u_283 0), (u_283 1), (u_283 2), (u_283 3), (u_231 4), (u_231 5), (u_231 6), (u_231 7), (u_231 8), (u_231 9), 0, (u_231 11), (u_231 12), (u_231 13), (u_231 14), (u_231 15), (u_231 16)]) x_255 x_256 x_257 (sup x_258 s9 (u_231 10)) x_259 x_260 x_261 x_262 x_263 x_264 x_265 x_266 x_267 x_268 x_269 x_270) hP hD [0, 17, 18, 19, 1, 2, 3, 4, 5, 6, 7, 8, 9, 10, 11, 12, 13, 14, 15, 16] (by decide) rfl
    have hex0 : okf ((u_283 1)) (lst ((u_231 13)) ((u_231 7)) x_255 x_256 x_257 (sup x_258 s9 (u_231 10)) x_259 x_260 x_261 x_262 x_269 x_270 x_265 x_266 x_267 x_268) := hL_294
    have hex1 : okf ((u_283 1)) (cls ln ((u_231 13)) x_269) := (fun q => (hF q).1)
    have hex2 : okf ((u_283 1)) (sae s9 ln kd ow sb f1 f2 te kp nm en kc x_255 x_256 x_257 (sup x_258 s9 (u_231 10)) x_259 x_260 x_261 x_262 x_269 x_270 tm x_265) := (fun q => (hF q).2.1)
    have hex3 : okf ((u_283 1)) (lsc ((u_231 13)) ((u_231 7)) x_255 (sup x_258 s9 (u_231 10)) x_259 x_260 x_261 x_262 x_270 x_265 x_266 x_267 x_268 s9) := (fun q => (hF q).2.2.1)
    have hex4 : okf ((u_283 1)) (clm ((u_231 14)) ((u_231 12)) x_263 x_264 ((u_231 13)) x_255 x_262) := hC_295
    have hex5 : okf ((u_283 1)) (ndv x_266 x_267 x_268 ((u_231 7))) := (hx_276.back hs_291)
    have hex6 : bts x_266 ((u_231 8)) := (by assumption)
    have hex7 : okf ((u_283 1)) (∀ i, i < z9 → tsn x_266 x_267 x_268 i = tsn fo fl fr i) := (fun q => (hF q).2.2.2)
    have hg8 : H_284.size ≤ s.heap.size + ((u_231 8) - cp) := by omega
    have hg9 : tsl H_284 ≤ tsl s.heap + (6 * ((u_231 8) - cp)) := by omega
    have hsp0 : rst tk ((u_283 1)) ((u_283 2)) ((u_283 3)) ((u_283 0)) cn := (by assumption)
    have hsp1 : (u_283 0) ≤ cn := (by first | assumption | omega)
    have hsp2 : (u_283 2) < 128 := (by first | assumption | omega)
    have hsp3 : (u_283 3) < 1024 := (by first | assumption | omega)
    have hsp4 : ta ≤ (u_283 0) := (by first | assumption | omega)
    have hsp5 : ftf tf ≤ ftf ((u_283 1)) := (by first | assumption | omega)
    have hsp6 : z9 ≤ (u_231 7) := (by first | assumption | omega)
    have hsp7 : (u_231 7) + ta ≤ z9 + (u_283 0) + 2 * ((u_231 13) - ln) + 2 := (by first | assumption | omega)
    have hsp8 : (u_231 7) ≤ (u_231 8) := (by first | assumption | omega)
    have hsp9 : cp ≤ (u_231 8) := (by first | assumption | omega)
    have hsp10 : (u_231 8) ≤ MX := (by first | assumption | omega)
    have hsp11 : (u_231 11) ≤ 1 := (by first | assumption | omega)
    have hsp12 : (u_231 12) ≤ 29 := (by first | assumption | omega)
    have hsp13 : ln ≤ (u_231 13) := (by first | assumption | omega)
    have hsp14 : (u_231 13) ≤ 20 := (by first | assumption | omega)
    have hsp15 : br ≤ (u_231 14) := (by first | assumption | omega)
    have hsp16 : (u_231 14) ≤ 4 := (by first | assumption | omega)
    have hsp17 : lp ≤ (u_231 15) := (by first | assumption | omega)
    have hsp18 : (u_231 15) ≤ 4 := (by first | assumption | omega)
    have hsp19 : (u_231 16) ≤ (u_231 15) := (by first | assumption | omega)
    exact W.vret hx hb hr (fun t ht hW => ⟨⟨ixn [(u_283 0), (u_283 1), (u_283 2), (u_283 3), (u_231 4), (u_231 5), (u_231 6), (u_231 7), (u_231 8), (u_231 9), 0, (u_231 11), (u_231 12), (u_231 13), (u_231 14), (u_231 15), (u_231 16)], rfl, ⟨hsp0, hsp1, hsp2, hsp3, hsp4, hsp5, hsp6, hsp7, hsp8, hsp9, hsp10, hsp11, hsp12, hsp13, hsp14, hsp15, hsp16, hsp17, hsp18, hsp19⟩, ⟨x_255, x_256, x_257, sup x_258 s9 (u_231 10), x_259, x_260, x_261, x_262, x_263, x_264, x_265, x_266, x_267, x_268, x_269, x_270, by rw [ht]; exact hg8, by rw [ht]; exact hg9, hex0, hex1, hex2, hex3, hex4, hex5, hex6, hex7, by rw [ht]; exact hP9, hD9⟩⟩, hS.F ht⟩) hS.2.2 d_Reader_loop_131
