theorem ps_7 : Cond.selects "TripleDesk$Reader" ⟨"TripleDesk$Reader", "condition", "(Z)I"⟩ ⟨"TripleDesk$Reader", "condition", "(Z)I"⟩ ∈ lw_gd := ps_in (q := (⟨"TripleDesk$Reader", "condition", "(Z)I"⟩, 5)) (i := 7) (by decide +kernel)
theorem ps_14 : Cond.selects "TripleDesk$Reader" ⟨"TripleDesk$Reader", "statements", "(I)I"⟩ ⟨"TripleDesk$Reader", "statements", "(I)I"⟩ ∈ lw_gd := ps_in (q := (⟨"TripleDesk$Reader", "statements", "(I)I"⟩, 5)) (i := 14) (by decide +kernel)
theorem wd_280 : ((Jvm.Cond.fieldLink "TripleDesk$Reader" (107 : Nat) "TripleDesk$Listing" "first" "[B")) ∈ lw_gd := lw_gd_in (i := 280) (by decide +kernel) rfl
theorem wd_283 : ((Jvm.Cond.fieldLink "TripleDesk$Reader" (110 : Nat) "TripleDesk$Listing" "second" "[B")) ∈ lw_gd := lw_gd_in (i := 283) (by decide +kernel) rfl
theorem wd_288 : ((Jvm.Cond.fieldLink "TripleDesk$Reader" (88 : Nat) "TripleDesk$Listing" "test" "[S")) ∈ lw_gd := lw_gd_in (i := 288) (by decide +kernel) rfl
theorem wd_536 : ((Jvm.Cond.methodLink "TripleDesk$Reader" (29 : Nat) ({ cls := "TripleDesk$Reader", name := "condition", desc := "(Z)I" } : Jvm.MethodName))) ∈ lw_gd := lw_gd_in (i := 536) (by decide +kernel) rfl
theorem wd_538 : ((Jvm.Cond.instanceMethod ({ cls := "TripleDesk$Reader", name := "condition", desc := "(Z)I" } : Jvm.MethodName))) ∈ lw_gd := lw_gd_in (i := 538) (by decide +kernel) rfl
theorem wd_539 : ((Jvm.Cond.code ({ cls := "TripleDesk$Reader", name := "condition", desc := "(Z)I" } : Jvm.MethodName) prog_9_method_9_code (2 : Nat) (Option.some Jvm.ClassFile.FieldType.int))) ∈ lw_gd := lw_gd_in (i := 539) (by decide +kernel) rfl
theorem wd_614 : ((Jvm.Cond.methodLink "TripleDesk$Reader" (45 : Nat) ({ cls := "TripleDesk$Reader", name := "statements", desc := "(I)I" } : Jvm.MethodName))) ∈ lw_gd := lw_gd_in (i := 614) (by decide +kernel) rfl
theorem wd_616 : ((Jvm.Cond.instanceMethod ({ cls := "TripleDesk$Reader", name := "statements", desc := "(I)I" } : Jvm.MethodName))) ∈ lw_gd := lw_gd_in (i := 616) (by decide +kernel) rfl
theorem wd_617 : ((Jvm.Cond.code ({ cls := "TripleDesk$Reader", name := "statements", desc := "(I)I" } : Jvm.MethodName) prog_9_method_4_code (6 : Nat) (Option.some Jvm.ClassFile.FieldType.int))) ∈ lw_gd := lw_gd_in (i := 617) (by decide +kernel) rfl
theorem okf.nl {tf z : Nat} {fo fl fr : Nat → Int32} {L : List sgT} (h : okf tf (nlq fo fl fr z L)) : okf tf (ndl fo fl fr L ∧ L.length = z) := fun q => ⟨(h q).1, (h q).2.1⟩
abbrev b_Reader_branch : ByteArray := prog_9_method_7_code
def y_Reader_branch : MethodName := ⟨R_Reader, "branch", "(I)V"⟩
theorem d_Reader_branch_0 : decode b_Reader_branch 0 = .ok (.aload_n 0, 1) := by decide +kernel
theorem d_Reader_branch_1 : decode b_Reader_branch 1 = .ok (.getfield 40, 3) := by decide +kernel
theorem d_Reader_branch_4 : decode b_Reader_branch 4 = .ok (.getfield 88, 3) := by decide +kernel
theorem d_Reader_branch_7 : decode b_Reader_branch 7 = .ok (.iload_n 1, 1) := by decide +kernel
theorem d_Reader_branch_8 : decode b_Reader_branch 8 = .ok (.aload_n 0, 1) := by decide +kernel
theorem d_Reader_branch_9 : decode b_Reader_branch 9 = .ok (.iconst 0, 1) := by decide +kernel
theorem d_Reader_branch_10 : decode b_Reader_branch 10 = .ok (.invokevirtual 29, 3) := by decide +kernel
theorem d_Reader_branch_13 : decode b_Reader_branch 13 = .ok (.i2s, 1) := by decide +kernel
theorem d_Reader_branch_14 : decode b_Reader_branch 14 = .ok (.sastore, 1) := by decide +kernel
theorem d_Reader_branch_15 : decode b_Reader_branch 15 = .ok (.aload_n 0, 1) := by decide +kernel
theorem d_Reader_branch_16 : decode b_Reader_branch 16 = .ok (.getfield 9, 3) := by decide +kernel
theorem d_Reader_branch_19 : decode b_Reader_branch 19 = .ok (.bipush 9, 2) := by decide +kernel
theorem d_Reader_branch_21 : decode b_Reader_branch 21 = .ok (.invokevirtual 95, 3) := by decide +kernel
theorem d_Reader_branch_24 : decode b_Reader_branch 24 = .ok (.aload_n 0, 1) := by decide +kernel
theorem d_Reader_branch_25 : decode b_Reader_branch 25 = .ok (.getfield 40, 3) := by decide +kernel
theorem d_Reader_branch_28 : decode b_Reader_branch 28 = .ok (.getfield 107, 3) := by decide +kernel
theorem d_Reader_branch_31 : decode b_Reader_branch 31 = .ok (.iload_n 1, 1) := by decide +kernel
theorem d_Reader_branch_32 : decode b_Reader_branch 32 = .ok (.aload_n 0, 1) := by decide +kernel
theorem d_Reader_branch_33 : decode b_Reader_branch 33 = .ok (.iload_n 1, 1) := by decide +kernel
theorem d_Reader_branch_34 : decode b_Reader_branch 34 = .ok (.invokevirtual 45, 3) := by decide +kernel
theorem d_Reader_branch_37 : decode b_Reader_branch 37 = .ok (.i2b, 1) := by decide +kernel
theorem d_Reader_branch_38 : decode b_Reader_branch 38 = .ok (.bastore, 1) := by decide +kernel
theorem d_Reader_branch_39 : decode b_Reader_branch 39 = .ok (.aload_n 0, 1) := by decide +kernel
theorem d_Reader_branch_40 : decode b_Reader_branch 40 = .ok (.getfield 9, 3) := by decide +kernel
theorem d_Reader_branch_43 : decode b_Reader_branch 43 = .ok (.bipush 10, 2) := by decide +kernel
theorem d_Reader_branch_45 : decode b_Reader_branch 45 = .ok (.invokevirtual 95, 3) := by decide +kernel
theorem d_Reader_branch_48 : decode b_Reader_branch 48 = .ok (.aload_n 0, 1) := by decide +kernel
theorem d_Reader_branch_49 : decode b_Reader_branch 49 = .ok (.getfield 40, 3) := by decide +kernel
theorem d_Reader_branch_52 : decode b_Reader_branch 52 = .ok (.getfield 110, 3) := by decide +kernel
theorem d_Reader_branch_55 : decode b_Reader_branch 55 = .ok (.iload_n 1, 1) := by decide +kernel
theorem d_Reader_branch_56 : decode b_Reader_branch 56 = .ok (.aload_n 0, 1) := by decide +kernel
theorem d_Reader_branch_57 : decode b_Reader_branch 57 = .ok (.iload_n 1, 1) := by decide +kernel
theorem d_Reader_branch_58 : decode b_Reader_branch 58 = .ok (.invokevirtual 45, 3) := by decide +kernel
theorem d_Reader_branch_61 : decode b_Reader_branch 61 = .ok (.i2b, 1) := by decide +kernel
theorem d_Reader_branch_62 : decode b_Reader_branch 62 = .ok (.bastore, 1) := by decide +kernel
theorem d_Reader_branch_63 : decode b_Reader_branch 63 = .ok (.aload_n 0, 1) := by decide +kernel
theorem d_Reader_branch_64 : decode b_Reader_branch 64 = .ok (.getfield 9, 3) := by decide +kernel
theorem d_Reader_branch_67 : decode b_Reader_branch 67 = .ok (.bipush 11, 2) := by decide +kernel
theorem d_Reader_branch_69 : decode b_Reader_branch 69 = .ok (.invokevirtual 95, 3) := by decide +kernel
theorem d_Reader_branch_72 : decode b_Reader_branch 72 = .ok (.return_, 1) := by decide +kernel
set_option maxHeartbeats 40000000 in
set_option maxRecDepth 100000 in
theorem c_R_branch (l : Launch) (kf : Nat) (hst : CStm l kf) (D : va_G) (ax : Nat → ClassId) (r0 k0 k1 k2 : Nat) (tb : Nat → Int32) (tk : Nat → Nat) (ta tf nx am cn ts th : Nat) (gh at9 : Nat) (n0 n1 n2 n3 cp z9 : Nat) (fo fl fr : Nat → Int32) (g0 g1 g2 g3 g4 g5 g6 g7 g8 g9 ga gb cl ln br lp va : Nat) (kd ow sb f1 f2 te kp nm ck co : Nat → Nat) (tm : Nat → Int32) (MX : Nat) (en kc : Nat → Nat) (sg pl : List itT) (L0 : List sgT) (s9 b0 : Nat) (sz tz : Nat) (hkz : tkz tk cn) (hrs : rst tk tf nx am ta cn) (hta : ta ≤ cn) (hnx : nx < 128) (ham : am < 1024) (hgh : gh ≤ 1) (hcp : 8 ≤ cp) (hz9 : z9 ≤ cp) (hmx : cp ≤ MX) (hMX : MX ≤ 60000) (hfo : bts fo cp) (hnd : okf tf (ndv fo fl fr z9)) (hln : ln ≤ 20) (hbr : br ≤ 4) (hlp : lp ≤ 4) (hva : va ≤ lp) (hcl : cl ≤ 1 + 2 * lp + ln) (hls : okf tf (lst ln z9 kd ow sb f1 f2 te kp nm en kc tm fo fl fr)) (hcm : okf tf (clm br cl ck co ln kd nm)) (hnl : okf tf (nlq fo fl fr z9 L0)) (hvc : okf tf (va = vct pl)) (hcq : okf tf (cll ck co cl = (0, 0) :: cln pl)) (hs9 : s9 < ln) (hbd : 2 * (z9 + (cn - ta) + 2 * (20 - ln) + 4) ≤ MX) (hop : okf tf (en s9 = 100 ∧ kd s9 = 8)) (hkf : 8 ≤ br + lp + kf) (hb0 : cku tk b0 = 8) (hb1 : ta = b0 + 1) (hs1 : s9 + 1 = ln) (hsb : okf tf (sb s9 = 4294967295)) : Met l y_Reader_branch (xws (.code y_Reader_branch b_Reader_branch 2 none)) ({ frames := 210 + 20 * kf, cells := MX - cp, slots := 6 * (MX - cp), locals := 8200 + 800 * kf }) (va_Pc [.ref r0, .int (nI s9)] (xo3 D ax [(r0, .inr (7, [.ref k0, .ref g0, .ref n0, .int (nI gh), .int (nI at9)])), (k0, .inr (9, [.ref k1, .ref k2, .int (nI ts), .int (nI th), .int (nI ta), .int (nI tf), .int (nI nx), .int (nI am)])), (k1, .inl (ax 1, 400, .inl tb)), (k2, .inl (ax 0, 401, .inl (fun j => nI (tk j)))), (n0, .inr (4, [.ref n1, .ref n2, .ref n3, .int (nI z9)])), (n1, .inl (ax 1, cp, .inl fo)), (n2, .inl (ax 0, cp, .inl fl)), (n3, .inl (ax 0, cp, .inl fr)), (g0, .inr (2, [.ref n0, .ref g1, .ref g2, .ref g3, .ref g4, .ref g5, .ref g6, .ref g7, .ref g8, .ref g9, .ref ga, .ref gb, .int (nI cl), .int (nI ln), .int (nI br), .int (nI lp), .int (nI va)])), (g1, .inl (ax 1, 20, .inl (fun j => nI (kd j)))), (g2, .inl (ax 1, 20, .inl (fun j => nI (ow j)))), (g3, .inl (ax 1, 20, .inl (fun j => nI (sb j)))), (g4, .inl (ax 1, 20, .inl (fun j => nI (f1 j)))), (g5, .inl (ax 1, 20, .inl (fun j => nI (f2 j)))), (g6, .inl (ax 2, 20, .inl (fun j => nI (te j)))), (g7, .inl (ax 2, 20, .inl (fun j => nI (kp j)))), (g8, .inl (ax 0, 20, .inl tm)), (g9, .inl (ax 1, 20, .inl (fun j => nI (nm j)))), (ga, .inl (ax 1, 29, .inl (fun j => nI (ck j)))), (gb, .inl (ax 1, 29, .inl (fun j => nI (co j))))] sz tz)) ((va_Qv (fun (u : Nat → Nat) => (rst tk (u 1) (u 2) (u 3) (u 0) cn ∧ u 0 ≤ cn ∧ u 2 < 128 ∧ u 3 < 1024 ∧ ta ≤ u 0 ∧ ftf tf ≤ ftf (u 1) ∧ z9 ≤ u 7 ∧ u 7 + ta ≤ z9 + u 0 + 2 * (u 13 - ln) + 2 ∧ u 7 ≤ u 8 ∧ cp ≤ u 8 ∧ u 8 ≤ MX ∧ u 11 ≤ 1 ∧ u 12 ≤ 1 + 2 * u 15 + u 13 ∧ ln ≤ u 13 ∧ u 13 ≤ 20 ∧ br ≤ u 14 ∧ u 14 ≤ 4 ∧ lp ≤ u 15 ∧ u 15 ≤ 4 ∧ u 16 ≤ u 15)) (fun (u : Nat → Nat) (t9 : State) => ∃ xkd : Nat → Nat, ∃ xow : Nat → Nat, ∃ xsb : Nat → Nat, ∃ xf1 : Nat → Nat, ∃ xf2 : Nat → Nat, ∃ xte : Nat → Nat, ∃ xkp : Nat → Nat, ∃ xnm : Nat → Nat, ∃ xck : Nat → Nat, ∃ xco : Nat → Nat, ∃ xtm : Nat → Int32, ∃ xfo : Nat → Int32, ∃ xfl : Nat → Int32, ∃ xfr : Nat → Int32, ∃ xen : Nat → Nat, ∃ xkc : Nat → Nat, ∃ xpl : List itT, ∃ xL : List sgT, (t9.heap.size ≤ sz + (u 8 - cp)) ∧ (tsl t9.heap ≤ tz + (6 * (u 8 - cp))) ∧ (okf (u 1) (lst (u 13) (u 7) xkd xow xsb xf1 xf2 xte xkp xnm xen xkc xtm xfo xfl xfr)) ∧ (okf (u 1) (cls ln (u 13) xen)) ∧ (okf (u 1) (sae s9 ln kd ow sb f1 f2 te kp nm en kc xkd xow xsb xf1 xf2 xte xkp xnm xen xkc tm xtm)) ∧ (okf (u 1) (lsc (u 13) (u 7) xkd xf1 xf2 xte xkp xnm xkc xtm xfo xfl xfr s9)) ∧ (okf (u 1) (clm (u 14) (u 12) xck xco (u 13) xkd xnm)) ∧ (okf (u 1) (ndv xfo xfl xfr (u 7))) ∧ (bts xfo (u 8)) ∧ (okf (u 1) (∀ i, i < z9 → tsn xfo xfl xfr i = tsn fo fl fr i)) ∧ (brS tk 2 b0 tf ta sg ln br lp pl (u 1) (u 0) (u 13) (u 14) (u 15) xpl) ∧ (okf (u 1) (bk9 s9 (u 13) xkd xow xsb xf1 xf2 xte xkp xnm xtm xL (ow s9) s9 pl xpl)) ∧ (okf (u 1) (nlq xfo xfl xfr (u 7) xL ∧ prx L0 xL)) ∧ (okf (u 1) (u 16 = vct xpl)) ∧ (okf (u 1) (cll xck xco (u 12) = (0, 0) :: cln xpl)) ∧ va_P D classes [(r0, .inr (7, [.ref k0, .ref g0, .ref n0, .int (nI (u 11)), .int (nI (u 9))])), (k0, .inr (9, [.ref k1, .ref k2, .int (nI ts), .int (nI th), .int (nI (u 0)), .int (nI (u 1)), .int (nI (u 2)), .int (nI (u 3))])), (k1, .inl (ax 1, 400, .inl tb)), (k2, .inl (ax 0, 401, .inl (fun j => nI (tk j)))), (n0, .inr (4, [.ref (u 4), .ref (u 5), .ref (u 6), .int (nI (u 7))])), (u 4, .inl (ax 1, u 8, .inl xfo)), (u 5, .inl (ax 0, u 8, .inl xfl)), (u 6, .inl (ax 0, u 8, .inl xfr)), (g0, .inr (2, [.ref n0, .ref g1, .ref g2, .ref g3, .ref g4, .ref g5, .ref g6, .ref g7, .ref g8, .ref g9, .ref ga, .ref gb, .int (nI (u 12)), .int (nI (u 13)), .int (nI (u 14)), .int (nI (u 15)), .int (nI (u 16))])), (g1, .inl (ax 1, 20, .inl (fun j => nI (xkd j)))), (g2, .inl (ax 1, 20, .inl (fun j => nI (xow j)))), (g3, .inl (ax 1, 20, .inl (fun j => nI (xsb j)))), (g4, .inl (ax 1, 20, .inl (fun j => nI (xf1 j)))), (g5, .inl (ax 1, 20, .inl (fun j => nI (xf2 j)))), (g6, .inl (ax 2, 20, .inl (fun j => nI (xte j)))), (g7, .inl (ax 2, 20, .inl (fun j => nI (xkp j)))), (g8, .inl (ax 0, 20, .inl xtm)), (g9, .inl (ax 1, 20, .inl (fun j => nI (xnm j)))), (ga, .inl (ax 1, 29, .inl (fun j => nI (xck j)))), (gb, .inl (ax 1, 29, .inl (fun j => nI (xco j))))] t9.heap ∧ va_D (va_A [(r0, .inr (7, [.ref k0, .ref g0, .ref n0, .int (nI gh), .int (nI at9)])), (k0, .inr (9, [.ref k1, .ref k2, .int (nI ts), .int (nI th), .int (nI ta), .int (nI tf), .int (nI nx), .int (nI am)])), (k1, .inl (ax 1, 400, .inl tb)), (k2, .inl (ax 0, 401, .inl (fun j => nI (tk j)))), (n0, .inr (4, [.ref n1, .ref n2, .ref n3, .int (nI z9)])), (n1, .inl (ax 1, cp, .inl fo)), (n2, .inl (ax 0, cp, .inl fl)), (n3, .inl (ax 0, cp, .inl fr)), (g0, .inr (2, [.ref n0, .ref g1, .ref g2, .ref g3, .ref g4, .ref g5, .ref g6, .ref g7, .ref g8, .ref g9, .ref ga, .ref gb, .int (nI cl), .int (nI ln), .int (nI br), .int (nI lp), .int (nI va)])), (g1, .inl (ax 1, 20, .inl (fun j => nI (kd j)))), (g2, .inl (ax 1, 20, .inl (fun j => nI (ow j)))), (g3, .inl (ax 1, 20, .inl (fun j => nI (sb j)))), (g4, .inl (ax 1, 20, .inl (fun j => nI (f1 j)))), (g5, .inl (ax 1, 20, .inl (fun j => nI (f2 j)))), (g6, .inl (ax 2, 20, .inl (fun j => nI (te j)))), (g7, .inl (ax 2, 20, .inl (fun j => nI (kp j)))), (g8, .inl (ax 0, 20, .inl tm)), (g9, .inl (ax 1, 20, .inl (fun j => nI (nm j)))), (ga, .inl (ax 1, 29, .inl (fun j => nI (ck j)))), (gb, .inl (ax 1, 29, .inl (fun j => nI (co j))))] sz) [(r0, .inr (7, [.ref k0, .ref g0, .ref n0, .int (nI (u 11)), .int (nI (u 9))])), (k0, .inr (9, [.ref k1, .ref k2, .int (nI ts), .int (nI th), .int (nI (u 0)), .int (nI (u 1)), .int (nI (u 2)), .int (nI (u 3))])), (k1, .inl (ax 1, 400, .inl tb)), (k2, .inl (ax 0, 401, .inl (fun j => nI (tk j)))), (n0, .inr (4, [.ref (u 4), .ref (u 5), .ref (u 6), .int (nI (u 7))])), (u 4, .inl (ax 1, u 8, .inl xfo)), (u 5, .inl (ax 0, u 8, .inl xfl)), (u 6, .inl (ax 0, u 8, .inl xfr)), (g0, .inr (2, [.ref n0, .ref g1, .ref g2, .ref g3, .ref g4, .ref g5, .ref g6, .ref g7, .ref g8, .ref g9, .ref ga, .ref gb, .int (nI (u 12)), .int (nI (u 13)), .int (nI (u 14)), .int (nI (u 15)), .int (nI (u 16))])), (g1, .inl (ax 1, 20, .inl (fun j => nI (xkd j)))), (g2, .inl (ax 1, 20, .inl (fun j => nI (xow j)))), (g3, .inl (ax 1, 20, .inl (fun j => nI (xsb j)))), (g4, .inl (ax 1, 20, .inl (fun j => nI (xf1 j)))), (g5, .inl (ax 1, 20, .inl (fun j => nI (xf2 j)))), (g6, .inl (ax 2, 20, .inl (fun j => nI (xte j)))), (g7, .inl (ax 2, 20, .inl (fun j => nI (xkp j)))), (g8, .inl (ax 0, 20, .inl xtm)), (g9, .inl (ax 1, 20, .inl (fun j => nI (xnm j)))), (ga, .inl (ax 1, 29, .inl (fun j => nI (xck j)))), (gb, .inl (ax 1, 29, .inl (fun j => nI (xco j))))]) (va_A [(r0, .inr (7, [.ref k0, .ref g0, .ref n0, .int (nI gh), .int (nI at9)])), (k0, .inr (9, [.ref k1, .ref k2, .int (nI ts), .int (nI th), .int (nI ta), .int (nI tf), .int (nI nx), .int (nI am)])), (k1, .inl (ax 1, 400, .inl tb)), (k2, .inl (ax 0, 401, .inl (fun j => nI (tk j)))), (n0, .inr (4, [.ref n1, .ref n2, .ref n3, .int (nI z9)])), (n1, .inl (ax 1, cp, .inl fo)), (n2, .inl (ax 0, cp, .inl fl)), (n3, .inl (ax 0, cp, .inl fr)), (g0, .inr (2, [.ref n0, .ref g1, .ref g2, .ref g3, .ref g4, .ref g5, .ref g6, .ref g7, .ref g8, .ref g9, .ref ga, .ref gb, .int (nI cl), .int (nI ln), .int (nI br), .int (nI lp), .int (nI va)])), (g1, .inl (ax 1, 20, .inl (fun j => nI (kd j)))), (g2, .inl (ax 1, 20, .inl (fun j => nI (ow j)))), (g3, .inl (ax 1, 20, .inl (fun j => nI (sb j)))), (g4, .inl (ax 1, 20, .inl (fun j => nI (f1 j)))), (g5, .inl (ax 1, 20, .inl (fun j => nI (f2 j)))), (g6, .inl (ax 2, 20, .inl (fun j => nI (te j)))), (g7, .inl (ax 2, 20, .inl (fun j => nI (kp j)))), (g8, .inl (ax 0, 20, .inl tm)), (g9, .inl (ax 1, 20, .inl (fun j => nI (nm j)))), (ga, .inl (ax 1, 29, .inl (fun j => nI (ck j)))), (gb, .inl (ax 1, 29, .inl (fun j => nI (co j))))] sz))) (MX - cp) (6 * (MX - cp)) (va_A [(r0, .inr (7, [.ref k0, .ref g0, .ref n0, .int (nI gh), .int (nI at9)])), (k0, .inr (9, [.ref k1, .ref k2, .int (nI ts), .int (nI th), .int (nI ta), .int (nI tf), .int (nI nx), .int (nI am)])), (k1, .inl (ax 1, 400, .inl tb)), (k2, .inl (ax 0, 401, .inl (fun j => nI (tk j)))), (n0, .inr (4, [.ref n1, .ref n2, .ref n3, .int (nI z9)])), (n1, .inl (ax 1, cp, .inl fo)), (n2, .inl (ax 0, cp, .inl fl)), (n3, .inl (ax 0, cp, .inl fr)), (g0, .inr (2, [.ref n0, .ref g1, .ref g2, .ref g3, .ref g4, .ref g5, .ref g6, .ref g7, .ref g8, .ref g9, .ref ga, .ref gb, .int (nI cl), .int (nI ln), .int (nI br), .int (nI lp), .int (nI va)])), (g1, .inl (ax 1, 20, .inl (fun j => nI (kd j)))), (g2, .inl (ax 1, 20, .inl (fun j => nI (ow j)))), (g3, .inl (ax 1, 20, .inl (fun j => nI (sb j)))), (g4, .inl (ax 1, 20, .inl (fun j => nI (f1 j)))), (g5, .inl (ax 1, 20, .inl (fun j => nI (f2 j)))), (g6, .inl (ax 2, 20, .inl (fun j => nI (te j)))), (g7, .inl (ax 2, 20, .inl (fun j => nI (kp j)))), (g8, .inl (ax 0, 20, .inl tm)), (g9, .inl (ax 1, 20, .inl (fun j => nI (nm j)))), (ga, .inl (ax 1, 29, .inl (fun j => nI (ck j)))), (gb, .inl (ax 1, 29, .inl (fun j => nI (co j))))] sz) := by
  refine Met.ofW (cc := b_Reader_branch) (maxL := 2) (ret := none) (by decide) rfl ?_
  intro p e s m args below meth c s₁ B hml hv
  obtain ⟨rfl, ⟨hsz, hP, hK, hD0⟩, htz⟩ := hv
  have hx := B.exec
  have hb := B.bytes
  have hr := B.returns
  have hts := xw_hts B.pre
  have hown : s.vm.findClass R_Reader = some m.cls := findClass_of_methodNamed B.named
  have hlocks := B.notSynchronized
  subst hsz
  subst htz
  have hD := hD0.self (sz := s.heap.size)
  have hN := xz_entry hP
  generalize hAe : va_A [(r0, .inr (7, [.ref k0, .ref g0, .ref n0, .int (nI gh), .int (nI at9)])), (k0, .inr (9, [.ref k1, .ref k2, .int (nI ts), .int (nI th), .int (nI ta), .int (nI tf), .int (nI nx), .int (nI am)])), (k1, .inl (ax 1, 400, .inl tb)), (k2, .inl (ax 0, 401, .inl (fun j => nI (tk j)))), (n0, .inr (4, [.ref n1, .ref n2, .ref n3, .int (nI z9)])), (n1, .inl (ax 1, cp, .inl fo)), (n2, .inl (ax 0, cp, .inl fl)), (n3, .inl (ax 0, cp, .inl fr)), (g0, .inr (2, [.ref n0, .ref g1, .ref g2, .ref g3, .ref g4, .ref g5, .ref g6, .ref g7, .ref g8, .ref g9, .ref ga, .ref gb, .int (nI cl), .int (nI ln), .int (nI br), .int (nI lp), .int (nI va)])), (g1, .inl (ax 1, 20, .inl (fun j => nI (kd j)))), (g2, .inl (ax 1, 20, .inl (fun j => nI (ow j)))), (g3, .inl (ax 1, 20, .inl (fun j => nI (sb j)))), (g4, .inl (ax 1, 20, .inl (fun j => nI (f1 j)))), (g5, .inl (ax 1, 20, .inl (fun j => nI (f2 j)))), (g6, .inl (ax 2, 20, .inl (fun j => nI (te j)))), (g7, .inl (ax 2, 20, .inl (fun j => nI (kp j)))), (g8, .inl (ax 0, 20, .inl tm)), (g9, .inl (ax 1, 20, .inl (fun j => nI (nm j)))), (ga, .inl (ax 1, 29, .inl (fun j => nI (ck j)))), (gb, .inl (ax 1, 29, .inl (fun j => nI (co j))))] s.heap.size = A at hD hN ⊢
  have hA : ∀ q : Nat, s.heap.size ≤ q → A q := fun q h => by rw [← hAe]; exact Or.inr h
  have hS : va_S A s.heap s.heap [] := va_S.rf
  have hl0 := lv_entry ([.ref r0, .int (nI s9)]) (n := 2) (Nat.le_of_ble_eq_true rfl)
  rw [lg_entry_eq]
  generalize (lg_sl ([.ref r0, .int (nI s9)]) ++ List.replicate (2 - (lg_sl ([.ref r0, .int (nI s9)])).length) Slot.unset).toArray = ls at hl0 ⊢
  have hl1 : lv_has ls 2 [(0, .ref r0), (1, .int (nI s9))] := hl0
  refine xw_gen (fun Z9 hQe => ?_)
  refine lv_aload_n hx hb d_Reader_branch_0 rfl (lv_at hl1 0 rfl) ?_
  refine va_get (D := D) (ci := 7) (v := .ref g0) (C := R_Reader) (T := F_Reader) (N := 5) hx hb hts i_Reader hown hK.1 hP 0 rfl rfl 1 (by decide) (hts _ wd_76) (fun _ h9 => h9) rfl d_Reader_branch_1 ?_
  refine va_get (D := D) (ci := 2) (v := .ref g6) (C := R_Listing) (T := F_Listing) (N := 17) hx hb hts i_Listing hown hK.1 hP 8 rfl rfl 6 (by decide) (hts _ wd_288) (fun _ h9 => h9) rfl d_Reader_branch_4 ?_
  refine lv_iload_n hx hb d_Reader_branch_7 rfl (lv_at hl1 1 rfl) ?_
  refine lv_aload_n hx hb d_Reader_branch_8 rfl (lv_at hl1 0 rfl) ?_
  refine lv_iconst (v := 0) hx hb d_Reader_branch_9 (by decide) ?_
  obtain ⟨hPc, hDc, hFc, hCs⟩ := xw_sub3 (wc := [(r0, .inr (7, [.ref k0, (.ref g0), .ref n0, .int (nI gh), .int (nI at9)])), (k0, .inr (9, [.ref k1, .ref k2, .int (nI ts), .int (nI th), .int (nI ta), .int (nI tf), .int (nI nx), .int (nI am)])), (k1, .inl (ax 1, 400, .inl tb)), (k2, .inl (ax 0, 401, .inl (fun j => nI (tk j)))), (n0, .inr (4, [.ref n1, .ref n2, .ref n3, .int (nI z9)])), (n1, .inl (ax 1, cp, .inl fo)), (n2, .inl (ax 0, cp, .inl fl)), (n3, .inl (ax 0, cp, .inl fr))]) hP hD hS hA [0, 1, 2, 3, 4, 5, 6, 7] (by decide) rfl
  have hz := xz_of hN hS
  refine wk_know (fun hk8 hk9 => ?_)
  refine va_calli (va_runV (As := [.int 0]) (rest := [.int (nI s9), .ref g6]) ⟨hx, hb, hml, hown, hts⟩ (c_R_condition l D ax r0 k0 k1 k2 (.ref g0) tb tk ta tf nx am cn ts th gh at9 0 n0 n1 n2 n3 cp z9 fo fl fr MX L0 s.heap.size (tsl s.heap) hkz (by assumption) (by first | assumption | omega) (by first | assumption | omega) (by first | assumption | omega) (by first | assumption | omega) (by first | assumption | omega) (by first | assumption | omega) (by first | assumption | omega) (by first | assumption | omega) (by first | assumption | omega) (by assumption) (by assumption) (by first | assumption | exact okf.nl (by assumption))) (xcV (n := 1) hts wd_539 wd_3 wd_536 wd_538 ps_7 rfl rfl (by decide +kernel) ⟨(show (160) + 1 ≤ (210 + 20 * kf) by omega), (show 8 + (2 + 11) + (6400) ≤ (8200 + 800 * kf) by omega)⟩) (xpV3 (ci := 7) (q0 := 0) (As := [.int 0]) hPc hK hz hDc rfl rfl) rfl rfl hl1.1 rfl (lv_room (Nat.le_of_ble_eq_true rfl)) d_Reader_branch_10 ⟨(show (0) + (MX - cp) ≤ (MX - cp) by omega), (show (0) + (6 * (MX - cp)) ≤ (6 * (MX - cp)) by omega)⟩) hS (fun q _ h => hFc q h) hFc (fun r_3 u_1 t H_2 locs ht hvm hw hB hz1 hk1 hS1 => ?_)
  try dsimp only at hw
  obtain ⟨hw, hs_4, hs_5, hs_6, hs_7, hs_8, hs_9, hs_10, hs_11, hs_12, hs_13, hs_14, hs_15, hs_16, hs_17, hs_18⟩ := hw
  subst hw
  obtain ⟨x_19, x_20, x_21, x_22, hg8, hg9, hx_23, hx_24, hx_25, hx_26, hx_27, hx_28, hP1, hD1⟩ := hB
  rw [ht] at hg8 hg9 hP1
  have hjn := xw_join3 (wl := [(g0, .inr (2, [.ref n0, .ref g1, .ref g2, .ref g3, .ref g4, .ref g5, .ref g6, .ref g7, .ref g8, .ref g9, .ref ga, .ref gb, .int (nI cl), .int (nI ln), .int (nI br), .int (nI lp), .int (nI va)])), (g1, .inl (ax 1, 20, .inl (fun j => nI (kd j)))), (g2, .inl (ax 1, 20, .inl (fun j => nI (ow j)))), (g3, .inl (ax 1, 20, .inl (fun j => nI (sb j)))), (g4, .inl (ax 1, 20, .inl (fun j => nI (f1 j)))), (g5, .inl (ax 1, 20, .inl (fun j => nI (f2 j)))), (g6, .inl (ax 2, 20, .inl (fun j => nI (te j)))), (g7, .inl (ax 2, 20, .inl (fun j => nI (kp j)))), (g8, .inl (ax 0, 20, .inl tm)), (g9, .inl (ax 1, 20, .inl (fun j => nI (nm j)))), (ga, .inl (ax 1, 29, .inl (fun j => nI (ck j)))), (gb, .inl (ax 1, 29, .inl (fun j => nI (co j)))), (r0, .inr (7, [.ref k0, .ref g0, .ref n0, .int (nI 0), .int (nI (u_1 9))])), (k0, .inr (9, [.ref k1, .ref k2, .int (nI ts), .int (nI th), .int (nI (u_1 0)), .int (nI (u_1 1)), .int (nI (u_1 2)), .int (nI (u_1 3))])), (k1, .inl (ax 1, 400, .inl tb)), (k2, .inl (ax 0, 401, .inl (fun j => nI (tk j)))), (n0, .inr (4, [.ref (u_1 4), .ref (u_1 5), .ref (u_1 6), .int (nI (u_1 7))])), ((u_1 4), .inl (ax 1, u_1 8, .inl x_19)), ((u_1 5), .inl (ax 0, u_1 8, .inl x_20)), ((u_1 6), .inl (ax 0, u_1 8, .inl x_21))]) hP hD [0, 1, 2, 3, 4, 5, 6, 7] [8, 9, 10, 11, 12, 13, 14, 15, 16, 17, 18, 19] hCs (by decide) (by decide) hk1 hFc hP1 hD1 rfl
  clear hP1 hD1
  clear hPc hDc hFc hCs hz hz1 hk1 ht hvm
  clear hP hD hS
  have hS := hS1
  obtain ⟨hP, hD⟩ := hjn
  clear hS1
  refine wk_narrow (k := u_1 8 - cp) (n := 6 * (u_1 8 - cp)) (by first | assumption | omega) (by first | assumption | omega) ?_
  clear hk8 hk9 hg8 hg9
  have hfl_29 := ftf_le (u_1 1)
  have hG_31 : okf (u_1 1) (cmpl 18 x_22 ∧ nbl 1023 x_22) := fun q => (hx_28.2 (okf.of hs_9 q)).2 q
  have hQ_30 : okf (u_1 1) (nlq x_19 x_20 x_21 (u_1 7) (L0 ++ x_22)) := fun q => by have h9 := hx_27 q; rw [h9.2]; exact (hnl (okf.of hs_9 q)).app h9.1 (hG_31 q).1 (hG_31 q).2
  refine lv_i2s (v := nI (u_1 10)) hx hb d_Reader_branch_13 (nb_i2ss hs_18) ?_
  refine va_sast hx hb hK.1 hP hD hS 6 2 rfl rfl (vp_in_nI (by first | assumption | omega) (by decide)) d_Reader_branch_14 (fun H_32 locs hP1 hD1 hS1 => ?_)
  rw [nI_clamp (by first | exact Nat.lt_of_lt_of_le (by assumption) (by decide) | exact Nat.lt_of_le_of_lt (by assumption) (by decide) | omega)] at hP1 hD1
  rw [xf_supss te s9 (u_1 10) hs_18] at hP1 hD1
  clear hP hD hS
  have hS := hS1
  have hW7 : (fun w9 : va_W => va_P D classes w9 H_32 ∧ va_D A w9) [(g0, .inr (2, [.ref n0, .ref g1, .ref g2, .ref g3, .ref g4, .ref g5, .ref g6, .ref g7, .ref g8, .ref g9, .ref ga, .ref gb, .int (nI cl), .int (nI ln), .int (nI br), .int (nI lp), .int (nI va)])), (g1, .inl (ax 1, 20, .inl (fun j => nI (kd j)))), (g2, .inl (ax 1, 20, .inl (fun j => nI (ow j)))), (g3, .inl (ax 1, 20, .inl (fun j => nI (sb j)))), (g4, .inl (ax 1, 20, .inl (fun j => nI (f1 j)))), (g5, .inl (ax 1, 20, .inl (fun j => nI (f2 j)))), (g6, .inl (ax 2, 20, .inl (fun j => nI (sup te s9 (u_1 10) j)))), (g7, .inl (ax 2, 20, .inl (fun j => nI (kp j)))), (g8, .inl (ax 0, 20, .inl tm)), (g9, .inl (ax 1, 20, .inl (fun j => nI (nm j)))), (ga, .inl (ax 1, 29, .inl (fun j => nI (ck j)))), (gb, .inl (ax 1, 29, .inl (fun j => nI (co j)))), (r0, .inr (7, [.ref k0, .ref g0, .ref n0, .int (nI 0), .int (nI (u_1 9))])), (k0, .inr (9, [.ref k1, .ref k2, .int (nI ts), .int (nI th), .int (nI (u_1 0)), .int (nI (u_1 1)), .int (nI (u_1 2)), .int (nI (u_1 3))])), (k1, .inl (ax 1, 400, .inl tb)), (k2, .inl (ax 0, 401, .inl (fun j => nI (tk j)))), (n0, .inr (4, [.ref (u_1 4), .ref (u_1 5), .ref (u_1 6), .int (nI (u_1 7))])), ((u_1 4), .inl (ax 1, u_1 8, .inl x_19)), ((u_1 5), .inl (ax 0, u_1 8, .inl x_20)), ((u_1 6), .inl (ax 0, u_1 8, .inl x_21))] := ⟨hP1, hD1⟩
  obtain ⟨hP, hD⟩ := hW7
  clear hP1 hD1 hS1
  have hL_33 : okf (u_1 1) (lst ln (u_1 7) kd ow sb f1 f2 (sup te s9 (u_1 10)) kp nm en (sup kc s9 (kc s9 + (u_1 7 - z9))) tm x_19 x_20 x_21) := (fun q => (hls (okf.of hs_9 q)).read (by first | assumption | omega) (hx_26 q) (by first | assumption | omega) (hop (okf.of (by first | assumption | omega) q)).1 (Nat.le_refl _) (fun i hi => rfl) (fun i hi => rfl) (fun i hi => sup_ne hi) (fun i hi => rfl) (fun i hi => rfl) (fun i hi => rfl))
  have hC_34 : okf (u_1 1) (clm br cl ck co ln kd nm) := (fun q => hcm (okf.of hs_9 q))
  refine lv_aload_n hx hb d_Reader_branch_15 rfl (lv_at hl1 0 rfl) ?_
  refine va_get (D := D) (ci := 7) (v := .ref k0) (C := R_Reader) (T := F_Reader) (N := 5) hx hb hts i_Reader hown hK.1 hP 12 rfl rfl 0 (by decide) (hts _ wd_75) (fun _ h9 => h9) rfl d_Reader_branch_16 ?_
  refine lv_bipush (v := 9) hx hb d_Reader_branch_19 (by decide) ?_
  obtain ⟨hPc, hDc, hFc, hCs⟩ := xw_sub3 (wc := [(k0, .inr (9, [.ref k1, .ref k2, .int (nI ts), .int (nI th), .int (nI (u_1 0)), .int (nI (u_1 1)), .int (nI (u_1 2)), .int (nI (u_1 3))])), (k1, .inl (ax 1, 400, .inl tb)), (k2, .inl (ax 0, 401, .inl (fun j => nI (tk j))))]) hP hD hS hA [13, 14, 15] (by decide) rfl
  have hz := xz_of hN hS
  refine va_callv (va_runV (As := [.int 9]) (rest := []) ⟨hx, hb, hml, hown, hts⟩ (c_K_need l D ax k0 k1 k2 tb tk (u_1 0) (u_1 1) (u_1 2) (u_1 3) cn ts th 9 H_32.size hkz (by assumption) (by first | assumption | omega) (by first | assumption | omega) (by first | assumption | omega) (by first | assumption | omega) (by first | assumption | omega)) (xcV (n := 1) hts wd_571 wd_2 wd_568 wd_569 wd_570 rfl rfl (by decide +kernel) ⟨(show (20) + 1 ≤ (210 + 20 * kf) by omega), (show 8 + (2 + 11) + (800) ≤ (8200 + 800 * kf) by omega)⟩) (xpV (ci := 9) (q0 := 0) (As := [.int 9]) hPc hK hz hDc rfl rfl) rfl rfl hl1.1 rfl (lv_room (Nat.le_of_ble_eq_true rfl)) d_Reader_branch_21 ⟨(show (u_1 8 - cp) + (0) ≤ (MX - cp) by omega), (show (6 * (u_1 8 - cp)) + (0) ≤ (6 * (MX - cp)) by omega)⟩) hS (fun q _ h => hFc q h) hFc (fun u_35 t H_36 locs ht hvm hw hB hz1 hk1 hS1 => ?_)
  try dsimp only at hw
  obtain ⟨hs_38, hs_39, hs_40, hs_41, hs_42, hs_43, hs_44, hs_45⟩ := hw
  obtain ⟨hP1, hD1⟩ := hB
  rw [ht] at hP1
  have hjn := xw_join3 (wl := [(g0, .inr (2, [.ref n0, .ref g1, .ref g2, .ref g3, .ref g4, .ref g5, .ref g6, .ref g7, .ref g8, .ref g9, .ref ga, .ref gb, .int (nI cl), .int (nI ln), .int (nI br), .int (nI lp), .int (nI va)])), (g1, .inl (ax 1, 20, .inl (fun j => nI (kd j)))), (g2, .inl (ax 1, 20, .inl (fun j => nI (ow j)))), (g3, .inl (ax 1, 20, .inl (fun j => nI (sb j)))), (g4, .inl (ax 1, 20, .inl (fun j => nI (f1 j)))), (g5, .inl (ax 1, 20, .inl (fun j => nI (f2 j)))), (g6, .inl (ax 2, 20, .inl (fun j => nI (sup te s9 (u_1 10) j)))), (g7, .inl (ax 2, 20, .inl (fun j => nI (kp j)))), (g8, .inl (ax 0, 20, .inl tm)), (g9, .inl (ax 1, 20, .inl (fun j => nI (nm j)))), (ga, .inl (ax 1, 29, .inl (fun j => nI (ck j)))), (gb, .inl (ax 1, 29, .inl (fun j => nI (co j)))), (r0, .inr (7, [.ref k0, .ref g0, .ref n0, .int (nI 0), .int (nI (u_1 9))])), (n0, .inr (4, [.ref (u_1 4), .ref (u_1 5), .ref (u_1 6), .int (nI (u_1 7))])), ((u_1 4), .inl (ax 1, u_1 8, .inl x_19)), ((u_1 5), .inl (ax 0, u_1 8, .inl x_20)), ((u_1 6), .inl (ax 0, u_1 8, .inl x_21)), (k0, .inr (9, [.ref k1, .ref k2, .int (nI ts), .int (nI th), .int (nI (u_35 0)), .int (nI (u_35 1)), .int (nI (u_35 2)), .int (nI (u_35 3))])), (k1, .inl (ax 1, 400, .inl tb)), (k2, .inl (ax 0, 401, .inl (fun j => nI (tk j))))]) hP hD [13, 14, 15] [0, 1, 2, 3, 4, 5, 6, 7, 8, 9, 10, 11, 12, 16, 17, 18, 19] hCs (by decide) (by decide) hk1 hFc hP1 hD1 rfl
  clear hP1 hD1
  clear hPc hDc hFc hCs hz hz1 hk1 ht hvm
  clear hP hD hS
  have hS := hS1
  obtain ⟨hP, hD⟩ := hjn
  clear hS1
  have hL_46 : okf (u_35 1) (lst ln (u_1 7) kd ow sb f1 f2 (sup te s9 (u_1 10)) kp nm en (sup kc s9 (kc s9 + (u_1 7 - z9))) tm x_19 x_20 x_21) := hL_33.back hs_43
  have hC_47 : okf (u_35 1) (clm br cl ck co ln kd nm) := hC_34.back hs_43
  have hN_48 : okf (u_35 1) (ndv x_19 x_20 x_21 (u_1 7)) := hx_23.back hs_43
  have hQ_49 : okf (u_35 1) (nlq x_19 x_20 x_21 (u_1 7) (L0 ++ x_22)) := hQ_30.back hs_43
  have hO_50 : okf (u_35 1) (s9 = 4294967295 ∨ (s9 < ln ∧ en s9 = 100)) := fun q => Or.inr ⟨by omega, (hop (okf.of (by first | assumption | omega) q)).1⟩
  refine lv_aload_n hx hb d_Reader_branch_24 rfl (lv_at hl1 0 rfl) ?_
  refine va_get (D := D) (ci := 7) (v := .ref g0) (C := R_Reader) (T := F_Reader) (N := 5) hx hb hts i_Reader hown hK.1 hP 12 rfl rfl 1 (by decide) (hts _ wd_76) (fun _ h9 => h9) rfl d_Reader_branch_25 ?_
  refine va_get (D := D) (ci := 2) (v := .ref g4) (C := R_Listing) (T := F_Listing) (N := 17) hx hb hts i_Listing hown hK.1 hP 0 rfl rfl 4 (by decide) (hts _ wd_280) (fun _ h9 => h9) rfl d_Reader_branch_28 ?_
  refine lv_iload_n hx hb d_Reader_branch_31 rfl (lv_at hl1 1 rfl) ?_
  have hK_52 : okf (u_35 1) (cll ck co cl = (0, 0) :: cln (pl ++ [(2, ln, 0, (0, 0), x_22, [])])) := fun q => cq_n (x := (2, ln, 0, (0, 0), x_22, [])) (hcq (okf.of (by first | assumption | omega) q)) (show ¬ (2 : Nat) = 5 by decide) (show ¬ (2 : Nat) = 8 by decide)
  have hV_51 : okf (u_35 1) (va = vct (pl ++ [(2, ln, 0, (0, 0), x_22, [])])) := fun q => by rw [vct_app, vct_n (x := (2, ln, 0, (0, 0), x_22, [])) (show ¬ (2 : Nat) = 5 by decide)]; exact hvc (okf.of (by first | assumption | omega) q)
  have hsm9 : smn s9 := Or.inl (by first | assumption | omega)
  refine lv_aload_n hx hb d_Reader_branch_32 rfl (lv_at hl1 0 rfl) ?_
  refine lv_iload_n hx hb d_Reader_branch_33 rfl (lv_at hl1 1 rfl) ?_
  obtain ⟨hPc, hDc, hFc, hCs⟩ := xw_sub3 (wc := [(r0, .inr (7, [.ref k0, .ref g0, .ref n0, .int (nI 0), .int (nI (u_1 9))])), (k0, .inr (9, [.ref k1, .ref k2, .int (nI ts), .int (nI th), .int (nI (u_35 0)), .int (nI (u_35 1)), .int (nI (u_35 2)), .int (nI (u_35 3))])), (k1, .inl (ax 1, 400, .inl tb)), (k2, .inl (ax 0, 401, .inl (fun j => nI (tk j)))), (n0, .inr (4, [.ref (u_1 4), .ref (u_1 5), .ref (u_1 6), .int (nI (u_1 7))])), ((u_1 4), .inl (ax 1, u_1 8, .inl x_19)), ((u_1 5), .inl (ax 0, u_1 8, .inl x_20)), ((u_1 6), .inl (ax 0, u_1 8, .inl x_21)), (g0, .inr (2, [.ref n0, .ref g1, .ref g2, .ref g3, .ref g4, .ref g5, .ref g6, .ref g7, .ref g8, .ref g9, .ref ga, .ref gb, .int (nI cl), .int (nI ln), .int (nI br), .int (nI lp), .int (nI va)])), (g1, .inl (ax 1, 20, .inl (fun j => nI (kd j)))), (g2, .inl (ax 1, 20, .inl (fun j => nI (ow j)))), (g3, .inl (ax 1, 20, .inl (fun j => nI (sb j)))), (g4, .inl (ax 1, 20, .inl (fun j => nI (f1 j)))), (g5, .inl (ax 1, 20, .inl (fun j => nI (f2 j)))), (g6, .inl (ax 2, 20, .inl (fun j => nI ((sup te s9 (u_1 10)) j)))), (g7, .inl (ax 2, 20, .inl (fun j => nI (kp j)))), (g8, .inl (ax 0, 20, .inl tm)), (g9, .inl (ax 1, 20, .inl (fun j => nI (nm j)))), (ga, .inl (ax 1, 29, .inl (fun j => nI (ck j)))), (gb, .inl (ax 1, 29, .inl (fun j => nI (co j))))]) hP hD hS hA [12, 17, 18, 19, 13, 14, 15, 16, 0, 1, 2, 3, 4, 5, 6, 7, 8, 9, 10, 11] (by decide) rfl
  have hz := xz_of hN hS
  refine wk_know (fun hk8 hk9 => ?_)
  refine va_calli (va_runV (As := [.int (nI s9)]) (rest := [.int (nI s9), .ref g4]) ⟨hx, hb, hml, hown, hts⟩ (c_R_statements l kf hst D ax r0 k0 k1 k2 tb tk (u_35 0) (u_35 1) (u_35 2) (u_35 3) cn ts th 0 (u_1 9) n0 (u_1 4) (u_1 5) (u_1 6) (u_1 8) (u_1 7) x_19 x_20 x_21 g0 g1 g2 g3 g4 g5 g6 g7 g8 g9 ga gb cl ln br lp va kd ow sb f1 f2 (sup te s9 (u_1 10)) kp nm ck co tm MX en (sup kc s9 (kc s9 + (u_1 7 - z9))) ((2, ln, 0, (0, 0), x_22, []) :: sg) (pl ++ [(2, ln, 0, (0, 0), x_22, [])]) (L0 ++ x_22) s9 H_36.size (tsl H_36) hkz (by assumption) (by first | assumption | omega) (by first | assumption | omega) (by first | assumption | omega) (by first | assumption | omega) (by first | assumption | omega) (by first | assumption | omega) (by first | assumption | omega) (by first | assumption | omega) (by assumption) (by assumption) (by first | assumption | omega) (by first | assumption | omega) (by first | assumption | omega) (by first | assumption | omega) (by first | assumption | omega) (by assumption) (by assumption) (by assumption) (by assumption) (by assumption) (by first | assumption | omega) (by assumption) (by assumption) (by first | assumption | omega)) (xcV (n := 1) hts wd_617 wd_3 wd_614 wd_616 ps_14 rfl rfl (by decide +kernel) ⟨(show (205 + 20 * kf) + 1 ≤ (210 + 20 * kf) by omega), (show 8 + (6 + 11) + (8100 + 800 * kf) ≤ (8200 + 800 * kf) by omega)⟩) (xpV3 (ci := 7) (q0 := 0) (As := [.int (nI s9)]) hPc hK hz hDc rfl rfl) rfl rfl hl1.1 rfl (lv_room (Nat.le_of_ble_eq_true rfl)) d_Reader_branch_34 ⟨(show (u_1 8 - cp) + (MX - (u_1 8)) ≤ (MX - cp) by omega), (show (6 * (u_1 8 - cp)) + (6 * (MX - (u_1 8))) ≤ (6 * (MX - cp)) by omega)⟩) hS (fun q _ h => hFc q h) hFc (fun r_55 u_53 t H_54 locs ht hvm hw hB hz1 hk1 hS1 => ?_)
  try dsimp only at hw
  obtain ⟨hw, hs_56, hs_57, hs_58, hs_59, hs_60, hs_61, hs_62, hs_63, hs_64, hs_65, hs_66, hs_67, hs_68, hs_69, hs_70, hs_71, hs_72, hs_73, hs_74, hs_75, hs_76, hs_77⟩ := hw
  subst hw
  obtain ⟨x_78, x_79, x_80, x_81, x_82, x_83, x_84, x_85, x_86, x_87, x_88, x_89, x_90, x_91, x_92, x_93, x_94, x_95, hg8, hg9, hx_96, hx_97, hx_98, hx_99, hx_100, hx_101, hx_102, hx_103, hx_104, hx_105, hx_106, hx_107, hx_108, hP1, hD1⟩ := hB
  rw [ht] at hg8 hg9 hP1
  have hjn := xw_join3 (wl := [(r0, .inr (7, [.ref k0, .ref g0, .ref n0, .int (nI (u_53 11)), .int (nI (u_53 9))])), (k0, .inr (9, [.ref k1, .ref k2, .int (nI ts), .int (nI th), .int (nI (u_53 0)), .int (nI (u_53 1)), .int (nI (u_53 2)), .int (nI (u_53 3))])), (k1, .inl (ax 1, 400, .inl tb)), (k2, .inl (ax 0, 401, .inl (fun j => nI (tk j)))), (n0, .inr (4, [.ref (u_53 4), .ref (u_53 5), .ref (u_53 6), .int (nI (u_53 7))])), ((u_53 4), .inl (ax 1, u_53 8, .inl x_89)), ((u_53 5), .inl (ax 0, u_53 8, .inl x_90)), ((u_53 6), .inl (ax 0, u_53 8, .inl x_91)), (g0, .inr (2, [.ref n0, .ref g1, .ref g2, .ref g3, .ref g4, .ref g5, .ref g6, .ref g7, .ref g8, .ref g9, .ref ga, .ref gb, .int (nI (u_53 12)), .int (nI (u_53 13)), .int (nI (u_53 14)), .int (nI (u_53 15)), .int (nI (u_53 16))])), (g1, .inl (ax 1, 20, .inl (fun j => nI (x_78 j)))), (g2, .inl (ax 1, 20, .inl (fun j => nI (x_79 j)))), (g3, .inl (ax 1, 20, .inl (fun j => nI (x_80 j)))), (g4, .inl (ax 1, 20, .inl (fun j => nI (x_81 j)))), (g5, .inl (ax 1, 20, .inl (fun j => nI (x_82 j)))), (g6, .inl (ax 2, 20, .inl (fun j => nI (x_83 j)))), (g7, .inl (ax 2, 20, .inl (fun j => nI (x_84 j)))), (g8, .inl (ax 0, 20, .inl x_88)), (g9, .inl (ax 1, 20, .inl (fun j => nI (x_85 j)))), (ga, .inl (ax 1, 29, .inl (fun j => nI (x_86 j)))), (gb, .inl (ax 1, 29, .inl (fun j => nI (x_87 j))))]) hP hD [12, 17, 18, 19, 13, 14, 15, 16, 0, 1, 2, 3, 4, 5, 6, 7, 8, 9, 10, 11] [] hCs (by decide) (by decide) hk1 hFc hP1 hD1 rfl
  clear hP1 hD1
  clear hPc hDc hFc hCs hz hz1 hk1 ht hvm
  clear hP hD hS
  have hS := hS1
  obtain ⟨hP, hD⟩ := hjn
  clear hS1
  refine wk_narrow (k := u_1 8 - cp + (u_53 8 - (u_1 8))) (n := 6 * (u_1 8 - cp) + (6 * (u_53 8 - (u_1 8)))) (by first | assumption | omega) (by first | assumption | omega) ?_
  clear hk8 hk9 hg8 hg9
  have hQ_109 : okf (u_53 1) (nlq x_89 x_90 x_91 (u_53 7) x_95) := fun q => (hx_106 q).1
  refine lv_i2b (v := nI (u_53 10)) hx hb d_Reader_branch_37 (nb_i2bs hs_77) ?_
  refine va_bast hx hb hK.1 hP hD hS 12 1 rfl rfl (vp_in_nI (by first | assumption | omega) (by decide)) d_Reader_branch_38 (fun H_110 locs hP1 hD1 hS1 => ?_)
  rw [nI_clamp (by first | exact Nat.lt_of_lt_of_le (by assumption) (by decide) | exact Nat.lt_of_le_of_lt (by assumption) (by decide) | omega)] at hP1 hD1
  rw [xf_supbs x_81 s9 (u_53 10) hs_77] at hP1 hD1
  clear hP hD hS
  have hS := hS1
  have hW7 : (fun w9 : va_W => va_P D classes w9 H_110 ∧ va_D A w9) [(r0, .inr (7, [.ref k0, .ref g0, .ref n0, .int (nI (u_53 11)), .int (nI (u_53 9))])), (k0, .inr (9, [.ref k1, .ref k2, .int (nI ts), .int (nI th), .int (nI (u_53 0)), .int (nI (u_53 1)), .int (nI (u_53 2)), .int (nI (u_53 3))])), (k1, .inl (ax 1, 400, .inl tb)), (k2, .inl (ax 0, 401, .inl (fun j => nI (tk j)))), (n0, .inr (4, [.ref (u_53 4), .ref (u_53 5), .ref (u_53 6), .int (nI (u_53 7))])), ((u_53 4), .inl (ax 1, u_53 8, .inl x_89)), ((u_53 5), .inl (ax 0, u_53 8, .inl x_90)), ((u_53 6), .inl (ax 0, u_53 8, .inl x_91)), (g0, .inr (2, [.ref n0, .ref g1, .ref g2, .ref g3, .ref g4, .ref g5, .ref g6, .ref g7, .ref g8, .ref g9, .ref ga, .ref gb, .int (nI (u_53 12)), .int (nI (u_53 13)), .int (nI (u_53 14)), .int (nI (u_53 15)), .int (nI (u_53 16))])), (g1, .inl (ax 1, 20, .inl (fun j => nI (x_78 j)))), (g2, .inl (ax 1, 20, .inl (fun j => nI (x_79 j)))), (g3, .inl (ax 1, 20, .inl (fun j => nI (x_80 j)))), (g4, .inl (ax 1, 20, .inl (fun j => nI (sup x_81 s9 (u_53 10) j)))), (g5, .inl (ax 1, 20, .inl (fun j => nI (x_82 j)))), (g6, .inl (ax 2, 20, .inl (fun j => nI (x_83 j)))), (g7, .inl (ax 2, 20, .inl (fun j => nI (x_84 j)))), (g8, .inl (ax 0, 20, .inl x_88)), (g9, .inl (ax 1, 20, .inl (fun j => nI (x_85 j)))), (ga, .inl (ax 1, 29, .inl (fun j => nI (x_86 j)))), (gb, .inl (ax 1, 29, .inl (fun j => nI (x_87 j))))] := ⟨hP1, hD1⟩
  obtain ⟨hP, hD⟩ := hW7
  clear hP1 hD1 hS1
  have hE_111 : okf (u_53 1) (x_92 s9 = 100) := fun q => ((hx_98 q s9 (by first | assumption | omega)).2.2.2.2.2.2.2.2.1.trans (hop (okf.of (by first | assumption | omega) q)).1)
  have hL_112 : okf (u_53 1) (lst (u_53 13) (u_53 7) x_78 x_79 x_80 (sup x_81 s9 (u_53 10)) x_82 x_83 x_84 x_85 x_92 x_93 x_88 x_89 x_90 x_91) := (fun q => (hx_96 q).same (by first | assumption | omega) (hE_111 q) (fun i hi => sup_ne hi) (fun i hi => rfl) (fun i hi => rfl) (fun i hi => rfl) (fun i hi => rfl) (fun i hi => rfl))
  have hC_113 : okf (u_53 1) (clm (u_53 14) (u_53 12) x_86 x_87 (u_53 13) x_78 x_85) := hx_100
  refine lv_aload_n hx hb d_Reader_branch_39 rfl (lv_at hl1 0 rfl) ?_
  refine va_get (D := D) (ci := 7) (v := .ref k0) (C := R_Reader) (T := F_Reader) (N := 5) hx hb hts i_Reader hown hK.1 hP 0 rfl rfl 0 (by decide) (hts _ wd_75) (fun _ h9 => h9) rfl d_Reader_branch_40 ?_
  refine lv_bipush (v := 10) hx hb d_Reader_branch_43 (by decide) ?_
  obtain ⟨hPc, hDc, hFc, hCs⟩ := xw_sub3 (wc := [(k0, .inr (9, [.ref k1, .ref k2, .int (nI ts), .int (nI th), .int (nI (u_53 0)), .int (nI (u_53 1)), .int (nI (u_53 2)), .int (nI (u_53 3))])), (k1, .inl (ax 1, 400, .inl tb)), (k2, .inl (ax 0, 401, .inl (fun j => nI (tk j))))]) hP hD hS hA [1, 2, 3] (by decide) rfl
  have hz := xz_of hN hS
  refine va_callv (va_runV (As := [.int 10]) (rest := []) ⟨hx, hb, hml, hown, hts⟩ (c_K_need l D ax k0 k1 k2 tb tk (u_53 0) (u_53 1) (u_53 2) (u_53 3) cn ts th 10 H_110.size hkz (by assumption) (by first | assumption | omega) (by first | assumption | omega) (by first | assumption | omega) (by first | assumption | omega) (by first | assumption | omega)) (xcV (n := 1) hts wd_571 wd_2 wd_568 wd_569 wd_570 rfl rfl (by decide +kernel) ⟨(show (20) + 1 ≤ (210 + 20 * kf) by omega), (show 8 + (2 + 11) + (800) ≤ (8200 + 800 * kf) by omega)⟩) (xpV (ci := 9) (q0 := 0) (As := [.int 10]) hPc hK hz hDc rfl rfl) rfl rfl hl1.1 rfl (lv_room (Nat.le_of_ble_eq_true rfl)) d_Reader_branch_45 ⟨(show (u_1 8 - cp + (u_53 8 - (u_1 8))) + (0) ≤ (MX - cp) by omega), (show (6 * (u_1 8 - cp) + (6 * (u_53 8 - (u_1 8)))) + (0) ≤ (6 * (MX - cp)) by omega)⟩) hS (fun q _ h => hFc q h) hFc (fun u_114 t H_115 locs ht hvm hw hB hz1 hk1 hS1 => ?_)
  try dsimp only at hw
  obtain ⟨hs_117, hs_118, hs_119, hs_120, hs_121, hs_122, hs_123, hs_124⟩ := hw
  obtain ⟨hP1, hD1⟩ := hB
  rw [ht] at hP1
  have hjn := xw_join3 (wl := [(r0, .inr (7, [.ref k0, .ref g0, .ref n0, .int (nI (u_53 11)), .int (nI (u_53 9))])), (n0, .inr (4, [.ref (u_53 4), .ref (u_53 5), .ref (u_53 6), .int (nI (u_53 7))])), ((u_53 4), .inl (ax 1, u_53 8, .inl x_89)), ((u_53 5), .inl (ax 0, u_53 8, .inl x_90)), ((u_53 6), .inl (ax 0, u_53 8, .inl x_91)), (g0, .inr (2, [.ref n0, .ref g1, .ref g2, .ref g3, .ref g4, .ref g5, .ref g6, .ref g7, .ref g8, .ref g9, .ref ga, .ref gb, .int (nI (u_53 12)), .int (nI (u_53 13)), .int (nI (u_53 14)), .int (nI (u_53 15)), .int (nI (u_53 16))])), (g1, .inl (ax 1, 20, .inl (fun j => nI (x_78 j)))), (g2, .inl (ax 1, 20, .inl (fun j => nI (x_79 j)))), (g3, .inl (ax 1, 20, .inl (fun j => nI (x_80 j)))), (g4, .inl (ax 1, 20, .inl (fun j => nI (sup x_81 s9 (u_53 10) j)))), (g5, .inl (ax 1, 20, .inl (fun j => nI (x_82 j)))), (g6, .inl (ax 2, 20, .inl (fun j => nI (x_83 j)))), (g7, .inl (ax 2, 20, .inl (fun j => nI (x_84 j)))), (g8, .inl (ax 0, 20, .inl x_88)), (g9, .inl (ax 1, 20, .inl (fun j => nI (x_85 j)))), (ga, .inl (ax 1, 29, .inl (fun j => nI (x_86 j)))), (gb, .inl (ax 1, 29, .inl (fun j => nI (x_87 j)))), (k0, .inr (9, [.ref k1, .ref k2, .int (nI ts), .int (nI th), .int (nI (u_114 0)), .int (nI (u_114 1)), .int (nI (u_114 2)), .int (nI (u_114 3))])), (k1, .inl (ax 1, 400, .inl tb)), (k2, .inl (ax 0, 401, .inl (fun j => nI (tk j))))]) hP hD [1, 2, 3] [0, 4, 5, 6, 7, 8, 9, 10, 11, 12, 13, 14, 15, 16, 17, 18, 19] hCs (by decide) (by decide) hk1 hFc hP1 hD1 rfl
  clear hP1 hD1
  clear hPc hDc hFc hCs hz hz1 hk1 ht hvm
  clear hP hD hS
  have hS := hS1
  obtain ⟨hP, hD⟩ := hjn
  clear hS1
  have hL_125 : okf (u_114 1) (lst (u_53 13) (u_53 7) x_78 x_79 x_80 (sup x_81 s9 (u_53 10)) x_82 x_83 x_84 x_85 x_92 x_93 x_88 x_89 x_90 x_91) := hL_112.back hs_122
  have hC_126 : okf (u_114 1) (clm (u_53 14) (u_53 12) x_86 x_87 (u_53 13) x_78 x_85) := hC_113.back hs_122
  have hN_127 : okf (u_114 1) (ndv x_89 x_90 x_91 (u_53 7)) := hx_101.back hs_122
  have hQ_128 : okf (u_114 1) (nlq x_89 x_90 x_91 (u_53 7) x_95) := hQ_109.back hs_122
  have hO_129 : okf (u_114 1) (s9 = 4294967295 ∨ (s9 < (u_53 13) ∧ x_92 s9 = 100)) := fun q => Or.inr ⟨by omega, (hE_111 (okf.of (by first | assumption | omega) q))⟩
  refine lv_aload_n hx hb d_Reader_branch_48 rfl (lv_at hl1 0 rfl) ?_
  refine va_get (D := D) (ci := 7) (v := .ref g0) (C := R_Reader) (T := F_Reader) (N := 5) hx hb hts i_Reader hown hK.1 hP 0 rfl rfl 1 (by decide) (hts _ wd_76) (fun _ h9 => h9) rfl d_Reader_branch_49 ?_
  refine va_get (D := D) (ci := 2) (v := .ref g5) (C := R_Listing) (T := F_Listing) (N := 17) hx hb hts i_Listing hown hK.1 hP 5 rfl rfl 5 (by decide) (hts _ wd_283) (fun _ h9 => h9) rfl d_Reader_branch_52 ?_
  refine lv_iload_n hx hb d_Reader_branch_55 rfl (lv_at hl1 1 rfl) ?_
  have hK_131 : okf (u_114 1) (cll x_86 x_87 (u_53 12) = (0, 0) :: cln (x_94 ++ [it3])) := fun q => cq_n (x := it3) (hx_108 (okf.of (by first | assumption | omega) q)) (show ¬ (3 : Nat) = 5 by decide) (show ¬ (3 : Nat) = 8 by decide)
  have hV_130 : okf (u_114 1) (u_53 16 = vct (x_94 ++ [it3])) := fun q => by rw [vct_app, vct_n (x := it3) (show ¬ (3 : Nat) = 5 by decide)]; exact hx_107 (okf.of (by first | assumption | omega) q)
  refine lv_aload_n hx hb d_Reader_branch_56 rfl (lv_at hl1 0 rfl) ?_
  refine lv_iload_n hx hb d_Reader_branch_57 rfl (lv_at hl1 1 rfl) ?_
  obtain ⟨hPc, hDc, hFc, hCs⟩ := xw_sub3 (wc := [(r0, .inr (7, [.ref k0, .ref g0, .ref n0, .int (nI (u_53 11)), .int (nI (u_53 9))])), (k0, .inr (9, [.ref k1, .ref k2, .int (nI ts), .int (nI th), .int (nI (u_114 0)), .int (nI (u_114 1)), .int (nI (u_114 2)), .int (nI (u_114 3))])), (k1, .inl (ax 1, 400, .inl tb)), (k2, .inl (ax 0, 401, .inl (fun j => nI (tk j)))), (n0, .inr (4, [.ref (u_53 4), .ref (u_53 5), .ref (u_53 6), .int (nI (u_53 7))])), ((u_53 4), .inl (ax 1, u_53 8, .inl x_89)), ((u_53 5), .inl (ax 0, u_53 8, .inl x_90)), ((u_53 6), .inl (ax 0, u_53 8, .inl x_91)), (g0, .inr (2, [.ref n0, .ref g1, .ref g2, .ref g3, .ref g4, .ref g5, .ref g6, .ref g7, .ref g8, .ref g9, .ref ga, .ref gb, .int (nI (u_53 12)), .int (nI (u_53 13)), .int (nI (u_53 14)), .int (nI (u_53 15)), .int (nI (u_53 16))])), (g1, .inl (ax 1, 20, .inl (fun j => nI (x_78 j)))), (g2, .inl (ax 1, 20, .inl (fun j => nI (x_79 j)))), (g3, .inl (ax 1, 20, .inl (fun j => nI (x_80 j)))), (g4, .inl (ax 1, 20, .inl (fun j => nI ((sup x_81 s9 (u_53 10)) j)))), (g5, .inl (ax 1, 20, .inl (fun j => nI (x_82 j)))), (g6, .inl (ax 2, 20, .inl (fun j => nI (x_83 j)))), (g7, .inl (ax 2, 20, .inl (fun j => nI (x_84 j)))), (g8, .inl (ax 0, 20, .inl x_88)), (g9, .inl (ax 1, 20, .inl (fun j => nI (x_85 j)))), (ga, .inl (ax 1, 29, .inl (fun j => nI (x_86 j)))), (gb, .inl (ax 1, 29, .inl (fun j => nI (x_87 j))))]) hP hD hS hA [0, 17, 18, 19, 1, 2, 3, 4, 5, 6, 7, 8, 9, 10, 11, 12, 13, 14, 15, 16] (by decide) rfl
  have hz := xz_of hN hS
  refine wk_know (fun hk8 hk9 => ?_)
  refine va_calli (va_runV (As := [.int (nI s9)]) (rest := [.int (nI s9), .ref g5]) ⟨hx, hb, hml, hown, hts⟩ (c_R_statements l kf hst D ax r0 k0 k1 k2 tb tk (u_114 0) (u_114 1) (u_114 2) (u_114 3) cn ts th (u_53 11) (u_53 9) n0 (u_53 4) (u_53 5) (u_53 6) (u_53 8) (u_53 7) x_89 x_90 x_91 g0 g1 g2 g3 g4 g5 g6 g7 g8 g9 ga gb (u_53 12) (u_53 13) (u_53 14) (u_53 15) (u_53 16) x_78 x_79 x_80 (sup x_81 s9 (u_53 10)) x_82 x_83 x_84 x_85 x_86 x_87 x_88 MX x_92 x_93 (it3 :: sg) (x_94 ++ [it3]) x_95 s9 H_115.size (tsl H_115) hkz (by assumption) (by first | assumption | omega) (by first | assumption | omega) (by first | assumption | omega) (by first | assumption | omega) (by first | assumption | omega) (by first | assumption | omega) (by first | assumption | omega) (by first | assumption | omega) (by assumption) (by assumption) (by first | assumption | omega) (by first | assumption | omega) (by first | assumption | omega) (by first | assumption | omega) (by first | assumption | omega) (by assumption) (by assumption) (by assumption) (by assumption) (by assumption) (by first | assumption | omega) (by assumption) (by assumption) (by first | assumption | omega)) (xcV (n := 1) hts wd_617 wd_3 wd_614 wd_616 ps_14 rfl rfl (by decide +kernel) ⟨(show (205 + 20 * kf) + 1 ≤ (210 + 20 * kf) by omega), (show 8 + (6 + 11) + (8100 + 800 * kf) ≤ (8200 + 800 * kf) by omega)⟩) (xpV3 (ci := 7) (q0 := 0) (As := [.int (nI s9)]) hPc hK hz hDc rfl rfl) rfl rfl hl1.1 rfl (lv_room (Nat.le_of_ble_eq_true rfl)) d_Reader_branch_58 ⟨(show (u_1 8 - cp + (u_53 8 - (u_1 8))) + (MX - (u_53 8)) ≤ (MX - cp) by omega), (show (6 * (u_1 8 - cp) + (6 * (u_53 8 - (u_1 8)))) + (6 * (MX - (u_53 8))) ≤ (6 * (MX - cp)) by omega)⟩) hS (fun q _ h => hFc q h) hFc (fun r_134 u_132 t H_133 locs ht hvm hw hB hz1 hk1 hS1 => ?_)
  try dsimp only at hw
  obtain ⟨hw, hs_135, hs_136, hs_137, hs_138, hs_139, hs_140, hs_141, hs_142, hs_143, hs_144, hs_145, hs_146, hs_147, hs_148, hs_149, hs_150, hs_151, hs_152, hs_153, hs_154, hs_155, hs_156⟩ := hw
  subst hw
  obtain ⟨x_157, x_158, x_159, x_160, x_161, x_162, x_163, x_164, x_165, x_166, x_167, x_168, x_169, x_170, x_171, x_172, x_173, x_174, hg8, hg9, hx_175, hx_176, hx_177, hx_178, hx_179, hx_180, hx_181, hx_182, hx_183, hx_184, hx_185, hx_186, hx_187, hP1, hD1⟩ := hB
  rw [ht] at hg8 hg9 hP1
  have hjn := xw_join3 (wl := [(r0, .inr (7, [.ref k0, .ref g0, .ref n0, .int (nI (u_132 11)), .int (nI (u_132 9))])), (k0, .inr (9, [.ref k1, .ref k2, .int (nI ts), .int (nI th), .int (nI (u_132 0)), .int (nI (u_132 1)), .int (nI (u_132 2)), .int (nI (u_132 3))])), (k1, .inl (ax 1, 400, .inl tb)), (k2, .inl (ax 0, 401, .inl (fun j => nI (tk j)))), (n0, .inr (4, [.ref (u_132 4), .ref (u_132 5), .ref (u_132 6), .int (nI (u_132 7))])), ((u_132 4), .inl (ax 1, u_132 8, .inl x_168)), ((u_132 5), .inl (ax 0, u_132 8, .inl x_169)), ((u_132 6), .inl (ax 0, u_132 8, .inl x_170)), (g0, .inr (2, [.ref n0, .ref g1, .ref g2, .ref g3, .ref g4, .ref g5, .ref g6, .ref g7, .ref g8, .ref g9, .ref ga, .ref gb, .int (nI (u_132 12)), .int (nI (u_132 13)), .int (nI (u_132 14)), .int (nI (u_132 15)), .int (nI (u_132 16))])), (g1, .inl (ax 1, 20, .inl (fun j => nI (x_157 j)))), (g2, .inl (ax 1, 20, .inl (fun j => nI (x_158 j)))), (g3, .inl (ax 1, 20, .inl (fun j => nI (x_159 j)))), (g4, .inl (ax 1, 20, .inl (fun j => nI (x_160 j)))), (g5, .inl (ax 1, 20, .inl (fun j => nI (x_161 j)))), (g6, .inl (ax 2, 20, .inl (fun j => nI (x_162 j)))), (g7, .inl (ax 2, 20, .inl (fun j => nI (x_163 j)))), (g8, .inl (ax 0, 20, .inl x_167)), (g9, .inl (ax 1, 20, .inl (fun j => nI (x_164 j)))), (ga, .inl (ax 1, 29, .inl (fun j => nI (x_165 j)))), (gb, .inl (ax 1, 29, .inl (fun j => nI (x_166 j))))]) hP hD [0, 17, 18, 19, 1, 2, 3, 4, 5, 6, 7, 8, 9, 10, 11, 12, 13, 14, 15, 16] [] hCs (by decide) (by decide) hk1 hFc hP1 hD1 rfl
  clear hP1 hD1
  clear hPc hDc hFc hCs hz hz1 hk1 ht hvm
  clear hP hD hS
  have hS := hS1
  obtain ⟨hP, hD⟩ := hjn
  clear hS1
  refine wk_narrow (k := u_1 8 - cp + (u_53 8 - (u_1 8)) + (u_132 8 - (u_53 8))) (n := 6 * (u_1 8 - cp) + (6 * (u_53 8 - (u_1 8))) + (6 * (u_132 8 - (u_53 8)))) (by first | assumption | omega) (by first | assumption | omega) ?_
  clear hk8 hk9 hg8 hg9
  have hQ_188 : okf (u_132 1) (nlq x_168 x_169 x_170 (u_132 7) x_174) := fun q => (hx_185 q).1
  refine lv_i2b (v := nI (u_132 10)) hx hb d_Reader_branch_61 (nb_i2bs hs_156) ?_
  refine va_bast hx hb hK.1 hP hD hS 13 1 rfl rfl (vp_in_nI (by first | assumption | omega) (by decide)) d_Reader_branch_62 (fun H_189 locs hP1 hD1 hS1 => ?_)
  rw [nI_clamp (by first | exact Nat.lt_of_lt_of_le (by assumption) (by decide) | exact Nat.lt_of_le_of_lt (by assumption) (by decide) | omega)] at hP1 hD1
  rw [xf_supbs x_161 s9 (u_132 10) hs_156] at hP1 hD1
  clear hP hD hS
  have hS := hS1
  have hW7 : (fun w9 : va_W => va_P D classes w9 H_189 ∧ va_D A w9) [(r0, .inr (7, [.ref k0, .ref g0, .ref n0, .int (nI (u_132 11)), .int (nI (u_132 9))])), (k0, .inr (9, [.ref k1, .ref k2, .int (nI ts), .int (nI th), .int (nI (u_132 0)), .int (nI (u_132 1)), .int (nI (u_132 2)), .int (nI (u_132 3))])), (k1, .inl (ax 1, 400, .inl tb)), (k2, .inl (ax 0, 401, .inl (fun j => nI (tk j)))), (n0, .inr (4, [.ref (u_132 4), .ref (u_132 5), .ref (u_132 6), .int (nI (u_132 7))])), ((u_132 4), .inl (ax 1, u_132 8, .inl x_168)), ((u_132 5), .inl (ax 0, u_132 8, .inl x_169)), ((u_132 6), .inl (ax 0, u_132 8, .inl x_170)), (g0, .inr (2, [.ref n0, .ref g1, .ref g2, .ref g3, .ref g4, .ref g5, .ref g6, .ref g7, .ref g8, .ref g9, .ref ga, .ref gb, .int (nI (u_132 12)), .int (nI (u_132 13)), .int (nI (u_132 14)), .int (nI (u_132 15)), .int (nI (u_132 16))])), (g1, .inl (ax 1, 20, .inl (fun j => nI (x_157 j)))), (g2, .inl (ax 1, 20, .inl (fun j => nI (x_158 j)))), (g3, .inl (ax 1, 20, .inl (fun j => nI (x_159 j)))), (g4, .inl (ax 1, 20, .inl (fun j => nI (x_160 j)))), (g5, .inl (ax 1, 20, .inl (fun j => nI (sup x_161 s9 (u_132 10) j)))), (g6, .inl (ax 2, 20, .inl (fun j => nI (x_162 j)))), (g7, .inl (ax 2, 20, .inl (fun j => nI (x_163 j)))), (g8, .inl (ax 0, 20, .inl x_167)), (g9, .inl (ax 1, 20, .inl (fun j => nI (x_164 j)))), (ga, .inl (ax 1, 29, .inl (fun j => nI (x_165 j)))), (gb, .inl (ax 1, 29, .inl (fun j => nI (x_166 j))))] := ⟨hP1, hD1⟩
  obtain ⟨hP, hD⟩ := hW7
  clear hP1 hD1 hS1
  have hE_190 : okf (u_132 1) (x_171 s9 = 100) := fun q => ((hx_177 q s9 (by first | assumption | omega)).2.2.2.2.2.2.2.2.1.trans (hE_111 (okf.of (by first | assumption | omega) q)))
  have hL_191 : okf (u_132 1) (lst (u_132 13) (u_132 7) x_157 x_158 x_159 x_160 (sup x_161 s9 (u_132 10)) x_162 x_163 x_164 x_171 x_172 x_167 x_168 x_169 x_170) := (fun q => (hx_175 q).same (by first | assumption | omega) (hE_190 q) (fun i hi => rfl) (fun i hi => sup_ne hi) (fun i hi => rfl) (fun i hi => rfl) (fun i hi => rfl) (fun i hi => rfl))
  have hC_192 : okf (u_132 1) (clm (u_132 14) (u_132 12) x_165 x_166 (u_132 13) x_157 x_164) := hx_179
  refine lv_aload_n hx hb d_Reader_branch_63 rfl (lv_at hl1 0 rfl) ?_
  refine va_get (D := D) (ci := 7) (v := .ref k0) (C := R_Reader) (T := F_Reader) (N := 5) hx hb hts i_Reader hown hK.1 hP 0 rfl rfl 0 (by decide) (hts _ wd_75) (fun _ h9 => h9) rfl d_Reader_branch_64 ?_
  refine lv_bipush (v := 11) hx hb d_Reader_branch_67 (by decide) ?_
  obtain ⟨hPc, hDc, hFc, hCs⟩ := xw_sub3 (wc := [(k0, .inr (9, [.ref k1, .ref k2, .int (nI ts), .int (nI th), .int (nI (u_132 0)), .int (nI (u_132 1)), .int (nI (u_132 2)), .int (nI (u_132 3))])), (k1, .inl (ax 1, 400, .inl tb)), (k2, .inl (ax 0, 401, .inl (fun j => nI (tk j))))]) hP hD hS hA [1, 2, 3] (by decide) rfl
  have hz := xz_of hN hS
  refine va_callv (va_runV (As := [.int 11]) (rest := []) ⟨hx, hb, hml, hown, hts⟩ (c_K_need l D ax k0 k1 k2 tb tk (u_132 0) (u_132 1) (u_132 2) (u_132 3) cn ts th 11 H_189.size hkz (by assumption) (by first | assumption | omega) (by first | assumption | omega) (by first | assumption | omega) (by first | assumption | omega) (by first | assumption | omega)) (xcV (n := 1) hts wd_571 wd_2 wd_568 wd_569 wd_570 rfl rfl (by decide +kernel) ⟨(show (20) + 1 ≤ (210 + 20 * kf) by omega), (show 8 + (2 + 11) + (800) ≤ (8200 + 800 * kf) by omega)⟩) (xpV (ci := 9) (q0 := 0) (As := [.int 11]) hPc hK hz hDc rfl rfl) rfl rfl hl1.1 rfl (lv_room (Nat.le_of_ble_eq_true rfl)) d_Reader_branch_69 ⟨(show (u_1 8 - cp + (u_53 8 - (u_1 8)) + (u_132 8 - (u_53 8))) + (0) ≤ (MX - cp) by omega), (show (6 * (u_1 8 - cp) + (6 * (u_53 8 - (u_1 8))) + (6 * (u_132 8 - (u_53 8)))) + (0) ≤ (6 * (MX - cp)) by omega)⟩) hS (fun q _ h => hFc q h) hFc (fun u_193 t H_194 locs ht hvm hw hB hz1 hk1 hS1 => ?_)
  try dsimp only at hw
  obtain ⟨hs_196, hs_197, hs_198, hs_199, hs_200, hs_201, hs_202, hs_203⟩ := hw
  obtain ⟨hP1, hD1⟩ := hB
  rw [ht] at hP1
  have hjn := xw_join3 (wl := [(r0, .inr (7, [.ref k0, .ref g0, .ref n0, .int (nI (u_132 11)), .int (nI (u_132 9))])), (n0, .inr (4, [.ref (u_132 4), .ref (u_132 5), .ref (u_132 6), .int (nI (u_132 7))])), ((u_132 4), .inl (ax 1, u_132 8, .inl x_168)), ((u_132 5), .inl (ax 0, u_132 8, .inl x_169)), ((u_132 6), .inl (ax 0, u_132 8, .inl x_170)), (g0, .inr (2, [.ref n0, .ref g1, .ref g2, .ref g3, .ref g4, .ref g5, .ref g6, .ref g7, .ref g8, .ref g9, .ref ga, .ref gb, .int (nI (u_132 12)), .int (nI (u_132 13)), .int (nI (u_132 14)), .int (nI (u_132 15)), .int (nI (u_132 16))])), (g1, .inl (ax 1, 20, .inl (fun j => nI (x_157 j)))), (g2, .inl (ax 1, 20, .inl (fun j => nI (x_158 j)))), (g3, .inl (ax 1, 20, .inl (fun j => nI (x_159 j)))), (g4, .inl (ax 1, 20, .inl (fun j => nI (x_160 j)))), (g5, .inl (ax 1, 20, .inl (fun j => nI (sup x_161 s9 (u_132 10) j)))), (g6, .inl (ax 2, 20, .inl (fun j => nI (x_162 j)))), (g7, .inl (ax 2, 20, .inl (fun j => nI (x_163 j)))), (g8, .inl (ax 0, 20, .inl x_167)), (g9, .inl (ax 1, 20, .inl (fun j => nI (x_164 j)))), (ga, .inl (ax 1, 29, .inl (fun j => nI (x_165 j)))), (gb, .inl (ax 1, 29, .inl (fun j => nI (x_166 j)))), (k0, .inr (9, [.ref k1, .ref k2, .int (nI ts), .int (nI th), .int (nI (u_193 0)), .int (nI (u_193 1)), .int (nI (u_193 2)), .int (nI (u_193 3))])), (k1, .inl (ax 1, 400, .inl tb)), (k2, .inl (ax 0, 401, .inl (fun j => nI (tk j))))]) hP hD [1, 2, 3] [0, 4, 5, 6, 7, 8, 9, 10, 11, 12, 13, 14, 15, 16, 17, 18, 19] hCs (by decide) (by decide) hk1 hFc hP1 hD1 rfl
  clear hP1 hD1
  clear hPc hDc hFc hCs hz hz1 hk1 ht hvm
  clear hP hD hS
  have hS := hS1
  obtain ⟨hP, hD⟩ := hjn
  clear hS1
  have hL_204 : okf (u_193 1) (lst (u_132 13) (u_132 7) x_157 x_158 x_159 x_160 (sup x_161 s9 (u_132 10)) x_162 x_163 x_164 x_171 x_172 x_167 x_168 x_169 x_170) := hL_191.back hs_201
  have hC_205 : okf (u_193 1) (clm (u_132 14) (u_132 12) x_165 x_166 (u_132 13) x_157 x_164) := hC_192.back hs_201
  have hF : okf (u_193 1) ((cls ln (u_132 13) x_171) ∧ (sae s9 ln kd ow sb f1 f2 te kp nm en kc x_157 x_158 x_159 x_160 (sup x_161 s9 (u_132 10)) x_162 x_163 x_164 x_171 x_172 tm x_167) ∧ (lsc (u_132 13) (u_132 7) x_157 x_160 (sup x_161 s9 (u_132 10)) x_162 x_163 x_164 x_172 x_167 x_168 x_169 x_170 s9) ∧ (∀ i, i < z9 → tsn x_168 x_169 x_170 i = tsn fo fl fr i)) := by
    intro q
    have q2 : u_132 1 = 4294967295 := okf.of (by first | assumption | omega) q
    have q1 : u_53 1 = 4294967295 := okf.of (by first | assumption | omega) q2
    have q0 : u_1 1 = 4294967295 := okf.of (by first | assumption | omega) q1
    have qz : tf = 4294967295 := okf.of (by first | assumption | omega) q0
    have ha := hx_98 q1; have hb2 := hx_177 q2
    have hc9 := (Nat.lt_of_succ_le (Nat.le_of_eq (hs_16 q0))); have ht9 := hx_25 q0; have hk9 := hx_26 q0
    have hr1 := hx_99 q1; have hr2 := hx_178 q2
    obtain ⟨a1, a2, a3, a4, a5, a6, a7, a8, a9, a10, a11⟩ := ha s9 (by first | assumption | omega)
    obtain ⟨b1, b2, b3, b4, b5, b6, b7, b8, b9, b10, b11⟩ := hb2 s9 (by first | assumption | omega)
    have hk8 := (hop qz).2
    have hT1 := hx_103 q1; have hT2 := hx_182 q2
    have hcl1 := hx_97 q1; have hcl2 := hx_176 q2
    refine ⟨hcl1.tr hcl2 (fun i hi => (hb2 i hi).2.2.2.2.2.2.2.2.1) (by first | assumption | omega), ⟨fun i hi he => ?_, b1.trans a1, b2.trans a2, b3.trans a3, b9.trans a9⟩, ?_, fun i hi => (hT2 i (by first | assumption | omega)).trans ((hT1 i (by first | assumption | omega)).trans (hk9 i hi))⟩
    · obtain ⟨x1, x2, x3, x4, x5, x6, x7, x8, x9, x10, x11⟩ := ha i hi
      obtain ⟨y1, y2, y3, y4, y5, y6, y7, y8, y9, y10, y11⟩ := hb2 i (by first | assumption | omega)
      exact ⟨y1.trans x1, y2.trans x2, y3.trans x3, (y4.trans (sup_ne he)).trans x4, (sup_ne he).trans (y5.trans x5), y6.trans (x6.trans (sup_ne he)), y7.trans x7, y8.trans x8, y9.trans x9, y10.trans (x10.trans (sup_ne he)), y11.trans x11⟩
    · have e8 : x_157 s9 = 8 := (b1.trans a1).trans hk8
      have e6 : x_162 s9 = u_1 10 := b6.trans (a6.trans sup_eq)
      have e4 : x_160 s9 = u_53 10 := b4.trans sup_eq
      have e5 : (sup x_161 s9 (u_132 10)) s9 = u_132 10 := sup_eq
      have e10 := b10.trans (a10.trans sup_eq)
      refine ⟨fun h => by omega, fun _ => ⟨by omega, ?_, by omega, by omega, by omega, by omega⟩, fun h => by omega, fun h => by omega⟩
      rw [e6, e10, hT2 _ (by first | assumption | omega), hT1 _ (by first | assumption | omega)]; omega
  have hB9 : okf (u_193 1) (bk9 s9 (u_132 13) x_157 x_158 x_159 x_160 (sup x_161 s9 (u_132 10)) x_162 x_163 x_164 x_167 x_174 (ow s9) s9 pl (x_173 ++ [it4])) := by
    intro q
    have q2 : u_132 1 = 4294967295 := okf.of (by first | assumption | omega) q
    have q1 : u_53 1 = 4294967295 := okf.of (by first | assumption | omega) q2
    have q0 : u_1 1 = 4294967295 := okf.of (by first | assumption | omega) q1
    have qz : tf = 4294967295 := okf.of (by first | assumption | omega) q0
    obtain ⟨la, hba⟩ := hx_105 q1
    obtain ⟨lb, hbb⟩ := hx_184 q2
    have hna := hx_106 q1; have hnb := hx_185 q2
    have ha := hx_98 q1; have hb2 := hx_177 q2
    have hr1 := hx_99 q1; have hr2 := hx_178 q2
    have hg9 := hG_31 q0; have hl9 := hQ_30 q0; have hc9 := hs_16 q0
    obtain ⟨a1, a2, a3, a4, a5, a6, a7, a8, a9, a10, a11⟩ := ha s9 (by first | assumption | omega)
    obtain ⟨b1, b2, b3, b4, b5, b6, b7, b8, b9, b10, b11⟩ := hb2 s9 (by first | assumption | omega)
    have hz9 := (hx_27 q0).2
    rw [show ln = s9 + 1 by omega] at hba
    refine bk9_br (hba.fr (fun i hp hi => ?_) hna.1.2.2.1 hnb.2) (hbb.fr (fun i hp hi => ⟨rfl, rfl, rfl, rfl, sup_ne (by first | assumption | omega), rfl, rfl, rfl, rfl⟩) hnb.1.2.2.1 prx.rf) ((b1.trans a1).trans (hop qz).2) ((b4.trans sup_eq).trans (by first | assumption | omega)) (sup_eq.trans hr2.1) ((b3.trans a3).trans (hsb qz)) (b2.trans a2) rfl (itm_if hg9.1 hg9.2 ?_ ((b1.trans a1).trans (hop qz).2))
    · obtain ⟨y1, y2, y3, y4, y5, y6, y7, y8, y9, y10, y11⟩ := hb2 i (by first | assumption | omega)
      exact ⟨y1, y2, y3, y4.trans (sup_ne (by first | assumption | omega)), (sup_ne (by first | assumption | omega)).trans y5, y6, y7, y8, y11⟩
    · rw [b6.trans (a6.trans sup_eq)]
      exact cnd_at (hnl qz).2.1 hg9.1 hl9.2.2.1 (hna.2.tr hnb.2) (by first | assumption | omega)
  have hB8 : okf (u_193 1) (nlq x_168 x_169 x_170 (u_132 7) x_174 ∧ prx L0 x_174) := fun q => ⟨(hx_185 (okf.of (by first | assumption | omega) q)).1, prx.tr (show prx L0 (L0 ++ x_22) from ⟨_, rfl⟩) ((hx_106 (okf.of (by first | assumption | omega) (okf.of (by first | assumption | omega) q : u_132 1 = 4294967295))).2.tr (hx_185 (okf.of (by first | assumption | omega) q)).2)⟩
  have hB7 : okf (u_193 1) (u_132 16 = vct (x_173 ++ [it4])) := fun q => by rw [vct_app, vct_n (x := it4) (show ¬ (4 : Nat) = 5 by decide)]; exact hx_186 (okf.of (by first | assumption | omega) q)
  have hB6 : okf (u_193 1) (cll x_165 x_166 (u_132 12) = (0, 0) :: cln (x_173 ++ [it4])) := fun q => cq_n (x := it4) (hx_187 (okf.of (by first | assumption | omega) q)) (show ¬ (4 : Nat) = 5 by decide) (show ¬ (4 : Nat) = 8 by decide)
  rw [← hQe]
  refine wk_know (fun hk8 hk9 => ?_)
  refine W.widen (k := MX - cp) (n := 6 * (MX - cp)) (by first | assumption | omega) (by first | assumption | omega) ?_
  obtain ⟨hP9, hD9⟩ := xw_sub2 (wc := (fun (u : Nat → Nat) (xkd : Nat → Nat) (xow : Nat → Nat) (xsb : Nat → Nat) (xf1 : Nat → Nat) (xf2 : Nat → Nat) (xte : Nat → Nat) (xkp : Nat → Nat) (xnm : Nat → Nat) (xck : Nat → Nat) (xco : Nat → Nat) (xtm : Nat → Int32) (xfo : Nat → Int32) (xfl : Nat → Int32) (xfr : Nat → Int32) (xen : Nat → Nat) (xkc : Nat → Nat) (xpl : List itT) (xL : List sgT) => [(r0, .inr (7, [.ref k0, .ref g0, .ref n0, .int (nI (u 11)), .int (nI (u 9))])), (k0, .inr (9, [.ref k1, .ref k2, .int (nI ts), .int (nI th), .int (nI (u 0)), .int (nI (u 1)), .int (nI (u 2)), .int (nI (u 3))])), (k1, .inl (ax 1, 400, .inl tb)), (k2, .inl (ax 0, 401, .inl (fun j => nI (tk j)))), (n0, .inr (4, [.ref (u 4), .ref (u 5), .ref (u 6), .int (nI (u 7))])), (u 4, .inl (ax 1, u 8, .inl xfo)), (u 5, .inl (ax 0, u 8, .inl xfl)), (u 6, .inl (ax 0, u 8, .inl xfr)), (g0, .inr (2, [.ref n0, .ref g1, .ref g2, .ref g3, .ref g4, .ref g5, .ref g6, .ref g7, .ref g8, .ref g9, .ref ga, .ref gb, .int (nI (u 12)), .int (nI (u 13)), .int (nI (u 14)), .int (nI (u 15)), .int (nI (u 16))])), (g1, .inl (ax 1, 20, .inl (fun j => nI (xkd j)))), (g2, .inl (ax 1, 20, .inl (fun j => nI (xow j)))), (g3, .inl (ax 1, 20, .inl (fun j => nI (xsb j)))), (g4, .inl (ax 1, 20, .inl (fun j => nI (xf1 j)))), (g5, .inl (ax 1, 20, .inl (fun j => nI (xf2 j)))), (g6, .inl (ax 2, 20, .inl (fun j => nI (xte j)))), (g7, .inl (ax 2, 20, .inl (fun j => nI (xkp j)))), (g8, .inl (ax 0, 20, .inl xtm)), (g9, .inl (ax 1, 20, .inl (fun j => nI (xnm j)))), (ga, .inl (ax 1, 29, .inl (fun j => nI (xck j)))), (gb, .inl (ax 1, 29, .inl (fun j => nI (xco j))))]) (ixn [(u_193 0), (u_193 1), (u_193 2), (u_193 3), (u_132 4), (u_132 5), (u_132 6), (u_132 7), (u_132 8), (u_132 9), 0, (u_132 11), (u_132 12), (u_132 13), (u_132 14), (u_132 15), (u_132 16)]) x_157 x_158 x_159 x_160 (sup x_161 s9 (u_132 10)) x_162 x_163 x_164 x_165 x_166 x_167 x_168 x_169 x_170 x_171 x_172 (x_173 ++ [it4]) x_174) hP hD [0, 17, 18, 19, 1, 2, 3, 4, 5, 6, 7, 8, 9, 10, 11, 12, 13, 14, 15, 16] (by decide) rfl
  have hex0 : okf ((u_193 1)) (lst ((u_132 13)) ((u_132 7)) x_157 x_158 x_159 x_160 (sup x_161 s9 (u_132 10)) x_162 x_163 x_164 x_171 x_172 x_167 x_168 x_169 x_170) := hL_204
  have hex1 : okf ((u_193 1)) (cls ln ((u_132 13)) x_171) := (fun q => (hF q).1)
  have hex2 : okf ((u_193 1)) (sae s9 ln kd ow sb f1 f2 te kp nm en kc x_157 x_158 x_159 x_160 (sup x_161 s9 (u_132 10)) x_162 x_163 x_164 x_171 x_172 tm x_167) := (fun q => (hF q).2.1)
  have hex3 : okf ((u_193 1)) (lsc ((u_132 13)) ((u_132 7)) x_157 x_160 (sup x_161 s9 (u_132 10)) x_162 x_163 x_164 x_172 x_167 x_168 x_169 x_170 s9) := (fun q => (hF q).2.2.1)
  have hex4 : okf ((u_193 1)) (clm ((u_132 14)) ((u_132 12)) x_165 x_166 ((u_132 13)) x_157 x_164) := hC_205
  have hex5 : okf ((u_193 1)) (ndv x_168 x_169 x_170 ((u_132 7))) := (hx_180.back hs_201)
  have hex6 : bts x_168 ((u_132 8)) := (by assumption)
  have hex7 : okf ((u_193 1)) (∀ i, i < z9 → tsn x_168 x_169 x_170 i = tsn fo fl fr i) := (fun q => (hF q).2.2.2)
  have hex8 : brS tk 2 b0 tf ta sg ln br lp pl ((u_193 1)) ((u_193 0)) ((u_132 13)) ((u_132 14)) ((u_132 15)) (x_173 ++ [it4]) := (br_of (by first | assumption | omega) hb0 hb1 hx_28 hs_4 hs_45 hx_104 hs_76 hs_56 hs_124 hx_183 hs_155 hs_135 hs_203)
  have hex9 : okf ((u_193 1)) (bk9 s9 ((u_132 13)) x_157 x_158 x_159 x_160 (sup x_161 s9 (u_132 10)) x_162 x_163 x_164 x_167 x_174 (ow s9) s9 pl (x_173 ++ [it4])) := hB9
  have hex10 : okf ((u_193 1)) (nlq x_168 x_169 x_170 ((u_132 7)) x_174 ∧ prx L0 x_174) := hB8
  have hex11 : okf ((u_193 1)) ((u_132 16) = vct (x_173 ++ [it4])) := hB7
  have hex12 : okf ((u_193 1)) (cll x_165 x_166 ((u_132 12)) = (0, 0) :: cln (x_173 ++ [it4])) := hB6
  have hg8 : H_194.size ≤ s.heap.size + ((u_132 8) - cp) := by omega
  have hg9 : tsl H_194 ≤ tsl s.heap + (6 * ((u_132 8) - cp)) := by omega
  have hsp0 : rst tk ((u_193 1)) ((u_193 2)) ((u_193 3)) ((u_193 0)) cn := (by assumption)
  have hsp1 : (u_193 0) ≤ cn := (by first | assumption | omega)
  have hsp2 : (u_193 2) < 128 := (by first | assumption | omega)
  have hsp3 : (u_193 3) < 1024 := (by first | assumption | omega)
  have hsp4 : ta ≤ (u_193 0) := (by first | assumption | omega)
  have hsp5 : ftf tf ≤ ftf ((u_193 1)) := (by first | assumption | omega)
  have hsp6 : z9 ≤ (u_132 7) := (by first | assumption | omega)
  have hsp7 : (u_132 7) + ta ≤ z9 + (u_193 0) + 2 * ((u_132 13) - ln) + 2 := (by first | assumption | omega)
  have hsp8 : (u_132 7) ≤ (u_132 8) := (by first | assumption | omega)
  have hsp9 : cp ≤ (u_132 8) := (by first | assumption | omega)
  have hsp10 : (u_132 8) ≤ MX := (by first | assumption | omega)
  have hsp11 : (u_132 11) ≤ 1 := (by first | assumption | omega)
  have hsp12 : (u_132 12) ≤ 1 + 2 * (u_132 15) + (u_132 13) := (by first | assumption | omega)
  have hsp13 : ln ≤ (u_132 13) := (by first | assumption | omega)
  have hsp14 : (u_132 13) ≤ 20 := (by first | assumption | omega)
  have hsp15 : br ≤ (u_132 14) := (by first | assumption | omega)
  have hsp16 : (u_132 14) ≤ 4 := (by first | assumption | omega)
  have hsp17 : lp ≤ (u_132 15) := (by first | assumption | omega)
  have hsp18 : (u_132 15) ≤ 4 := (by first | assumption | omega)
  have hsp19 : (u_132 16) ≤ (u_132 15) := (by first | assumption | omega)
  exact W.vret hx hb hr (fun t ht hW => ⟨⟨ixn [(u_193 0), (u_193 1), (u_193 2), (u_193 3), (u_132 4), (u_132 5), (u_132 6), (u_132 7), (u_132 8), (u_132 9), 0, (u_132 11), (u_132 12), (u_132 13), (u_132 14), (u_132 15), (u_132 16)], rfl, ⟨hsp0, hsp1, hsp2, hsp3, hsp4, hsp5, hsp6, hsp7, hsp8, hsp9, hsp10, hsp11, hsp12, hsp13, hsp14, hsp15, hsp16, hsp17, hsp18, hsp19⟩, ⟨x_157, x_158, x_159, x_160, sup x_161 s9 (u_132 10), x_162, x_163, x_164, x_165, x_166, x_167, x_168, x_169, x_170, x_171, x_172, (x_173 ++ [it4]), x_174, by rw [ht]; exact hg8, by rw [ht]; exact hg9, hex0, hex1, hex2, hex3, hex4, hex5, hex6, hex7, hex8, hex9, hex10, hex11, hex12, by rw [ht]; exact hP9, hD9⟩⟩, hS.F ht⟩) hS.2.2 d_Reader_branch_72
