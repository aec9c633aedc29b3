theorem ps_27 : Cond.selects "TripleDesk$Maker" ⟨"TripleDesk$Maker", "wp", "(I)I"⟩ ⟨"TripleDesk$Maker", "wp", "(I)I"⟩ ∈ lw_gd := ps_in (q := (⟨"TripleDesk$Maker", "wp", "(I)I"⟩, 5)) (i := 27) (by decide +kernel)
theorem ps_28 : Cond.selects "TripleDesk$Maker" ⟨"TripleDesk$Maker", "wpOfAssignment", "(I)I"⟩ ⟨"TripleDesk$Maker", "wpOfAssignment", "(I)I"⟩ ∈ lw_gd := ps_in (q := (⟨"TripleDesk$Maker", "wpOfAssignment", "(I)I"⟩, 5)) (i := 28) (by decide +kernel)
theorem ps_29 : Cond.selects "TripleDesk$Maker" ⟨"TripleDesk$Maker", "wpBehind", "(I)I"⟩ ⟨"TripleDesk$Maker", "wpBehind", "(I)I"⟩ ∈ lw_gd := ps_in (q := (⟨"TripleDesk$Maker", "wpBehind", "(I)I"⟩, 5)) (i := 29) (by decide +kernel)
theorem ps_30 : Cond.selects "TripleDesk$Maker" ⟨"TripleDesk$Maker", "endOfBody", "(I)I"⟩ ⟨"TripleDesk$Maker", "endOfBody", "(I)I"⟩ ∈ lw_gd := ps_in (q := (⟨"TripleDesk$Maker", "endOfBody", "(I)I"⟩, 5)) (i := 30) (by decide +kernel)
theorem ps_31 : Cond.selects "TripleDesk$Maker" ⟨"TripleDesk$Maker", "wpOfBranch", "(I)I"⟩ ⟨"TripleDesk$Maker", "wpOfBranch", "(I)I"⟩ ∈ lw_gd := ps_in (q := (⟨"TripleDesk$Maker", "wpOfBranch", "(I)I"⟩, 5)) (i := 31) (by decide +kernel)
theorem wd_133 : ((Jvm.Cond.fieldLink "TripleDesk$Maker" (33 : Nat) "TripleDesk$Maker" "after" "LTripleDesk$Nodes;")) ∈ lw_gd := lw_gd_in (i := 133) (by decide +kernel) rfl
theorem wd_273 : ((Jvm.Cond.fieldLink "TripleDesk$Maker" (90 : Nat) "TripleDesk$Listing" "kind" "[B")) ∈ lw_gd := lw_gd_in (i := 273) (by decide +kernel) rfl
theorem wd_279 : ((Jvm.Cond.fieldLink "TripleDesk$Maker" (84 : Nat) "TripleDesk$Listing" "first" "[B")) ∈ lw_gd := lw_gd_in (i := 279) (by decide +kernel) rfl
theorem wd_284 : ((Jvm.Cond.fieldLink "TripleDesk$Maker" (102 : Nat) "TripleDesk$Listing" "second" "[B")) ∈ lw_gd := lw_gd_in (i := 284) (by decide +kernel) rfl
theorem wd_286 : ((Jvm.Cond.fieldLink "TripleDesk$Maker" (67 : Nat) "TripleDesk$Listing" "test" "[S")) ∈ lw_gd := lw_gd_in (i := 286) (by decide +kernel) rfl
theorem wd_769 : ((Jvm.Cond.methodLink "TripleDesk$Maker" (42 : Nat) ({ cls := "TripleDesk$Nodes", name := "root", desc := "()I" } : Jvm.MethodName))) ∈ lw_gd := lw_gd_in (i := 769) (by decide +kernel) rfl
theorem wd_790 : ((Jvm.Cond.methodLink "TripleDesk$Maker" (80 : Nat) ({ cls := "TripleDesk$Maker", name := "wp", desc := "(I)I" } : Jvm.MethodName))) ∈ lw_gd := lw_gd_in (i := 790) (by decide +kernel) rfl
theorem wd_792 : ((Jvm.Cond.instanceMethod ({ cls := "TripleDesk$Maker", name := "wp", desc := "(I)I" } : Jvm.MethodName))) ∈ lw_gd := lw_gd_in (i := 792) (by decide +kernel) rfl
theorem wd_793 : ((Jvm.Cond.code ({ cls := "TripleDesk$Maker", name := "wp", desc := "(I)I" } : Jvm.MethodName) prog_5_method_6_code (2 : Nat) (Option.some Jvm.ClassFile.FieldType.int))) ∈ lw_gd := lw_gd_in (i := 793) (by decide +kernel) rfl
theorem wd_794 : ((Jvm.Cond.methodLink "TripleDesk$Maker" (93 : Nat) ({ cls := "TripleDesk$Maker", name := "wpOfAssignment", desc := "(I)I" } : Jvm.MethodName))) ∈ lw_gd := lw_gd_in (i := 794) (by decide +kernel) rfl
theorem wd_796 : ((Jvm.Cond.instanceMethod ({ cls := "TripleDesk$Maker", name := "wpOfAssignment", desc := "(I)I" } : Jvm.MethodName))) ∈ lw_gd := lw_gd_in (i := 796) (by decide +kernel) rfl
theorem wd_797 : ((Jvm.Cond.code ({ cls := "TripleDesk$Maker", name := "wpOfAssignment", desc := "(I)I" } : Jvm.MethodName) prog_5_method_7_code (5 : Nat) (Option.some Jvm.ClassFile.FieldType.int))) ∈ lw_gd := lw_gd_in (i := 797) (by decide +kernel) rfl
theorem wd_798 : ((Jvm.Cond.methodLink "TripleDesk$Maker" (87 : Nat) ({ cls := "TripleDesk$Maker", name := "wpBehind", desc := "(I)I" } : Jvm.MethodName))) ∈ lw_gd := lw_gd_in (i := 798) (by decide +kernel) rfl
theorem wd_800 : ((Jvm.Cond.instanceMethod ({ cls := "TripleDesk$Maker", name := "wpBehind", desc := "(I)I" } : Jvm.MethodName))) ∈ lw_gd := lw_gd_in (i := 800) (by decide +kernel) rfl
theorem wd_801 : ((Jvm.Cond.code ({ cls := "TripleDesk$Maker", name := "wpBehind", desc := "(I)I" } : Jvm.MethodName) prog_5_method_9_code (3 : Nat) (Option.some Jvm.ClassFile.FieldType.int))) ∈ lw_gd := lw_gd_in (i := 801) (by decide +kernel) rfl
theorem wd_802 : ((Jvm.Cond.methodLink "TripleDesk$Maker" (105 : Nat) ({ cls := "TripleDesk$Listing", name := "behind", desc := "(I)I" } : Jvm.MethodName))) ∈ lw_gd := lw_gd_in (i := 802) (by decide +kernel) rfl
theorem wd_806 : ((Jvm.Cond.methodLink "TripleDesk$Maker" (108 : Nat) ({ cls := "TripleDesk$Maker", name := "endOfBody", desc := "(I)I" } : Jvm.MethodName))) ∈ lw_gd := lw_gd_in (i := 806) (by decide +kernel) rfl
theorem wd_808 : ((Jvm.Cond.instanceMethod ({ cls := "TripleDesk$Maker", name := "endOfBody", desc := "(I)I" } : Jvm.MethodName))) ∈ lw_gd := lw_gd_in (i := 808) (by decide +kernel) rfl
theorem wd_809 : ((Jvm.Cond.code ({ cls := "TripleDesk$Maker", name := "endOfBody", desc := "(I)I" } : Jvm.MethodName) prog_5_method_10_code (4 : Nat) (Option.some Jvm.ClassFile.FieldType.int))) ∈ lw_gd := lw_gd_in (i := 809) (by decide +kernel) rfl
theorem wd_810 : ((Jvm.Cond.methodLink "TripleDesk$Maker" (96 : Nat) ({ cls := "TripleDesk$Maker", name := "wpOfBranch", desc := "(I)I" } : Jvm.MethodName))) ∈ lw_gd := lw_gd_in (i := 810) (by decide +kernel) rfl
theorem wd_812 : ((Jvm.Cond.instanceMethod ({ cls := "TripleDesk$Maker", name := "wpOfBranch", desc := "(I)I" } : Jvm.MethodName))) ∈ lw_gd := lw_gd_in (i := 812) (by decide +kernel) rfl
theorem wd_813 : ((Jvm.Cond.code ({ cls := "TripleDesk$Maker", name := "wpOfBranch", desc := "(I)I" } : Jvm.MethodName) prog_5_method_8_code (5 : Nat) (Option.some Jvm.ClassFile.FieldType.int))) ∈ lw_gd := lw_gd_in (i := 813) (by decide +kernel) rfl
abbrev b_Maker_wp : ByteArray := prog_5_method_6_code
def y_Maker_wp : MethodName := ⟨R_Maker, "wp", "(I)I"⟩
def CWp (l : Launch) (s9 : Nat) : Prop := ∀ (D : va_G) (ax : Nat → ClassId) (c0 c1 : Nat) (s_made : Int32) (sd : Nat → Int32) (n0 n1 n2 n3 cp z9 : Nat) (fo fl fr : Nat → Int32) (h0 h1 h2 h3 zs cs : Nat) (so sl sr : Nat → Int32) (a0 a1 a2 a3 za ca : Nat) (ao al ar : Nat → Int32) (g0 g1 g2 g3 g4 g5 g6 g7 g8 g9 ga gb cl ln br lp va : Nat) (kd ow sb f1 f2 te kp nm ck co : Nat → Nat) (tm : Nat → Int32) (MX : Nat) (en kc : Nat → Nat) (sz tz : Nat) (hcp : 8 ≤ cp) (hz9 : z9 ≤ cp) (hmx : cp ≤ MX) (hMX : MX ≤ 100000) (hfo : bts fo cp) (hnv : ndv fo fl fr z9) (hsd : ∀ j, j ≤ 10 → trm (sd j)) (hzs : zs ≤ cs) (hcs : cs ≤ 100000) (hsv : ndv so sl sr zs) (hza : za ≤ ca) (hca : ca ≤ 100000) (hz1 : 1 ≤ za) (hz4 : za ≤ 450) (hav : ndv ao al ar za) (hat : tsn ao al ar (za - 1) ≤ 450) (hlw : lsw ln zs kd ow sb f1 f2 te kp nm en kc tm so sl sr) (hs9 : s9 < ln) (hbd : 2 * (z9 + wpw kd kc ln 460 s9) ≤ MX), Met l y_Maker_wp (xws (.code y_Maker_wp b_Maker_wp 2 (some .int))) ({ frames := 1010 + 8 * (20 - s9), cells := MX - cp, slots := 6 * (MX - cp), locals := 21200 + 300 * (20 - s9) }) (va_Pc [.ref c0, .int (nI s9)] (xo3 D ax [(c0, .inr (3, [.ref n0, .ref c1, .ref g0, .ref a0, .int s_made])), (c1, .inl (ax 0, 16, .inl sd)), (n0, .inr (4, [.ref n1, .ref n2, .ref n3, .int (nI z9)])), (n1, .inl (ax 1, cp, .inl fo)), (n2, .inl (ax 0, cp, .inl fl)), (n3, .inl (ax 0, cp, .inl fr)), (h0, .inr (4, [.ref h1, .ref h2, .ref h3, .int (nI zs)])), (h1, .inl (ax 1, cs, .inl so)), (h2, .inl (ax 0, cs, .inl sl)), (h3, .inl (ax 0, cs, .inl sr)), (a0, .inr (4, [.ref a1, .ref a2, .ref a3, .int (nI za)])), (a1, .inl (ax 1, ca, .inl ao)), (a2, .inl (ax 0, ca, .inl al)), (a3, .inl (ax 0, ca, .inl ar)), (g0, .inr (2, [.ref h0, .ref g1, .ref g2, .ref g3, .ref g4, .ref g5, .ref g6, .ref g7, .ref g8, .ref g9, .ref ga, .ref gb, .int (nI cl), .int (nI ln), .int (nI br), .int (nI lp), .int (nI va)])), (g1, .inl (ax 1, 20, .inl (fun j => nI (kd j)))), (g2, .inl (ax 1, 20, .inl (fun j => nI (ow j)))), (g3, .inl (ax 1, 20, .inl (fun j => nI (sb j)))), (g4, .inl (ax 1, 20, .inl (fun j => nI (f1 j)))), (g5, .inl (ax 1, 20, .inl (fun j => nI (f2 j)))), (g6, .inl (ax 2, 20, .inl (fun j => nI (te j)))), (g7, .inl (ax 2, 20, .inl (fun j => nI (kp j)))), (g8, .inl (ax 0, 20, .inl tm)), (g9, .inl (ax 1, 20, .inl (fun j => nI (nm j)))), (ga, .inl (ax 1, 29, .inl (fun j => nI (ck j)))), (gb, .inl (ax 1, 29, .inl (fun j => nI (co j))))] sz tz)) ((va_Qi (fun (r : Int32) (u : Nat → Nat) => r = nI (u 5) ∧ (z9 ≤ u 3 ∧ u 3 ≤ u 4 ∧ cp ≤ u 4 ∧ u 4 ≤ MX ∧ dbl cp (u 4) ∧ u 5 < u 3 ∧ u 3 ≤ z9 + wpw kd kc ln 460 s9)) (fun (u : Nat → Nat) (t9 : State) => ∃ xsd : Nat → Int32, ∃ xfo : Nat → Int32, ∃ xfl : Nat → Int32, ∃ xfr : Nat → Int32, (t9.heap.size ≤ sz + (u 4 - cp)) ∧ (tsl t9.heap ≤ tz + (6 * (u 4 - cp))) ∧ (ndv xfo xfl xfr (u 3)) ∧ (bts xfo (u 4)) ∧ (∀ i, i < z9 → tsn xfo xfl xfr i = tsn fo fl fr i) ∧ (tsn xfo xfl xfr (u 5) + z9 ≤ u 3) ∧ (∀ j, j ≤ 10 → trm (xsd j)) ∧ va_P D classes [(c0, .inr (3, [.ref n0, .ref c1, .ref g0, .ref a0, .int s_made])), (c1, .inl (ax 0, 16, .inl xsd)), (n0, .inr (4, [.ref (u 0), .ref (u 1), .ref (u 2), .int (nI (u 3))])), (u 0, .inl (ax 1, u 4, .inl xfo)), (u 1, .inl (ax 0, u 4, .inl xfl)), (u 2, .inl (ax 0, u 4, .inl xfr)), (h0, .inr (4, [.ref h1, .ref h2, .ref h3, .int (nI zs)])), (h1, .inl (ax 1, cs, .inl so)), (h2, .inl (ax 0, cs, .inl sl)), (h3, .inl (ax 0, cs, .inl sr)), (a0, .inr (4, [.ref a1, .ref a2, .ref a3, .int (nI za)])), (a1, .inl (ax 1, ca, .inl ao)), (a2, .inl (ax 0, ca, .inl al)), (a3, .inl (ax 0, ca, .inl ar)), (g0, .inr (2, [.ref h0, .ref g1, .ref g2, .ref g3, .ref g4, .ref g5, .ref g6, .ref g7, .ref g8, .ref g9, .ref ga, .ref gb, .int (nI cl), .int (nI ln), .int (nI br), .int (nI lp), .int (nI va)])), (g1, .inl (ax 1, 20, .inl (fun j => nI (kd j)))), (g2, .inl (ax 1, 20, .inl (fun j => nI (ow j)))), (g3, .inl (ax 1, 20, .inl (fun j => nI (sb j)))), (g4, .inl (ax 1, 20, .inl (fun j => nI (f1 j)))), (g5, .inl (ax 1, 20, .inl (fun j => nI (f2 j)))), (g6, .inl (ax 2, 20, .inl (fun j => nI (te j)))), (g7, .inl (ax 2, 20, .inl (fun j => nI (kp j)))), (g8, .inl (ax 0, 20, .inl tm)), (g9, .inl (ax 1, 20, .inl (fun j => nI (nm j)))), (ga, .inl (ax 1, 29, .inl (fun j => nI (ck j)))), (gb, .inl (ax 1, 29, .inl (fun j => nI (co j))))] t9.heap ∧ va_D (va_A [(c0, .inr (3, [.ref n0, .ref c1, .ref g0, .ref a0, .int s_made])), (c1, .inl (ax 0, 16, .inl sd)), (n0, .inr (4, [.ref n1, .ref n2, .ref n3, .int (nI z9)])), (n1, .inl (ax 1, cp, .inl fo)), (n2, .inl (ax 0, cp, .inl fl)), (n3, .inl (ax 0, cp, .inl fr)), (h0, .inr (4, [.ref h1, .ref h2, .ref h3, .int (nI zs)])), (h1, .inl (ax 1, cs, .inl so)), (h2, .inl (ax 0, cs, .inl sl)), (h3, .inl (ax 0, cs, .inl sr)), (a0, .inr (4, [.ref a1, .ref a2, .ref a3, .int (nI za)])), (a1, .inl (ax 1, ca, .inl ao)), (a2, .inl (ax 0, ca, .inl al)), (a3, .inl (ax 0, ca, .inl ar)), (g0, .inr (2, [.ref h0, .ref g1, .ref g2, .ref g3, .ref g4, .ref g5, .ref g6, .ref g7, .ref g8, .ref g9, .ref ga, .ref gb, .int (nI cl), .int (nI ln), .int (nI br), .int (nI lp), .int (nI va)])), (g1, .inl (ax 1, 20, .inl (fun j => nI (kd j)))), (g2, .inl (ax 1, 20, .inl (fun j => nI (ow j)))), (g3, .inl (ax 1, 20, .inl (fun j => nI (sb j)))), (g4, .inl (ax 1, 20, .inl (fun j => nI (f1 j)))), (g5, .inl (ax 1, 20, .inl (fun j => nI (f2 j)))), (g6, .inl (ax 2, 20, .inl (fun j => nI (te j)))), (g7, .inl (ax 2, 20, .inl (fun j => nI (kp j)))), (g8, .inl (ax 0, 20, .inl tm)), (g9, .inl (ax 1, 20, .inl (fun j => nI (nm j)))), (ga, .inl (ax 1, 29, .inl (fun j => nI (ck j)))), (gb, .inl (ax 1, 29, .inl (fun j => nI (co j))))] sz) [(c0, .inr (3, [.ref n0, .ref c1, .ref g0, .ref a0, .int s_made])), (c1, .inl (ax 0, 16, .inl xsd)), (n0, .inr (4, [.ref (u 0), .ref (u 1), .ref (u 2), .int (nI (u 3))])), (u 0, .inl (ax 1, u 4, .inl xfo)), (u 1, .inl (ax 0, u 4, .inl xfl)), (u 2, .inl (ax 0, u 4, .inl xfr)), (h0, .inr (4, [.ref h1, .ref h2, .ref h3, .int (nI zs)])), (h1, .inl (ax 1, cs, .inl so)), (h2, .inl (ax 0, cs, .inl sl)), (h3, .inl (ax 0, cs, .inl sr)), (a0, .inr (4, [.ref a1, .ref a2, .ref a3, .int (nI za)])), (a1, .inl (ax 1, ca, .inl ao)), (a2, .inl (ax 0, ca, .inl al)), (a3, .inl (ax 0, ca, .inl ar)), (g0, .inr (2, [.ref h0, .ref g1, .ref g2, .ref g3, .ref g4, .ref g5, .ref g6, .ref g7, .ref g8, .ref g9, .ref ga, .ref gb, .int (nI cl), .int (nI ln), .int (nI br), .int (nI lp), .int (nI va)])), (g1, .inl (ax 1, 20, .inl (fun j => nI (kd j)))), (g2, .inl (ax 1, 20, .inl (fun j => nI (ow j)))), (g3, .inl (ax 1, 20, .inl (fun j => nI (sb j)))), (g4, .inl (ax 1, 20, .inl (fun j => nI (f1 j)))), (g5, .inl (ax 1, 20, .inl (fun j => nI (f2 j)))), (g6, .inl (ax 2, 20, .inl (fun j => nI (te j)))), (g7, .inl (ax 2, 20, .inl (fun j => nI (kp j)))), (g8, .inl (ax 0, 20, .inl tm)), (g9, .inl (ax 1, 20, .inl (fun j => nI (nm j)))), (ga, .inl (ax 1, 29, .inl (fun j => nI (ck j)))), (gb, .inl (ax 1, 29, .inl (fun j => nI (co j))))]) (va_A [(c0, .inr (3, [.ref n0, .ref c1, .ref g0, .ref a0, .int s_made])), (c1, .inl (ax 0, 16, .inl sd)), (n0, .inr (4, [.ref n1, .ref n2, .ref n3, .int (nI z9)])), (n1, .inl (ax 1, cp, .inl fo)), (n2, .inl (ax 0, cp, .inl fl)), (n3, .inl (ax 0, cp, .inl fr)), (h0, .inr (4, [.ref h1, .ref h2, .ref h3, .int (nI zs)])), (h1, .inl (ax 1, cs, .inl so)), (h2, .inl (ax 0, cs, .inl sl)), (h3, .inl (ax 0, cs, .inl sr)), (a0, .inr (4, [.ref a1, .ref a2, .ref a3, .int (nI za)])), (a1, .inl (ax 1, ca, .inl ao)), (a2, .inl (ax 0, ca, .inl al)), (a3, .inl (ax 0, ca, .inl ar)), (g0, .inr (2, [.ref h0, .ref g1, .ref g2, .ref g3, .ref g4, .ref g5, .ref g6, .ref g7, .ref g8, .ref g9, .ref ga, .ref gb, .int (nI cl), .int (nI ln), .int (nI br), .int (nI lp), .int (nI va)])), (g1, .inl (ax 1, 20, .inl (fun j => nI (kd j)))), (g2, .inl (ax 1, 20, .inl (fun j => nI (ow j)))), (g3, .inl (ax 1, 20, .inl (fun j => nI (sb j)))), (g4, .inl (ax 1, 20, .inl (fun j => nI (f1 j)))), (g5, .inl (ax 1, 20, .inl (fun j => nI (f2 j)))), (g6, .inl (ax 2, 20, .inl (fun j => nI (te j)))), (g7, .inl (ax 2, 20, .inl (fun j => nI (kp j)))), (g8, .inl (ax 0, 20, .inl tm)), (g9, .inl (ax 1, 20, .inl (fun j => nI (nm j)))), (ga, .inl (ax 1, 29, .inl (fun j => nI (ck j)))), (gb, .inl (ax 1, 29, .inl (fun j => nI (co j))))] sz))) (MX - cp) (6 * (MX - cp)) (va_A [(c0, .inr (3, [.ref n0, .ref c1, .ref g0, .ref a0, .int s_made])), (c1, .inl (ax 0, 16, .inl sd)), (n0, .inr (4, [.ref n1, .ref n2, .ref n3, .int (nI z9)])), (n1, .inl (ax 1, cp, .inl fo)), (n2, .inl (ax 0, cp, .inl fl)), (n3, .inl (ax 0, cp, .inl fr)), (h0, .inr (4, [.ref h1, .ref h2, .ref h3, .int (nI zs)])), (h1, .inl (ax 1, cs, .inl so)), (h2, .inl (ax 0, cs, .inl sl)), (h3, .inl (ax 0, cs, .inl sr)), (a0, .inr (4, [.ref a1, .ref a2, .ref a3, .int (nI za)])), (a1, .inl (ax 1, ca, .inl ao)), (a2, .inl (ax 0, ca, .inl al)), (a3, .inl (ax 0, ca, .inl ar)), (g0, .inr (2, [.ref h0, .ref g1, .ref g2, .ref g3, .ref g4, .ref g5, .ref g6, .ref g7, .ref g8, .ref g9, .ref ga, .ref gb, .int (nI cl), .int (nI ln), .int (nI br), .int (nI lp), .int (nI va)])), (g1, .inl (ax 1, 20, .inl (fun j => nI (kd j)))), (g2, .inl (ax 1, 20, .inl (fun j => nI (ow j)))), (g3, .inl (ax 1, 20, .inl (fun j => nI (sb j)))), (g4, .inl (ax 1, 20, .inl (fun j => nI (f1 j)))), (g5, .inl (ax 1, 20, .inl (fun j => nI (f2 j)))), (g6, .inl (ax 2, 20, .inl (fun j => nI (te j)))), (g7, .inl (ax 2, 20, .inl (fun j => nI (kp j)))), (g8, .inl (ax 0, 20, .inl tm)), (g9, .inl (ax 1, 20, .inl (fun j => nI (nm j)))), (ga, .inl (ax 1, 29, .inl (fun j => nI (ck j)))), (gb, .inl (ax 1, 29, .inl (fun j => nI (co j))))] sz)
abbrev b_Maker_wpBehind : ByteArray := prog_5_method_9_code
def y_Maker_wpBehind : MethodName := ⟨R_Maker, "wpBehind", "(I)I"⟩
theorem d_Maker_wpBehind_0 : decode b_Maker_wpBehind 0 = .ok (.aload_n 0, 1) := by decide +kernel
theorem d_Maker_wpBehind_1 : decode b_Maker_wpBehind 1 = .ok (.getfield 29, 3) := by decide +kernel
theorem d_Maker_wpBehind_4 : decode b_Maker_wpBehind 4 = .ok (.iload_n 1, 1) := by decide +kernel
theorem d_Maker_wpBehind_5 : decode b_Maker_wpBehind 5 = .ok (.invokevirtual 105, 3) := by decide +kernel
theorem d_Maker_wpBehind_8 : decode b_Maker_wpBehind 8 = .ok (.istore_n 2, 1) := by decide +kernel
theorem d_Maker_wpBehind_9 : decode b_Maker_wpBehind 9 = .ok (.iload_n 2, 1) := by decide +kernel
theorem d_Maker_wpBehind_10 : decode b_Maker_wpBehind 10 = .ok (.iconst (-1), 1) := by decide +kernel
theorem d_Maker_wpBehind_11 : decode b_Maker_wpBehind 11 = .ok (.if_icmp .ne 19, 3) := by decide +kernel
theorem d_Maker_wpBehind_14 : decode b_Maker_wpBehind 14 = .ok (.aload_n 0, 1) := by decide +kernel
theorem d_Maker_wpBehind_15 : decode b_Maker_wpBehind 15 = .ok (.aload_n 0, 1) := by decide +kernel
theorem d_Maker_wpBehind_16 : decode b_Maker_wpBehind 16 = .ok (.getfield 33, 3) := by decide +kernel
theorem d_Maker_wpBehind_19 : decode b_Maker_wpBehind 19 = .ok (.aload_n 0, 1) := by decide +kernel
theorem d_Maker_wpBehind_20 : decode b_Maker_wpBehind 20 = .ok (.getfield 33, 3) := by decide +kernel
theorem d_Maker_wpBehind_23 : decode b_Maker_wpBehind 23 = .ok (.invokevirtual 42, 3) := by decide +kernel
theorem d_Maker_wpBehind_26 : decode b_Maker_wpBehind 26 = .ok (.invokevirtual 46, 3) := by decide +kernel
theorem d_Maker_wpBehind_29 : decode b_Maker_wpBehind 29 = .ok (.ireturn, 1) := by decide +kernel
theorem d_Maker_wpBehind_30 : decode b_Maker_wpBehind 30 = .ok (.iload_n 2, 1) := by decide +kernel
theorem d_Maker_wpBehind_31 : decode b_Maker_wpBehind 31 = .ok (.iload_n 1, 1) := by decide +kernel
theorem d_Maker_wpBehind_32 : decode b_Maker_wpBehind 32 = .ok (.if_icmp .le 11, 3) := by decide +kernel
theorem d_Maker_wpBehind_35 : decode b_Maker_wpBehind 35 = .ok (.aload_n 0, 1) := by decide +kernel
theorem d_Maker_wpBehind_36 : decode b_Maker_wpBehind 36 = .ok (.iload_n 2, 1) := by decide +kernel
theorem d_Maker_wpBehind_37 : decode b_Maker_wpBehind 37 = .ok (.invokevirtual 80, 3) := by decide +kernel
theorem d_Maker_wpBehind_40 : decode b_Maker_wpBehind 40 = .ok (.goto 8, 3) := by decide +kernel
theorem d_Maker_wpBehind_43 : decode b_Maker_wpBehind 43 = .ok (.aload_n 0, 1) := by decide +kernel
theorem d_Maker_wpBehind_44 : decode b_Maker_wpBehind 44 = .ok (.iload_n 2, 1) := by decide +kernel
theorem d_Maker_wpBehind_45 : decode b_Maker_wpBehind 45 = .ok (.invokevirtual 108, 3) := by decide +kernel
theorem d_Maker_wpBehind_48 : decode b_Maker_wpBehind 48 = .ok (.ireturn, 1) := by decide +kernel
set_option maxHeartbeats 40000000 in
set_option maxRecDepth 100000 in
theorem c_K_wpBehind (l : Launch) (s9 : Nat) (hrec : ∀ a, s9 < a → a < 20 → CWp l a) (D : va_G) (ax : Nat → ClassId) (c0 c1 : Nat) (s_made : Int32) (sd : Nat → Int32) (n0 n1 n2 n3 cp z9 : Nat) (fo fl fr : Nat → Int32) (h0 h1 h2 h3 zs cs : Nat) (so sl sr : Nat → Int32) (a0 a1 a2 a3 za ca : Nat) (ao al ar : Nat → Int32) (g0 g1 g2 g3 g4 g5 g6 g7 g8 g9 ga gb cl ln br lp va : Nat) (kd ow sb f1 f2 te kp nm ck co : Nat → Nat) (tm : Nat → Int32) (MX : Nat) (en kc : Nat → Nat) (sz tz : Nat) (hcp : 8 ≤ cp) (hz9 : z9 ≤ cp) (hmx : cp ≤ MX) (hMX : MX ≤ 100000) (hfo : bts fo cp) (hnv : ndv fo fl fr z9) (hsd : ∀ j, j ≤ 10 → trm (sd j)) (hzs : zs ≤ cs) (hcs : cs ≤ 100000) (hsv : ndv so sl sr zs) (hza : za ≤ ca) (hca : ca ≤ 100000) (hz1 : 1 ≤ za) (hz4 : za ≤ 450) (hav : ndv ao al ar za) (hat : tsn ao al ar (za - 1) ≤ 450) (hlw : lsw ln zs kd ow sb f1 f2 te kp nm en kc tm so sl sr) (hs9 : s9 < ln) (hbd : 2 * (z9 + wpw kd kc ln 460 (s9 + 1)) ≤ MX) : Met l y_Maker_wpBehind (xws (.code y_Maker_wpBehind b_Maker_wpBehind 3 (some .int))) ({ frames := 1006 + 8 * (20 - s9), cells := MX - cp, slots := 6 * (MX - cp), locals := 21100 + 300 * (20 - s9) }) (va_Pc [.ref c0, .int (nI s9)] (xo3 D ax [(c0, .inr (3, [.ref n0, .ref c1, .ref g0, .ref a0, .int s_made])), (c1, .inl (ax 0, 16, .inl sd)), (n0, .inr (4, [.ref n1, .ref n2, .ref n3, .int (nI z9)])), (n1, .inl (ax 1, cp, .inl fo)), (n2, .inl (ax 0, cp, .inl fl)), (n3, .inl (ax 0, cp, .inl fr)), (h0, .inr (4, [.ref h1, .ref h2, .ref h3, .int (nI zs)])), (h1, .inl (ax 1, cs, .inl so)), (h2, .inl (ax 0, cs, .inl sl)), (h3, .inl (ax 0, cs, .inl sr)), (a0, .inr (4, [.ref a1, .ref a2, .ref a3, .int (nI za)])), (a1, .inl (ax 1, ca, .inl ao)), (a2, .inl (ax 0, ca, .inl al)), (a3, .inl (ax 0, ca, .inl ar)), (g0, .inr (2, [.ref h0, .ref g1, .ref g2, .ref g3, .ref g4, .ref g5, .ref g6, .ref g7, .ref g8, .ref g9, .ref ga, .ref gb, .int (nI cl), .int (nI ln), .int (nI br), .int (nI lp), .int (nI va)])), (g1, .inl (ax 1, 20, .inl (fun j => nI (kd j)))), (g2, .inl (ax 1, 20, .inl (fun j => nI (ow j)))), (g3, .inl (ax 1, 20, .inl (fun j => nI (sb j)))), (g4, .inl (ax 1, 20, .inl (fun j => nI (f1 j)))), (g5, .inl (ax 1, 20, .inl (fun j => nI (f2 j)))), (g6, .inl (ax 2, 20, .inl (fun j => nI (te j)))), (g7, .inl (ax 2, 20, .inl (fun j => nI (kp j)))), (g8, .inl (ax 0, 20, .inl tm)), (g9, .inl (ax 1, 20, .inl (fun j => nI (nm j)))), (ga, .inl (ax 1, 29, .inl (fun j => nI (ck j)))), (gb, .inl (ax 1, 29, .inl (fun j => nI (co j))))] sz tz)) ((va_Qi (fun (r : Int32) (u : Nat → Nat) => r = nI (u 5) ∧ (z9 ≤ u 3 ∧ u 3 ≤ u 4 ∧ cp ≤ u 4 ∧ u 4 ≤ MX ∧ dbl cp (u 4) ∧ u 5 < u 3 ∧ u 3 ≤ z9 + wpw kd kc ln 460 (s9 + 1))) (fun (u : Nat → Nat) (t9 : State) => ∃ xsd : Nat → Int32, ∃ xfo : Nat → Int32, ∃ xfl : Nat → Int32, ∃ xfr : Nat → Int32, (t9.heap.size ≤ sz + (u 4 - cp)) ∧ (tsl t9.heap ≤ tz + (6 * (u 4 - cp))) ∧ (ndv xfo xfl xfr (u 3)) ∧ (bts xfo (u 4)) ∧ (∀ i, i < z9 → tsn xfo xfl xfr i = tsn fo fl fr i) ∧ (tsn xfo xfl xfr (u 5) + z9 ≤ u 3) ∧ (∀ j, j ≤ 10 → trm (xsd j)) ∧ va_P D classes [(c0, .inr (3, [.ref n0, .ref c1, .ref g0, .ref a0, .int s_made])), (c1, .inl (ax 0, 16, .inl xsd)), (n0, .inr (4, [.ref (u 0), .ref (u 1), .ref (u 2), .int (nI (u 3))])), (u 0, .inl (ax 1, u 4, .inl xfo)), (u 1, .inl (ax 0, u 4, .inl xfl)), (u 2, .inl (ax 0, u 4, .inl xfr)), (h0, .inr (4, [.ref h1, .ref h2, .ref h3, .int (nI zs)])), (h1, .inl (ax 1, cs, .inl so)), (h2, .inl (ax 0, cs, .inl sl)), (h3, .inl (ax 0, cs, .inl sr)), (a0, .inr (4, [.ref a1, .ref a2, .ref a3, .int (nI za)])), (a1, .inl (ax 1, ca, .inl ao)), (a2, .inl (ax 0, ca, .inl al)), (a3, .inl (ax 0, ca, .inl ar)), (g0, .inr (2, [.ref h0, .ref g1, .ref g2, .ref g3, .ref g4, .ref g5, .ref g6, .ref g7, .ref g8, .ref g9, .ref ga, .ref gb, .int (nI cl), .int (nI ln), .int (nI br), .int (nI lp), .int (nI va)])), (g1, .inl (ax 1, 20, .inl (fun j => nI (kd j)))), (g2, .inl (ax 1, 20, .inl (fun j => nI (ow j)))), (g3, .inl (ax 1, 20, .inl (fun j => nI (sb j)))), (g4, .inl (ax 1, 20, .inl (fun j => nI (f1 j)))), (g5, .inl (ax 1, 20, .inl (fun j => nI (f2 j)))), (g6, .inl (ax 2, 20, .inl (fun j => nI (te j)))), (g7, .inl (ax 2, 20, .inl (fun j => nI (kp j)))), (g8, .inl (ax 0, 20, .inl tm)), (g9, .inl (ax 1, 20, .inl (fun j => nI (nm j)))), (ga, .inl (ax 1, 29, .inl (fun j => nI (ck j)))), (gb, .inl (ax 1, 29, .inl (fun j => nI (co j))))] t9.heap ∧ va_D (va_A [(c0, .inr (3, [.ref n0, .ref c1, .ref g0, .ref a0, .int s_made])), (c1, .inl (ax 0, 16, .inl sd)), (n0, .inr (4, [.ref n1, .ref n2, .ref n3, .int (nI z9)])), (n1, .inl (ax 1, cp, .inl fo)), (n2, .inl (ax 0, cp, .inl fl)), (n3, .inl (ax 0, cp, .inl fr)), (h0, .inr (4, [.ref h1, .ref h2, .ref h3, .int (nI zs)])), (h1, .inl (ax 1, cs, .inl so)), (h2, .inl (ax 0, cs, .inl sl)), (h3, .inl (ax 0, cs, .inl sr)), (a0, .inr (4, [.ref a1, .ref a2, .ref a3, .int (nI za)])), (a1, .inl (ax 1, ca, .inl ao)), (a2, .inl (ax 0, ca, .inl al)), (a3, .inl (ax 0, ca, .inl ar)), (g0, .inr (2, [.ref h0, .ref g1, .ref g2, .ref g3, .ref g4, .ref g5, .ref g6, .ref g7, .ref g8, .ref g9, .ref ga, .ref gb, .int (nI cl), .int (nI ln), .int (nI br), .int (nI lp), .int (nI va)])), (g1, .inl (ax 1, 20, .inl (fun j => nI (kd j)))), (g2, .inl (ax 1, 20, .inl (fun j => nI (ow j)))), (g3, .inl (ax 1, 20, .inl (fun j => nI (sb j)))), (g4, .inl (ax 1, 20, .inl (fun j => nI (f1 j)))), (g5, .inl (ax 1, 20, .inl (fun j => nI (f2 j)))), (g6, .inl (ax 2, 20, .inl (fun j => nI (te j)))), (g7, .inl (ax 2, 20, .inl (fun j => nI (kp j)))), (g8, .inl (ax 0, 20, .inl tm)), (g9, .inl (ax 1, 20, .inl (fun j => nI (nm j)))), (ga, .inl (ax 1, 29, .inl (fun j => nI (ck j)))), (gb, .inl (ax 1, 29, .inl (fun j => nI (co j))))] sz) [(c0, .inr (3, [.ref n0, .ref c1, .ref g0, .ref a0, .int s_made])), (c1, .inl (ax 0, 16, .inl xsd)), (n0, .inr (4, [.ref (u 0), .ref (u 1), .ref (u 2), .int (nI (u 3))])), (u 0, .inl (ax 1, u 4, .inl xfo)), (u 1, .inl (ax 0, u 4, .inl xfl)), (u 2, .inl (ax 0, u 4, .inl xfr)), (h0, .inr (4, [.ref h1, .ref h2, .ref h3, .int (nI zs)])), (h1, .inl (ax 1, cs, .inl so)), (h2, .inl (ax 0, cs, .inl sl)), (h3, .inl (ax 0, cs, .inl sr)), (a0, .inr (4, [.ref a1, .ref a2, .ref a3, .int (nI za)])), (a1, .inl (ax 1, ca, .inl ao)), (a2, .inl (ax 0, ca, .inl al)), (a3, .inl (ax 0, ca, .inl ar)), (g0, .inr (2, [.ref h0, .ref g1, .ref g2, .ref g3, .ref g4, .ref g5, .ref g6, .ref g7, .ref g8, .ref g9, .ref ga, .ref gb, .int (nI cl), .int (nI ln), .int (nI br), .int (nI lp), .int (nI va)])), (g1, .inl (ax 1, 20, .inl (fun j => nI (kd j)))), (g2, .inl (ax 1, 20, .inl (fun j => nI (ow j)))), (g3, .inl (ax 1, 20, .inl (fun j => nI (sb j)))), (g4, .inl (ax 1, 20, .inl (fun j => nI (f1 j)))), (g5, .inl (ax 1, 20, .inl (fun j => nI (f2 j)))), (g6, .inl (ax 2, 20, .inl (fun j => nI (te j)))), (g7, .inl (ax 2, 20, .inl (fun j => nI (kp j)))), (g8, .inl (ax 0, 20, .inl tm)), (g9, .inl (ax 1, 20, .inl (fun j => nI (nm j)))), (ga, .inl (ax 1, 29, .inl (fun j => nI (ck j)))), (gb, .inl (ax 1, 29, .inl (fun j => nI (co j))))]) (va_A [(c0, .inr (3, [.ref n0, .ref c1, .ref g0, .ref a0, .int s_made])), (c1, .inl (ax 0, 16, .inl sd)), (n0, .inr (4, [.ref n1, .ref n2, .ref n3, .int (nI z9)])), (n1, .inl (ax 1, cp, .inl fo)), (n2, .inl (ax 0, cp, .inl fl)), (n3, .inl (ax 0, cp, .inl fr)), (h0, .inr (4, [.ref h1, .ref h2, .ref h3, .int (nI zs)])), (h1, .inl (ax 1, cs, .inl so)), (h2, .inl (ax 0, cs, .inl sl)), (h3, .inl (ax 0, cs, .inl sr)), (a0, .inr (4, [.ref a1, .ref a2, .ref a3, .int (nI za)])), (a1, .inl (ax 1, ca, .inl ao)), (a2, .inl (ax 0, ca, .inl al)), (a3, .inl (ax 0, ca, .inl ar)), (g0, .inr (2, [.ref h0, .ref g1, .ref g2, .ref g3, .ref g4, .ref g5, .ref g6, .ref g7, .ref g8, .ref g9, .ref ga, .ref gb, .int (nI cl), .int (nI ln), .int (nI br), .int (nI lp), .int (nI va)])), (g1, .inl (ax 1, 20, .inl (fun j => nI (kd j)))), (g2, .inl (ax 1, 20, .inl (fun j => nI (ow j)))), (g3, .inl (ax 1, 20, .inl (fun j => nI (sb j)))), (g4, .inl (ax 1, 20, .inl (fun j => nI (f1 j)))), (g5, .inl (ax 1, 20, .inl (fun j => nI (f2 j)))), (g6, .inl (ax 2, 20, .inl (fun j => nI (te j)))), (g7, .inl (ax 2, 20, .inl (fun j => nI (kp j)))), (g8, .inl (ax 0, 20, .inl tm)), (g9, .inl (ax 1, 20, .inl (fun j => nI (nm j)))), (ga, .inl (ax 1, 29, .inl (fun j => nI (ck j)))), (gb, .inl (ax 1, 29, .inl (fun j => nI (co j))))] sz))) (MX - cp) (6 * (MX - cp)) (va_A [(c0, .inr (3, [.ref n0, .ref c1, .ref g0, .ref a0, .int s_made])), (c1, .inl (ax 0, 16, .inl sd)), (n0, .inr (4, [.ref n1, .ref n2, .ref n3, .int (nI z9)])), (n1, .inl (ax 1, cp, .inl fo)), (n2, .inl (ax 0, cp, .inl fl)), (n3, .inl (ax 0, cp, .inl fr)), (h0, .inr (4, [.ref h1, .ref h2, .ref h3, .int (nI zs)])), (h1, .inl (ax 1, cs, .inl so)), (h2, .inl (ax 0, cs, .inl sl)), (h3, .inl (ax 0, cs, .inl sr)), (a0, .inr (4, [.ref a1, .ref a2, .ref a3, .int (nI za)])), (a1, .inl (ax 1, ca, .inl ao)), (a2, .inl (ax 0, ca, .inl al)), (a3, .inl (ax 0, ca, .inl ar)), (g0, .inr (2, [.ref h0, .ref g1, .ref g2, .ref g3, .ref g4, .ref g5, .ref g6, .ref g7, .ref g8, .ref g9, .ref ga, .ref gb, .int (nI cl), .int (nI ln), .int (nI br), .int (nI lp), .int (nI va)])), (g1, .inl (ax 1, 20, .inl (fun j => nI (kd j)))), (g2, .inl (ax 1, 20, .inl (fun j => nI (ow j)))), (g3, .inl (ax 1, 20, .inl (fun j => nI (sb j)))), (g4, .inl (ax 1, 20, .inl (fun j => nI (f1 j)))), (g5, .inl (ax 1, 20, .inl (fun j => nI (f2 j)))), (g6, .inl (ax 2, 20, .inl (fun j => nI (te j)))), (g7, .inl (ax 2, 20, .inl (fun j => nI (kp j)))), (g8, .inl (ax 0, 20, .inl tm)), (g9, .inl (ax 1, 20, .inl (fun j => nI (nm j)))), (ga, .inl (ax 1, 29, .inl (fun j => nI (ck j)))), (gb, .inl (ax 1, 29, .inl (fun j => nI (co j))))] sz) := by
  refine Met.ofW (cc := b_Maker_wpBehind) (maxL := 3) (ret := (some .int)) (by decide) rfl ?_
  intro p e s m args below meth c s₁ B hml hv
  obtain ⟨rfl, ⟨hsz, hP, hK, hD0⟩, htz⟩ := hv
  have hx := B.exec
  have hb := B.bytes
  have hr := B.returns
  have hts := xw_hts B.pre
  have hown : s.vm.findClass R_Maker = some m.cls := findClass_of_methodNamed B.named
  have hlocks := B.notSynchronized
  subst hsz
  subst htz
  have hD := hD0.self (sz := s.heap.size)
  have hN := xz_entry hP
  generalize hAe : va_A [(c0, .inr (3, [.ref n0, .ref c1, .ref g0, .ref a0, .int s_made])), (c1, .inl (ax 0, 16, .inl sd)), (n0, .inr (4, [.ref n1, .ref n2, .ref n3, .int (nI z9)])), (n1, .inl (ax 1, cp, .inl fo)), (n2, .inl (ax 0, cp, .inl fl)), (n3, .inl (ax 0, cp, .inl fr)), (h0, .inr (4, [.ref h1, .ref h2, .ref h3, .int (nI zs)])), (h1, .inl (ax 1, cs, .inl so)), (h2, .inl (ax 0, cs, .inl sl)), (h3, .inl (ax 0, cs, .inl sr)), (a0, .inr (4, [.ref a1, .ref a2, .ref a3, .int (nI za)])), (a1, .inl (ax 1, ca, .inl ao)), (a2, .inl (ax 0, ca, .inl al)), (a3, .inl (ax 0, ca, .inl ar)), (g0, .inr (2, [.ref h0, .ref g1, .ref g2, .ref g3, .ref g4, .ref g5, .ref g6, .ref g7, .ref g8, .ref g9, .ref ga, .ref gb, .int (nI cl), .int (nI ln), .int (nI br), .int (nI lp), .int (nI va)])), (g1, .inl (ax 1, 20, .inl (fun j => nI (kd j)))), (g2, .inl (ax 1, 20, .inl (fun j => nI (ow j)))), (g3, .inl (ax 1, 20, .inl (fun j => nI (sb j)))), (g4, .inl (ax 1, 20, .inl (fun j => nI (f1 j)))), (g5, .inl (ax 1, 20, .inl (fun j => nI (f2 j)))), (g6, .inl (ax 2, 20, .inl (fun j => nI (te j)))), (g7, .inl (ax 2, 20, .inl (fun j => nI (kp j)))), (g8, .inl (ax 0, 20, .inl tm)), (g9, .inl (ax 1, 20, .inl (fun j => nI (nm j)))), (ga, .inl (ax 1, 29, .inl (fun j => nI (ck j)))), (gb, .inl (ax 1, 29, .inl (fun j => nI (co j))))] s.heap.size = A at hD hN ⊢
  have hA : ∀ q : Nat, s.heap.size ≤ q → A q := fun q h => by rw [← hAe]; exact Or.inr h
  have hS : va_S A s.heap s.heap [] := va_S.rf
  have hl0 := lv_entry ([.ref c0, .int (nI s9)]) (n := 3) (Nat.le_of_ble_eq_true rfl)
  rw [lg_entry_eq]
  generalize (lg_sl ([.ref c0, .int (nI s9)]) ++ List.replicate (3 - (lg_sl ([.ref c0, .int (nI s9)])).length) Slot.unset).toArray = ls at hl0 ⊢
  have hl1 : lv_has ls 3 [(0, .ref c0), (1, .int (nI s9))] := hl0
  obtain ⟨hkc, hln, hzz⟩ := hlw.bk hs9
  have hwB := wpw_B (kd := kd) (kc := kc) (n := ln) (B := 460) (s := s9 + 1)
  have hwN := wpw_no (kd := kd) (kc := kc) (B := 460) hs9
  have hls := hlw.1.2.1
  refine lv_aload_n hx hb d_Maker_wpBehind_0 rfl (lv_at hl1 0 rfl) ?_
  refine va_get (D := D) (ci := 3) (v := .ref g0) (C := R_Maker) (T := F_Maker) (N := 5) hx hb hts i_Maker hown hK.1 hP 0 rfl rfl 2 (by decide) (hts _ wd_132) (fun _ h9 => h9) rfl d_Maker_wpBehind_1 ?_
  refine lv_iload_n hx hb d_Maker_wpBehind_4 rfl (lv_at hl1 1 rfl) ?_
  obtain ⟨hPc, hDc, hFc, hCs⟩ := xw_sub3 (wc := [(g0, .inr (2, [.ref h0, .ref g1, .ref g2, .ref g3, .ref g4, .ref g5, .ref g6, .ref g7, .ref g8, .ref g9, .ref ga, .ref gb, .int (nI cl), .int (nI ln), .int (nI br), .int (nI lp), .int (nI va)])), (g1, .inl (ax 1, 20, .inl (fun j => nI (kd j)))), (g2, .inl (ax 1, 20, .inl (fun j => nI (ow j)))), (g3, .inl (ax 1, 20, .inl (fun j => nI (sb j)))), (g4, .inl (ax 1, 20, .inl (fun j => nI (f1 j)))), (g5, .inl (ax 1, 20, .inl (fun j => nI (f2 j)))), (g6, .inl (ax 2, 20, .inl (fun j => nI (te j)))), (g7, .inl (ax 2, 20, .inl (fun j => nI (kp j)))), (g8, .inl (ax 0, 20, .inl tm)), (g9, .inl (ax 1, 20, .inl (fun j => nI (nm j)))), (ga, .inl (ax 1, 29, .inl (fun j => nI (ck j)))), (gb, .inl (ax 1, 29, .inl (fun j => nI (co j))))]) hP hD hS hA [14, 15, 16, 17, 18, 19, 20, 21, 22, 23, 24, 25] (by decide) rfl
  have hz := xz_of hN hS
  refine va_calli (va_runV (As := [.int (nI s9)]) (rest := []) ⟨hx, hb, hml, hown, hts⟩ (c_L_behind l D ax g0 g1 g2 g3 g4 g5 g6 g7 g8 g9 ga gb cl ln br lp va kd ow sb f1 f2 te kp nm ck co tm h0 s9 en s.heap.size hln hs9 hls) (xcV (n := 1) hts wd_805 wd_12 wd_802 wd_803 wd_804 rfl rfl (by decide +kernel) ⟨(show (10) + 1 ≤ (1006 + 8 * (20 - s9)) by omega), (show 8 + (4 + 11) + (400) ≤ (21100 + 300 * (20 - s9)) by omega)⟩) (xpV (ci := 2) (q0 := 0) (As := [.int (nI s9)]) hPc hK hz hDc rfl rfl) rfl rfl hl1.1 rfl (lv_room (Nat.le_of_ble_eq_true rfl)) d_Maker_wpBehind_5 ⟨(show (0) + (0) ≤ (MX - cp) by omega), (show (0) + (0) ≤ (6 * (MX - cp)) by omega)⟩) hS (fun q _ h => hFc q h) hFc (fun r_3 u_1 t H_2 locs ht hvm hw hB hz1 hk1 hS1 => ?_)
  try dsimp only at hw
  obtain ⟨hw, hs_4⟩ := hw
  subst hw
  obtain ⟨hP1, hD1⟩ := hB
  rw [ht] at hP1
  have hjn := xw_join3 (wl := [(c0, .inr (3, [.ref n0, .ref c1, .ref g0, .ref a0, .int s_made])), (c1, .inl (ax 0, 16, .inl sd)), (n0, .inr (4, [.ref n1, .ref n2, .ref n3, .int (nI z9)])), (n1, .inl (ax 1, cp, .inl fo)), (n2, .inl (ax 0, cp, .inl fl)), (n3, .inl (ax 0, cp, .inl fr)), (h0, .inr (4, [.ref h1, .ref h2, .ref h3, .int (nI zs)])), (h1, .inl (ax 1, cs, .inl so)), (h2, .inl (ax 0, cs, .inl sl)), (h3, .inl (ax 0, cs, .inl sr)), (a0, .inr (4, [.ref a1, .ref a2, .ref a3, .int (nI za)])), (a1, .inl (ax 1, ca, .inl ao)), (a2, .inl (ax 0, ca, .inl al)), (a3, .inl (ax 0, ca, .inl ar)), (g0, .inr (2, [.ref h0, .ref g1, .ref g2, .ref g3, .ref g4, .ref g5, .ref g6, .ref g7, .ref g8, .ref g9, .ref ga, .ref gb, .int (nI cl), .int (nI ln), .int (nI br), .int (nI lp), .int (nI va)])), (g1, .inl (ax 1, 20, .inl (fun j => nI (kd j)))), (g2, .inl (ax 1, 20, .inl (fun j => nI (ow j)))), (g3, .inl (ax 1, 20, .inl (fun j => nI (sb j)))), (g4, .inl (ax 1, 20, .inl (fun j => nI (f1 j)))), (g5, .inl (ax 1, 20, .inl (fun j => nI (f2 j)))), (g6, .inl (ax 2, 20, .inl (fun j => nI (te j)))), (g7, .inl (ax 2, 20, .inl (fun j => nI (kp j)))), (g8, .inl (ax 0, 20, .inl tm)), (g9, .inl (ax 1, 20, .inl (fun j => nI (nm j)))), (ga, .inl (ax 1, 29, .inl (fun j => nI (ck j)))), (gb, .inl (ax 1, 29, .inl (fun j => nI (co j))))]) hP hD [14, 15, 16, 17, 18, 19, 20, 21, 22, 23, 24, 25] [0, 1, 2, 3, 4, 5, 6, 7, 8, 9, 10, 11, 12, 13] hCs (by decide) (by decide) hk1 hFc hP1 hD1 rfl
  clear hP1 hD1
  clear hPc hDc hFc hCs hz hz1 hk1 ht hvm
  clear hP hD hS
  have hS := hS1
  obtain ⟨hP, hD⟩ := hjn
  clear hS1
  refine lv_istore_n (lv' := [(2, .int (nI (u_1 0))), (0, .ref c0), (1, .int (nI s9))]) hx hb d_Maker_wpBehind_8 rfl hl1 (by decide) rfl (fun ls hl2 => ?_)
  clear hl1; have hl1 := hl2; clear hl2
  refine lv_iload_n hx hb d_Maker_wpBehind_9 rfl (lv_at hl1 0 rfl) ?_
  refine lv_iconst (v := (-1)) hx hb d_Maker_wpBehind_10 (by decide) ?_
  by_cases hn_5 : u_1 0 = 4294967295
  · refine W.eq (g2 := F0 m 11 ls [.int (-1), .int (-1)]) (by rw [hn_5, nIm]) ?_
    refine lv_icmp_ne (tgt := 30) hx hb d_Maker_wpBehind_11 (by decide) (fun c_6 => ?_) (fun c_6 => ?_)
    · first | exact absurd c_6 (by decide) | exact absurd (by decide) c_6
    refine lv_aload_n hx hb d_Maker_wpBehind_14 rfl (lv_at hl1 1 rfl) ?_
    refine lv_aload_n hx hb d_Maker_wpBehind_15 rfl (lv_at hl1 1 rfl) ?_
    refine va_get (D := D) (ci := 3) (v := .ref a0) (C := R_Maker) (T := F_Maker) (N := 5) hx hb hts i_Maker hown hK.1 hP 0 rfl rfl 3 (by decide) (hts _ wd_133) (fun _ h9 => h9) rfl d_Maker_wpBehind_16 ?_
    refine lv_aload_n hx hb d_Maker_wpBehind_19 rfl (lv_at hl1 1 rfl) ?_
    refine va_get (D := D) (ci := 3) (v := .ref a0) (C := R_Maker) (T := F_Maker) (N := 5) hx hb hts i_Maker hown hK.1 hP 0 rfl rfl 3 (by decide) (hts _ wd_133) (fun _ h9 => h9) rfl d_Maker_wpBehind_20 ?_
    obtain ⟨hPc, hDc, hFc, hCs⟩ := xw_sub3 (wc := [(a0, .inr (4, [.ref a1, .ref a2, .ref a3, .int (nI za)])), (a1, .inl (ax 1, ca, .inl ao)), (a2, .inl (ax 0, ca, .inl al)), (a3, .inl (ax 0, ca, .inl ar))]) hP hD hS hA [10, 11, 12, 13] (by decide) rfl
    have hz := xz_of hN hS
    refine va_calli (va_runV (As := []) (rest := [.ref a0, .ref c0]) ⟨hx, hb, hml, hown, hts⟩ (c_Nodes_root l D ax a0 a1 a2 a3 ca za ao al ar H_2.size hz1) (xcV (n := 0) hts wd_772 wd_5 wd_769 wd_770 wd_771 rfl rfl (by decide +kernel) ⟨(show (10) + 1 ≤ (1006 + 8 * (20 - s9)) by omega), (show 8 + (1 + 11) + (400) ≤ (21100 + 300 * (20 - s9)) by omega)⟩) (xpV (ci := 4) (q0 := 0) (As := []) hPc hK hz hDc rfl rfl) rfl rfl hl1.1 rfl (lv_room (Nat.le_of_ble_eq_true rfl)) d_Maker_wpBehind_23 ⟨(show (0) + (0) ≤ (MX - cp) by omega), (show (0) + (0) ≤ (6 * (MX - cp)) by omega)⟩) hS (fun q _ h => hFc q h) hFc (fun r_9 u_7 t H_8 locs ht hvm hw hB hz1 hk1 hS1 => ?_)
    try dsimp only at hw
    subst hw
    obtain ⟨hP1, hD1⟩ := hB
    rw [ht] at hP1
    have hjn := xw_join3 (wl := [(c0, .inr (3, [.ref n0, .ref c1, .ref g0, .ref a0, .int s_made])), (c1, .inl (ax 0, 16, .inl sd)), (n0, .inr (4, [.ref n1, .ref n2, .ref n3, .int (nI z9)])), (n1, .inl (ax 1, cp, .inl fo)), (n2, .inl (ax 0, cp, .inl fl)), (n3, .inl (ax 0, cp, .inl fr)), (h0, .inr (4, [.ref h1, .ref h2, .ref h3, .int (nI zs)])), (h1, .inl (ax 1, cs, .inl so)), (h2, .inl (ax 0, cs, .inl sl)), (h3, .inl (ax 0, cs, .inl sr)), (g0, .inr (2, [.ref h0, .ref g1, .ref g2, .ref g3, .ref g4, .ref g5, .ref g6, .ref g7, .ref g8, .ref g9, .ref ga, .ref gb, .int (nI cl), .int (nI ln), .int (nI br), .int (nI lp), .int (nI va)])), (g1, .inl (ax 1, 20, .inl (fun j => nI (kd j)))), (g2, .inl (ax 1, 20, .inl (fun j => nI (ow j)))), (g3, .inl (ax 1, 20, .inl (fun j => nI (sb j)))), (g4, .inl (ax 1, 20, .inl (fun j => nI (f1 j)))), (g5, .inl (ax 1, 20, .inl (fun j => nI (f2 j)))), (g6, .inl (ax 2, 20, .inl (fun j => nI (te j)))), (g7, .inl (ax 2, 20, .inl (fun j => nI (kp j)))), (g8, .inl (ax 0, 20, .inl tm)), (g9, .inl (ax 1, 20, .inl (fun j => nI (nm j)))), (ga, .inl (ax 1, 29, .inl (fun j => nI (ck j)))), (gb, .inl (ax 1, 29, .inl (fun j => nI (co j)))), (a0, .inr (4, [.ref a1, .ref a2, .ref a3, .int (nI za)])), (a1, .inl (ax 1, ca, .inl ao)), (a2, .inl (ax 0, ca, .inl al)), (a3, .inl (ax 0, ca, .inl ar))]) hP hD [10, 11, 12, 13] [0, 1, 2, 3, 4, 5, 6, 7, 8, 9, 14, 15, 16, 17, 18, 19, 20, 21, 22, 23, 24, 25] hCs (by decide) (by decide) hk1 hFc hP1 hD1 rfl
    clear hP1 hD1
    clear hPc hDc hFc hCs hz hz1 hk1 ht hvm
    clear hP hD hS
    have hS := hS1
    obtain ⟨hP, hD⟩ := hjn
    clear hS1
    obtain ⟨hPc, hDc, hFc, hCs⟩ := xw_sub3 (wc := [(c0, .inr (3, [.ref n0, .ref c1, (.ref g0), (.ref a0), .int s_made])), (c1, .inl (ax 0, 16, .inl sd)), (n0, .inr (4, [.ref n1, .ref n2, .ref n3, .int (nI z9)])), (n1, .inl (ax 1, cp, .inl fo)), (n2, .inl (ax 0, cp, .inl fl)), (n3, .inl (ax 0, cp, .inl fr)), (a0, .inr (4, [.ref a1, .ref a2, .ref a3, .int (nI za)])), (a1, .inl (ax 1, ca, .inl ao)), (a2, .inl (ax 0, ca, .inl al)), (a3, .inl (ax 0, ca, .inl ar))]) hP hD hS hA [0, 1, 2, 3, 4, 5, 22, 23, 24, 25] (by decide) rfl
    have hz := xz_of hN hS
    refine wk_know (fun hk8 hk9 => ?_)
    refine va_calli (va_runV (As := [.ref a0, .int (nI (za - 1))]) (rest := []) ⟨hx, hb, hml, hown, hts⟩ ((K_copy_all l (za - 1)) D ax c0 c1 (.ref g0) (.ref a0) s_made sd n0 n1 n2 n3 cp z9 fo fl fr a0 a1 a2 a3 za ca ao al ar MX H_8.size (tsl H_8) (by omega) (by omega) (by omega) (by omega) (by assumption) (by assumption) (by assumption) hza hca (by omega) hav (by omega)) (xcV (n := 2) hts wd_776 wd_4 wd_773 wd_775 ps_23 rfl rfl (by decide +kernel) ⟨(show (50 + 2 * (za - 1)) + 1 ≤ (1006 + 8 * (20 - s9)) by omega), (show 8 + (5 + 11) + (2000 + 40 * (za - 1)) ≤ (21100 + 300 * (20 - s9)) by omega)⟩) (xpV3 (ci := 3) (q0 := 0) (As := [.ref a0, .int (nI (za - 1))]) hPc hK hz hDc rfl rfl) rfl rfl hl1.1 rfl (lv_room (Nat.le_of_ble_eq_true rfl)) d_Maker_wpBehind_26 ⟨(show (0) + (MX - cp) ≤ (MX - cp) by omega), (show (0) + (6 * (MX - cp)) ≤ (6 * (MX - cp)) by omega)⟩) hS (fun q _ h => hFc q h) hFc (fun r_12 u_10 t H_11 locs ht hvm hw hB hz1 hk1 hS1 => ?_)
    try dsimp only at hw
    obtain ⟨hw, hs_13, hs_14, hs_15, hs_16, hs_17, hs_18, hs_19⟩ := hw
    subst hw
    obtain ⟨x_20, x_21, x_22, hg8, hg9, hx_23, hx_24, hx_25, hx_26, hP1, hD1⟩ := hB
    rw [ht] at hg8 hg9 hP1
    have hjn := xw_join3 (wl := [(h0, .inr (4, [.ref h1, .ref h2, .ref h3, .int (nI zs)])), (h1, .inl (ax 1, cs, .inl so)), (h2, .inl (ax 0, cs, .inl sl)), (h3, .inl (ax 0, cs, .inl sr)), (g0, .inr (2, [.ref h0, .ref g1, .ref g2, .ref g3, .ref g4, .ref g5, .ref g6, .ref g7, .ref g8, .ref g9, .ref ga, .ref gb, .int (nI cl), .int (nI ln), .int (nI br), .int (nI lp), .int (nI va)])), (g1, .inl (ax 1, 20, .inl (fun j => nI (kd j)))), (g2, .inl (ax 1, 20, .inl (fun j => nI (ow j)))), (g3, .inl (ax 1, 20, .inl (fun j => nI (sb j)))), (g4, .inl (ax 1, 20, .inl (fun j => nI (f1 j)))), (g5, .inl (ax 1, 20, .inl (fun j => nI (f2 j)))), (g6, .inl (ax 2, 20, .inl (fun j => nI (te j)))), (g7, .inl (ax 2, 20, .inl (fun j => nI (kp j)))), (g8, .inl (ax 0, 20, .inl tm)), (g9, .inl (ax 1, 20, .inl (fun j => nI (nm j)))), (ga, .inl (ax 1, 29, .inl (fun j => nI (ck j)))), (gb, .inl (ax 1, 29, .inl (fun j => nI (co j)))), (c0, .inr (3, [.ref n0, .ref c1, .ref g0, .ref a0, .int s_made])), (c1, .inl (ax 0, 16, .inl sd)), (n0, .inr (4, [.ref (u_10 0), .ref (u_10 1), .ref (u_10 2), .int (nI (u_10 3))])), ((u_10 0), .inl (ax 1, u_10 4, .inl x_20)), ((u_10 1), .inl (ax 0, u_10 4, .inl x_21)), ((u_10 2), .inl (ax 0, u_10 4, .inl x_22)), (a0, .inr (4, [.ref a1, .ref a2, .ref a3, .int (nI za)])), (a1, .inl (ax 1, ca, .inl ao)), (a2, .inl (ax 0, ca, .inl al)), (a3, .inl (ax 0, ca, .inl ar))]) hP hD [0, 1, 2, 3, 4, 5, 22, 23, 24, 25] [6, 7, 8, 9, 10, 11, 12, 13, 14, 15, 16, 17, 18, 19, 20, 21] hCs (by decide) (by decide) hk1 hFc hP1 hD1 rfl
    clear hP1 hD1
    clear hPc hDc hFc hCs hz hz1 hk1 ht hvm
    clear hP hD hS
    have hS := hS1
    obtain ⟨hP, hD⟩ := hjn
    clear hS1
    refine wk_narrow (k := u_10 4 - cp) (n := 6 * (u_10 4 - cp)) (by omega) (by omega) ?_
    clear hk8 hk9 hg8 hg9
    have hK_27 : ∀ i, i < z9 → tsn x_20 x_21 x_22 i = tsn fo fl fr i := fun i hi => hx_25 i hi
    refine wk_know (fun hk8 hk9 => ?_)
    refine W.widen (k := MX - cp) (n := 6 * (MX - cp)) (by omega) (by omega) ?_
    obtain ⟨hP9, hD9⟩ := xw_sub2 (wc := (fun (u : Nat → Nat) (xsd : Nat → Int32) (xfo : Nat → Int32) (xfl : Nat → Int32) (xfr : Nat → Int32) => [(c0, .inr (3, [.ref n0, .ref c1, .ref g0, .ref a0, .int s_made])), (c1, .inl (ax 0, 16, .inl xsd)), (n0, .inr (4, [.ref (u 0), .ref (u 1), .ref (u 2), .int (nI (u 3))])), (u 0, .inl (ax 1, u 4, .inl xfo)), (u 1, .inl (ax 0, u 4, .inl xfl)), (u 2, .inl (ax 0, u 4, .inl xfr)), (h0, .inr (4, [.ref h1, .ref h2, .ref h3, .int (nI zs)])), (h1, .inl (ax 1, cs, .inl so)), (h2, .inl (ax 0, cs, .inl sl)), (h3, .inl (ax 0, cs, .inl sr)), (a0, .inr (4, [.ref a1, .ref a2, .ref a3, .int (nI za)])), (a1, .inl (ax 1, ca, .inl ao)), (a2, .inl (ax 0, ca, .inl al)), (a3, .inl (ax 0, ca, .inl ar)), (g0, .inr (2, [.ref h0, .ref g1, .ref g2, .ref g3, .ref g4, .ref g5, .ref g6, .ref g7, .ref g8, .ref g9, .ref ga, .ref gb, .int (nI cl), .int (nI ln), .int (nI br), .int (nI lp), .int (nI va)])), (g1, .inl (ax 1, 20, .inl (fun j => nI (kd j)))), (g2, .inl (ax 1, 20, .inl (fun j => nI (ow j)))), (g3, .inl (ax 1, 20, .inl (fun j => nI (sb j)))), (g4, .inl (ax 1, 20, .inl (fun j => nI (f1 j)))), (g5, .inl (ax 1, 20, .inl (fun j => nI (f2 j)))), (g6, .inl (ax 2, 20, .inl (fun j => nI (te j)))), (g7, .inl (ax 2, 20, .inl (fun j => nI (kp j)))), (g8, .inl (ax 0, 20, .inl tm)), (g9, .inl (ax 1, 20, .inl (fun j => nI (nm j)))), (ga, .inl (ax 1, 29, .inl (fun j => nI (ck j)))), (gb, .inl (ax 1, 29, .inl (fun j => nI (co j))))]) (ixn [(u_10 0), (u_10 1), (u_10 2), (u_10 3), (u_10 4), (u_10 5)]) sd x_20 x_21 x_22) hP hD [16, 17, 18, 19, 20, 21, 0, 1, 2, 3, 22, 23, 24, 25, 4, 5, 6, 7, 8, 9, 10, 11, 12, 13, 14, 15] (by decide) rfl
    have hex0 : ndv x_20 x_21 x_22 ((u_10 3)) := hx_23
    have hex1 : bts x_20 ((u_10 4)) := (by assumption)
    have hex2 : ∀ i, i < z9 → tsn x_20 x_21 x_22 i = tsn fo fl fr i := hK_27
    have hex3 : tsn x_20 x_21 x_22 ((u_10 5)) + z9 ≤ (u_10 3) := (by omega)
    have hex4 : ∀ j, j ≤ 10 → trm (sd j) := hsd
    have hg8 : H_11.size ≤ s.heap.size + ((u_10 4) - cp) := by omega
    have hg9 : tsl H_11 ≤ tsl s.heap + (6 * ((u_10 4) - cp)) := by omega
    have hsp0 : z9 ≤ (u_10 3) := (by omega)
    have hsp1 : (u_10 3) ≤ (u_10 4) := (by omega)
    have hsp2 : cp ≤ (u_10 4) := (by omega)
    have hsp3 : (u_10 4) ≤ MX := (by omega)
    have hsp4 : dbl cp ((u_10 4)) := hs_17
    have hsp5 : (u_10 5) < (u_10 3) := (by omega)
    have hsp6 : (u_10 3) ≤ z9 + wpw kd kc ln 460 (s9 + 1) := (by omega)
    exact W.iret (v := nI (u_10 5)) hx hb hr (fun t ht hW => ⟨⟨nI (u_10 5), ixn [(u_10 0), (u_10 1), (u_10 2), (u_10 3), (u_10 4), (u_10 5)], rfl, ⟨rfl, ⟨hsp0, hsp1, hsp2, hsp3, hsp4, hsp5, hsp6⟩⟩, ⟨sd, x_20, x_21, x_22, by rw [ht]; exact hg8, by rw [ht]; exact hg9, hex0, hex1, hex2, hex3, hex4, by rw [ht]; exact hP9, hD9⟩⟩, hS.F ht⟩) hS.2.2 d_Maker_wpBehind_29
  · have hn_5l : u_1 0 < 2 ^ 31 := by have h9 := (hs_4.resolve_left hn_5).1; omega
    refine lv_icmp_ne (tgt := 30) hx hb d_Maker_wpBehind_11 (by decide) (fun c_28 => ?_) (fun c_28 => ?_)
    rotate_right
    · exact absurd c_28 (nIm1 (by omega))
    refine lv_iload_n hx hb d_Maker_wpBehind_30 rfl (lv_at hl1 0 rfl) ?_
    refine lv_iload_n hx hb d_Maker_wpBehind_31 rfl (lv_at hl1 2 rfl) ?_
    refine lv_icmp_le (tgt := 43) hx hb d_Maker_wpBehind_32 (by decide) (fun c_29 => ?_) (fun c_29 => ?_)
    · replace c_29 : u_1 0 ≤ s9 := (nI_leI (a := u_1 0) (b := s9) (by omega) (by omega)).mp c_29
      obtain ⟨hto, hto2⟩ := hs_4.resolve_left hn_5
      have hk12 := (hto2.resolve_left (by omega)).2
      refine lv_aload_n hx hb d_Maker_wpBehind_43 rfl (lv_at hl1 1 rfl) ?_
      refine lv_iload_n hx hb d_Maker_wpBehind_44 rfl (lv_at hl1 0 rfl) ?_
      obtain ⟨hPc, hDc, hFc, hCs⟩ := xw_sub3 (wc := [(c0, .inr (3, [.ref n0, .ref c1, .ref g0, .ref a0, .int s_made])), (c1, .inl (ax 0, 16, .inl sd)), (n0, .inr (4, [.ref n1, .ref n2, .ref n3, .int (nI z9)])), (n1, .inl (ax 1, cp, .inl fo)), (n2, .inl (ax 0, cp, .inl fl)), (n3, .inl (ax 0, cp, .inl fr)), (h0, .inr (4, [.ref h1, .ref h2, .ref h3, .int (nI zs)])), (h1, .inl (ax 1, cs, .inl so)), (h2, .inl (ax 0, cs, .inl sl)), (h3, .inl (ax 0, cs, .inl sr)), (a0, .inr (4, [.ref a1, .ref a2, .ref a3, .int (nI za)])), (a1, .inl (ax 1, ca, .inl ao)), (a2, .inl (ax 0, ca, .inl al)), (a3, .inl (ax 0, ca, .inl ar)), (g0, .inr (2, [.ref h0, .ref g1, .ref g2, .ref g3, .ref g4, .ref g5, .ref g6, .ref g7, .ref g8, .ref g9, .ref ga, .ref gb, .int (nI cl), .int (nI ln), .int (nI br), .int (nI lp), .int (nI va)])), (g1, .inl (ax 1, 20, .inl (fun j => nI (kd j)))), (g2, .inl (ax 1, 20, .inl (fun j => nI (ow j)))), (g3, .inl (ax 1, 20, .inl (fun j => nI (sb j)))), (g4, .inl (ax 1, 20, .inl (fun j => nI (f1 j)))), (g5, .inl (ax 1, 20, .inl (fun j => nI (f2 j)))), (g6, .inl (ax 2, 20, .inl (fun j => nI (te j)))), (g7, .inl (ax 2, 20, .inl (fun j => nI (kp j)))), (g8, .inl (ax 0, 20, .inl tm)), (g9, .inl (ax 1, 20, .inl (fun j => nI (nm j)))), (ga, .inl (ax 1, 29, .inl (fun j => nI (ck j)))), (gb, .inl (ax 1, 29, .inl (fun j => nI (co j))))]) hP hD hS hA [0, 1, 2, 3, 4, 5, 6, 7, 8, 9, 10, 11, 12, 13, 14, 15, 16, 17, 18, 19, 20, 21, 22, 23, 24, 25] (by decide) rfl
      have hz := xz_of hN hS
      refine wk_know (fun hk8 hk9 => ?_)
      refine va_calli (va_runV (As := [.int (nI (u_1 0))]) (rest := []) ⟨hx, hb, hml, hown, hts⟩ (c_K_endOfBody l D ax c0 c1 s_made sd n0 n1 n2 n3 cp z9 fo fl fr h0 h1 h2 h3 zs cs so sl sr a0 a1 a2 a3 za ca ao al ar g0 g1 g2 g3 g4 g5 g6 g7 g8 g9 ga gb cl ln br lp va kd ow sb f1 f2 te kp nm ck co tm MX en kc (u_1 0) H_2.size (tsl H_2) (by omega) (by omega) (by omega) hMX (by assumption) (by assumption) (by assumption) hzs hcs hsv hza hca hz1 hz4 hav hat hlw (by omega) hk12 (by omega)) (xcV (n := 1) hts wd_809 wd_4 wd_806 wd_808 ps_30 rfl rfl (by decide +kernel) ⟨(show (1000) + 1 ≤ (1006 + 8 * (20 - s9)) by omega), (show 8 + (4 + 11) + (21000) ≤ (21100 + 300 * (20 - s9)) by omega)⟩) (xpV3 (ci := 3) (q0 := 0) (As := [.int (nI (u_1 0))]) hPc hK hz hDc rfl rfl) rfl rfl hl1.1 rfl (lv_room (Nat.le_of_ble_eq_true rfl)) d_Maker_wpBehind_45 ⟨(show (0) + (MX - cp) ≤ (MX - cp) by omega), (show (0) + (6 * (MX - cp)) ≤ (6 * (MX - cp)) by omega)⟩) hS (fun q _ h => hFc q h) hFc (fun r_32 u_30 t H_31 locs ht hvm hw hB hz1 hk1 hS1 => ?_)
      try dsimp only at hw
      obtain ⟨hw, hs_33, hs_34, hs_35, hs_36, hs_37, hs_38, hs_39⟩ := hw
      subst hw
      obtain ⟨x_40, x_41, x_42, x_43, hg8, hg9, hx_44, hx_45, hx_46, hx_47, hx_48, hP1, hD1⟩ := hB
      rw [ht] at hg8 hg9 hP1
      have hjn := xw_join3 (wl := [(c0, .inr (3, [.ref n0, .ref c1, .ref g0, .ref a0, .int s_made])), (c1, .inl (ax 0, 16, .inl x_40)), (n0, .inr (4, [.ref (u_30 0), .ref (u_30 1), .ref (u_30 2), .int (nI (u_30 3))])), ((u_30 0), .inl (ax 1, u_30 4, .inl x_41)), ((u_30 1), .inl (ax 0, u_30 4, .inl x_42)), ((u_30 2), .inl (ax 0, u_30 4, .inl x_43)), (h0, .inr (4, [.ref h1, .ref h2, .ref h3, .int (nI zs)])), (h1, .inl (ax 1, cs, .inl so)), (h2, .inl (ax 0, cs, .inl sl)), (h3, .inl (ax 0, cs, .inl sr)), (a0, .inr (4, [.ref a1, .ref a2, .ref a3, .int (nI za)])), (a1, .inl (ax 1, ca, .inl ao)), (a2, .inl (ax 0, ca, .inl al)), (a3, .inl (ax 0, ca, .inl ar)), (g0, .inr (2, [.ref h0, .ref g1, .ref g2, .ref g3, .ref g4, .ref g5, .ref g6, .ref g7, .ref g8, .ref g9, .ref ga, .ref gb, .int (nI cl), .int (nI ln), .int (nI br), .int (nI lp), .int (nI va)])), (g1, .inl (ax 1, 20, .inl (fun j => nI (kd j)))), (g2, .inl (ax 1, 20, .inl (fun j => nI (ow j)))), (g3, .inl (ax 1, 20, .inl (fun j => nI (sb j)))), (g4, .inl (ax 1, 20, .inl (fun j => nI (f1 j)))), (g5, .inl (ax 1, 20, .inl (fun j => nI (f2 j)))), (g6, .inl (ax 2, 20, .inl (fun j => nI (te j)))), (g7, .inl (ax 2, 20, .inl (fun j => nI (kp j)))), (g8, .inl (ax 0, 20, .inl tm)), (g9, .inl (ax 1, 20, .inl (fun j => nI (nm j)))), (ga, .inl (ax 1, 29, .inl (fun j => nI (ck j)))), (gb, .inl (ax 1, 29, .inl (fun j => nI (co j))))]) hP hD [0, 1, 2, 3, 4, 5, 6, 7, 8, 9, 10, 11, 12, 13, 14, 15, 16, 17, 18, 19, 20, 21, 22, 23, 24, 25] [] hCs (by decide) (by decide) hk1 hFc hP1 hD1 rfl
      clear hP1 hD1
      clear hPc hDc hFc hCs hz hz1 hk1 ht hvm
      clear hP hD hS
      have hS := hS1
      obtain ⟨hP, hD⟩ := hjn
      clear hS1
      refine wk_narrow (k := u_30 4 - cp) (n := 6 * (u_30 4 - cp)) (by omega) (by omega) ?_
      clear hk8 hk9 hg8 hg9
      have hK_49 : ∀ i, i < z9 → tsn x_41 x_42 x_43 i = tsn fo fl fr i := fun i hi => hx_46 i hi
      refine wk_know (fun hk8 hk9 => ?_)
      refine W.widen (k := MX - cp) (n := 6 * (MX - cp)) (by omega) (by omega) ?_
      obtain ⟨hP9, hD9⟩ := xw_sub2 (wc := (fun (u : Nat → Nat) (xsd : Nat → Int32) (xfo : Nat → Int32) (xfl : Nat → Int32) (xfr : Nat → Int32) => [(c0, .inr (3, [.ref n0, .ref c1, .ref g0, .ref a0, .int s_made])), (c1, .inl (ax 0, 16, .inl xsd)), (n0, .inr (4, [.ref (u 0), .ref (u 1), .ref (u 2), .int (nI (u 3))])), (u 0, .inl (ax 1, u 4, .inl xfo)), (u 1, .inl (ax 0, u 4, .inl xfl)), (u 2, .inl (ax 0, u 4, .inl xfr)), (h0, .inr (4, [.ref h1, .ref h2, .ref h3, .int (nI zs)])), (h1, .inl (ax 1, cs, .inl so)), (h2, .inl (ax 0, cs, .inl sl)), (h3, .inl (ax 0, cs, .inl sr)), (a0, .inr (4, [.ref a1, .ref a2, .ref a3, .int (nI za)])), (a1, .inl (ax 1, ca, .inl ao)), (a2, .inl (ax 0, ca, .inl al)), (a3, .inl (ax 0, ca, .inl ar)), (g0, .inr (2, [.ref h0, .ref g1, .ref g2, .ref g3, .ref g4, .ref g5, .ref g6, .ref g7, .ref g8, .ref g9, .ref ga, .ref gb, .int (nI cl), .int (nI ln), .int (nI br), .int (nI lp), .int (nI va)])), (g1, .inl (ax 1, 20, .inl (fun j => nI (kd j)))), (g2, .inl (ax 1, 20, .inl (fun j => nI (ow j)))), (g3, .inl (ax 1, 20, .inl (fun j => nI (sb j)))), (g4, .inl (ax 1, 20, .inl (fun j => nI (f1 j)))), (g5, .inl (ax 1, 20, .inl (fun j => nI (f2 j)))), (g6, .inl (ax 2, 20, .inl (fun j => nI (te j)))), (g7, .inl (ax 2, 20, .inl (fun j => nI (kp j)))), (g8, .inl (ax 0, 20, .inl tm)), (g9, .inl (ax 1, 20, .inl (fun j => nI (nm j)))), (ga, .inl (ax 1, 29, .inl (fun j => nI (ck j)))), (gb, .inl (ax 1, 29, .inl (fun j => nI (co j))))]) (ixn [(u_30 0), (u_30 1), (u_30 2), (u_30 3), (u_30 4), (u_30 5)]) x_40 x_41 x_42 x_43) hP hD [0, 1, 2, 3, 4, 5, 6, 7, 8, 9, 10, 11, 12, 13, 14, 15, 16, 17, 18, 19, 20, 21, 22, 23, 24, 25] (by decide) rfl
      have hex0 : ndv x_41 x_42 x_43 ((u_30 3)) := hx_44
      have hex1 : bts x_41 ((u_30 4)) := (by assumption)
      have hex2 : ∀ i, i < z9 → tsn x_41 x_42 x_43 i = tsn fo fl fr i := hK_49
      have hex3 : tsn x_41 x_42 x_43 ((u_30 5)) + z9 ≤ (u_30 3) := (by omega)
      have hex4 : ∀ j, j ≤ 10 → trm (x_40 j) := hx_48
      have hg8 : H_31.size ≤ s.heap.size + ((u_30 4) - cp) := by omega
      have hg9 : tsl H_31 ≤ tsl s.heap + (6 * ((u_30 4) - cp)) := by omega
      have hsp0 : z9 ≤ (u_30 3) := (by omega)
      have hsp1 : (u_30 3) ≤ (u_30 4) := (by omega)
      have hsp2 : cp ≤ (u_30 4) := (by omega)
      have hsp3 : (u_30 4) ≤ MX := (by omega)
      have hsp4 : dbl cp ((u_30 4)) := hs_37
      have hsp5 : (u_30 5) < (u_30 3) := (by omega)
      have hsp6 : (u_30 3) ≤ z9 + wpw kd kc ln 460 (s9 + 1) := (by omega)
      exact W.iret (v := nI (u_30 5)) hx hb hr (fun t ht hW => ⟨⟨nI (u_30 5), ixn [(u_30 0), (u_30 1), (u_30 2), (u_30 3), (u_30 4), (u_30 5)], rfl, ⟨rfl, ⟨hsp0, hsp1, hsp2, hsp3, hsp4, hsp5, hsp6⟩⟩, ⟨x_40, x_41, x_42, x_43, by rw [ht]; exact hg8, by rw [ht]; exact hg9, hex0, hex1, hex2, hex3, hex4, by rw [ht]; exact hP9, hD9⟩⟩, hS.F ht⟩) hS.2.2 d_Maker_wpBehind_48
    · replace c_29 : ¬ u_1 0 ≤ s9 := fun hq9 => c_29 ((nI_leI (a := u_1 0) (b := s9) (by omega) (by omega)).mpr hq9)
      have hto := (hs_4.resolve_left hn_5).1
      have hwM := wpw_mono (kd := kd) (kc := kc) (n := ln) (B := 460) (s := s9 + 1) (j := u_1 0) (by omega)
      refine lv_aload_n hx hb d_Maker_wpBehind_35 rfl (lv_at hl1 1 rfl) ?_
      refine lv_iload_n hx hb d_Maker_wpBehind_36 rfl (lv_at hl1 0 rfl) ?_
      obtain ⟨hPc, hDc, hFc, hCs⟩ := xw_sub3 (wc := [(c0, .inr (3, [.ref n0, .ref c1, .ref g0, .ref a0, .int s_made])), (c1, .inl (ax 0, 16, .inl sd)), (n0, .inr (4, [.ref n1, .ref n2, .ref n3, .int (nI z9)])), (n1, .inl (ax 1, cp, .inl fo)), (n2, .inl (ax 0, cp, .inl fl)), (n3, .inl (ax 0, cp, .inl fr)), (h0, .inr (4, [.ref h1, .ref h2, .ref h3, .int (nI zs)])), (h1, .inl (ax 1, cs, .inl so)), (h2, .inl (ax 0, cs, .inl sl)), (h3, .inl (ax 0, cs, .inl sr)), (a0, .inr (4, [.ref a1, .ref a2, .ref a3, .int (nI za)])), (a1, .inl (ax 1, ca, .inl ao)), (a2, .inl (ax 0, ca, .inl al)), (a3, .inl (ax 0, ca, .inl ar)), (g0, .inr (2, [.ref h0, .ref g1, .ref g2, .ref g3, .ref g4, .ref g5, .ref g6, .ref g7, .ref g8, .ref g9, .ref ga, .ref gb, .int (nI cl), .int (nI ln), .int (nI br), .int (nI lp), .int (nI va)])), (g1, .inl (ax 1, 20, .inl (fun j => nI (kd j)))), (g2, .inl (ax 1, 20, .inl (fun j => nI (ow j)))), (g3, .inl (ax 1, 20, .inl (fun j => nI (sb j)))), (g4, .inl (ax 1, 20, .inl (fun j => nI (f1 j)))), (g5, .inl (ax 1, 20, .inl (fun j => nI (f2 j)))), (g6, .inl (ax 2, 20, .inl (fun j => nI (te j)))), (g7, .inl (ax 2, 20, .inl (fun j => nI (kp j)))), (g8, .inl (ax 0, 20, .inl tm)), (g9, .inl (ax 1, 20, .inl (fun j => nI (nm j)))), (ga, .inl (ax 1, 29, .inl (fun j => nI (ck j)))), (gb, .inl (ax 1, 29, .inl (fun j => nI (co j))))]) hP hD hS hA [0, 1, 2, 3, 4, 5, 6, 7, 8, 9, 10, 11, 12, 13, 14, 15, 16, 17, 18, 19, 20, 21, 22, 23, 24, 25] (by decide) rfl
      have hz := xz_of hN hS
      refine wk_know (fun hk8 hk9 => ?_)
      refine va_calli (va_runV (As := [.int (nI (u_1 0))]) (rest := []) ⟨hx, hb, hml, hown, hts⟩ ((hrec (u_1 0) (by omega) (by omega)) D ax c0 c1 s_made sd n0 n1 n2 n3 cp z9 fo fl fr h0 h1 h2 h3 zs cs so sl sr a0 a1 a2 a3 za ca ao al ar g0 g1 g2 g3 g4 g5 g6 g7 g8 g9 ga gb cl ln br lp va kd ow sb f1 f2 te kp nm ck co tm MX en kc H_2.size (tsl H_2) (by omega) (by omega) (by omega) hMX (by assumption) (by assumption) (by assumption) hzs hcs hsv hza hca hz1 hz4 hav hat hlw (by omega) (by omega)) (xcV (n := 1) hts wd_793 wd_4 wd_790 wd_792 ps_27 rfl rfl (by decide +kernel) ⟨(show (1010 + 8 * (20 - (u_1 0))) + 1 ≤ (1006 + 8 * (20 - s9)) by omega), (show 8 + (2 + 11) + (21200 + 300 * (20 - (u_1 0))) ≤ (21100 + 300 * (20 - s9)) by omega)⟩) (xpV3 (ci := 3) (q0 := 0) (As := [.int (nI (u_1 0))]) hPc hK hz hDc rfl rfl) rfl rfl hl1.1 rfl (lv_room (Nat.le_of_ble_eq_true rfl)) d_Maker_wpBehind_37 ⟨(show (0) + (MX - cp) ≤ (MX - cp) by omega), (show (0) + (6 * (MX - cp)) ≤ (6 * (MX - cp)) by omega)⟩) hS (fun q _ h => hFc q h) hFc (fun r_52 u_50 t H_51 locs ht hvm hw hB hz1 hk1 hS1 => ?_)
      try dsimp only at hw
      obtain ⟨hw, hs_53, hs_54, hs_55, hs_56, hs_57, hs_58, hs_59⟩ := hw
      subst hw
      obtain ⟨x_60, x_61, x_62, x_63, hg8, hg9, hx_64, hx_65, hx_66, hx_67, hx_68, hP1, hD1⟩ := hB
      rw [ht] at hg8 hg9 hP1
      have hjn := xw_join3 (wl := [(c0, .inr (3, [.ref n0, .ref c1, .ref g0, .ref a0, .int s_made])), (c1, .inl (ax 0, 16, .inl x_60)), (n0, .inr (4, [.ref (u_50 0), .ref (u_50 1), .ref (u_50 2), .int (nI (u_50 3))])), ((u_50 0), .inl (ax 1, u_50 4, .inl x_61)), ((u_50 1), .inl (ax 0, u_50 4, .inl x_62)), ((u_50 2), .inl (ax 0, u_50 4, .inl x_63)), (h0, .inr (4, [.ref h1, .ref h2, .ref h3, .int (nI zs)])), (h1, .inl (ax 1, cs, .inl so)), (h2, .inl (ax 0, cs, .inl sl)), (h3, .inl (ax 0, cs, .inl sr)), (a0, .inr (4, [.ref a1, .ref a2, .ref a3, .int (nI za)])), (a1, .inl (ax 1, ca, .inl ao)), (a2, .inl (ax 0, ca, .inl al)), (a3, .inl (ax 0, ca, .inl ar)), (g0, .inr (2, [.ref h0, .ref g1, .ref g2, .ref g3, .ref g4, .ref g5, .ref g6, .ref g7, .ref g8, .ref g9, .ref ga, .ref gb, .int (nI cl), .int (nI ln), .int (nI br), .int (nI lp), .int (nI va)])), (g1, .inl (ax 1, 20, .inl (fun j => nI (kd j)))), (g2, .inl (ax 1, 20, .inl (fun j => nI (ow j)))), (g3, .inl (ax 1, 20, .inl (fun j => nI (sb j)))), (g4, .inl (ax 1, 20, .inl (fun j => nI (f1 j)))), (g5, .inl (ax 1, 20, .inl (fun j => nI (f2 j)))), (g6, .inl (ax 2, 20, .inl (fun j => nI (te j)))), (g7, .inl (ax 2, 20, .inl (fun j => nI (kp j)))), (g8, .inl (ax 0, 20, .inl tm)), (g9, .inl (ax 1, 20, .inl (fun j => nI (nm j)))), (ga, .inl (ax 1, 29, .inl (fun j => nI (ck j)))), (gb, .inl (ax 1, 29, .inl (fun j => nI (co j))))]) hP hD [0, 1, 2, 3, 4, 5, 6, 7, 8, 9, 10, 11, 12, 13, 14, 15, 16, 17, 18, 19, 20, 21, 22, 23, 24, 25] [] hCs (by decide) (by decide) hk1 hFc hP1 hD1 rfl
      clear hP1 hD1
      clear hPc hDc hFc hCs hz hz1 hk1 ht hvm
      clear hP hD hS
      have hS := hS1
      obtain ⟨hP, hD⟩ := hjn
      clear hS1
      refine wk_narrow (k := u_50 4 - cp) (n := 6 * (u_50 4 - cp)) (by omega) (by omega) ?_
      clear hk8 hk9 hg8 hg9
      have hK_69 : ∀ i, i < z9 → tsn x_61 x_62 x_63 i = tsn fo fl fr i := fun i hi => hx_66 i hi
      refine lv_goto (tgt := 48) hx hb d_Maker_wpBehind_40 (by decide) ?_
      refine wk_know (fun hk8 hk9 => ?_)
      refine W.widen (k := MX - cp) (n := 6 * (MX - cp)) (by omega) (by omega) ?_
      obtain ⟨hP9, hD9⟩ := xw_sub2 (wc := (fun (u : Nat → Nat) (xsd : Nat → Int32) (xfo : Nat → Int32) (xfl : Nat → Int32) (xfr : Nat → Int32) => [(c0, .inr (3, [.ref n0, .ref c1, .ref g0, .ref a0, .int s_made])), (c1, .inl (ax 0, 16, .inl xsd)), (n0, .inr (4, [.ref (u 0), .ref (u 1), .ref (u 2), .int (nI (u 3))])), (u 0, .inl (ax 1, u 4, .inl xfo)), (u 1, .inl (ax 0, u 4, .inl xfl)), (u 2, .inl (ax 0, u 4, .inl xfr)), (h0, .inr (4, [.ref h1, .ref h2, .ref h3, .int (nI zs)])), (h1, .inl (ax 1, cs, .inl so)), (h2, .inl (ax 0, cs, .inl sl)), (h3, .inl (ax 0, cs, .inl sr)), (a0, .inr (4, [.ref a1, .ref a2, .ref a3, .int (nI za)])), (a1, .inl (ax 1, ca, .inl ao)), (a2, .inl (ax 0, ca, .inl al)), (a3, .inl (ax 0, ca, .inl ar)), (g0, .inr (2, [.ref h0, .ref g1, .ref g2, .ref g3, .ref g4, .ref g5, .ref g6, .ref g7, .ref g8, .ref g9, .ref ga, .ref gb, .int (nI cl), .int (nI ln), .int (nI br), .int (nI lp), .int (nI va)])), (g1, .inl (ax 1, 20, .inl (fun j => nI (kd j)))), (g2, .inl (ax 1, 20, .inl (fun j => nI (ow j)))), (g3, .inl (ax 1, 20, .inl (fun j => nI (sb j)))), (g4, .inl (ax 1, 20, .inl (fun j => nI (f1 j)))), (g5, .inl (ax 1, 20, .inl (fun j => nI (f2 j)))), (g6, .inl (ax 2, 20, .inl (fun j => nI (te j)))), (g7, .inl (ax 2, 20, .inl (fun j => nI (kp j)))), (g8, .inl (ax 0, 20, .inl tm)), (g9, .inl (ax 1, 20, .inl (fun j => nI (nm j)))), (ga, .inl (ax 1, 29, .inl (fun j => nI (ck j)))), (gb, .inl (ax 1, 29, .inl (fun j => nI (co j))))]) (ixn [(u_50 0), (u_50 1), (u_50 2), (u_50 3), (u_50 4), (u_50 5)]) x_60 x_61 x_62 x_63) hP hD [0, 1, 2, 3, 4, 5, 6, 7, 8, 9, 10, 11, 12, 13, 14, 15, 16, 17, 18, 19, 20, 21, 22, 23, 24, 25] (by decide) rfl
      have hex0 : ndv x_61 x_62 x_63 ((u_50 3)) := hx_64
      have hex1 : bts x_61 ((u_50 4)) := (by assumption)
      have hex2 : ∀ i, i < z9 → tsn x_61 x_62 x_63 i = tsn fo fl fr i := hK_69
      have hex3 : tsn x_61 x_62 x_63 ((u_50 5)) + z9 ≤ (u_50 3) := (by omega)
      have hex4 : ∀ j, j ≤ 10 → trm (x_60 j) := hx_68
      have hg8 : H_51.size ≤ s.heap.size + ((u_50 4) - cp) := by omega
      have hg9 : tsl H_51 ≤ tsl s.heap + (6 * ((u_50 4) - cp)) := by omega
      have hsp0 : z9 ≤ (u_50 3) := (by omega)
      have hsp1 : (u_50 3) ≤ (u_50 4) := (by omega)
      have hsp2 : cp ≤ (u_50 4) := (by omega)
      have hsp3 : (u_50 4) ≤ MX := (by omega)
      have hsp4 : dbl cp ((u_50 4)) := hs_57
      have hsp5 : (u_50 5) < (u_50 3) := (by omega)
      have hsp6 : (u_50 3) ≤ z9 + wpw kd kc ln 460 (s9 + 1) := (by omega)
      exact W.iret (v := nI (u_50 5)) hx hb hr (fun t ht hW => ⟨⟨nI (u_50 5), ixn [(u_50 0), (u_50 1), (u_50 2), (u_50 3), (u_50 4), (u_50 5)], rfl, ⟨rfl, ⟨hsp0, hsp1, hsp2, hsp3, hsp4, hsp5, hsp6⟩⟩, ⟨x_60, x_61, x_62, x_63, by rw [ht]; exact hg8, by rw [ht]; exact hg9, hex0, hex1, hex2, hex3, hex4, by rw [ht]; exact hP9, hD9⟩⟩, hS.F ht⟩) hS.2.2 d_Maker_wpBehind_48
abbrev b_Maker_wpOfAssignment : ByteArray := prog_5_method_7_code
def y_Maker_wpOfAssignment : MethodName := ⟨R_Maker, "wpOfAssignment", "(I)I"⟩
theorem d_Maker_wpOfAssignment_0 : decode b_Maker_wpOfAssignment 0 = .ok (.aload_n 0, 1) := by decide +kernel
theorem d_Maker_wpOfAssignment_1 : decode b_Maker_wpOfAssignment 1 = .ok (.getfield 29, 3) := by decide +kernel
theorem d_Maker_wpOfAssignment_4 : decode b_Maker_wpOfAssignment 4 = .ok (.getfield 74, 3) := by decide +kernel
theorem d_Maker_wpOfAssignment_7 : decode b_Maker_wpOfAssignment 7 = .ok (.iload_n 1, 1) := by decide +kernel
theorem d_Maker_wpOfAssignment_8 : decode b_Maker_wpOfAssignment 8 = .ok (.baload, 1) := by decide +kernel
theorem d_Maker_wpOfAssignment_9 : decode b_Maker_wpOfAssignment 9 = .ok (.istore_n 2, 1) := by decide +kernel
theorem d_Maker_wpOfAssignment_10 : decode b_Maker_wpOfAssignment 10 = .ok (.aload_n 0, 1) := by decide +kernel
theorem d_Maker_wpOfAssignment_11 : decode b_Maker_wpOfAssignment 11 = .ok (.getfield 18, 3) := by decide +kernel
theorem d_Maker_wpOfAssignment_14 : decode b_Maker_wpOfAssignment 14 = .ok (.iload_n 2, 1) := by decide +kernel
theorem d_Maker_wpOfAssignment_15 : decode b_Maker_wpOfAssignment 15 = .ok (.iaload, 1) := by decide +kernel
theorem d_Maker_wpOfAssignment_16 : decode b_Maker_wpOfAssignment 16 = .ok (.istore_n 3, 1) := by decide +kernel
theorem d_Maker_wpOfAssignment_17 : decode b_Maker_wpOfAssignment 17 = .ok (.aload_n 0, 1) := by decide +kernel
theorem d_Maker_wpOfAssignment_18 : decode b_Maker_wpOfAssignment 18 = .ok (.getfield 18, 3) := by decide +kernel
theorem d_Maker_wpOfAssignment_21 : decode b_Maker_wpOfAssignment 21 = .ok (.iload_n 2, 1) := by decide +kernel
theorem d_Maker_wpOfAssignment_22 : decode b_Maker_wpOfAssignment 22 = .ok (.aload_n 0, 1) := by decide +kernel
theorem d_Maker_wpOfAssignment_23 : decode b_Maker_wpOfAssignment 23 = .ok (.aload_n 0, 1) := by decide +kernel
theorem d_Maker_wpOfAssignment_24 : decode b_Maker_wpOfAssignment 24 = .ok (.getfield 29, 3) := by decide +kernel
theorem d_Maker_wpOfAssignment_27 : decode b_Maker_wpOfAssignment 27 = .ok (.getfield 77, 3) := by decide +kernel
theorem d_Maker_wpOfAssignment_30 : decode b_Maker_wpOfAssignment 30 = .ok (.iload_n 1, 1) := by decide +kernel
theorem d_Maker_wpOfAssignment_31 : decode b_Maker_wpOfAssignment 31 = .ok (.iaload, 1) := by decide +kernel
theorem d_Maker_wpOfAssignment_32 : decode b_Maker_wpOfAssignment 32 = .ok (.invokevirtual 99, 3) := by decide +kernel
theorem d_Maker_wpOfAssignment_35 : decode b_Maker_wpOfAssignment 35 = .ok (.iastore, 1) := by decide +kernel
theorem d_Maker_wpOfAssignment_36 : decode b_Maker_wpOfAssignment 36 = .ok (.aload_n 0, 1) := by decide +kernel
theorem d_Maker_wpOfAssignment_37 : decode b_Maker_wpOfAssignment 37 = .ok (.iload_n 1, 1) := by decide +kernel
theorem d_Maker_wpOfAssignment_38 : decode b_Maker_wpOfAssignment 38 = .ok (.invokevirtual 87, 3) := by decide +kernel
theorem d_Maker_wpOfAssignment_41 : decode b_Maker_wpOfAssignment 41 = .ok (.istore 4, 2) := by decide +kernel
theorem d_Maker_wpOfAssignment_43 : decode b_Maker_wpOfAssignment 43 = .ok (.aload_n 0, 1) := by decide +kernel
theorem d_Maker_wpOfAssignment_44 : decode b_Maker_wpOfAssignment 44 = .ok (.getfield 18, 3) := by decide +kernel
theorem d_Maker_wpOfAssignment_47 : decode b_Maker_wpOfAssignment 47 = .ok (.iload_n 2, 1) := by decide +kernel
theorem d_Maker_wpOfAssignment_48 : decode b_Maker_wpOfAssignment 48 = .ok (.iload_n 3, 1) := by decide +kernel
theorem d_Maker_wpOfAssignment_49 : decode b_Maker_wpOfAssignment 49 = .ok (.iastore, 1) := by decide +kernel
theorem d_Maker_wpOfAssignment_50 : decode b_Maker_wpOfAssignment 50 = .ok (.iload 4, 2) := by decide +kernel
theorem d_Maker_wpOfAssignment_52 : decode b_Maker_wpOfAssignment 52 = .ok (.ireturn, 1) := by decide +kernel
set_option maxHeartbeats 40000000 in
set_option maxRecDepth 100000 in
theorem c_K_wpOfAssignment (l : Launch) (s9 : Nat) (hrec : ∀ a, s9 < a → a < 20 → CWp l a) (D : va_G) (ax : Nat → ClassId) (c0 c1 : Nat) (s_made : Int32) (sd : Nat → Int32) (n0 n1 n2 n3 cp z9 : Nat) (fo fl fr : Nat → Int32) (h0 h1 h2 h3 zs cs : Nat) (so sl sr : Nat → Int32) (a0 a1 a2 a3 za ca : Nat) (ao al ar : Nat → Int32) (g0 g1 g2 g3 g4 g5 g6 g7 g8 g9 ga gb cl ln br lp va : Nat) (kd ow sb f1 f2 te kp nm ck co : Nat → Nat) (tm : Nat → Int32) (MX : Nat) (en kc : Nat → Nat) (sz tz : Nat) (hcp : 8 ≤ cp) (hz9 : z9 ≤ cp) (hmx : cp ≤ MX) (hMX : MX ≤ 100000) (hfo : bts fo cp) (hnv : ndv fo fl fr z9) (hsd : ∀ j, j ≤ 10 → trm (sd j)) (hzs : zs ≤ cs) (hcs : cs ≤ 100000) (hsv : ndv so sl sr zs) (hza : za ≤ ca) (hca : ca ≤ 100000) (hz1 : 1 ≤ za) (hz4 : za ≤ 450) (hav : ndv ao al ar za) (hat : tsn ao al ar (za - 1) ≤ 450) (hlw : lsw ln zs kd ow sb f1 f2 te kp nm en kc tm so sl sr) (hkq : kd s9 = 2) (hs9 : s9 < ln) (hbd : 2 * (z9 + wpw kd kc ln 460 s9) ≤ MX) : Met l y_Maker_wpOfAssignment (xws (.code y_Maker_wpOfAssignment b_Maker_wpOfAssignment 5 (some .int))) ({ frames := 1009 + 8 * (20 - s9), cells := MX - cp, slots := 6 * (MX - cp), locals := 21170 + 300 * (20 - s9) }) (va_Pc [.ref c0, .int (nI s9)] (xo3 D ax [(c0, .inr (3, [.ref n0, .ref c1, .ref g0, .ref a0, .int s_made])), (c1, .inl (ax 0, 16, .inl sd)), (n0, .inr (4, [.ref n1, .ref n2, .ref n3, .int (nI z9)])), (n1, .inl (ax 1, cp, .inl fo)), (n2, .inl (ax 0, cp, .inl fl)), (n3, .inl (ax 0, cp, .inl fr)), (h0, .inr (4, [.ref h1, .ref h2, .ref h3, .int (nI zs)])), (h1, .inl (ax 1, cs, .inl so)), (h2, .inl (ax 0, cs, .inl sl)), (h3, .inl (ax 0, cs, .inl sr)), (a0, .inr (4, [.ref a1, .ref a2, .ref a3, .int (nI za)])), (a1, .inl (ax 1, ca, .inl ao)), (a2, .inl (ax 0, ca, .inl al)), (a3, .inl (ax 0, ca, .inl ar)), (g0, .inr (2, [.ref h0, .ref g1, .ref g2, .ref g3, .ref g4, .ref g5, .ref g6, .ref g7, .ref g8, .ref g9, .ref ga, .ref gb, .int (nI cl), .int (nI ln), .int (nI br), .int (nI lp), .int (nI va)])), (g1, .inl (ax 1, 20, .inl (fun j => nI (kd j)))), (g2, .inl (ax 1, 20, .inl (fun j => nI (ow j)))), (g3, .inl (ax 1, 20, .inl (fun j => nI (sb j)))), (g4, .inl (ax 1, 20, .inl (fun j => nI (f1 j)))), (g5, .inl (ax 1, 20, .inl (fun j => nI (f2 j)))), (g6, .inl (ax 2, 20, .inl (fun j => nI (te j)))), (g7, .inl (ax 2, 20, .inl (fun j => nI (kp j)))), (g8, .inl (ax 0, 20, .inl tm)), (g9, .inl (ax 1, 20, .inl (fun j => nI (nm j)))), (ga, .inl (ax 1, 29, .inl (fun j => nI (ck j)))), (gb, .inl (ax 1, 29, .inl (fun j => nI (co j))))] sz tz)) ((va_Qi (fun (r : Int32) (u : Nat → Nat) => r = nI (u 5) ∧ (z9 ≤ u 3 ∧ u 3 ≤ u 4 ∧ cp ≤ u 4 ∧ u 4 ≤ MX ∧ dbl cp (u 4) ∧ u 5 < u 3 ∧ u 3 ≤ z9 + wpw kd kc ln 460 s9)) (fun (u : Nat → Nat) (t9 : State) => ∃ xsd : Nat → Int32, ∃ xfo : Nat → Int32, ∃ xfl : Nat → Int32, ∃ xfr : Nat → Int32, (t9.heap.size ≤ sz + (u 4 - cp)) ∧ (tsl t9.heap ≤ tz + (6 * (u 4 - cp))) ∧ (ndv xfo xfl xfr (u 3)) ∧ (bts xfo (u 4)) ∧ (∀ i, i < z9 → tsn xfo xfl xfr i = tsn fo fl fr i) ∧ (tsn xfo xfl xfr (u 5) + z9 ≤ u 3) ∧ (∀ j, j ≤ 10 → trm (xsd j)) ∧ va_P D classes [(c0, .inr (3, [.ref n0, .ref c1, .ref g0, .ref a0, .int s_made])), (c1, .inl (ax 0, 16, .inl xsd)), (n0, .inr (4, [.ref (u 0), .ref (u 1), .ref (u 2), .int (nI (u 3))])), (u 0, .inl (ax 1, u 4, .inl xfo)), (u 1, .inl (ax 0, u 4, .inl xfl)), (u 2, .inl (ax 0, u 4, .inl xfr)), (h0, .inr (4, [.ref h1, .ref h2, .ref h3, .int (nI zs)])), (h1, .inl (ax 1, cs, .inl so)), (h2, .inl (ax 0, cs, .inl sl)), (h3, .inl (ax 0, cs, .inl sr)), (a0, .inr (4, [.ref a1, .ref a2, .ref a3, .int (nI za)])), (a1, .inl (ax 1, ca, .inl ao)), (a2, .inl (ax 0, ca, .inl al)), (a3, .inl (ax 0, ca, .inl ar)), (g0, .inr (2, [.ref h0, .ref g1, .ref g2, .ref g3, .ref g4, .ref g5, .ref g6, .ref g7, .ref g8, .ref g9, .ref ga, .ref gb, .int (nI cl), .int (nI ln), .int (nI br), .int (nI lp), .int (nI va)])), (g1, .inl (ax 1, 20, .inl (fun j => nI (kd j)))), (g2, .inl (ax 1, 20, .inl (fun j => nI (ow j)))), (g3, .inl (ax 1, 20, .inl (fun j => nI (sb j)))), (g4, .inl (ax 1, 20, .inl (fun j => nI (f1 j)))), (g5, .inl (ax 1, 20, .inl (fun j => nI (f2 j)))), (g6, .inl (ax 2, 20, .inl (fun j => nI (te j)))), (g7, .inl (ax 2, 20, .inl (fun j => nI (kp j)))), (g8, .inl (ax 0, 20, .inl tm)), (g9, .inl (ax 1, 20, .inl (fun j => nI (nm j)))), (ga, .inl (ax 1, 29, .inl (fun j => nI (ck j)))), (gb, .inl (ax 1, 29, .inl (fun j => nI (co j))))] t9.heap ∧ va_D (va_A [(c0, .inr (3, [.ref n0, .ref c1, .ref g0, .ref a0, .int s_made])), (c1, .inl (ax 0, 16, .inl sd)), (n0, .inr (4, [.ref n1, .ref n2, .ref n3, .int (nI z9)])), (n1, .inl (ax 1, cp, .inl fo)), (n2, .inl (ax 0, cp, .inl fl)), (n3, .inl (ax 0, cp, .inl fr)), (h0, .inr (4, [.ref h1, .ref h2, .ref h3, .int (nI zs)])), (h1, .inl (ax 1, cs, .inl so)), (h2, .inl (ax 0, cs, .inl sl)), (h3, .inl (ax 0, cs, .inl sr)), (a0, .inr (4, [.ref a1, .ref a2, .ref a3, .int (nI za)])), (a1, .inl (ax 1, ca, .inl ao)), (a2, .inl (ax 0, ca, .inl al)), (a3, .inl (ax 0, ca, .inl ar)), (g0, .inr (2, [.ref h0, .ref g1, .ref g2, .ref g3, .ref g4, .ref g5, .ref g6, .ref g7, .ref g8, .ref g9, .ref ga, .ref gb, .int (nI cl), .int (nI ln), .int (nI br), .int (nI lp), .int (nI va)])), (g1, .inl (ax 1, 20, .inl (fun j => nI (kd j)))), (g2, .inl (ax 1, 20, .inl (fun j => nI (ow j)))), (g3, .inl (ax 1, 20, .inl (fun j => nI (sb j)))), (g4, .inl (ax 1, 20, .inl (fun j => nI (f1 j)))), (g5, .inl (ax 1, 20, .inl (fun j => nI (f2 j)))), (g6, .inl (ax 2, 20, .inl (fun j => nI (te j)))), (g7, .inl (ax 2, 20, .inl (fun j => nI (kp j)))), (g8, .inl (ax 0, 20, .inl tm)), (g9, .inl (ax 1, 20, .inl (fun j => nI (nm j)))), (ga, .inl (ax 1, 29, .inl (fun j => nI (ck j)))), (gb, .inl (ax 1, 29, .inl (fun j => nI (co j))))] sz) [(c0, .inr (3, [.ref n0, .ref c1, .ref g0, .ref a0, .int s_made])), (c1, .inl (ax 0, 16, .inl xsd)), (n0, .inr (4, [.ref (u 0), .ref (u 1), .ref (u 2), .int (nI (u 3))])), (u 0, .inl (ax 1, u 4, .inl xfo)), (u 1, .inl (ax 0, u 4, .inl xfl)), (u 2, .inl (ax 0, u 4, .inl xfr)), (h0, .inr (4, [.ref h1, .ref h2, .ref h3, .int (nI zs)])), (h1, .inl (ax 1, cs, .inl so)), (h2, .inl (ax 0, cs, .inl sl)), (h3, .inl (ax 0, cs, .inl sr)), (a0, .inr (4, [.ref a1, .ref a2, .ref a3, .int (nI za)])), (a1, .inl (ax 1, ca, .inl ao)), (a2, .inl (ax 0, ca, .inl al)), (a3, .inl (ax 0, ca, .inl ar)), (g0, .inr (2, [.ref h0, .ref g1, .ref g2, .ref g3, .ref g4, .ref g5, .ref g6, .ref g7, .ref g8, .ref g9, .ref ga, .ref gb, .int (nI cl), .int (nI ln), .int (nI br), .int (nI lp), .int (nI va)])), (g1, .inl (ax 1, 20, .inl (fun j => nI (kd j)))), (g2, .inl (ax 1, 20, .inl (fun j => nI (ow j)))), (g3, .inl (ax 1, 20, .inl (fun j => nI (sb j)))), (g4, .inl (ax 1, 20, .inl (fun j => nI (f1 j)))), (g5, .inl (ax 1, 20, .inl (fun j => nI (f2 j)))), (g6, .inl (ax 2, 20, .inl (fun j => nI (te j)))), (g7, .inl (ax 2, 20, .inl (fun j => nI (kp j)))), (g8, .inl (ax 0, 20, .inl tm)), (g9, .inl (ax 1, 20, .inl (fun j => nI (nm j)))), (ga, .inl (ax 1, 29, .inl (fun j => nI (ck j)))), (gb, .inl (ax 1, 29, .inl (fun j => nI (co j))))]) (va_A [(c0, .inr (3, [.ref n0, .ref c1, .ref g0, .ref a0, .int s_made])), (c1, .inl (ax 0, 16, .inl sd)), (n0, .inr (4, [.ref n1, .ref n2, .ref n3, .int (nI z9)])), (n1, .inl (ax 1, cp, .inl fo)), (n2, .inl (ax 0, cp, .inl fl)), (n3, .inl (ax 0, cp, .inl fr)), (h0, .inr (4, [.ref h1, .ref h2, .ref h3, .int (nI zs)])), (h1, .inl (ax 1, cs, .inl so)), (h2, .inl (ax 0, cs, .inl sl)), (h3, .inl (ax 0, cs, .inl sr)), (a0, .inr (4, [.ref a1, .ref a2, .ref a3, .int (nI za)])), (a1, .inl (ax 1, ca, .inl ao)), (a2, .inl (ax 0, ca, .inl al)), (a3, .inl (ax 0, ca, .inl ar)), (g0, .inr (2, [.ref h0, .ref g1, .ref g2, .ref g3, .ref g4, .ref g5, .ref g6, .ref g7, .ref g8, .ref g9, .ref ga, .ref gb, .int (nI cl), .int (nI ln), .int (nI br), .int (nI lp), .int (nI va)])), (g1, .inl (ax 1, 20, .inl (fun j => nI (kd j)))), (g2, .inl (ax 1, 20, .inl (fun j => nI (ow j)))), (g3, .inl (ax 1, 20, .inl (fun j => nI (sb j)))), (g4, .inl (ax 1, 20, .inl (fun j => nI (f1 j)))), (g5, .inl (ax 1, 20, .inl (fun j => nI (f2 j)))), (g6, .inl (ax 2, 20, .inl (fun j => nI (te j)))), (g7, .inl (ax 2, 20, .inl (fun j => nI (kp j)))), (g8, .inl (ax 0, 20, .inl tm)), (g9, .inl (ax 1, 20, .inl (fun j => nI (nm j)))), (ga, .inl (ax 1, 29, .inl (fun j => nI (ck j)))), (gb, .inl (ax 1, 29, .inl (fun j => nI (co j))))] sz))) (MX - cp) (6 * (MX - cp)) (va_A [(c0, .inr (3, [.ref n0, .ref c1, .ref g0, .ref a0, .int s_made])), (c1, .inl (ax 0, 16, .inl sd)), (n0, .inr (4, [.ref n1, .ref n2, .ref n3, .int (nI z9)])), (n1, .inl (ax 1, cp, .inl fo)), (n2, .inl (ax 0, cp, .inl fl)), (n3, .inl (ax 0, cp, .inl fr)), (h0, .inr (4, [.ref h1, .ref h2, .ref h3, .int (nI zs)])), (h1, .inl (ax 1, cs, .inl so)), (h2, .inl (ax 0, cs, .inl sl)), (h3, .inl (ax 0, cs, .inl sr)), (a0, .inr (4, [.ref a1, .ref a2, .ref a3, .int (nI za)])), (a1, .inl (ax 1, ca, .inl ao)), (a2, .inl (ax 0, ca, .inl al)), (a3, .inl (ax 0, ca, .inl ar)), (g0, .inr (2, [.ref h0, .ref g1, .ref g2, .ref g3, .ref g4, .ref g5, .ref g6, .ref g7, .ref g8, .ref g9, .ref ga, .ref gb, .int (nI cl), .int (nI ln), .int (nI br), .int (nI lp), .int (nI va)])), (g1, .inl (ax 1, 20, .inl (fun j => nI (kd j)))), (g2, .inl (ax 1, 20, .inl (fun j => nI (ow j)))), (g3, .inl (ax 1, 20, .inl (fun j => nI (sb j)))), (g4, .inl (ax 1, 20, .inl (fun j => nI (f1 j)))), (g5, .inl (ax 1, 20, .inl (fun j => nI (f2 j)))), (g6, .inl (ax 2, 20, .inl (fun j => nI (te j)))), (g7, .inl (ax 2, 20, .inl (fun j => nI (kp j)))), (g8, .inl (ax 0, 20, .inl tm)), (g9, .inl (ax 1, 20, .inl (fun j => nI (nm j)))), (ga, .inl (ax 1, 29, .inl (fun j => nI (ck j)))), (gb, .inl (ax 1, 29, .inl (fun j => nI (co j))))] sz) := by
  refine Met.ofW (cc := b_Maker_wpOfAssignment) (maxL := 5) (ret := (some .int)) (by decide) rfl ?_
  intro p e s m args below meth c s₁ B hml hv
  obtain ⟨rfl, ⟨hsz, hP, hK, hD0⟩, htz⟩ := hv
  have hx := B.exec
  have hb := B.bytes
  have hr := B.returns
  have hts := xw_hts B.pre
  have hown : s.vm.findClass R_Maker = some m.cls := findClass_of_methodNamed B.named
  have hlocks := B.notSynchronized
  subst hsz
  subst htz
  have hD := hD0.self (sz := s.heap.size)
  have hN := xz_entry hP
  generalize hAe : va_A [(c0, .inr (3, [.ref n0, .ref c1, .ref g0, .ref a0, .int s_made])), (c1, .inl (ax 0, 16, .inl sd)), (n0, .inr (4, [.ref n1, .ref n2, .ref n3, .int (nI z9)])), (n1, .inl (ax 1, cp, .inl fo)), (n2, .inl (ax 0, cp, .inl fl)), (n3, .inl (ax 0, cp, .inl fr)), (h0, .inr (4, [.ref h1, .ref h2, .ref h3, .int (nI zs)])), (h1, .inl (ax 1, cs, .inl so)), (h2, .inl (ax 0, cs, .inl sl)), (h3, .inl (ax 0, cs, .inl sr)), (a0, .inr (4, [.ref a1, .ref a2, .ref a3, .int (nI za)])), (a1, .inl (ax 1, ca, .inl ao)), (a2, .inl (ax 0, ca, .inl al)), (a3, .inl (ax 0, ca, .inl ar)), (g0, .inr (2, [.ref h0, .ref g1, .ref g2, .ref g3, .ref g4, .ref g5, .ref g6, .ref g7, .ref g8, .ref g9, .ref ga, .ref gb, .int (nI cl), .int (nI ln), .int (nI br), .int (nI lp), .int (nI va)])), (g1, .inl (ax 1, 20, .inl (fun j => nI (kd j)))), (g2, .inl (ax 1, 20, .inl (fun j => nI (ow j)))), (g3, .inl (ax 1, 20, .inl (fun j => nI (sb j)))), (g4, .inl (ax 1, 20, .inl (fun j => nI (f1 j)))), (g5, .inl (ax 1, 20, .inl (fun j => nI (f2 j)))), (g6, .inl (ax 2, 20, .inl (fun j => nI (te j)))), (g7, .inl (ax 2, 20, .inl (fun j => nI (kp j)))), (g8, .inl (ax 0, 20, .inl tm)), (g9, .inl (ax 1, 20, .inl (fun j => nI (nm j)))), (ga, .inl (ax 1, 29, .inl (fun j => nI (ck j)))), (gb, .inl (ax 1, 29, .inl (fun j => nI (co j))))] s.heap.size = A at hD hN ⊢
  have hA : ∀ q : Nat, s.heap.size ≤ q → A q := fun q h => by rw [← hAe]; exact Or.inr h
  have hS : va_S A s.heap s.heap [] := va_S.rf
  have hl0 := lv_entry ([.ref c0, .int (nI s9)]) (n := 5) (Nat.le_of_ble_eq_true rfl)
  rw [lg_entry_eq]
  generalize (lg_sl ([.ref c0, .int (nI s9)]) ++ List.replicate (5 - (lg_sl ([.ref c0, .int (nI s9)])).length) Slot.unset).toArray = ls at hl0 ⊢
  have hl1 : lv_has ls 5 [(0, .ref c0), (1, .int (nI s9))] := hl0
  obtain ⟨hkc, hln, hzz⟩ := hlw.bk hs9
  have hwB := wpw_B (kd := kd) (kc := kc) (n := ln) (B := 460) (s := s9 + 1)
  have hwN := wpw_no (kd := kd) (kc := kc) (B := 460) hs9
  obtain ⟨hnm6, htm⟩ := hlw.set hs9 hkq
  refine lv_aload_n hx hb d_Maker_wpOfAssignment_0 rfl (lv_at hl1 0 rfl) ?_
  refine va_get (D := D) (ci := 3) (v := .ref g0) (C := R_Maker) (T := F_Maker) (N := 5) hx hb hts i_Maker hown hK.1 hP 0 rfl rfl 2 (by decide) (hts _ wd_132) (fun _ h9 => h9) rfl d_Maker_wpOfAssignment_1 ?_
  refine va_get (D := D) (ci := 2) (v := .ref g9) (C := R_Listing) (T := F_Listing) (N := 17) hx hb hts i_Listing hown hK.1 hP 14 rfl rfl 9 (by decide) (hts _ wd_298) (fun _ h9 => h9) rfl d_Maker_wpOfAssignment_4 ?_
  refine lv_iload_n hx hb d_Maker_wpOfAssignment_7 rfl (lv_at hl1 1 rfl) ?_
  refine va_bald hx hb hK.1 hP 23 1 rfl rfl (vp_in_nI (by omega) (by omega)) d_Maker_wpOfAssignment_8 ?_
  refine W.eq (g2 := F0 m 9 ls [.int (nI (nm s9))]) (by rw [nI_clamp (by omega)]) ?_
  refine lv_istore_n (lv' := [(2, .int (nI (nm s9))), (0, .ref c0), (1, .int (nI s9))]) hx hb d_Maker_wpOfAssignment_9 rfl hl1 (by decide) rfl (fun ls hl2 => ?_)
  clear hl1; have hl1 := hl2; clear hl2
  refine lv_aload_n hx hb d_Maker_wpOfAssignment_10 rfl (lv_at hl1 1 rfl) ?_
  refine va_get (D := D) (ci := 3) (v := .ref c1) (C := R_Maker) (T := F_Maker) (N := 5) hx hb hts i_Maker hown hK.1 hP 0 rfl rfl 1 (by decide) (hts _ wd_131) (fun _ h9 => h9) rfl d_Maker_wpOfAssignment_11 ?_
  refine lv_iload_n hx hb d_Maker_wpOfAssignment_14 rfl (lv_at hl1 0 rfl) ?_
  refine va_iald hx hb hK.1 hP 1 0 rfl rfl (vp_in_nI (by omega) (by omega)) d_Maker_wpOfAssignment_15 ?_
  refine W.eq (g2 := F0 m 16 ls [.int (sd (nm s9))]) (by rw [nI_clamp (by omega)]) ?_
  refine lv_istore_n (lv' := [(3, .int (sd (nm s9))), (2, .int (nI (nm s9))), (0, .ref c0), (1, .int (nI s9))]) hx hb d_Maker_wpOfAssignment_16 rfl hl1 (by decide) rfl (fun ls hl2 => ?_)
  clear hl1; have hl1 := hl2; clear hl2
  refine lv_aload_n hx hb d_Maker_wpOfAssignment_17 rfl (lv_at hl1 2 rfl) ?_
  refine va_get (D := D) (ci := 3) (v := .ref c1) (C := R_Maker) (T := F_Maker) (N := 5) hx hb hts i_Maker hown hK.1 hP 0 rfl rfl 1 (by decide) (hts _ wd_131) (fun _ h9 => h9) rfl d_Maker_wpOfAssignment_18 ?_
  refine lv_iload_n hx hb d_Maker_wpOfAssignment_21 rfl (lv_at hl1 1 rfl) ?_
  refine lv_aload_n hx hb d_Maker_wpOfAssignment_22 rfl (lv_at hl1 2 rfl) ?_
  refine lv_aload_n hx hb d_Maker_wpOfAssignment_23 rfl (lv_at hl1 2 rfl) ?_
  refine va_get (D := D) (ci := 3) (v := .ref g0) (C := R_Maker) (T := F_Maker) (N := 5) hx hb hts i_Maker hown hK.1 hP 0 rfl rfl 2 (by decide) (hts _ wd_132) (fun _ h9 => h9) rfl d_Maker_wpOfAssignment_24 ?_
  refine va_get (D := D) (ci := 2) (v := .ref g8) (C := R_Listing) (T := F_Listing) (N := 17) hx hb hts i_Listing hown hK.1 hP 14 rfl rfl 8 (by decide) (hts _ wd_294) (fun _ h9 => h9) rfl d_Maker_wpOfAssignment_27 ?_
  refine lv_iload_n hx hb d_Maker_wpOfAssignment_30 rfl (lv_at hl1 3 rfl) ?_
  refine va_iald hx hb hK.1 hP 22 0 rfl rfl (vp_in_nI (by omega) (by omega)) d_Maker_wpOfAssignment_31 ?_
  refine W.eq (g2 := F0 m 32 ls [.int (tm s9), .ref c0, .int (nI (nm s9)), .ref c1]) (by rw [nI_clamp (by omega)]) ?_
  obtain ⟨hPc, hDc, hFc, hCs⟩ := xw_sub3 (wc := [(c0, .inr (3, [.ref n0, .ref c1, (.ref g0), (.ref a0), .int s_made])), (c1, .inl (ax 0, 16, .inl sd))]) hP hD hS hA [0, 1] (by decide) rfl
  have hz := xz_of hN hS
  refine va_calli (va_runV (As := [.int (tm s9)]) (rest := [.int (nI (nm s9)), .ref c1]) ⟨hx, hb, hml, hown, hts⟩ (c_K_put l D ax c0 c1 (.ref g0) (.ref a0) s_made sd n0 (tm s9) s.heap.size hsd (by assumption)) (xcV (n := 1) hts wd_780 wd_4 wd_777 wd_779 ps_24 rfl rfl (by decide +kernel) ⟨(show (10) + 1 ≤ (1009 + 8 * (20 - s9)) by omega), (show 8 + (2 + 11) + (400) ≤ (21170 + 300 * (20 - s9)) by omega)⟩) (xpV (ci := 3) (q0 := 0) (As := [.int (tm s9)]) hPc hK hz hDc rfl rfl) rfl rfl hl1.1 rfl (lv_room (Nat.le_of_ble_eq_true rfl)) d_Maker_wpOfAssignment_32 ⟨(show (0) + (0) ≤ (MX - cp) by omega), (show (0) + (0) ≤ (6 * (MX - cp)) by omega)⟩) hS (fun q _ h => hFc q h) hFc (fun r_3 u_1 t H_2 locs ht hvm hw hB hz1 hk1 hS1 => ?_)
  try dsimp only at hw
  obtain ⟨hw, hs_4⟩ := hw
  subst hw
  obtain ⟨hP1, hD1⟩ := hB
  rw [ht] at hP1
  have hjn := xw_join3 (wl := [(n0, .inr (4, [.ref n1, .ref n2, .ref n3, .int (nI z9)])), (n1, .inl (ax 1, cp, .inl fo)), (n2, .inl (ax 0, cp, .inl fl)), (n3, .inl (ax 0, cp, .inl fr)), (h0, .inr (4, [.ref h1, .ref h2, .ref h3, .int (nI zs)])), (h1, .inl (ax 1, cs, .inl so)), (h2, .inl (ax 0, cs, .inl sl)), (h3, .inl (ax 0, cs, .inl sr)), (a0, .inr (4, [.ref a1, .ref a2, .ref a3, .int (nI za)])), (a1, .inl (ax 1, ca, .inl ao)), (a2, .inl (ax 0, ca, .inl al)), (a3, .inl (ax 0, ca, .inl ar)), (g0, .inr (2, [.ref h0, .ref g1, .ref g2, .ref g3, .ref g4, .ref g5, .ref g6, .ref g7, .ref g8, .ref g9, .ref ga, .ref gb, .int (nI cl), .int (nI ln), .int (nI br), .int (nI lp), .int (nI va)])), (g1, .inl (ax 1, 20, .inl (fun j => nI (kd j)))), (g2, .inl (ax 1, 20, .inl (fun j => nI (ow j)))), (g3, .inl (ax 1, 20, .inl (fun j => nI (sb j)))), (g4, .inl (ax 1, 20, .inl (fun j => nI (f1 j)))), (g5, .inl (ax 1, 20, .inl (fun j => nI (f2 j)))), (g6, .inl (ax 2, 20, .inl (fun j => nI (te j)))), (g7, .inl (ax 2, 20, .inl (fun j => nI (kp j)))), (g8, .inl (ax 0, 20, .inl tm)), (g9, .inl (ax 1, 20, .inl (fun j => nI (nm j)))), (ga, .inl (ax 1, 29, .inl (fun j => nI (ck j)))), (gb, .inl (ax 1, 29, .inl (fun j => nI (co j)))), (c0, .inr (3, [.ref n0, .ref c1, .ref g0, .ref a0, .int s_made])), (c1, .inl (ax 0, 16, .inl sd))]) hP hD [0, 1] [2, 3, 4, 5, 6, 7, 8, 9, 10, 11, 12, 13, 14, 15, 16, 17, 18, 19, 20, 21, 22, 23, 24, 25] hCs (by decide) (by decide) hk1 hFc hP1 hD1 rfl
  clear hP1 hD1
  clear hPc hDc hFc hCs hz hz1 hk1 ht hvm
  clear hP hD hS
  have hS := hS1
  obtain ⟨hP, hD⟩ := hjn
  clear hS1
  refine va_iast hx hb hK.1 hP hD hS 25 0 rfl rfl (vp_in_nI (by omega) (by omega)) d_Maker_wpOfAssignment_35 (fun H_5 locs hP1 hD1 hS1 => ?_)
  rw [nI_clamp (by omega)] at hP1 hD1
  clear hP hD hS
  have hS := hS1
  have hW7 : (fun w9 : va_W => va_P D classes w9 H_5 ∧ va_D A w9) [(n0, .inr (4, [.ref n1, .ref n2, .ref n3, .int (nI z9)])), (n1, .inl (ax 1, cp, .inl fo)), (n2, .inl (ax 0, cp, .inl fl)), (n3, .inl (ax 0, cp, .inl fr)), (h0, .inr (4, [.ref h1, .ref h2, .ref h3, .int (nI zs)])), (h1, .inl (ax 1, cs, .inl so)), (h2, .inl (ax 0, cs, .inl sl)), (h3, .inl (ax 0, cs, .inl sr)), (a0, .inr (4, [.ref a1, .ref a2, .ref a3, .int (nI za)])), (a1, .inl (ax 1, ca, .inl ao)), (a2, .inl (ax 0, ca, .inl al)), (a3, .inl (ax 0, ca, .inl ar)), (g0, .inr (2, [.ref h0, .ref g1, .ref g2, .ref g3, .ref g4, .ref g5, .ref g6, .ref g7, .ref g8, .ref g9, .ref ga, .ref gb, .int (nI cl), .int (nI ln), .int (nI br), .int (nI lp), .int (nI va)])), (g1, .inl (ax 1, 20, .inl (fun j => nI (kd j)))), (g2, .inl (ax 1, 20, .inl (fun j => nI (ow j)))), (g3, .inl (ax 1, 20, .inl (fun j => nI (sb j)))), (g4, .inl (ax 1, 20, .inl (fun j => nI (f1 j)))), (g5, .inl (ax 1, 20, .inl (fun j => nI (f2 j)))), (g6, .inl (ax 2, 20, .inl (fun j => nI (te j)))), (g7, .inl (ax 2, 20, .inl (fun j => nI (kp j)))), (g8, .inl (ax 0, 20, .inl tm)), (g9, .inl (ax 1, 20, .inl (fun j => nI (nm j)))), (ga, .inl (ax 1, 29, .inl (fun j => nI (ck j)))), (gb, .inl (ax 1, 29, .inl (fun j => nI (co j)))), (c0, .inr (3, [.ref n0, .ref c1, .ref g0, .ref a0, .int s_made])), (c1, .inl (ax 0, 16, .inl (upd sd (nm s9) (nI (u_1 0)))))] := ⟨hP1, hD1⟩
  obtain ⟨hP, hD⟩ := hW7
  clear hP1 hD1 hS1
  have hsd_6 : ∀ j, j ≤ 10 → trm ((upd sd (nm s9) (nI (u_1 0))) j) := fun j hj => by unfold upd; split; (exact hs_4); (exact hsd j hj)
  refine lv_aload_n hx hb d_Maker_wpOfAssignment_36 rfl (lv_at hl1 2 rfl) ?_
  refine lv_iload_n hx hb d_Maker_wpOfAssignment_37 rfl (lv_at hl1 3 rfl) ?_
  obtain ⟨hPc, hDc, hFc, hCs⟩ := xw_sub3 (wc := [(c0, .inr (3, [.ref n0, .ref c1, .ref g0, .ref a0, .int s_made])), (c1, .inl (ax 0, 16, .inl (upd sd (nm s9) (nI (u_1 0))))), (n0, .inr (4, [.ref n1, .ref n2, .ref n3, .int (nI z9)])), (n1, .inl (ax 1, cp, .inl fo)), (n2, .inl (ax 0, cp, .inl fl)), (n3, .inl (ax 0, cp, .inl fr)), (h0, .inr (4, [.ref h1, .ref h2, .ref h3, .int (nI zs)])), (h1, .inl (ax 1, cs, .inl so)), (h2, .inl (ax 0, cs, .inl sl)), (h3, .inl (ax 0, cs, .inl sr)), (a0, .inr (4, [.ref a1, .ref a2, .ref a3, .int (nI za)])), (a1, .inl (ax 1, ca, .inl ao)), (a2, .inl (ax 0, ca, .inl al)), (a3, .inl (ax 0, ca, .inl ar)), (g0, .inr (2, [.ref h0, .ref g1, .ref g2, .ref g3, .ref g4, .ref g5, .ref g6, .ref g7, .ref g8, .ref g9, .ref ga, .ref gb, .int (nI cl), .int (nI ln), .int (nI br), .int (nI lp), .int (nI va)])), (g1, .inl (ax 1, 20, .inl (fun j => nI (kd j)))), (g2, .inl (ax 1, 20, .inl (fun j => nI (ow j)))), (g3, .inl (ax 1, 20, .inl (fun j => nI (sb j)))), (g4, .inl (ax 1, 20, .inl (fun j => nI (f1 j)))), (g5, .inl (ax 1, 20, .inl (fun j => nI (f2 j)))), (g6, .inl (ax 2, 20, .inl (fun j => nI (te j)))), (g7, .inl (ax 2, 20, .inl (fun j => nI (kp j)))), (g8, .inl (ax 0, 20, .inl tm)), (g9, .inl (ax 1, 20, .inl (fun j => nI (nm j)))), (ga, .inl (ax 1, 29, .inl (fun j => nI (ck j)))), (gb, .inl (ax 1, 29, .inl (fun j => nI (co j))))]) hP hD hS hA [24, 25, 0, 1, 2, 3, 4, 5, 6, 7, 8, 9, 10, 11, 12, 13, 14, 15, 16, 17, 18, 19, 20, 21, 22, 23] (by decide) rfl
  have hz := xz_of hN hS
  refine wk_know (fun hk8 hk9 => ?_)
  refine va_calli (va_runV (As := [.int (nI s9)]) (rest := []) ⟨hx, hb, hml, hown, hts⟩ (c_K_wpBehind l s9 hrec D ax c0 c1 s_made (upd sd (nm s9) (nI (u_1 0))) n0 n1 n2 n3 cp z9 fo fl fr h0 h1 h2 h3 zs cs so sl sr a0 a1 a2 a3 za ca ao al ar g0 g1 g2 g3 g4 g5 g6 g7 g8 g9 ga gb cl ln br lp va kd ow sb f1 f2 te kp nm ck co tm MX en kc H_5.size (tsl H_5) (by omega) (by omega) (by omega) hMX (by assumption) (by assumption) (by assumption) hzs hcs hsv hza hca hz1 hz4 hav hat hlw hs9 (by omega)) (xcV (n := 1) hts wd_801 wd_4 wd_798 wd_800 ps_29 rfl rfl (by decide +kernel) ⟨(show (1006 + 8 * (20 - s9)) + 1 ≤ (1009 + 8 * (20 - s9)) by omega), (show 8 + (3 + 11) + (21100 + 300 * (20 - s9)) ≤ (21170 + 300 * (20 - s9)) by omega)⟩) (xpV3 (ci := 3) (q0 := 0) (As := [.int (nI s9)]) hPc hK hz hDc rfl rfl) rfl rfl hl1.1 rfl (lv_room (Nat.le_of_ble_eq_true rfl)) d_Maker_wpOfAssignment_38 ⟨(show (0) + (MX - cp) ≤ (MX - cp) by omega), (show (0) + (6 * (MX - cp)) ≤ (6 * (MX - cp)) by omega)⟩) hS (fun q _ h => hFc q h) hFc (fun r_9 u_7 t H_8 locs ht hvm hw hB hz1 hk1 hS1 => ?_)
  try dsimp only at hw
  obtain ⟨hw, hs_10, hs_11, hs_12, hs_13, hs_14, hs_15, hs_16⟩ := hw
  subst hw
  obtain ⟨x_17, x_18, x_19, x_20, hg8, hg9, hx_21, hx_22, hx_23, hx_24, hx_25, hP1, hD1⟩ := hB
  rw [ht] at hg8 hg9 hP1
  have hjn := xw_join3 (wl := [(c0, .inr (3, [.ref n0, .ref c1, .ref g0, .ref a0, .int s_made])), (c1, .inl (ax 0, 16, .inl x_17)), (n0, .inr (4, [.ref (u_7 0), .ref (u_7 1), .ref (u_7 2), .int (nI (u_7 3))])), ((u_7 0), .inl (ax 1, u_7 4, .inl x_18)), ((u_7 1), .inl (ax 0, u_7 4, .inl x_19)), ((u_7 2), .inl (ax 0, u_7 4, .inl x_20)), (h0, .inr (4, [.ref h1, .ref h2, .ref h3, .int (nI zs)])), (h1, .inl (ax 1, cs, .inl so)), (h2, .inl (ax 0, cs, .inl sl)), (h3, .inl (ax 0, cs, .inl sr)), (a0, .inr (4, [.ref a1, .ref a2, .ref a3, .int (nI za)])), (a1, .inl (ax 1, ca, .inl ao)), (a2, .inl (ax 0, ca, .inl al)), (a3, .inl (ax 0, ca, .inl ar)), (g0, .inr (2, [.ref h0, .ref g1, .ref g2, .ref g3, .ref g4, .ref g5, .ref g6, .ref g7, .ref g8, .ref g9, .ref ga, .ref gb, .int (nI cl), .int (nI ln), .int (nI br), .int (nI lp), .int (nI va)])), (g1, .inl (ax 1, 20, .inl (fun j => nI (kd j)))), (g2, .inl (ax 1, 20, .inl (fun j => nI (ow j)))), (g3, .inl (ax 1, 20, .inl (fun j => nI (sb j)))), (g4, .inl (ax 1, 20, .inl (fun j => nI (f1 j)))), (g5, .inl (ax 1, 20, .inl (fun j => nI (f2 j)))), (g6, .inl (ax 2, 20, .inl (fun j => nI (te j)))), (g7, .inl (ax 2, 20, .inl (fun j => nI (kp j)))), (g8, .inl (ax 0, 20, .inl tm)), (g9, .inl (ax 1, 20, .inl (fun j => nI (nm j)))), (ga, .inl (ax 1, 29, .inl (fun j => nI (ck j)))), (gb, .inl (ax 1, 29, .inl (fun j => nI (co j))))]) hP hD [24, 25, 0, 1, 2, 3, 4, 5, 6, 7, 8, 9, 10, 11, 12, 13, 14, 15, 16, 17, 18, 19, 20, 21, 22, 23] [] hCs (by decide) (by decide) hk1 hFc hP1 hD1 rfl
  clear hP1 hD1
  clear hPc hDc hFc hCs hz hz1 hk1 ht hvm
  clear hP hD hS
  have hS := hS1
  obtain ⟨hP, hD⟩ := hjn
  clear hS1
  refine wk_narrow (k := u_7 4 - cp) (n := 6 * (u_7 4 - cp)) (by omega) (by omega) ?_
  clear hk8 hk9 hg8 hg9
  have hK_26 : ∀ i, i < z9 → tsn x_18 x_19 x_20 i = tsn fo fl fr i := fun i hi => hx_23 i hi
  refine lv_istore (lv' := [(4, .int (nI (u_7 5))), (3, .int (sd (nm s9))), (2, .int (nI (nm s9))), (0, .ref c0), (1, .int (nI s9))]) hx hb d_Maker_wpOfAssignment_41 hl1 (by decide) rfl (fun ls hl2 => ?_)
  clear hl1; have hl1 := hl2; clear hl2
  refine lv_aload_n hx hb d_Maker_wpOfAssignment_43 rfl (lv_at hl1 3 rfl) ?_
  refine va_get (D := D) (ci := 3) (v := .ref c1) (C := R_Maker) (T := F_Maker) (N := 5) hx hb hts i_Maker hown hK.1 hP 0 rfl rfl 1 (by decide) (hts _ wd_131) (fun _ h9 => h9) rfl d_Maker_wpOfAssignment_44 ?_
  refine lv_iload_n hx hb d_Maker_wpOfAssignment_47 rfl (lv_at hl1 2 rfl) ?_
  refine lv_iload_n hx hb d_Maker_wpOfAssignment_48 rfl (lv_at hl1 1 rfl) ?_
  refine va_iast hx hb hK.1 hP hD hS 1 0 rfl rfl (vp_in_nI (by omega) (by omega)) d_Maker_wpOfAssignment_49 (fun H_27 locs hP1 hD1 hS1 => ?_)
  rw [nI_clamp (by omega)] at hP1 hD1
  clear hP hD hS
  have hS := hS1
  have hW7 : (fun w9 : va_W => va_P D classes w9 H_27 ∧ va_D A w9) [(c0, .inr (3, [.ref n0, .ref c1, .ref g0, .ref a0, .int s_made])), (c1, .inl (ax 0, 16, .inl (upd x_17 (nm s9) (sd (nm s9))))), (n0, .inr (4, [.ref (u_7 0), .ref (u_7 1), .ref (u_7 2), .int (nI (u_7 3))])), ((u_7 0), .inl (ax 1, u_7 4, .inl x_18)), ((u_7 1), .inl (ax 0, u_7 4, .inl x_19)), ((u_7 2), .inl (ax 0, u_7 4, .inl x_20)), (h0, .inr (4, [.ref h1, .ref h2, .ref h3, .int (nI zs)])), (h1, .inl (ax 1, cs, .inl so)), (h2, .inl (ax 0, cs, .inl sl)), (h3, .inl (ax 0, cs, .inl sr)), (a0, .inr (4, [.ref a1, .ref a2, .ref a3, .int (nI za)])), (a1, .inl (ax 1, ca, .inl ao)), (a2, .inl (ax 0, ca, .inl al)), (a3, .inl (ax 0, ca, .inl ar)), (g0, .inr (2, [.ref h0, .ref g1, .ref g2, .ref g3, .ref g4, .ref g5, .ref g6, .ref g7, .ref g8, .ref g9, .ref ga, .ref gb, .int (nI cl), .int (nI ln), .int (nI br), .int (nI lp), .int (nI va)])), (g1, .inl (ax 1, 20, .inl (fun j => nI (kd j)))), (g2, .inl (ax 1, 20, .inl (fun j => nI (ow j)))), (g3, .inl (ax 1, 20, .inl (fun j => nI (sb j)))), (g4, .inl (ax 1, 20, .inl (fun j => nI (f1 j)))), (g5, .inl (ax 1, 20, .inl (fun j => nI (f2 j)))), (g6, .inl (ax 2, 20, .inl (fun j => nI (te j)))), (g7, .inl (ax 2, 20, .inl (fun j => nI (kp j)))), (g8, .inl (ax 0, 20, .inl tm)), (g9, .inl (ax 1, 20, .inl (fun j => nI (nm j)))), (ga, .inl (ax 1, 29, .inl (fun j => nI (ck j)))), (gb, .inl (ax 1, 29, .inl (fun j => nI (co j))))] := ⟨hP1, hD1⟩
  obtain ⟨hP, hD⟩ := hW7
  clear hP1 hD1 hS1
  have hsd_28 : ∀ j, j ≤ 10 → trm ((upd x_17 (nm s9) (sd (nm s9))) j) := fun j hj => by unfold upd; split; (exact hsd _ (by omega)); (exact hx_25 j hj)
  refine lv_iload hx hb d_Maker_wpOfAssignment_50 (lv_at hl1 0 rfl) ?_
  refine wk_know (fun hk8 hk9 => ?_)
  refine W.widen (k := MX - cp) (n := 6 * (MX - cp)) (by omega) (by omega) ?_
  obtain ⟨hP9, hD9⟩ := xw_sub2 (wc := (fun (u : Nat → Nat) (xsd : Nat → Int32) (xfo : Nat → Int32) (xfl : Nat → Int32) (xfr : Nat → Int32) => [(c0, .inr (3, [.ref n0, .ref c1, .ref g0, .ref a0, .int s_made])), (c1, .inl (ax 0, 16, .inl xsd)), (n0, .inr (4, [.ref (u 0), .ref (u 1), .ref (u 2), .int (nI (u 3))])), (u 0, .inl (ax 1, u 4, .inl xfo)), (u 1, .inl (ax 0, u 4, .inl xfl)), (u 2, .inl (ax 0, u 4, .inl xfr)), (h0, .inr (4, [.ref h1, .ref h2, .ref h3, .int (nI zs)])), (h1, .inl (ax 1, cs, .inl so)), (h2, .inl (ax 0, cs, .inl sl)), (h3, .inl (ax 0, cs, .inl sr)), (a0, .inr (4, [.ref a1, .ref a2, .ref a3, .int (nI za)])), (a1, .inl (ax 1, ca, .inl ao)), (a2, .inl (ax 0, ca, .inl al)), (a3, .inl (ax 0, ca, .inl ar)), (g0, .inr (2, [.ref h0, .ref g1, .ref g2, .ref g3, .ref g4, .ref g5, .ref g6, .ref g7, .ref g8, .ref g9, .ref ga, .ref gb, .int (nI cl), .int (nI ln), .int (nI br), .int (nI lp), .int (nI va)])), (g1, .inl (ax 1, 20, .inl (fun j => nI (kd j)))), (g2, .inl (ax 1, 20, .inl (fun j => nI (ow j)))), (g3, .inl (ax 1, 20, .inl (fun j => nI (sb j)))), (g4, .inl (ax 1, 20, .inl (fun j => nI (f1 j)))), (g5, .inl (ax 1, 20, .inl (fun j => nI (f2 j)))), (g6, .inl (ax 2, 20, .inl (fun j => nI (te j)))), (g7, .inl (ax 2, 20, .inl (fun j => nI (kp j)))), (g8, .inl (ax 0, 20, .inl tm)), (g9, .inl (ax 1, 20, .inl (fun j => nI (nm j)))), (ga, .inl (ax 1, 29, .inl (fun j => nI (ck j)))), (gb, .inl (ax 1, 29, .inl (fun j => nI (co j))))]) (ixn [(u_7 0), (u_7 1), (u_7 2), (u_7 3), (u_7 4), (u_7 5)]) (upd x_17 (nm s9) (sd (nm s9))) x_18 x_19 x_20) hP hD [0, 1, 2, 3, 4, 5, 6, 7, 8, 9, 10, 11, 12, 13, 14, 15, 16, 17, 18, 19, 20, 21, 22, 23, 24, 25] (by decide) rfl
  have hex0 : ndv x_18 x_19 x_20 ((u_7 3)) := hx_21
  have hex1 : bts x_18 ((u_7 4)) := (by assumption)
  have hex2 : ∀ i, i < z9 → tsn x_18 x_19 x_20 i = tsn fo fl fr i := hK_26
  have hex3 : tsn x_18 x_19 x_20 ((u_7 5)) + z9 ≤ (u_7 3) := (by omega)
  have hex4 : ∀ j, j ≤ 10 → trm ((upd x_17 (nm s9) (sd (nm s9))) j) := hsd_28
  have hg8 : H_27.size ≤ s.heap.size + ((u_7 4) - cp) := by omega
  have hg9 : tsl H_27 ≤ tsl s.heap + (6 * ((u_7 4) - cp)) := by omega
  have hsp0 : z9 ≤ (u_7 3) := (by omega)
  have hsp1 : (u_7 3) ≤ (u_7 4) := (by omega)
  have hsp2 : cp ≤ (u_7 4) := (by omega)
  have hsp3 : (u_7 4) ≤ MX := (by omega)
  have hsp4 : dbl cp ((u_7 4)) := hs_14
  have hsp5 : (u_7 5) < (u_7 3) := (by omega)
  have hsp6 : (u_7 3) ≤ z9 + wpw kd kc ln 460 s9 := (by omega)
  exact W.iret (v := nI (u_7 5)) hx hb hr (fun t ht hW => ⟨⟨nI (u_7 5), ixn [(u_7 0), (u_7 1), (u_7 2), (u_7 3), (u_7 4), (u_7 5)], rfl, ⟨rfl, ⟨hsp0, hsp1, hsp2, hsp3, hsp4, hsp5, hsp6⟩⟩, ⟨(upd x_17 (nm s9) (sd (nm s9))), x_18, x_19, x_20, by rw [ht]; exact hg8, by rw [ht]; exact hg9, hex0, hex1, hex2, hex3, hex4, by rw [ht]; exact hP9, hD9⟩⟩, hS.F ht⟩) hS.2.2 d_Maker_wpOfAssignment_52
abbrev b_Maker_wpOfBranch : ByteArray := prog_5_method_8_code
def y_Maker_wpOfBranch : MethodName := ⟨R_Maker, "wpOfBranch", "(I)I"⟩
theorem d_Maker_wpOfBranch_0 : decode b_Maker_wpOfBranch 0 = .ok (.aload_n 0, 1) := by decide +kernel
theorem d_Maker_wpOfBranch_1 : decode b_Maker_wpOfBranch 1 = .ok (.getfield 12, 3) := by decide +kernel
theorem d_Maker_wpOfBranch_4 : decode b_Maker_wpOfBranch 4 = .ok (.bipush 7, 2) := by decide +kernel
theorem d_Maker_wpOfBranch_6 : decode b_Maker_wpOfBranch 6 = .ok (.aload_n 0, 1) := by decide +kernel
theorem d_Maker_wpOfBranch_7 : decode b_Maker_wpOfBranch 7 = .ok (.aload_n 0, 1) := by decide +kernel
theorem d_Maker_wpOfBranch_8 : decode b_Maker_wpOfBranch 8 = .ok (.getfield 29, 3) := by decide +kernel
theorem d_Maker_wpOfBranch_11 : decode b_Maker_wpOfBranch 11 = .ok (.getfield 64, 3) := by decide +kernel
theorem d_Maker_wpOfBranch_14 : decode b_Maker_wpOfBranch 14 = .ok (.aload_n 0, 1) := by decide +kernel
theorem d_Maker_wpOfBranch_15 : decode b_Maker_wpOfBranch 15 = .ok (.getfield 29, 3) := by decide +kernel
theorem d_Maker_wpOfBranch_18 : decode b_Maker_wpOfBranch 18 = .ok (.getfield 67, 3) := by decide +kernel
theorem d_Maker_wpOfBranch_21 : decode b_Maker_wpOfBranch 21 = .ok (.iload_n 1, 1) := by decide +kernel
theorem d_Maker_wpOfBranch_22 : decode b_Maker_wpOfBranch 22 = .ok (.saload, 1) := by decide +kernel
theorem d_Maker_wpOfBranch_23 : decode b_Maker_wpOfBranch 23 = .ok (.invokevirtual 46, 3) := by decide +kernel
theorem d_Maker_wpOfBranch_26 : decode b_Maker_wpOfBranch 26 = .ok (.aload_n 0, 1) := by decide +kernel
theorem d_Maker_wpOfBranch_27 : decode b_Maker_wpOfBranch 27 = .ok (.aload_n 0, 1) := by decide +kernel
theorem d_Maker_wpOfBranch_28 : decode b_Maker_wpOfBranch 28 = .ok (.getfield 29, 3) := by decide +kernel
theorem d_Maker_wpOfBranch_31 : decode b_Maker_wpOfBranch 31 = .ok (.getfield 84, 3) := by decide +kernel
theorem d_Maker_wpOfBranch_34 : decode b_Maker_wpOfBranch 34 = .ok (.iload_n 1, 1) := by decide +kernel
theorem d_Maker_wpOfBranch_35 : decode b_Maker_wpOfBranch 35 = .ok (.baload, 1) := by decide +kernel
theorem d_Maker_wpOfBranch_36 : decode b_Maker_wpOfBranch 36 = .ok (.invokevirtual 80, 3) := by decide +kernel
theorem d_Maker_wpOfBranch_39 : decode b_Maker_wpOfBranch 39 = .ok (.invokevirtual 57, 3) := by decide +kernel
theorem d_Maker_wpOfBranch_42 : decode b_Maker_wpOfBranch 42 = .ok (.istore_n 2, 1) := by decide +kernel
theorem d_Maker_wpOfBranch_43 : decode b_Maker_wpOfBranch 43 = .ok (.aload_n 0, 1) := by decide +kernel
theorem d_Maker_wpOfBranch_44 : decode b_Maker_wpOfBranch 44 = .ok (.getfield 12, 3) := by decide +kernel
theorem d_Maker_wpOfBranch_47 : decode b_Maker_wpOfBranch 47 = .ok (.bipush 6, 2) := by decide +kernel
theorem d_Maker_wpOfBranch_49 : decode b_Maker_wpOfBranch 49 = .ok (.aload_n 0, 1) := by decide +kernel
theorem d_Maker_wpOfBranch_50 : decode b_Maker_wpOfBranch 50 = .ok (.aload_n 0, 1) := by decide +kernel
theorem d_Maker_wpOfBranch_51 : decode b_Maker_wpOfBranch 51 = .ok (.getfield 29, 3) := by decide +kernel
theorem d_Maker_wpOfBranch_54 : decode b_Maker_wpOfBranch 54 = .ok (.getfield 64, 3) := by decide +kernel
theorem d_Maker_wpOfBranch_57 : decode b_Maker_wpOfBranch 57 = .ok (.aload_n 0, 1) := by decide +kernel
theorem d_Maker_wpOfBranch_58 : decode b_Maker_wpOfBranch 58 = .ok (.getfield 29, 3) := by decide +kernel
theorem d_Maker_wpOfBranch_61 : decode b_Maker_wpOfBranch 61 = .ok (.getfield 67, 3) := by decide +kernel
theorem d_Maker_wpOfBranch_64 : decode b_Maker_wpOfBranch 64 = .ok (.iload_n 1, 1) := by decide +kernel
theorem d_Maker_wpOfBranch_65 : decode b_Maker_wpOfBranch 65 = .ok (.saload, 1) := by decide +kernel
theorem d_Maker_wpOfBranch_66 : decode b_Maker_wpOfBranch 66 = .ok (.invokevirtual 46, 3) := by decide +kernel
theorem d_Maker_wpOfBranch_69 : decode b_Maker_wpOfBranch 69 = .ok (.iconst (-1), 1) := by decide +kernel
theorem d_Maker_wpOfBranch_70 : decode b_Maker_wpOfBranch 70 = .ok (.invokevirtual 57, 3) := by decide +kernel
theorem d_Maker_wpOfBranch_73 : decode b_Maker_wpOfBranch 73 = .ok (.istore_n 3, 1) := by decide +kernel
theorem d_Maker_wpOfBranch_74 : decode b_Maker_wpOfBranch 74 = .ok (.aload_n 0, 1) := by decide +kernel
theorem d_Maker_wpOfBranch_75 : decode b_Maker_wpOfBranch 75 = .ok (.getfield 12, 3) := by decide +kernel
theorem d_Maker_wpOfBranch_78 : decode b_Maker_wpOfBranch 78 = .ok (.bipush 7, 2) := by decide +kernel
theorem d_Maker_wpOfBranch_80 : decode b_Maker_wpOfBranch 80 = .ok (.iload_n 3, 1) := by decide +kernel
theorem d_Maker_wpOfBranch_81 : decode b_Maker_wpOfBranch 81 = .ok (.aload_n 0, 1) := by decide +kernel
theorem d_Maker_wpOfBranch_82 : decode b_Maker_wpOfBranch 82 = .ok (.aload_n 0, 1) := by decide +kernel
theorem d_Maker_wpOfBranch_83 : decode b_Maker_wpOfBranch 83 = .ok (.getfield 29, 3) := by decide +kernel
theorem d_Maker_wpOfBranch_86 : decode b_Maker_wpOfBranch 86 = .ok (.getfield 102, 3) := by decide +kernel
theorem d_Maker_wpOfBranch_89 : decode b_Maker_wpOfBranch 89 = .ok (.iload_n 1, 1) := by decide +kernel
theorem d_Maker_wpOfBranch_90 : decode b_Maker_wpOfBranch 90 = .ok (.baload, 1) := by decide +kernel
theorem d_Maker_wpOfBranch_91 : decode b_Maker_wpOfBranch 91 = .ok (.invokevirtual 80, 3) := by decide +kernel
theorem d_Maker_wpOfBranch_94 : decode b_Maker_wpOfBranch 94 = .ok (.invokevirtual 57, 3) := by decide +kernel
theorem d_Maker_wpOfBranch_97 : decode b_Maker_wpOfBranch 97 = .ok (.istore 4, 2) := by decide +kernel
theorem d_Maker_wpOfBranch_99 : decode b_Maker_wpOfBranch 99 = .ok (.aload_n 0, 1) := by decide +kernel
theorem d_Maker_wpOfBranch_100 : decode b_Maker_wpOfBranch 100 = .ok (.getfield 12, 3) := by decide +kernel
theorem d_Maker_wpOfBranch_103 : decode b_Maker_wpOfBranch 103 = .ok (.bipush 8, 2) := by decide +kernel
theorem d_Maker_wpOfBranch_105 : decode b_Maker_wpOfBranch 105 = .ok (.iload_n 2, 1) := by decide +kernel
theorem d_Maker_wpOfBranch_106 : decode b_Maker_wpOfBranch 106 = .ok (.iload 4, 2) := by decide +kernel
theorem d_Maker_wpOfBranch_108 : decode b_Maker_wpOfBranch 108 = .ok (.invokevirtual 57, 3) := by decide +kernel
theorem d_Maker_wpOfBranch_111 : decode b_Maker_wpOfBranch 111 = .ok (.ireturn, 1) := by decide +kernel
set_option maxHeartbeats 40000000 in
set_option maxRecDepth 100000 in
theorem c_K_wpOfBranch (l : Launch) (s9 : Nat) (hrec : ∀ a, s9 < a → a < 20 → CWp l a) (D : va_G) (ax : Nat → ClassId) (c0 c1 : Nat) (s_made : Int32) (sd : Nat → Int32) (n0 n1 n2 n3 cp z9 : Nat) (fo fl fr : Nat → Int32) (h0 h1 h2 h3 zs cs : Nat) (so sl sr : Nat → Int32) (a0 a1 a2 a3 za ca : Nat) (ao al ar : Nat → Int32) (g0 g1 g2 g3 g4 g5 g6 g7 g8 g9 ga gb cl ln br lp va : Nat) (kd ow sb f1 f2 te kp nm ck co : Nat → Nat) (tm : Nat → Int32) (MX : Nat) (en kc : Nat → Nat) (sz tz : Nat) (hcp : 8 ≤ cp) (hz9 : z9 ≤ cp) (hmx : cp ≤ MX) (hMX : MX ≤ 100000) (hfo : bts fo cp) (hnv : ndv fo fl fr z9) (hsd : ∀ j, j ≤ 10 → trm (sd j)) (hzs : zs ≤ cs) (hcs : cs ≤ 100000) (hsv : ndv so sl sr zs) (hza : za ≤ ca) (hca : ca ≤ 100000) (hz1 : 1 ≤ za) (hz4 : za ≤ 450) (hav : ndv ao al ar za) (hat : tsn ao al ar (za - 1) ≤ 450) (hlw : lsw ln zs kd ow sb f1 f2 te kp nm en kc tm so sl sr) (hkq : kd s9 = 8) (hs9 : s9 < ln) (hbd : 2 * (z9 + wpw kd kc ln 460 s9) ≤ MX) : Met l y_Maker_wpOfBranch (xws (.code y_Maker_wpOfBranch b_Maker_wpOfBranch 5 (some .int))) ({ frames := 1009 + 8 * (20 - s9), cells := MX - cp, slots := 6 * (MX - cp), locals := 21170 + 300 * (20 - s9) }) (va_Pc [.ref c0, .int (nI s9)] (xo3 D ax [(c0, .inr (3, [.ref n0, .ref c1, .ref g0, .ref a0, .int s_made])), (c1, .inl (ax 0, 16, .inl sd)), (n0, .inr (4, [.ref n1, .ref n2, .ref n3, .int (nI z9)])), (n1, .inl (ax 1, cp, .inl fo)), (n2, .inl (ax 0, cp, .inl fl)), (n3, .inl (ax 0, cp, .inl fr)), (h0, .inr (4, [.ref h1, .ref h2, .ref h3, .int (nI zs)])), (h1, .inl (ax 1, cs, .inl so)), (h2, .inl (ax 0, cs, .inl sl)), (h3, .inl (ax 0, cs, .inl sr)), (a0, .inr (4, [.ref a1, .ref a2, .ref a3, .int (nI za)])), (a1, .inl (ax 1, ca, .inl ao)), (a2, .inl (ax 0, ca, .inl al)), (a3, .inl (ax 0, ca, .inl ar)), (g0, .inr (2, [.ref h0, .ref g1, .ref g2, .ref g3, .ref g4, .ref g5, .ref g6, .ref g7, .ref g8, .ref g9, .ref ga, .ref gb, .int (nI cl), .int (nI ln), .int (nI br), .int (nI lp), .int (nI va)])), (g1, .inl (ax 1, 20, .inl (fun j => nI (kd j)))), (g2, .inl (ax 1, 20, .inl (fun j => nI (ow j)))), (g3, .inl (ax 1, 20, .inl (fun j => nI (sb j)))), (g4, .inl (ax 1, 20, .inl (fun j => nI (f1 j)))), (g5, .inl (ax 1, 20, .inl (fun j => nI (f2 j)))), (g6, .inl (ax 2, 20, .inl (fun j => nI (te j)))), (g7, .inl (ax 2, 20, .inl (fun j => nI (kp j)))), (g8, .inl (ax 0, 20, .inl tm)), (g9, .inl (ax 1, 20, .inl (fun j => nI (nm j)))), (ga, .inl (ax 1, 29, .inl (fun j => nI (ck j)))), (gb, .inl (ax 1, 29, .inl (fun j => nI (co j))))] sz tz)) ((va_Qi (fun (r : Int32) (u : Nat → Nat) => r = nI (u 5) ∧ (z9 ≤ u 3 ∧ u 3 ≤ u 4 ∧ cp ≤ u 4 ∧ u 4 ≤ MX ∧ dbl cp (u 4) ∧ u 5 < u 3 ∧ u 3 ≤ z9 + wpw kd kc ln 460 s9)) (fun (u : Nat → Nat) (t9 : State) => ∃ xsd : Nat → Int32, ∃ xfo : Nat → Int32, ∃ xfl : Nat → Int32, ∃ xfr : Nat → Int32, (t9.heap.size ≤ sz + (u 4 - cp)) ∧ (tsl t9.heap ≤ tz + (6 * (u 4 - cp))) ∧ (ndv xfo xfl xfr (u 3)) ∧ (bts xfo (u 4)) ∧ (∀ i, i < z9 → tsn xfo xfl xfr i = tsn fo fl fr i) ∧ (tsn xfo xfl xfr (u 5) + z9 ≤ u 3) ∧ (∀ j, j ≤ 10 → trm (xsd j)) ∧ va_P D classes [(c0, .inr (3, [.ref n0, .ref c1, .ref g0, .ref a0, .int s_made])), (c1, .inl (ax 0, 16, .inl xsd)), (n0, .inr (4, [.ref (u 0), .ref (u 1), .ref (u 2), .int (nI (u 3))])), (u 0, .inl (ax 1, u 4, .inl xfo)), (u 1, .inl (ax 0, u 4, .inl xfl)), (u 2, .inl (ax 0, u 4, .inl xfr)), (h0, .inr (4, [.ref h1, .ref h2, .ref h3, .int (nI zs)])), (h1, .inl (ax 1, cs, .inl so)), (h2, .inl (ax 0, cs, .inl sl)), (h3, .inl (ax 0, cs, .inl sr)), (a0, .inr (4, [.ref a1, .ref a2, .ref a3, .int (nI za)])), (a1, .inl (ax 1, ca, .inl ao)), (a2, .inl (ax 0, ca, .inl al)), (a3, .inl (ax 0, ca, .inl ar)), (g0, .inr (2, [.ref h0, .ref g1, .ref g2, .ref g3, .ref g4, .ref g5, .ref g6, .ref g7, .ref g8, .ref g9, .ref ga, .ref gb, .int (nI cl), .int (nI ln), .int (nI br), .int (nI lp), .int (nI va)])), (g1, .inl (ax 1, 20, .inl (fun j => nI (kd j)))), (g2, .inl (ax 1, 20, .inl (fun j => nI (ow j)))), (g3, .inl (ax 1, 20, .inl (fun j => nI (sb j)))), (g4, .inl (ax 1, 20, .inl (fun j => nI (f1 j)))), (g5, .inl (ax 1, 20, .inl (fun j => nI (f2 j)))), (g6, .inl (ax 2, 20, .inl (fun j => nI (te j)))), (g7, .inl (ax 2, 20, .inl (fun j => nI (kp j)))), (g8, .inl (ax 0, 20, .inl tm)), (g9, .inl (ax 1, 20, .inl (fun j => nI (nm j)))), (ga, .inl (ax 1, 29, .inl (fun j => nI (ck j)))), (gb, .inl (ax 1, 29, .inl (fun j => nI (co j))))] t9.heap ∧ va_D (va_A [(c0, .inr (3, [.ref n0, .ref c1, .ref g0, .ref a0, .int s_made])), (c1, .inl (ax 0, 16, .inl sd)), (n0, .inr (4, [.ref n1, .ref n2, .ref n3, .int (nI z9)])), (n1, .inl (ax 1, cp, .inl fo)), (n2, .inl (ax 0, cp, .inl fl)), (n3, .inl (ax 0, cp, .inl fr)), (h0, .inr (4, [.ref h1, .ref h2, .ref h3, .int (nI zs)])), (h1, .inl (ax 1, cs, .inl so)), (h2, .inl (ax 0, cs, .inl sl)), (h3, .inl (ax 0, cs, .inl sr)), (a0, .inr (4, [.ref a1, .ref a2, .ref a3, .int (nI za)])), (a1, .inl (ax 1, ca, .inl ao)), (a2, .inl (ax 0, ca, .inl al)), (a3, .inl (ax 0, ca, .inl ar)), (g0, .inr (2, [.ref h0, .ref g1, .ref g2, .ref g3, .ref g4, .ref g5, .ref g6, .ref g7, .ref g8, .ref g9, .ref ga, .ref gb, .int (nI cl), .int (nI ln), .int (nI br), .int (nI lp), .int (nI va)])), (g1, .inl (ax 1, 20, .inl (fun j => nI (kd j)))), (g2, .inl (ax 1, 20, .inl (fun j => nI (ow j)))), (g3, .inl (ax 1, 20, .inl (fun j => nI (sb j)))), (g4, .inl (ax 1, 20, .inl (fun j => nI (f1 j)))), (g5, .inl (ax 1, 20, .inl (fun j => nI (f2 j)))), (g6, .inl (ax 2, 20, .inl (fun j => nI (te j)))), (g7, .inl (ax 2, 20, .inl (fun j => nI (kp j)))), (g8, .inl (ax 0, 20, .inl tm)), (g9, .inl (ax 1, 20, .inl (fun j => nI (nm j)))), (ga, .inl (ax 1, 29, .inl (fun j => nI (ck j)))), (gb, .inl (ax 1, 29, .inl (fun j => nI (co j))))] sz) [(c0, .inr (3, [.ref n0, .ref c1, .ref g0, .ref a0, .int s_made])), (c1, .inl (ax 0, 16, .inl xsd)), (n0, .inr (4, [.ref (u 0), .ref (u 1), .ref (u 2), .int (nI (u 3))])), (u 0, .inl (ax 1, u 4, .inl xfo)), (u 1, .inl (ax 0, u 4, .inl xfl)), (u 2, .inl (ax 0, u 4, .inl xfr)), (h0, .inr (4, [.ref h1, .ref h2, .ref h3, .int (nI zs)])), (h1, .inl (ax 1, cs, .inl so)), (h2, .inl (ax 0, cs, .inl sl)), (h3, .inl (ax 0, cs, .inl sr)), (a0, .inr (4, [.ref a1, .ref a2, .ref a3, .int (nI za)])), (a1, .inl (ax 1, ca, .inl ao)), (a2, .inl (ax 0, ca, .inl al)), (a3, .inl (ax 0, ca, .inl ar)), (g0, .inr (2, [.ref h0, .ref g1, .ref g2, .ref g3, .ref g4, .ref g5, .ref g6, .ref g7, .ref g8, .ref g9, .ref ga, .ref gb, .int (nI cl), .int (nI ln), .int (nI br), .int (nI lp), .int (nI va)])), (g1, .inl (ax 1, 20, .inl (fun j => nI (kd j)))), (g2, .inl (ax 1, 20, .inl (fun j => nI (ow j)))), (g3, .inl (ax 1, 20, .inl (fun j => nI (sb j)))), (g4, .inl (ax 1, 20, .inl (fun j => nI (f1 j)))), (g5, .inl (ax 1, 20, .inl (fun j => nI (f2 j)))), (g6, .inl (ax 2, 20, .inl (fun j => nI (te j)))), (g7, .inl (ax 2, 20, .inl (fun j => nI (kp j)))), (g8, .inl (ax 0, 20, .inl tm)), (g9, .inl (ax 1, 20, .inl (fun j => nI (nm j)))), (ga, .inl (ax 1, 29, .inl (fun j => nI (ck j)))), (gb, .inl (ax 1, 29, .inl (fun j => nI (co j))))]) (va_A [(c0, .inr (3, [.ref n0, .ref c1, .ref g0, .ref a0, .int s_made])), (c1, .inl (ax 0, 16, .inl sd)), (n0, .inr (4, [.ref n1, .ref n2, .ref n3, .int (nI z9)])), (n1, .inl (ax 1, cp, .inl fo)), (n2, .inl (ax 0, cp, .inl fl)), (n3, .inl (ax 0, cp, .inl fr)), (h0, .inr (4, [.ref h1, .ref h2, .ref h3, .int (nI zs)])), (h1, .inl (ax 1, cs, .inl so)), (h2, .inl (ax 0, cs, .inl sl)), (h3, .inl (ax 0, cs, .inl sr)), (a0, .inr (4, [.ref a1, .ref a2, .ref a3, .int (nI za)])), (a1, .inl (ax 1, ca, .inl ao)), (a2, .inl (ax 0, ca, .inl al)), (a3, .inl (ax 0, ca, .inl ar)), (g0, .inr (2, [.ref h0, .ref g1, .ref g2, .ref g3, .ref g4, .ref g5, .ref g6, .ref g7, .ref g8, .ref g9, .ref ga, .ref gb, .int (nI cl), .int (nI ln), .int (nI br), .int (nI lp), .int (nI va)])), (g1, .inl (ax 1, 20, .inl (fun j => nI (kd j)))), (g2, .inl (ax 1, 20, .inl (fun j => nI (ow j)))), (g3, .inl (ax 1, 20, .inl (fun j => nI (sb j)))), (g4, .inl (ax 1, 20, .inl (fun j => nI (f1 j)))), (g5, .inl (ax 1, 20, .inl (fun j => nI (f2 j)))), (g6, .inl (ax 2, 20, .inl (fun j => nI (te j)))), (g7, .inl (ax 2, 20, .inl (fun j => nI (kp j)))), (g8, .inl (ax 0, 20, .inl tm)), (g9, .inl (ax 1, 20, .inl (fun j => nI (nm j)))), (ga, .inl (ax 1, 29, .inl (fun j => nI (ck j)))), (gb, .inl (ax 1, 29, .inl (fun j => nI (co j))))] sz))) (MX - cp) (6 * (MX - cp)) (va_A [(c0, .inr (3, [.ref n0, .ref c1, .ref g0, .ref a0, .int s_made])), (c1, .inl (ax 0, 16, .inl sd)), (n0, .inr (4, [.ref n1, .ref n2, .ref n3, .int (nI z9)])), (n1, .inl (ax 1, cp, .inl fo)), (n2, .inl (ax 0, cp, .inl fl)), (n3, .inl (ax 0, cp, .inl fr)), (h0, .inr (4, [.ref h1, .ref h2, .ref h3, .int (nI zs)])), (h1, .inl (ax 1, cs, .inl so)), (h2, .inl (ax 0, cs, .inl sl)), (h3, .inl (ax 0, cs, .inl sr)), (a0, .inr (4, [.ref a1, .ref a2, .ref a3, .int (nI za)])), (a1, .inl (ax 1, ca, .inl ao)), (a2, .inl (ax 0, ca, .inl al)), (a3, .inl (ax 0, ca, .inl ar)), (g0, .inr (2, [.ref h0, .ref g1, .ref g2, .ref g3, .ref g4, .ref g5, .ref g6, .ref g7, .ref g8, .ref g9, .ref ga, .ref gb, .int (nI cl), .int (nI ln), .int (nI br), .int (nI lp), .int (nI va)])), (g1, .inl (ax 1, 20, .inl (fun j => nI (kd j)))), (g2, .inl (ax 1, 20, .inl (fun j => nI (ow j)))), (g3, .inl (ax 1, 20, .inl (fun j => nI (sb j)))), (g4, .inl (ax 1, 20, .inl (fun j => nI (f1 j)))), (g5, .inl (ax 1, 20, .inl (fun j => nI (f2 j)))), (g6, .inl (ax 2, 20, .inl (fun j => nI (te j)))), (g7, .inl (ax 2, 20, .inl (fun j => nI (kp j)))), (g8, .inl (ax 0, 20, .inl tm)), (g9, .inl (ax 1, 20, .inl (fun j => nI (nm j)))), (ga, .inl (ax 1, 29, .inl (fun j => nI (ck j)))), (gb, .inl (ax 1, 29, .inl (fun j => nI (co j))))] sz) := by
  refine Met.ofW (cc := b_Maker_wpOfBranch) (maxL := 5) (ret := (some .int)) (by decide) rfl ?_
  intro p e s m args below meth c s₁ B hml hv
  obtain ⟨rfl, ⟨hsz, hP, hK, hD0⟩, htz⟩ := hv
  have hx := B.exec
  have hb := B.bytes
  have hr := B.returns
  have hts := xw_hts B.pre
  have hown : s.vm.findClass R_Maker = some m.cls := findClass_of_methodNamed B.named
  have hlocks := B.notSynchronized
  subst hsz
  subst htz
  have hD := hD0.self (sz := s.heap.size)
  have hN := xz_entry hP
  generalize hAe : va_A [(c0, .inr (3, [.ref n0, .ref c1, .ref g0, .ref a0, .int s_made])), (c1, .inl (ax 0, 16, .inl sd)), (n0, .inr (4, [.ref n1, .ref n2, .ref n3, .int (nI z9)])), (n1, .inl (ax 1, cp, .inl fo)), (n2, .inl (ax 0, cp, .inl fl)), (n3, .inl (ax 0, cp, .inl fr)), (h0, .inr (4, [.ref h1, .ref h2, .ref h3, .int (nI zs)])), (h1, .inl (ax 1, cs, .inl so)), (h2, .inl (ax 0, cs, .inl sl)), (h3, .inl (ax 0, cs, .inl sr)), (a0, .inr (4, [.ref a1, .ref a2, .ref a3, .int (nI za)])), (a1, .inl (ax 1, ca, .inl ao)), (a2, .inl (ax 0, ca, .inl al)), (a3, .inl (ax 0, ca, .inl ar)), (g0, .inr (2, [.ref h0, .ref g1, .ref g2, .ref g3, .ref g4, .ref g5, .ref g6, .ref g7, .ref g8, .ref g9, .ref ga, .ref gb, .int (nI cl), .int (nI ln), .int (nI br), .int (nI lp), .int (nI va)])), (g1, .inl (ax 1, 20, .inl (fun j => nI (kd j)))), (g2, .inl (ax 1, 20, .inl (fun j => nI (ow j)))), (g3, .inl (ax 1, 20, .inl (fun j => nI (sb j)))), (g4, .inl (ax 1, 20, .inl (fun j => nI (f1 j)))), (g5, .inl (ax 1, 20, .inl (fun j => nI (f2 j)))), (g6, .inl (ax 2, 20, .inl (fun j => nI (te j)))), (g7, .inl (ax 2, 20, .inl (fun j => nI (kp j)))), (g8, .inl (ax 0, 20, .inl tm)), (g9, .inl (ax 1, 20, .inl (fun j => nI (nm j)))), (ga, .inl (ax 1, 29, .inl (fun j => nI (ck j)))), (gb, .inl (ax 1, 29, .inl (fun j => nI (co j))))] s.heap.size = A at hD hN ⊢
  have hA : ∀ q : Nat, s.heap.size ≤ q → A q := fun q h => by rw [← hAe]; exact Or.inr h
  have hS : va_S A s.heap s.heap [] := va_S.rf
  have hl0 := lv_entry ([.ref c0, .int (nI s9)]) (n := 5) (Nat.le_of_ble_eq_true rfl)
  rw [lg_entry_eq]
  generalize (lg_sl ([.ref c0, .int (nI s9)]) ++ List.replicate (5 - (lg_sl ([.ref c0, .int (nI s9)])).length) Slot.unset).toArray = ls at hl0 ⊢
  have hl1 : lv_has ls 5 [(0, .ref c0), (1, .int (nI s9))] := hl0
  obtain ⟨hkc, hln, hzz⟩ := hlw.bk hs9
  have hwB := wpw_B (kd := kd) (kc := kc) (n := ln) (B := 460) (s := s9 + 1)
  have hwN := wpw_no (kd := kd) (kc := kc) (B := 460) hs9
  obtain ⟨hte, htk, hf1a, hf1b, hf2a, hf2b⟩ := hlw.iff hs9 hkq
  have hwI := wpw_if (kc := kc) (B := 460) hs9 hkq
  have hw_f1 := wpw_mono (kd := kd) (kc := kc) (n := ln) (B := 460) (s := s9 + 1) (j := f1 s9) (by omega)
  have hw_f2 := wpw_mono (kd := kd) (kc := kc) (n := ln) (B := 460) (s := s9 + 1) (j := f2 s9) (by omega)
  refine lv_aload_n hx hb d_Maker_wpOfBranch_0 rfl (lv_at hl1 0 rfl) ?_
  refine va_get (D := D) (ci := 3) (v := .ref n0) (C := R_Maker) (T := F_Maker) (N := 5) hx hb hts i_Maker hown hK.1 hP 0 rfl rfl 0 (by decide) (hts _ wd_129) (fun _ h9 => h9) rfl d_Maker_wpOfBranch_1 ?_
  refine lv_bipush (v := 7) hx hb d_Maker_wpOfBranch_4 (by decide) ?_
  refine lv_aload_n hx hb d_Maker_wpOfBranch_6 rfl (lv_at hl1 0 rfl) ?_
  refine lv_aload_n hx hb d_Maker_wpOfBranch_7 rfl (lv_at hl1 0 rfl) ?_
  refine va_get (D := D) (ci := 3) (v := .ref g0) (C := R_Maker) (T := F_Maker) (N := 5) hx hb hts i_Maker hown hK.1 hP 0 rfl rfl 2 (by decide) (hts _ wd_132) (fun _ h9 => h9) rfl d_Maker_wpOfBranch_8 ?_
  refine va_get (D := D) (ci := 2) (v := .ref h0) (C := R_Listing) (T := F_Listing) (N := 17) hx hb hts i_Listing hown hK.1 hP 14 rfl rfl 0 (by decide) (hts _ wd_269) (fun _ h9 => h9) rfl d_Maker_wpOfBranch_11 ?_
  refine lv_aload_n hx hb d_Maker_wpOfBranch_14 rfl (lv_at hl1 0 rfl) ?_
  refine va_get (D := D) (ci := 3) (v := .ref g0) (C := R_Maker) (T := F_Maker) (N := 5) hx hb hts i_Maker hown hK.1 hP 0 rfl rfl 2 (by decide) (hts _ wd_132) (fun _ h9 => h9) rfl d_Maker_wpOfBranch_15 ?_
  refine va_get (D := D) (ci := 2) (v := .ref g6) (C := R_Listing) (T := F_Listing) (N := 17) hx hb hts i_Listing hown hK.1 hP 14 rfl rfl 6 (by decide) (hts _ wd_286) (fun _ h9 => h9) rfl d_Maker_wpOfBranch_18 ?_
  refine lv_iload_n hx hb d_Maker_wpOfBranch_21 rfl (lv_at hl1 1 rfl) ?_
  refine va_sald hx hb hK.1 hP 20 2 rfl rfl (vp_in_nI (by omega) (by omega)) d_Maker_wpOfBranch_22 ?_
  refine W.eq (g2 := F0 m 23 ls [.int (nI (te s9)), .ref h0, .ref c0, .int 7, .ref n0]) (by rw [nI_clamp (by omega)]) ?_
  obtain ⟨hPc, hDc, hFc, hCs⟩ := xw_sub3 (wc := [(c0, .inr (3, [.ref n0, .ref c1, (.ref g0), (.ref a0), .int s_made])), (c1, .inl (ax 0, 16, .inl sd)), (n0, .inr (4, [.ref n1, .ref n2, .ref n3, .int (nI z9)])), (n1, .inl (ax 1, cp, .inl fo)), (n2, .inl (ax 0, cp, .inl fl)), (n3, .inl (ax 0, cp, .inl fr)), (h0, .inr (4, [.ref h1, .ref h2, .ref h3, .int (nI zs)])), (h1, .inl (ax 1, cs, .inl so)), (h2, .inl (ax 0, cs, .inl sl)), (h3, .inl (ax 0, cs, .inl sr))]) hP hD hS hA [0, 1, 2, 3, 4, 5, 6, 7, 8, 9] (by decide) rfl
  have hz := xz_of hN hS
  refine wk_know (fun hk8 hk9 => ?_)
  refine va_calli (va_runV (As := [.ref h0, .int (nI (te s9))]) (rest := [.int 7, .ref n0]) ⟨hx, hb, hml, hown, hts⟩ ((K_copy_all l (te s9)) D ax c0 c1 (.ref g0) (.ref a0) s_made sd n0 n1 n2 n3 cp z9 fo fl fr h0 h1 h2 h3 zs cs so sl sr MX s.heap.size (tsl s.heap) (by omega) (by omega) (by omega) (by omega) (by assumption) (by assumption) (by assumption) hzs hcs (by omega) hsv (by omega)) (xcV (n := 2) hts wd_776 wd_4 wd_773 wd_775 ps_23 rfl rfl (by decide +kernel) ⟨(show (50 + 2 * (te s9)) + 1 ≤ (1009 + 8 * (20 - s9)) by omega), (show 8 + (5 + 11) + (2000 + 40 * (te s9)) ≤ (21170 + 300 * (20 - s9)) by omega)⟩) (xpV3 (ci := 3) (q0 := 0) (As := [.ref h0, .int (nI (te s9))]) hPc hK hz hDc rfl rfl) rfl rfl hl1.1 rfl (lv_room (Nat.le_of_ble_eq_true rfl)) d_Maker_wpOfBranch_23 ⟨(show (0) + (MX - cp) ≤ (MX - cp) by omega), (show (0) + (6 * (MX - cp)) ≤ (6 * (MX - cp)) by omega)⟩) hS (fun q _ h => hFc q h) hFc (fun r_3 u_1 t H_2 locs ht hvm hw hB hz1 hk1 hS1 => ?_)
  try dsimp only at hw
  obtain ⟨hw, hs_4, hs_5, hs_6, hs_7, hs_8, hs_9, hs_10⟩ := hw
  subst hw
  obtain ⟨x_11, x_12, x_13, hg8, hg9, hx_14, hx_15, hx_16, hx_17, hP1, hD1⟩ := hB
  rw [ht] at hg8 hg9 hP1
  have hjn := xw_join3 (wl := [(a0, .inr (4, [.ref a1, .ref a2, .ref a3, .int (nI za)])), (a1, .inl (ax 1, ca, .inl ao)), (a2, .inl (ax 0, ca, .inl al)), (a3, .inl (ax 0, ca, .inl ar)), (g0, .inr (2, [.ref h0, .ref g1, .ref g2, .ref g3, .ref g4, .ref g5, .ref g6, .ref g7, .ref g8, .ref g9, .ref ga, .ref gb, .int (nI cl), .int (nI ln), .int (nI br), .int (nI lp), .int (nI va)])), (g1, .inl (ax 1, 20, .inl (fun j => nI (kd j)))), (g2, .inl (ax 1, 20, .inl (fun j => nI (ow j)))), (g3, .inl (ax 1, 20, .inl (fun j => nI (sb j)))), (g4, .inl (ax 1, 20, .inl (fun j => nI (f1 j)))), (g5, .inl (ax 1, 20, .inl (fun j => nI (f2 j)))), (g6, .inl (ax 2, 20, .inl (fun j => nI (te j)))), (g7, .inl (ax 2, 20, .inl (fun j => nI (kp j)))), (g8, .inl (ax 0, 20, .inl tm)), (g9, .inl (ax 1, 20, .inl (fun j => nI (nm j)))), (ga, .inl (ax 1, 29, .inl (fun j => nI (ck j)))), (gb, .inl (ax 1, 29, .inl (fun j => nI (co j)))), (c0, .inr (3, [.ref n0, .ref c1, .ref g0, .ref a0, .int s_made])), (c1, .inl (ax 0, 16, .inl sd)), (n0, .inr (4, [.ref (u_1 0), .ref (u_1 1), .ref (u_1 2), .int (nI (u_1 3))])), ((u_1 0), .inl (ax 1, u_1 4, .inl x_11)), ((u_1 1), .inl (ax 0, u_1 4, .inl x_12)), ((u_1 2), .inl (ax 0, u_1 4, .inl x_13)), (h0, .inr (4, [.ref h1, .ref h2, .ref h3, .int (nI zs)])), (h1, .inl (ax 1, cs, .inl so)), (h2, .inl (ax 0, cs, .inl sl)), (h3, .inl (ax 0, cs, .inl sr))]) hP hD [0, 1, 2, 3, 4, 5, 6, 7, 8, 9] [10, 11, 12, 13, 14, 15, 16, 17, 18, 19, 20, 21, 22, 23, 24, 25] hCs (by decide) (by decide) hk1 hFc hP1 hD1 rfl
  clear hP1 hD1
  clear hPc hDc hFc hCs hz hz1 hk1 ht hvm
  clear hP hD hS
  have hS := hS1
  obtain ⟨hP, hD⟩ := hjn
  clear hS1
  refine wk_narrow (k := u_1 4 - cp) (n := 6 * (u_1 4 - cp)) (by omega) (by omega) ?_
  clear hk8 hk9 hg8 hg9
  have hK_18 : ∀ i, i < z9 → tsn x_11 x_12 x_13 i = tsn fo fl fr i := fun i hi => hx_16 i hi
  refine lv_aload_n hx hb d_Maker_wpOfBranch_26 rfl (lv_at hl1 0 rfl) ?_
  refine lv_aload_n hx hb d_Maker_wpOfBranch_27 rfl (lv_at hl1 0 rfl) ?_
  refine va_get (D := D) (ci := 3) (v := .ref g0) (C := R_Maker) (T := F_Maker) (N := 5) hx hb hts i_Maker hown hK.1 hP 16 rfl rfl 2 (by decide) (hts _ wd_132) (fun _ h9 => h9) rfl d_Maker_wpOfBranch_28 ?_
  refine va_get (D := D) (ci := 2) (v := .ref g4) (C := R_Listing) (T := F_Listing) (N := 17) hx hb hts i_Listing hown hK.1 hP 4 rfl rfl 4 (by decide) (hts _ wd_279) (fun _ h9 => h9) rfl d_Maker_wpOfBranch_31 ?_
  refine lv_iload_n hx hb d_Maker_wpOfBranch_34 rfl (lv_at hl1 1 rfl) ?_
  refine va_bald hx hb hK.1 hP 8 1 rfl rfl (vp_in_nI (by omega) (by omega)) d_Maker_wpOfBranch_35 ?_
  refine W.eq (g2 := F0 m 36 ls [.int (nI (f1 s9)), .ref c0, .int (nI (u_1 5)), .int 7, .ref n0]) (by rw [nI_clamp (by omega)]) ?_
  obtain ⟨hPc, hDc, hFc, hCs⟩ := xw_sub3 (wc := [(c0, .inr (3, [.ref n0, .ref c1, .ref g0, .ref a0, .int s_made])), (c1, .inl (ax 0, 16, .inl sd)), (n0, .inr (4, [.ref (u_1 0), .ref (u_1 1), .ref (u_1 2), .int (nI (u_1 3))])), ((u_1 0), .inl (ax 1, u_1 4, .inl x_11)), ((u_1 1), .inl (ax 0, u_1 4, .inl x_12)), ((u_1 2), .inl (ax 0, u_1 4, .inl x_13)), (h0, .inr (4, [.ref h1, .ref h2, .ref h3, .int (nI zs)])), (h1, .inl (ax 1, cs, .inl so)), (h2, .inl (ax 0, cs, .inl sl)), (h3, .inl (ax 0, cs, .inl sr)), (a0, .inr (4, [.ref a1, .ref a2, .ref a3, .int (nI za)])), (a1, .inl (ax 1, ca, .inl ao)), (a2, .inl (ax 0, ca, .inl al)), (a3, .inl (ax 0, ca, .inl ar)), (g0, .inr (2, [.ref h0, .ref g1, .ref g2, .ref g3, .ref g4, .ref g5, .ref g6, .ref g7, .ref g8, .ref g9, .ref ga, .ref gb, .int (nI cl), .int (nI ln), .int (nI br), .int (nI lp), .int (nI va)])), (g1, .inl (ax 1, 20, .inl (fun j => nI (kd j)))), (g2, .inl (ax 1, 20, .inl (fun j => nI (ow j)))), (g3, .inl (ax 1, 20, .inl (fun j => nI (sb j)))), (g4, .inl (ax 1, 20, .inl (fun j => nI (f1 j)))), (g5, .inl (ax 1, 20, .inl (fun j => nI (f2 j)))), (g6, .inl (ax 2, 20, .inl (fun j => nI (te j)))), (g7, .inl (ax 2, 20, .inl (fun j => nI (kp j)))), (g8, .inl (ax 0, 20, .inl tm)), (g9, .inl (ax 1, 20, .inl (fun j => nI (nm j)))), (ga, .inl (ax 1, 29, .inl (fun j => nI (ck j)))), (gb, .inl (ax 1, 29, .inl (fun j => nI (co j))))]) hP hD hS hA [16, 17, 18, 19, 20, 21, 22, 23, 24, 25, 0, 1, 2, 3, 4, 5, 6, 7, 8, 9, 10, 11, 12, 13, 14, 15] (by decide) rfl
  have hz := xz_of hN hS
  refine wk_know (fun hk8 hk9 => ?_)
  refine va_calli (va_runV (As := [.int (nI (f1 s9))]) (rest := [.int (nI (u_1 5)), .int 7, .ref n0]) ⟨hx, hb, hml, hown, hts⟩ ((hrec (f1 s9) (by omega) (by omega)) D ax c0 c1 s_made sd n0 (u_1 0) (u_1 1) (u_1 2) (u_1 4) (u_1 3) x_11 x_12 x_13 h0 h1 h2 h3 zs cs so sl sr a0 a1 a2 a3 za ca ao al ar g0 g1 g2 g3 g4 g5 g6 g7 g8 g9 ga gb cl ln br lp va kd ow sb f1 f2 te kp nm ck co tm MX en kc H_2.size (tsl H_2) (by omega) (by omega) (by omega) hMX (by assumption) (by assumption) (by assumption) hzs hcs hsv hza hca hz1 hz4 hav hat hlw (by omega) (by omega)) (xcV (n := 1) hts wd_793 wd_4 wd_790 wd_792 ps_27 rfl rfl (by decide +kernel) ⟨(show (1010 + 8 * (20 - (f1 s9))) + 1 ≤ (1009 + 8 * (20 - s9)) by omega), (show 8 + (2 + 11) + (21200 + 300 * (20 - (f1 s9))) ≤ (21170 + 300 * (20 - s9)) by omega)⟩) (xpV3 (ci := 3) (q0 := 0) (As := [.int (nI (f1 s9))]) hPc hK hz hDc rfl rfl) rfl rfl hl1.1 rfl (lv_room (Nat.le_of_ble_eq_true rfl)) d_Maker_wpOfBranch_36 ⟨(show (u_1 4 - cp) + (MX - (u_1 4)) ≤ (MX - cp) by omega), (show (6 * (u_1 4 - cp)) + (6 * (MX - (u_1 4))) ≤ (6 * (MX - cp)) by omega)⟩) hS (fun q _ h => hFc q h) hFc (fun r_21 u_19 t H_20 locs ht hvm hw hB hz1 hk1 hS1 => ?_)
  try dsimp only at hw
  obtain ⟨hw, hs_22, hs_23, hs_24, hs_25, hs_26, hs_27, hs_28⟩ := hw
  subst hw
  obtain ⟨x_29, x_30, x_31, x_32, hg8, hg9, hx_33, hx_34, hx_35, hx_36, hx_37, hP1, hD1⟩ := hB
  rw [ht] at hg8 hg9 hP1
  have hjn := xw_join3 (wl := [(c0, .inr (3, [.ref n0, .ref c1, .ref g0, .ref a0, .int s_made])), (c1, .inl (ax 0, 16, .inl x_29)), (n0, .inr (4, [.ref (u_19 0), .ref (u_19 1), .ref (u_19 2), .int (nI (u_19 3))])), ((u_19 0), .inl (ax 1, u_19 4, .inl x_30)), ((u_19 1), .inl (ax 0, u_19 4, .inl x_31)), ((u_19 2), .inl (ax 0, u_19 4, .inl x_32)), (h0, .inr (4, [.ref h1, .ref h2, .ref h3, .int (nI zs)])), (h1, .inl (ax 1, cs, .inl so)), (h2, .inl (ax 0, cs, .inl sl)), (h3, .inl (ax 0, cs, .inl sr)), (a0, .inr (4, [.ref a1, .ref a2, .ref a3, .int (nI za)])), (a1, .inl (ax 1, ca, .inl ao)), (a2, .inl (ax 0, ca, .inl al)), (a3, .inl (ax 0, ca, .inl ar)), (g0, .inr (2, [.ref h0, .ref g1, .ref g2, .ref g3, .ref g4, .ref g5, .ref g6, .ref g7, .ref g8, .ref g9, .ref ga, .ref gb, .int (nI cl), .int (nI ln), .int (nI br), .int (nI lp), .int (nI va)])), (g1, .inl (ax 1, 20, .inl (fun j => nI (kd j)))), (g2, .inl (ax 1, 20, .inl (fun j => nI (ow j)))), (g3, .inl (ax 1, 20, .inl (fun j => nI (sb j)))), (g4, .inl (ax 1, 20, .inl (fun j => nI (f1 j)))), (g5, .inl (ax 1, 20, .inl (fun j => nI (f2 j)))), (g6, .inl (ax 2, 20, .inl (fun j => nI (te j)))), (g7, .inl (ax 2, 20, .inl (fun j => nI (kp j)))), (g8, .inl (ax 0, 20, .inl tm)), (g9, .inl (ax 1, 20, .inl (fun j => nI (nm j)))), (ga, .inl (ax 1, 29, .inl (fun j => nI (ck j)))), (gb, .inl (ax 1, 29, .inl (fun j => nI (co j))))]) hP hD [16, 17, 18, 19, 20, 21, 22, 23, 24, 25, 0, 1, 2, 3, 4, 5, 6, 7, 8, 9, 10, 11, 12, 13, 14, 15] [] hCs (by decide) (by decide) hk1 hFc hP1 hD1 rfl
  clear hP1 hD1
  clear hPc hDc hFc hCs hz hz1 hk1 ht hvm
  clear hP hD hS
  have hS := hS1
  obtain ⟨hP, hD⟩ := hjn
  clear hS1
  refine wk_narrow (k := u_1 4 - cp + (u_19 4 - (u_1 4))) (n := 6 * (u_1 4 - cp) + (6 * (u_19 4 - (u_1 4)))) (by omega) (by omega) ?_
  clear hk8 hk9 hg8 hg9
  have hK_38 : ∀ i, i < z9 → tsn x_30 x_31 x_32 i = tsn fo fl fr i := fun i hi => (hx_35 i (by omega)).trans (hK_18 i hi)
  have hS_39 : tsn x_30 x_31 x_32 (u_1 5) + z9 ≤ (u_1 3) := by rw [hx_35 (u_1 5) (by omega)]; exact hx_17
  obtain ⟨hPc, hDc, hFc, hCs⟩ := xw_sub3 (wc := [(n0, .inr (4, [.ref (u_19 0), .ref (u_19 1), .ref (u_19 2), .int (nI (u_19 3))])), ((u_19 0), .inl (ax 1, u_19 4, .inl x_30)), ((u_19 1), .inl (ax 0, u_19 4, .inl x_31)), ((u_19 2), .inl (ax 0, u_19 4, .inl x_32))]) hP hD hS hA [2, 3, 4, 5] (by decide) rfl
  have hz := xz_of hN hS
  refine wk_know (fun hk8 hk9 => ?_)
  refine va_calli (va_runV (As := [.int 7, .int (nI (u_1 5)), .int (nI (u_19 5))]) (rest := []) ⟨hx, hb, hml, hown, hts⟩ (c_Nodes_add l D ax n0 (u_19 0) (u_19 1) (u_19 2) (u_19 4) (u_19 3) x_30 x_31 x_32 MX 7 (nI (u_1 5)) (nI (u_19 5)) H_20.size (tsl H_20) (by omega) (by omega) (by omega) (by omega) (by omega) (by assumption)) (xcV (n := 3) hts wd_350 wd_5 wd_781 wd_348 wd_349 rfl rfl (by decide +kernel) ⟨(show (30) + 1 ≤ (1009 + 8 * (20 - s9)) by omega), (show 8 + (4 + 11) + (1200) ≤ (21170 + 300 * (20 - s9)) by omega)⟩) (xpV3 (ci := 4) (q0 := 0) (As := [.int 7, .int (nI (u_1 5)), .int (nI (u_19 5))]) hPc hK hz hDc rfl rfl) rfl rfl hl1.1 rfl (lv_room (Nat.le_of_ble_eq_true rfl)) d_Maker_wpOfBranch_39 ⟨(show (u_1 4 - cp + (u_19 4 - (u_1 4))) + (MX - (u_19 4)) ≤ (MX - cp) by omega), (show (6 * (u_1 4 - cp) + (6 * (u_19 4 - (u_1 4)))) + (6 * (MX - (u_19 4))) ≤ (6 * (MX - cp)) by omega)⟩) hS (fun q _ h => hFc q h) hFc (fun r_42 u_40 t H_41 locs ht hvm hw hB hz1 hk1 hS1 => ?_)
  try dsimp only at hw
  obtain ⟨hw, hs_43, hs_44, hs_45, hs_46⟩ := hw
  subst hw
  obtain ⟨x_47, x_48, x_49, hg8, hg9, hx_50, hx_51, hP1, hD1⟩ := hB
  rw [ht] at hg8 hg9 hP1
  have hjn := xw_join3 (wl := [(c0, .inr (3, [.ref n0, .ref c1, .ref g0, .ref a0, .int s_made])), (c1, .inl (ax 0, 16, .inl x_29)), (h0, .inr (4, [.ref h1, .ref h2, .ref h3, .int (nI zs)])), (h1, .inl (ax 1, cs, .inl so)), (h2, .inl (ax 0, cs, .inl sl)), (h3, .inl (ax 0, cs, .inl sr)), (a0, .inr (4, [.ref a1, .ref a2, .ref a3, .int (nI za)])), (a1, .inl (ax 1, ca, .inl ao)), (a2, .inl (ax 0, ca, .inl al)), (a3, .inl (ax 0, ca, .inl ar)), (g0, .inr (2, [.ref h0, .ref g1, .ref g2, .ref g3, .ref g4, .ref g5, .ref g6, .ref g7, .ref g8, .ref g9, .ref ga, .ref gb, .int (nI cl), .int (nI ln), .int (nI br), .int (nI lp), .int (nI va)])), (g1, .inl (ax 1, 20, .inl (fun j => nI (kd j)))), (g2, .inl (ax 1, 20, .inl (fun j => nI (ow j)))), (g3, .inl (ax 1, 20, .inl (fun j => nI (sb j)))), (g4, .inl (ax 1, 20, .inl (fun j => nI (f1 j)))), (g5, .inl (ax 1, 20, .inl (fun j => nI (f2 j)))), (g6, .inl (ax 2, 20, .inl (fun j => nI (te j)))), (g7, .inl (ax 2, 20, .inl (fun j => nI (kp j)))), (g8, .inl (ax 0, 20, .inl tm)), (g9, .inl (ax 1, 20, .inl (fun j => nI (nm j)))), (ga, .inl (ax 1, 29, .inl (fun j => nI (ck j)))), (gb, .inl (ax 1, 29, .inl (fun j => nI (co j)))), (n0, .inr (4, [.ref (u_40 0), .ref (u_40 1), .ref (u_40 2), .int (nI ((u_19 3) + 1))])), ((u_40 0), .inl (ax 1, u_40 3, .inl x_47)), ((u_40 1), .inl (ax 0, u_40 3, .inl x_48)), ((u_40 2), .inl (ax 0, u_40 3, .inl x_49))]) hP hD [2, 3, 4, 5] [0, 1, 6, 7, 8, 9, 10, 11, 12, 13, 14, 15, 16, 17, 18, 19, 20, 21, 22, 23, 24, 25] hCs (by decide) (by decide) hk1 hFc hP1 hD1 rfl
  clear hP1 hD1
  clear hPc hDc hFc hCs hz hz1 hk1 ht hvm
  clear hP hD hS
  have hS := hS1
  obtain ⟨hP, hD⟩ := hjn
  clear hS1
  refine wk_narrow (k := u_1 4 - cp + (u_19 4 - (u_1 4)) + (u_40 3 - (u_19 4))) (n := 6 * (u_1 4 - cp) + (6 * (u_19 4 - (u_1 4))) + (6 * (u_40 3 - (u_19 4)))) (by omega) (by omega) ?_
  clear hk8 hk9 hg8 hg9
  have hV_52 : ndv x_47 x_48 x_49 ((u_19 3) + 1) := hx_33.add hx_50 (nd_bin (o := 7) (by decide) (by omega) (by omega))
  have hT_53 : tsn x_47 x_48 x_49 (u_19 3) = 1 + tsn x_30 x_31 x_32 (u_1 5) + tsn x_30 x_31 x_32 (u_19 5) := nad.bin (o := 7) (by omega) hx_33 (by decide) (by omega) (by omega) hx_50
  have hG_54 : ∀ i, i < u_19 3 → tsn x_47 x_48 x_49 i = tsn x_30 x_31 x_32 i := fun i hi => nad.keep (by omega) hx_33 hx_50 hi
  have hB_55 : tsn x_47 x_48 x_49 (u_19 3) + z9 ≤ ((u_19 3) + 1) := by omega
  have hK_56 : ∀ i, i < z9 → tsn x_47 x_48 x_49 i = tsn fo fl fr i := fun i hi => (hG_54 i (by omega)).trans (hK_38 i hi)
  refine lv_istore_n (lv' := [(2, .int (nI (u_19 3))), (0, .ref c0), (1, .int (nI s9))]) hx hb d_Maker_wpOfBranch_42 rfl hl1 (by decide) rfl (fun ls hl2 => ?_)
  clear hl1; have hl1 := hl2; clear hl2
  refine lv_aload_n hx hb d_Maker_wpOfBranch_43 rfl (lv_at hl1 1 rfl) ?_
  refine va_get (D := D) (ci := 3) (v := .ref n0) (C := R_Maker) (T := F_Maker) (N := 5) hx hb hts i_Maker hown hK.1 hP 0 rfl rfl 0 (by decide) (hts _ wd_129) (fun _ h9 => h9) rfl d_Maker_wpOfBranch_44 ?_
  refine lv_bipush (v := 6) hx hb d_Maker_wpOfBranch_47 (by decide) ?_
  refine lv_aload_n hx hb d_Maker_wpOfBranch_49 rfl (lv_at hl1 1 rfl) ?_
  refine lv_aload_n hx hb d_Maker_wpOfBranch_50 rfl (lv_at hl1 1 rfl) ?_
  refine va_get (D := D) (ci := 3) (v := .ref g0) (C := R_Maker) (T := F_Maker) (N := 5) hx hb hts i_Maker hown hK.1 hP 0 rfl rfl 2 (by decide) (hts _ wd_132) (fun _ h9 => h9) rfl d_Maker_wpOfBranch_51 ?_
  refine va_get (D := D) (ci := 2) (v := .ref h0) (C := R_Listing) (T := F_Listing) (N := 17) hx hb hts i_Listing hown hK.1 hP 10 rfl rfl 0 (by decide) (hts _ wd_269) (fun _ h9 => h9) rfl d_Maker_wpOfBranch_54 ?_
  refine lv_aload_n hx hb d_Maker_wpOfBranch_57 rfl (lv_at hl1 1 rfl) ?_
  refine va_get (D := D) (ci := 3) (v := .ref g0) (C := R_Maker) (T := F_Maker) (N := 5) hx hb hts i_Maker hown hK.1 hP 0 rfl rfl 2 (by decide) (hts _ wd_132) (fun _ h9 => h9) rfl d_Maker_wpOfBranch_58 ?_
  refine va_get (D := D) (ci := 2) (v := .ref g6) (C := R_Listing) (T := F_Listing) (N := 17) hx hb hts i_Listing hown hK.1 hP 10 rfl rfl 6 (by decide) (hts _ wd_286) (fun _ h9 => h9) rfl d_Maker_wpOfBranch_61 ?_
  refine lv_iload_n hx hb d_Maker_wpOfBranch_64 rfl (lv_at hl1 2 rfl) ?_
  refine va_sald hx hb hK.1 hP 16 2 rfl rfl (vp_in_nI (by omega) (by omega)) d_Maker_wpOfBranch_65 ?_
  refine W.eq (g2 := F0 m 66 ls [.int (nI (te s9)), .ref h0, .ref c0, .int 6, .ref n0]) (by rw [nI_clamp (by omega)]) ?_
  obtain ⟨hPc, hDc, hFc, hCs⟩ := xw_sub3 (wc := [(c0, .inr (3, [.ref n0, .ref c1, (.ref g0), (.ref a0), .int s_made])), (c1, .inl (ax 0, 16, .inl x_29)), (n0, .inr (4, [.ref (u_40 0), .ref (u_40 1), .ref (u_40 2), .int (nI ((u_19 3) + 1))])), ((u_40 0), .inl (ax 1, u_40 3, .inl x_47)), ((u_40 1), .inl (ax 0, u_40 3, .inl x_48)), ((u_40 2), .inl (ax 0, u_40 3, .inl x_49)), (h0, .inr (4, [.ref h1, .ref h2, .ref h3, .int (nI zs)])), (h1, .inl (ax 1, cs, .inl so)), (h2, .inl (ax 0, cs, .inl sl)), (h3, .inl (ax 0, cs, .inl sr))]) hP hD hS hA [0, 1, 22, 23, 24, 25, 2, 3, 4, 5] (by decide) rfl
  have hz := xz_of hN hS
  refine wk_know (fun hk8 hk9 => ?_)
  refine va_calli (va_runV (As := [.ref h0, .int (nI (te s9))]) (rest := [.int 6, .ref n0]) ⟨hx, hb, hml, hown, hts⟩ ((K_copy_all l (te s9)) D ax c0 c1 (.ref g0) (.ref a0) s_made x_29 n0 (u_40 0) (u_40 1) (u_40 2) (u_40 3) ((u_19 3) + 1) x_47 x_48 x_49 h0 h1 h2 h3 zs cs so sl sr MX H_41.size (tsl H_41) (by omega) (by omega) (by omega) (by omega) (by assumption) (by assumption) (by assumption) hzs hcs (by omega) hsv (by omega)) (xcV (n := 2) hts wd_776 wd_4 wd_773 wd_775 ps_23 rfl rfl (by decide +kernel) ⟨(show (50 + 2 * (te s9)) + 1 ≤ (1009 + 8 * (20 - s9)) by omega), (show 8 + (5 + 11) + (2000 + 40 * (te s9)) ≤ (21170 + 300 * (20 - s9)) by omega)⟩) (xpV3 (ci := 3) (q0 := 0) (As := [.ref h0, .int (nI (te s9))]) hPc hK hz hDc rfl rfl) rfl rfl hl1.1 rfl (lv_room (Nat.le_of_ble_eq_true rfl)) d_Maker_wpOfBranch_66 ⟨(show (u_1 4 - cp + (u_19 4 - (u_1 4)) + (u_40 3 - (u_19 4))) + (MX - (u_40 3)) ≤ (MX - cp) by omega), (show (6 * (u_1 4 - cp) + (6 * (u_19 4 - (u_1 4))) + (6 * (u_40 3 - (u_19 4)))) + (6 * (MX - (u_40 3))) ≤ (6 * (MX - cp)) by omega)⟩) hS (fun q _ h => hFc q h) hFc (fun r_59 u_57 t H_58 locs ht hvm hw hB hz1 hk1 hS1 => ?_)
  try dsimp only at hw
  obtain ⟨hw, hs_60, hs_61, hs_62, hs_63, hs_64, hs_65, hs_66⟩ := hw
  subst hw
  obtain ⟨x_67, x_68, x_69, hg8, hg9, hx_70, hx_71, hx_72, hx_73, hP1, hD1⟩ := hB
  rw [ht] at hg8 hg9 hP1
  have hjn := xw_join3 (wl := [(a0, .inr (4, [.ref a1, .ref a2, .ref a3, .int (nI za)])), (a1, .inl (ax 1, ca, .inl ao)), (a2, .inl (ax 0, ca, .inl al)), (a3, .inl (ax 0, ca, .inl ar)), (g0, .inr (2, [.ref h0, .ref g1, .ref g2, .ref g3, .ref g4, .ref g5, .ref g6, .ref g7, .ref g8, .ref g9, .ref ga, .ref gb, .int (nI cl), .int (nI ln), .int (nI br), .int (nI lp), .int (nI va)])), (g1, .inl (ax 1, 20, .inl (fun j => nI (kd j)))), (g2, .inl (ax 1, 20, .inl (fun j => nI (ow j)))), (g3, .inl (ax 1, 20, .inl (fun j => nI (sb j)))), (g4, .inl (ax 1, 20, .inl (fun j => nI (f1 j)))), (g5, .inl (ax 1, 20, .inl (fun j => nI (f2 j)))), (g6, .inl (ax 2, 20, .inl (fun j => nI (te j)))), (g7, .inl (ax 2, 20, .inl (fun j => nI (kp j)))), (g8, .inl (ax 0, 20, .inl tm)), (g9, .inl (ax 1, 20, .inl (fun j => nI (nm j)))), (ga, .inl (ax 1, 29, .inl (fun j => nI (ck j)))), (gb, .inl (ax 1, 29, .inl (fun j => nI (co j)))), (c0, .inr (3, [.ref n0, .ref c1, .ref g0, .ref a0, .int s_made])), (c1, .inl (ax 0, 16, .inl x_29)), (n0, .inr (4, [.ref (u_57 0), .ref (u_57 1), .ref (u_57 2), .int (nI (u_57 3))])), ((u_57 0), .inl (ax 1, u_57 4, .inl x_67)), ((u_57 1), .inl (ax 0, u_57 4, .inl x_68)), ((u_57 2), .inl (ax 0, u_57 4, .inl x_69)), (h0, .inr (4, [.ref h1, .ref h2, .ref h3, .int (nI zs)])), (h1, .inl (ax 1, cs, .inl so)), (h2, .inl (ax 0, cs, .inl sl)), (h3, .inl (ax 0, cs, .inl sr))]) hP hD [0, 1, 22, 23, 24, 25, 2, 3, 4, 5] [6, 7, 8, 9, 10, 11, 12, 13, 14, 15, 16, 17, 18, 19, 20, 21] hCs (by decide) (by decide) hk1 hFc hP1 hD1 rfl
  clear hP1 hD1
  clear hPc hDc hFc hCs hz hz1 hk1 ht hvm
  clear hP hD hS
  have hS := hS1
  obtain ⟨hP, hD⟩ := hjn
  clear hS1
  refine wk_narrow (k := u_1 4 - cp + (u_19 4 - (u_1 4)) + (u_40 3 - (u_19 4)) + (u_57 4 - (u_40 3))) (n := 6 * (u_1 4 - cp) + (6 * (u_19 4 - (u_1 4))) + (6 * (u_40 3 - (u_19 4))) + (6 * (u_57 4 - (u_40 3)))) (by omega) (by omega) ?_
  clear hk8 hk9 hg8 hg9
  have hK_74 : ∀ i, i < z9 → tsn x_67 x_68 x_69 i = tsn fo fl fr i := fun i hi => (hx_72 i (by omega)).trans (hK_56 i hi)
  have hS_75 : tsn x_67 x_68 x_69 (u_19 3) + z9 ≤ ((u_19 3) + 1) := by rw [hx_72 (u_19 3) (by omega)]; exact hB_55
  refine lv_iconst (v := (-1)) hx hb d_Maker_wpOfBranch_69 (by decide) ?_
  obtain ⟨hPc, hDc, hFc, hCs⟩ := xw_sub3 (wc := [(n0, .inr (4, [.ref (u_57 0), .ref (u_57 1), .ref (u_57 2), .int (nI (u_57 3))])), ((u_57 0), .inl (ax 1, u_57 4, .inl x_67)), ((u_57 1), .inl (ax 0, u_57 4, .inl x_68)), ((u_57 2), .inl (ax 0, u_57 4, .inl x_69))]) hP hD hS hA [18, 19, 20, 21] (by decide) rfl
  have hz := xz_of hN hS
  refine wk_know (fun hk8 hk9 => ?_)
  refine va_calli (va_runV (As := [.int 6, .int (nI (u_57 5)), .int (-1)]) (rest := []) ⟨hx, hb, hml, hown, hts⟩ (c_Nodes_add l D ax n0 (u_57 0) (u_57 1) (u_57 2) (u_57 4) (u_57 3) x_67 x_68 x_69 MX 6 (nI (u_57 5)) (-1) H_58.size (tsl H_58) (by omega) (by omega) (by omega) (by omega) (by omega) (by assumption)) (xcV (n := 3) hts wd_350 wd_5 wd_781 wd_348 wd_349 rfl rfl (by decide +kernel) ⟨(show (30) + 1 ≤ (1009 + 8 * (20 - s9)) by omega), (show 8 + (4 + 11) + (1200) ≤ (21170 + 300 * (20 - s9)) by omega)⟩) (xpV3 (ci := 4) (q0 := 0) (As := [.int 6, .int (nI (u_57 5)), .int (-1)]) hPc hK hz hDc rfl rfl) rfl rfl hl1.1 rfl (lv_room (Nat.le_of_ble_eq_true rfl)) d_Maker_wpOfBranch_70 ⟨(show (u_1 4 - cp + (u_19 4 - (u_1 4)) + (u_40 3 - (u_19 4)) + (u_57 4 - (u_40 3))) + (MX - (u_57 4)) ≤ (MX - cp) by omega), (show (6 * (u_1 4 - cp) + (6 * (u_19 4 - (u_1 4))) + (6 * (u_40 3 - (u_19 4))) + (6 * (u_57 4 - (u_40 3)))) + (6 * (MX - (u_57 4))) ≤ (6 * (MX - cp)) by omega)⟩) hS (fun q _ h => hFc q h) hFc (fun r_78 u_76 t H_77 locs ht hvm hw hB hz1 hk1 hS1 => ?_)
  try dsimp only at hw
  obtain ⟨hw, hs_79, hs_80, hs_81, hs_82⟩ := hw
  subst hw
  obtain ⟨x_83, x_84, x_85, hg8, hg9, hx_86, hx_87, hP1, hD1⟩ := hB
  rw [ht] at hg8 hg9 hP1
  have hjn := xw_join3 (wl := [(a0, .inr (4, [.ref a1, .ref a2, .ref a3, .int (nI za)])), (a1, .inl (ax 1, ca, .inl ao)), (a2, .inl (ax 0, ca, .inl al)), (a3, .inl (ax 0, ca, .inl ar)), (g0, .inr (2, [.ref h0, .ref g1, .ref g2, .ref g3, .ref g4, .ref g5, .ref g6, .ref g7, .ref g8, .ref g9, .ref ga, .ref gb, .int (nI cl), .int (nI ln), .int (nI br), .int (nI lp), .int (nI va)])), (g1, .inl (ax 1, 20, .inl (fun j => nI (kd j)))), (g2, .inl (ax 1, 20, .inl (fun j => nI (ow j)))), (g3, .inl (ax 1, 20, .inl (fun j => nI (sb j)))), (g4, .inl (ax 1, 20, .inl (fun j => nI (f1 j)))), (g5, .inl (ax 1, 20, .inl (fun j => nI (f2 j)))), (g6, .inl (ax 2, 20, .inl (fun j => nI (te j)))), (g7, .inl (ax 2, 20, .inl (fun j => nI (kp j)))), (g8, .inl (ax 0, 20, .inl tm)), (g9, .inl (ax 1, 20, .inl (fun j => nI (nm j)))), (ga, .inl (ax 1, 29, .inl (fun j => nI (ck j)))), (gb, .inl (ax 1, 29, .inl (fun j => nI (co j)))), (c0, .inr (3, [.ref n0, .ref c1, .ref g0, .ref a0, .int s_made])), (c1, .inl (ax 0, 16, .inl x_29)), (h0, .inr (4, [.ref h1, .ref h2, .ref h3, .int (nI zs)])), (h1, .inl (ax 1, cs, .inl so)), (h2, .inl (ax 0, cs, .inl sl)), (h3, .inl (ax 0, cs, .inl sr)), (n0, .inr (4, [.ref (u_76 0), .ref (u_76 1), .ref (u_76 2), .int (nI ((u_57 3) + 1))])), ((u_76 0), .inl (ax 1, u_76 3, .inl x_83)), ((u_76 1), .inl (ax 0, u_76 3, .inl x_84)), ((u_76 2), .inl (ax 0, u_76 3, .inl x_85))]) hP hD [18, 19, 20, 21] [0, 1, 2, 3, 4, 5, 6, 7, 8, 9, 10, 11, 12, 13, 14, 15, 16, 17, 22, 23, 24, 25] hCs (by decide) (by decide) hk1 hFc hP1 hD1 rfl
  clear hP1 hD1
  clear hPc hDc hFc hCs hz hz1 hk1 ht hvm
  clear hP hD hS
  have hS := hS1
  obtain ⟨hP, hD⟩ := hjn
  clear hS1
  refine wk_narrow (k := u_1 4 - cp + (u_19 4 - (u_1 4)) + (u_40 3 - (u_19 4)) + (u_57 4 - (u_40 3)) + (u_76 3 - (u_57 4))) (n := 6 * (u_1 4 - cp) + (6 * (u_19 4 - (u_1 4))) + (6 * (u_40 3 - (u_19 4))) + (6 * (u_57 4 - (u_40 3))) + (6 * (u_76 3 - (u_57 4)))) (by omega) (by omega) ?_
  clear hk8 hk9 hg8 hg9
  have hV_88 : ndv x_83 x_84 x_85 ((u_57 3) + 1) := hx_70.add hx_86 (nd_not (by omega))
  have hT_89 : tsn x_83 x_84 x_85 (u_57 3) = 1 + tsn x_67 x_68 x_69 (u_57 5) := nad.not (by omega) hx_70 (by omega) hx_86
  have hG_90 : ∀ i, i < u_57 3 → tsn x_83 x_84 x_85 i = tsn x_67 x_68 x_69 i := fun i hi => nad.keep (by omega) hx_70 hx_86 hi
  have hB_91 : tsn x_83 x_84 x_85 (u_57 3) + ((u_19 3) + 1) ≤ ((u_57 3) + 1) := by omega
  have hK_92 : ∀ i, i < z9 → tsn x_83 x_84 x_85 i = tsn fo fl fr i := fun i hi => (hG_90 i (by omega)).trans (hK_74 i hi)
  have hS_93 : tsn x_83 x_84 x_85 (u_19 3) + z9 ≤ ((u_19 3) + 1) := by rw [hG_90 (u_19 3) (by omega)]; exact hS_75
  refine lv_istore_n (lv' := [(3, .int (nI (u_57 3))), (2, .int (nI (u_19 3))), (0, .ref c0), (1, .int (nI s9))]) hx hb d_Maker_wpOfBranch_73 rfl hl1 (by decide) rfl (fun ls hl2 => ?_)
  clear hl1; have hl1 := hl2; clear hl2
  refine lv_aload_n hx hb d_Maker_wpOfBranch_74 rfl (lv_at hl1 2 rfl) ?_
  refine va_get (D := D) (ci := 3) (v := .ref n0) (C := R_Maker) (T := F_Maker) (N := 5) hx hb hts i_Maker hown hK.1 hP 16 rfl rfl 0 (by decide) (hts _ wd_129) (fun _ h9 => h9) rfl d_Maker_wpOfBranch_75 ?_
  refine lv_bipush (v := 7) hx hb d_Maker_wpOfBranch_78 (by decide) ?_
  refine lv_iload_n hx hb d_Maker_wpOfBranch_80 rfl (lv_at hl1 0 rfl) ?_
  refine lv_aload_n hx hb d_Maker_wpOfBranch_81 rfl (lv_at hl1 2 rfl) ?_
  refine lv_aload_n hx hb d_Maker_wpOfBranch_82 rfl (lv_at hl1 2 rfl) ?_
  refine va_get (D := D) (ci := 3) (v := .ref g0) (C := R_Maker) (T := F_Maker) (N := 5) hx hb hts i_Maker hown hK.1 hP 16 rfl rfl 2 (by decide) (hts _ wd_132) (fun _ h9 => h9) rfl d_Maker_wpOfBranch_83 ?_
  refine va_get (D := D) (ci := 2) (v := .ref g5) (C := R_Listing) (T := F_Listing) (N := 17) hx hb hts i_Listing hown hK.1 hP 4 rfl rfl 5 (by decide) (hts _ wd_284) (fun _ h9 => h9) rfl d_Maker_wpOfBranch_86 ?_
  refine lv_iload_n hx hb d_Maker_wpOfBranch_89 rfl (lv_at hl1 3 rfl) ?_
  refine va_bald hx hb hK.1 hP 9 1 rfl rfl (vp_in_nI (by omega) (by omega)) d_Maker_wpOfBranch_90 ?_
  refine W.eq (g2 := F0 m 91 ls [.int (nI (f2 s9)), .ref c0, .int (nI (u_57 3)), .int 7, .ref n0]) (by rw [nI_clamp (by omega)]) ?_
  obtain ⟨hPc, hDc, hFc, hCs⟩ := xw_sub3 (wc := [(c0, .inr (3, [.ref n0, .ref c1, .ref g0, .ref a0, .int s_made])), (c1, .inl (ax 0, 16, .inl x_29)), (n0, .inr (4, [.ref (u_76 0), .ref (u_76 1), .ref (u_76 2), .int (nI ((u_57 3) + 1))])), ((u_76 0), .inl (ax 1, u_76 3, .inl x_83)), ((u_76 1), .inl (ax 0, u_76 3, .inl x_84)), ((u_76 2), .inl (ax 0, u_76 3, .inl x_85)), (h0, .inr (4, [.ref h1, .ref h2, .ref h3, .int (nI zs)])), (h1, .inl (ax 1, cs, .inl so)), (h2, .inl (ax 0, cs, .inl sl)), (h3, .inl (ax 0, cs, .inl sr)), (a0, .inr (4, [.ref a1, .ref a2, .ref a3, .int (nI za)])), (a1, .inl (ax 1, ca, .inl ao)), (a2, .inl (ax 0, ca, .inl al)), (a3, .inl (ax 0, ca, .inl ar)), (g0, .inr (2, [.ref h0, .ref g1, .ref g2, .ref g3, .ref g4, .ref g5, .ref g6, .ref g7, .ref g8, .ref g9, .ref ga, .ref gb, .int (nI cl), .int (nI ln), .int (nI br), .int (nI lp), .int (nI va)])), (g1, .inl (ax 1, 20, .inl (fun j => nI (kd j)))), (g2, .inl (ax 1, 20, .inl (fun j => nI (ow j)))), (g3, .inl (ax 1, 20, .inl (fun j => nI (sb j)))), (g4, .inl (ax 1, 20, .inl (fun j => nI (f1 j)))), (g5, .inl (ax 1, 20, .inl (fun j => nI (f2 j)))), (g6, .inl (ax 2, 20, .inl (fun j => nI (te j)))), (g7, .inl (ax 2, 20, .inl (fun j => nI (kp j)))), (g8, .inl (ax 0, 20, .inl tm)), (g9, .inl (ax 1, 20, .inl (fun j => nI (nm j)))), (ga, .inl (ax 1, 29, .inl (fun j => nI (ck j)))), (gb, .inl (ax 1, 29, .inl (fun j => nI (co j))))]) hP hD hS hA [16, 17, 22, 23, 24, 25, 18, 19, 20, 21, 0, 1, 2, 3, 4, 5, 6, 7, 8, 9, 10, 11, 12, 13, 14, 15] (by decide) rfl
  have hz := xz_of hN hS
  refine wk_know (fun hk8 hk9 => ?_)
  refine va_calli (va_runV (As := [.int (nI (f2 s9))]) (rest := [.int (nI (u_57 3)), .int 7, .ref n0]) ⟨hx, hb, hml, hown, hts⟩ ((hrec (f2 s9) (by omega) (by omega)) D ax c0 c1 s_made x_29 n0 (u_76 0) (u_76 1) (u_76 2) (u_76 3) ((u_57 3) + 1) x_83 x_84 x_85 h0 h1 h2 h3 zs cs so sl sr a0 a1 a2 a3 za ca ao al ar g0 g1 g2 g3 g4 g5 g6 g7 g8 g9 ga gb cl ln br lp va kd ow sb f1 f2 te kp nm ck co tm MX en kc H_77.size (tsl H_77) (by omega) (by omega) (by omega) hMX (by assumption) (by assumption) (by assumption) hzs hcs hsv hza hca hz1 hz4 hav hat hlw (by omega) (by omega)) (xcV (n := 1) hts wd_793 wd_4 wd_790 wd_792 ps_27 rfl rfl (by decide +kernel) ⟨(show (1010 + 8 * (20 - (f2 s9))) + 1 ≤ (1009 + 8 * (20 - s9)) by omega), (show 8 + (2 + 11) + (21200 + 300 * (20 - (f2 s9))) ≤ (21170 + 300 * (20 - s9)) by omega)⟩) (xpV3 (ci := 3) (q0 := 0) (As := [.int (nI (f2 s9))]) hPc hK hz hDc rfl rfl) rfl rfl hl1.1 rfl (lv_room (Nat.le_of_ble_eq_true rfl)) d_Maker_wpOfBranch_91 ⟨(show (u_1 4 - cp + (u_19 4 - (u_1 4)) + (u_40 3 - (u_19 4)) + (u_57 4 - (u_40 3)) + (u_76 3 - (u_57 4))) + (MX - (u_76 3)) ≤ (MX - cp) by omega), (show (6 * (u_1 4 - cp) + (6 * (u_19 4 - (u_1 4))) + (6 * (u_40 3 - (u_19 4))) + (6 * (u_57 4 - (u_40 3))) + (6 * (u_76 3 - (u_57 4)))) + (6 * (MX - (u_76 3))) ≤ (6 * (MX - cp)) by omega)⟩) hS (fun q _ h => hFc q h) hFc (fun r_96 u_94 t H_95 locs ht hvm hw hB hz1 hk1 hS1 => ?_)
  try dsimp only at hw
  obtain ⟨hw, hs_97, hs_98, hs_99, hs_100, hs_101, hs_102, hs_103⟩ := hw
  subst hw
  obtain ⟨x_104, x_105, x_106, x_107, hg8, hg9, hx_108, hx_109, hx_110, hx_111, hx_112, hP1, hD1⟩ := hB
  rw [ht] at hg8 hg9 hP1
  have hjn := xw_join3 (wl := [(c0, .inr (3, [.ref n0, .ref c1, .ref g0, .ref a0, .int s_made])), (c1, .inl (ax 0, 16, .inl x_104)), (n0, .inr (4, [.ref (u_94 0), .ref (u_94 1), .ref (u_94 2), .int (nI (u_94 3))])), ((u_94 0), .inl (ax 1, u_94 4, .inl x_105)), ((u_94 1), .inl (ax 0, u_94 4, .inl x_106)), ((u_94 2), .inl (ax 0, u_94 4, .inl x_107)), (h0, .inr (4, [.ref h1, .ref h2, .ref h3, .int (nI zs)])), (h1, .inl (ax 1, cs, .inl so)), (h2, .inl (ax 0, cs, .inl sl)), (h3, .inl (ax 0, cs, .inl sr)), (a0, .inr (4, [.ref a1, .ref a2, .ref a3, .int (nI za)])), (a1, .inl (ax 1, ca, .inl ao)), (a2, .inl (ax 0, ca, .inl al)), (a3, .inl (ax 0, ca, .inl ar)), (g0, .inr (2, [.ref h0, .ref g1, .ref g2, .ref g3, .ref g4, .ref g5, .ref g6, .ref g7, .ref g8, .ref g9, .ref ga, .ref gb, .int (nI cl), .int (nI ln), .int (nI br), .int (nI lp), .int (nI va)])), (g1, .inl (ax 1, 20, .inl (fun j => nI (kd j)))), (g2, .inl (ax 1, 20, .inl (fun j => nI (ow j)))), (g3, .inl (ax 1, 20, .inl (fun j => nI (sb j)))), (g4, .inl (ax 1, 20, .inl (fun j => nI (f1 j)))), (g5, .inl (ax 1, 20, .inl (fun j => nI (f2 j)))), (g6, .inl (ax 2, 20, .inl (fun j => nI (te j)))), (g7, .inl (ax 2, 20, .inl (fun j => nI (kp j)))), (g8, .inl (ax 0, 20, .inl tm)), (g9, .inl (ax 1, 20, .inl (fun j => nI (nm j)))), (ga, .inl (ax 1, 29, .inl (fun j => nI (ck j)))), (gb, .inl (ax 1, 29, .inl (fun j => nI (co j))))]) hP hD [16, 17, 22, 23, 24, 25, 18, 19, 20, 21, 0, 1, 2, 3, 4, 5, 6, 7, 8, 9, 10, 11, 12, 13, 14, 15] [] hCs (by decide) (by decide) hk1 hFc hP1 hD1 rfl
  clear hP1 hD1
  clear hPc hDc hFc hCs hz hz1 hk1 ht hvm
  clear hP hD hS
  have hS := hS1
  obtain ⟨hP, hD⟩ := hjn
  clear hS1
  refine wk_narrow (k := u_1 4 - cp + (u_19 4 - (u_1 4)) + (u_40 3 - (u_19 4)) + (u_57 4 - (u_40 3)) + (u_76 3 - (u_57 4)) + (u_94 4 - (u_76 3))) (n := 6 * (u_1 4 - cp) + (6 * (u_19 4 - (u_1 4))) + (6 * (u_40 3 - (u_19 4))) + (6 * (u_57 4 - (u_40 3))) + (6 * (u_76 3 - (u_57 4))) + (6 * (u_94 4 - (u_76 3)))) (by omega) (by omega) ?_
  clear hk8 hk9 hg8 hg9
  have hK_113 : ∀ i, i < z9 → tsn x_105 x_106 x_107 i = tsn fo fl fr i := fun i hi => (hx_110 i (by omega)).trans (hK_92 i hi)
  have hS_114 : tsn x_105 x_106 x_107 (u_19 3) + z9 ≤ ((u_19 3) + 1) := by rw [hx_110 (u_19 3) (by omega)]; exact hS_93
  have hS_115 : tsn x_105 x_106 x_107 (u_57 3) + ((u_19 3) + 1) ≤ ((u_57 3) + 1) := by rw [hx_110 (u_57 3) (by omega)]; exact hB_91
  obtain ⟨hPc, hDc, hFc, hCs⟩ := xw_sub3 (wc := [(n0, .inr (4, [.ref (u_94 0), .ref (u_94 1), .ref (u_94 2), .int (nI (u_94 3))])), ((u_94 0), .inl (ax 1, u_94 4, .inl x_105)), ((u_94 1), .inl (ax 0, u_94 4, .inl x_106)), ((u_94 2), .inl (ax 0, u_94 4, .inl x_107))]) hP hD hS hA [2, 3, 4, 5] (by decide) rfl
  have hz := xz_of hN hS
  refine wk_know (fun hk8 hk9 => ?_)
  refine va_calli (va_runV (As := [.int 7, .int (nI (u_57 3)), .int (nI (u_94 5))]) (rest := []) ⟨hx, hb, hml, hown, hts⟩ (c_Nodes_add l D ax n0 (u_94 0) (u_94 1) (u_94 2) (u_94 4) (u_94 3) x_105 x_106 x_107 MX 7 (nI (u_57 3)) (nI (u_94 5)) H_95.size (tsl H_95) (by omega) (by omega) (by omega) (by omega) (by omega) (by assumption)) (xcV (n := 3) hts wd_350 wd_5 wd_781 wd_348 wd_349 rfl rfl (by decide +kernel) ⟨(show (30) + 1 ≤ (1009 + 8 * (20 - s9)) by omega), (show 8 + (4 + 11) + (1200) ≤ (21170 + 300 * (20 - s9)) by omega)⟩) (xpV3 (ci := 4) (q0 := 0) (As := [.int 7, .int (nI (u_57 3)), .int (nI (u_94 5))]) hPc hK hz hDc rfl rfl) rfl rfl hl1.1 rfl (lv_room (Nat.le_of_ble_eq_true rfl)) d_Maker_wpOfBranch_94 ⟨(show (u_1 4 - cp + (u_19 4 - (u_1 4)) + (u_40 3 - (u_19 4)) + (u_57 4 - (u_40 3)) + (u_76 3 - (u_57 4)) + (u_94 4 - (u_76 3))) + (MX - (u_94 4)) ≤ (MX - cp) by omega), (show (6 * (u_1 4 - cp) + (6 * (u_19 4 - (u_1 4))) + (6 * (u_40 3 - (u_19 4))) + (6 * (u_57 4 - (u_40 3))) + (6 * (u_76 3 - (u_57 4))) + (6 * (u_94 4 - (u_76 3)))) + (6 * (MX - (u_94 4))) ≤ (6 * (MX - cp)) by omega)⟩) hS (fun q _ h => hFc q h) hFc (fun r_118 u_116 t H_117 locs ht hvm hw hB hz1 hk1 hS1 => ?_)
  try dsimp only at hw
  obtain ⟨hw, hs_119, hs_120, hs_121, hs_122⟩ := hw
  subst hw
  obtain ⟨x_123, x_124, x_125, hg8, hg9, hx_126, hx_127, hP1, hD1⟩ := hB
  rw [ht] at hg8 hg9 hP1
  have hjn := xw_join3 (wl := [(c0, .inr (3, [.ref n0, .ref c1, .ref g0, .ref a0, .int s_made])), (c1, .inl (ax 0, 16, .inl x_104)), (h0, .inr (4, [.ref h1, .ref h2, .ref h3, .int (nI zs)])), (h1, .inl (ax 1, cs, .inl so)), (h2, .inl (ax 0, cs, .inl sl)), (h3, .inl (ax 0, cs, .inl sr)), (a0, .inr (4, [.ref a1, .ref a2, .ref a3, .int (nI za)])), (a1, .inl (ax 1, ca, .inl ao)), (a2, .inl (ax 0, ca, .inl al)), (a3, .inl (ax 0, ca, .inl ar)), (g0, .inr (2, [.ref h0, .ref g1, .ref g2, .ref g3, .ref g4, .ref g5, .ref g6, .ref g7, .ref g8, .ref g9, .ref ga, .ref gb, .int (nI cl), .int (nI ln), .int (nI br), .int (nI lp), .int (nI va)])), (g1, .inl (ax 1, 20, .inl (fun j => nI (kd j)))), (g2, .inl (ax 1, 20, .inl (fun j => nI (ow j)))), (g3, .inl (ax 1, 20, .inl (fun j => nI (sb j)))), (g4, .inl (ax 1, 20, .inl (fun j => nI (f1 j)))), (g5, .inl (ax 1, 20, .inl (fun j => nI (f2 j)))), (g6, .inl (ax 2, 20, .inl (fun j => nI (te j)))), (g7, .inl (ax 2, 20, .inl (fun j => nI (kp j)))), (g8, .inl (ax 0, 20, .inl tm)), (g9, .inl (ax 1, 20, .inl (fun j => nI (nm j)))), (ga, .inl (ax 1, 29, .inl (fun j => nI (ck j)))), (gb, .inl (ax 1, 29, .inl (fun j => nI (co j)))), (n0, .inr (4, [.ref (u_116 0), .ref (u_116 1), .ref (u_116 2), .int (nI ((u_94 3) + 1))])), ((u_116 0), .inl (ax 1, u_116 3, .inl x_123)), ((u_116 1), .inl (ax 0, u_116 3, .inl x_124)), ((u_116 2), .inl (ax 0, u_116 3, .inl x_125))]) hP hD [2, 3, 4, 5] [0, 1, 6, 7, 8, 9, 10, 11, 12, 13, 14, 15, 16, 17, 18, 19, 20, 21, 22, 23, 24, 25] hCs (by decide) (by decide) hk1 hFc hP1 hD1 rfl
  clear hP1 hD1
  clear hPc hDc hFc hCs hz hz1 hk1 ht hvm
  clear hP hD hS
  have hS := hS1
  obtain ⟨hP, hD⟩ := hjn
  clear hS1
  refine wk_narrow (k := u_1 4 - cp + (u_19 4 - (u_1 4)) + (u_40 3 - (u_19 4)) + (u_57 4 - (u_40 3)) + (u_76 3 - (u_57 4)) + (u_94 4 - (u_76 3)) + (u_116 3 - (u_94 4))) (n := 6 * (u_1 4 - cp) + (6 * (u_19 4 - (u_1 4))) + (6 * (u_40 3 - (u_19 4))) + (6 * (u_57 4 - (u_40 3))) + (6 * (u_76 3 - (u_57 4))) + (6 * (u_94 4 - (u_76 3))) + (6 * (u_116 3 - (u_94 4)))) (by omega) (by omega) ?_
  clear hk8 hk9 hg8 hg9
  have hV_128 : ndv x_123 x_124 x_125 ((u_94 3) + 1) := hx_108.add hx_126 (nd_bin (o := 7) (by decide) (by omega) (by omega))
  have hT_129 : tsn x_123 x_124 x_125 (u_94 3) = 1 + tsn x_105 x_106 x_107 (u_57 3) + tsn x_105 x_106 x_107 (u_94 5) := nad.bin (o := 7) (by omega) hx_108 (by decide) (by omega) (by omega) hx_126
  have hG_130 : ∀ i, i < u_94 3 → tsn x_123 x_124 x_125 i = tsn x_105 x_106 x_107 i := fun i hi => nad.keep (by omega) hx_108 hx_126 hi
  have hB_131 : tsn x_123 x_124 x_125 (u_94 3) + ((u_19 3) + 1) ≤ ((u_94 3) + 1) := by omega
  have hK_132 : ∀ i, i < z9 → tsn x_123 x_124 x_125 i = tsn fo fl fr i := fun i hi => (hG_130 i (by omega)).trans (hK_113 i hi)
  have hS_133 : tsn x_123 x_124 x_125 (u_19 3) + z9 ≤ ((u_19 3) + 1) := by rw [hG_130 (u_19 3) (by omega)]; exact hS_114
  refine lv_istore (lv' := [(4, .int (nI (u_94 3))), (3, .int (nI (u_57 3))), (2, .int (nI (u_19 3))), (0, .ref c0), (1, .int (nI s9))]) hx hb d_Maker_wpOfBranch_97 hl1 (by decide) rfl (fun ls hl2 => ?_)
  clear hl1; have hl1 := hl2; clear hl2
  refine lv_aload_n hx hb d_Maker_wpOfBranch_99 rfl (lv_at hl1 3 rfl) ?_
  refine va_get (D := D) (ci := 3) (v := .ref n0) (C := R_Maker) (T := F_Maker) (N := 5) hx hb hts i_Maker hown hK.1 hP 0 rfl rfl 0 (by decide) (hts _ wd_129) (fun _ h9 => h9) rfl d_Maker_wpOfBranch_100 ?_
  refine lv_bipush (v := 8) hx hb d_Maker_wpOfBranch_103 (by decide) ?_
  refine lv_iload_n hx hb d_Maker_wpOfBranch_105 rfl (lv_at hl1 2 rfl) ?_
  refine lv_iload hx hb d_Maker_wpOfBranch_106 (lv_at hl1 0 rfl) ?_
  obtain ⟨hPc, hDc, hFc, hCs⟩ := xw_sub3 (wc := [(n0, .inr (4, [.ref (u_116 0), .ref (u_116 1), .ref (u_116 2), .int (nI ((u_94 3) + 1))])), ((u_116 0), .inl (ax 1, u_116 3, .inl x_123)), ((u_116 1), .inl (ax 0, u_116 3, .inl x_124)), ((u_116 2), .inl (ax 0, u_116 3, .inl x_125))]) hP hD hS hA [22, 23, 24, 25] (by decide) rfl
  have hz := xz_of hN hS
  refine wk_know (fun hk8 hk9 => ?_)
  refine va_calli (va_runV (As := [.int 8, .int (nI (u_19 3)), .int (nI (u_94 3))]) (rest := []) ⟨hx, hb, hml, hown, hts⟩ (c_Nodes_add l D ax n0 (u_116 0) (u_116 1) (u_116 2) (u_116 3) ((u_94 3) + 1) x_123 x_124 x_125 MX 8 (nI (u_19 3)) (nI (u_94 3)) H_117.size (tsl H_117) (by omega) (by omega) (by omega) (by omega) (by omega) (by assumption)) (xcV (n := 3) hts wd_350 wd_5 wd_781 wd_348 wd_349 rfl rfl (by decide +kernel) ⟨(show (30) + 1 ≤ (1009 + 8 * (20 - s9)) by omega), (show 8 + (4 + 11) + (1200) ≤ (21170 + 300 * (20 - s9)) by omega)⟩) (xpV3 (ci := 4) (q0 := 0) (As := [.int 8, .int (nI (u_19 3)), .int (nI (u_94 3))]) hPc hK hz hDc rfl rfl) rfl rfl hl1.1 rfl (lv_room (Nat.le_of_ble_eq_true rfl)) d_Maker_wpOfBranch_108 ⟨(show (u_1 4 - cp + (u_19 4 - (u_1 4)) + (u_40 3 - (u_19 4)) + (u_57 4 - (u_40 3)) + (u_76 3 - (u_57 4)) + (u_94 4 - (u_76 3)) + (u_116 3 - (u_94 4))) + (MX - (u_116 3)) ≤ (MX - cp) by omega), (show (6 * (u_1 4 - cp) + (6 * (u_19 4 - (u_1 4))) + (6 * (u_40 3 - (u_19 4))) + (6 * (u_57 4 - (u_40 3))) + (6 * (u_76 3 - (u_57 4))) + (6 * (u_94 4 - (u_76 3))) + (6 * (u_116 3 - (u_94 4)))) + (6 * (MX - (u_116 3))) ≤ (6 * (MX - cp)) by omega)⟩) hS (fun q _ h => hFc q h) hFc (fun r_136 u_134 t H_135 locs ht hvm hw hB hz1 hk1 hS1 => ?_)
  try dsimp only at hw
  obtain ⟨hw, hs_137, hs_138, hs_139, hs_140⟩ := hw
  subst hw
  obtain ⟨x_141, x_142, x_143, hg8, hg9, hx_144, hx_145, hP1, hD1⟩ := hB
  rw [ht] at hg8 hg9 hP1
  have hjn := xw_join3 (wl := [(c0, .inr (3, [.ref n0, .ref c1, .ref g0, .ref a0, .int s_made])), (c1, .inl (ax 0, 16, .inl x_104)), (h0, .inr (4, [.ref h1, .ref h2, .ref h3, .int (nI zs)])), (h1, .inl (ax 1, cs, .inl so)), (h2, .inl (ax 0, cs, .inl sl)), (h3, .inl (ax 0, cs, .inl sr)), (a0, .inr (4, [.ref a1, .ref a2, .ref a3, .int (nI za)])), (a1, .inl (ax 1, ca, .inl ao)), (a2, .inl (ax 0, ca, .inl al)), (a3, .inl (ax 0, ca, .inl ar)), (g0, .inr (2, [.ref h0, .ref g1, .ref g2, .ref g3, .ref g4, .ref g5, .ref g6, .ref g7, .ref g8, .ref g9, .ref ga, .ref gb, .int (nI cl), .int (nI ln), .int (nI br), .int (nI lp), .int (nI va)])), (g1, .inl (ax 1, 20, .inl (fun j => nI (kd j)))), (g2, .inl (ax 1, 20, .inl (fun j => nI (ow j)))), (g3, .inl (ax 1, 20, .inl (fun j => nI (sb j)))), (g4, .inl (ax 1, 20, .inl (fun j => nI (f1 j)))), (g5, .inl (ax 1, 20, .inl (fun j => nI (f2 j)))), (g6, .inl (ax 2, 20, .inl (fun j => nI (te j)))), (g7, .inl (ax 2, 20, .inl (fun j => nI (kp j)))), (g8, .inl (ax 0, 20, .inl tm)), (g9, .inl (ax 1, 20, .inl (fun j => nI (nm j)))), (ga, .inl (ax 1, 29, .inl (fun j => nI (ck j)))), (gb, .inl (ax 1, 29, .inl (fun j => nI (co j)))), (n0, .inr (4, [.ref (u_134 0), .ref (u_134 1), .ref (u_134 2), .int (nI (((u_94 3) + 1) + 1))])), ((u_134 0), .inl (ax 1, u_134 3, .inl x_141)), ((u_134 1), .inl (ax 0, u_134 3, .inl x_142)), ((u_134 2), .inl (ax 0, u_134 3, .inl x_143))]) hP hD [22, 23, 24, 25] [0, 1, 2, 3, 4, 5, 6, 7, 8, 9, 10, 11, 12, 13, 14, 15, 16, 17, 18, 19, 20, 21] hCs (by decide) (by decide) hk1 hFc hP1 hD1 rfl
  clear hP1 hD1
  clear hPc hDc hFc hCs hz hz1 hk1 ht hvm
  clear hP hD hS
  have hS := hS1
  obtain ⟨hP, hD⟩ := hjn
  clear hS1
  refine wk_narrow (k := u_1 4 - cp + (u_19 4 - (u_1 4)) + (u_40 3 - (u_19 4)) + (u_57 4 - (u_40 3)) + (u_76 3 - (u_57 4)) + (u_94 4 - (u_76 3)) + (u_116 3 - (u_94 4)) + (u_134 3 - (u_116 3))) (n := 6 * (u_1 4 - cp) + (6 * (u_19 4 - (u_1 4))) + (6 * (u_40 3 - (u_19 4))) + (6 * (u_57 4 - (u_40 3))) + (6 * (u_76 3 - (u_57 4))) + (6 * (u_94 4 - (u_76 3))) + (6 * (u_116 3 - (u_94 4))) + (6 * (u_134 3 - (u_116 3)))) (by omega) (by omega) ?_
  clear hk8 hk9 hg8 hg9
  have hV_146 : ndv x_141 x_142 x_143 (((u_94 3) + 1) + 1) := hV_128.add hx_144 (nd_bin (o := 8) (by decide) (by omega) (by omega))
  have hT_147 : tsn x_141 x_142 x_143 ((u_94 3) + 1) = 1 + tsn x_123 x_124 x_125 (u_19 3) + tsn x_123 x_124 x_125 (u_94 3) := nad.bin (o := 8) (by omega) hV_128 (by decide) (by omega) (by omega) hx_144
  have hG_148 : ∀ i, i < (u_94 3) + 1 → tsn x_141 x_142 x_143 i = tsn x_123 x_124 x_125 i := fun i hi => nad.keep (by omega) hV_128 hx_144 hi
  have hB_149 : tsn x_141 x_142 x_143 ((u_94 3) + 1) + z9 ≤ (((u_94 3) + 1) + 1) := by omega
  have hK_150 : ∀ i, i < z9 → tsn x_141 x_142 x_143 i = tsn fo fl fr i := fun i hi => (hG_148 i (by omega)).trans (hK_132 i hi)
  refine wk_know (fun hk8 hk9 => ?_)
  refine W.widen (k := MX - cp) (n := 6 * (MX - cp)) (by omega) (by omega) ?_
  obtain ⟨hP9, hD9⟩ := xw_sub2 (wc := (fun (u : Nat → Nat) (xsd : Nat → Int32) (xfo : Nat → Int32) (xfl : Nat → Int32) (xfr : Nat → Int32) => [(c0, .inr (3, [.ref n0, .ref c1, .ref g0, .ref a0, .int s_made])), (c1, .inl (ax 0, 16, .inl xsd)), (n0, .inr (4, [.ref (u 0), .ref (u 1), .ref (u 2), .int (nI (u 3))])), (u 0, .inl (ax 1, u 4, .inl xfo)), (u 1, .inl (ax 0, u 4, .inl xfl)), (u 2, .inl (ax 0, u 4, .inl xfr)), (h0, .inr (4, [.ref h1, .ref h2, .ref h3, .int (nI zs)])), (h1, .inl (ax 1, cs, .inl so)), (h2, .inl (ax 0, cs, .inl sl)), (h3, .inl (ax 0, cs, .inl sr)), (a0, .inr (4, [.ref a1, .ref a2, .ref a3, .int (nI za)])), (a1, .inl (ax 1, ca, .inl ao)), (a2, .inl (ax 0, ca, .inl al)), (a3, .inl (ax 0, ca, .inl ar)), (g0, .inr (2, [.ref h0, .ref g1, .ref g2, .ref g3, .ref g4, .ref g5, .ref g6, .ref g7, .ref g8, .ref g9, .ref ga, .ref gb, .int (nI cl), .int (nI ln), .int (nI br), .int (nI lp), .int (nI va)])), (g1, .inl (ax 1, 20, .inl (fun j => nI (kd j)))), (g2, .inl (ax 1, 20, .inl (fun j => nI (ow j)))), (g3, .inl (ax 1, 20, .inl (fun j => nI (sb j)))), (g4, .inl (ax 1, 20, .inl (fun j => nI (f1 j)))), (g5, .inl (ax 1, 20, .inl (fun j => nI (f2 j)))), (g6, .inl (ax 2, 20, .inl (fun j => nI (te j)))), (g7, .inl (ax 2, 20, .inl (fun j => nI (kp j)))), (g8, .inl (ax 0, 20, .inl tm)), (g9, .inl (ax 1, 20, .inl (fun j => nI (nm j)))), (ga, .inl (ax 1, 29, .inl (fun j => nI (ck j)))), (gb, .inl (ax 1, 29, .inl (fun j => nI (co j))))]) (ixn [(u_134 0), (u_134 1), (u_134 2), (((u_94 3) + 1) + 1), (u_134 3), ((u_94 3) + 1)]) x_104 x_141 x_142 x_143) hP hD [0, 1, 22, 23, 24, 25, 2, 3, 4, 5, 6, 7, 8, 9, 10, 11, 12, 13, 14, 15, 16, 17, 18, 19, 20, 21] (by decide) rfl
  have hex0 : ndv x_141 x_142 x_143 ((((u_94 3) + 1) + 1)) := hV_146
  have hex1 : bts x_141 ((u_134 3)) := (by assumption)
  have hex2 : ∀ i, i < z9 → tsn x_141 x_142 x_143 i = tsn fo fl fr i := hK_150
  have hex3 : tsn x_141 x_142 x_143 (((u_94 3) + 1)) + z9 ≤ (((u_94 3) + 1) + 1) := (by omega)
  have hex4 : ∀ j, j ≤ 10 → trm (x_104 j) := hx_112
  have hg8 : H_135.size ≤ s.heap.size + ((u_134 3) - cp) := by omega
  have hg9 : tsl H_135 ≤ tsl s.heap + (6 * ((u_134 3) - cp)) := by omega
  have hsp0 : z9 ≤ (((u_94 3) + 1) + 1) := (by omega)
  have hsp1 : (((u_94 3) + 1) + 1) ≤ (u_134 3) := (by omega)
  have hsp2 : cp ≤ (u_134 3) := (by omega)
  have hsp3 : (u_134 3) ≤ MX := (by omega)
  have hsp4 : dbl cp ((u_134 3)) := (((((((hs_8.tr hs_26).tr hs_46).tr hs_64).tr hs_82).tr hs_101).tr hs_122).tr hs_140)
  have hsp5 : ((u_94 3) + 1) < (((u_94 3) + 1) + 1) := (by omega)
  have hsp6 : (((u_94 3) + 1) + 1) ≤ z9 + wpw kd kc ln 460 s9 := (by omega)
  exact W.iret (v := nI ((u_94 3) + 1)) hx hb hr (fun t ht hW => ⟨⟨nI ((u_94 3) + 1), ixn [(u_134 0), (u_134 1), (u_134 2), (((u_94 3) + 1) + 1), (u_134 3), ((u_94 3) + 1)], rfl, ⟨rfl, ⟨hsp0, hsp1, hsp2, hsp3, hsp4, hsp5, hsp6⟩⟩, ⟨x_104, x_141, x_142, x_143, by rw [ht]; exact hg8, by rw [ht]; exact hg9, hex0, hex1, hex2, hex3, hex4, by rw [ht]; exact hP9, hD9⟩⟩, hS.F ht⟩) hS.2.2 d_Maker_wpOfBranch_111
theorem d_Maker_wp_0 : decode b_Maker_wp 0 = .ok (.aload_n 0, 1) := by decide +kernel
theorem d_Maker_wp_1 : decode b_Maker_wp 1 = .ok (.getfield 29, 3) := by decide +kernel
theorem d_Maker_wp_4 : decode b_Maker_wp 4 = .ok (.getfield 90, 3) := by decide +kernel
theorem d_Maker_wp_7 : decode b_Maker_wp 7 = .ok (.iload_n 1, 1) := by decide +kernel
theorem d_Maker_wp_8 : decode b_Maker_wp 8 = .ok (.baload, 1) := by decide +kernel
theorem d_Maker_wp_9 : decode b_Maker_wp 9 = .ok (.lookupswitch 140 #[(2, 51), (8, 57), (12, 119), (17, 63), (123, 98)], 51) := by decide +kernel
theorem d_Maker_wp_60 : decode b_Maker_wp 60 = .ok (.aload_n 0, 1) := by decide +kernel
theorem d_Maker_wp_61 : decode b_Maker_wp 61 = .ok (.iload_n 1, 1) := by decide +kernel
theorem d_Maker_wp_62 : decode b_Maker_wp 62 = .ok (.invokevirtual 93, 3) := by decide +kernel
theorem d_Maker_wp_65 : decode b_Maker_wp 65 = .ok (.ireturn, 1) := by decide +kernel
theorem d_Maker_wp_66 : decode b_Maker_wp 66 = .ok (.aload_n 0, 1) := by decide +kernel
theorem d_Maker_wp_67 : decode b_Maker_wp 67 = .ok (.iload_n 1, 1) := by decide +kernel
theorem d_Maker_wp_68 : decode b_Maker_wp 68 = .ok (.invokevirtual 96, 3) := by decide +kernel
theorem d_Maker_wp_71 : decode b_Maker_wp 71 = .ok (.ireturn, 1) := by decide +kernel
theorem d_Maker_wp_72 : decode b_Maker_wp 72 = .ok (.aload_n 0, 1) := by decide +kernel
theorem d_Maker_wp_73 : decode b_Maker_wp 73 = .ok (.getfield 12, 3) := by decide +kernel
theorem d_Maker_wp_76 : decode b_Maker_wp 76 = .ok (.bipush 7, 2) := by decide +kernel
theorem d_Maker_wp_78 : decode b_Maker_wp 78 = .ok (.aload_n 0, 1) := by decide +kernel
theorem d_Maker_wp_79 : decode b_Maker_wp 79 = .ok (.aload_n 0, 1) := by decide +kernel
theorem d_Maker_wp_80 : decode b_Maker_wp 80 = .ok (.getfield 29, 3) := by decide +kernel
theorem d_Maker_wp_83 : decode b_Maker_wp 83 = .ok (.getfield 64, 3) := by decide +kernel
theorem d_Maker_wp_86 : decode b_Maker_wp 86 = .ok (.aload_n 0, 1) := by decide +kernel
theorem d_Maker_wp_87 : decode b_Maker_wp 87 = .ok (.getfield 29, 3) := by decide +kernel
theorem d_Maker_wp_90 : decode b_Maker_wp 90 = .ok (.getfield 67, 3) := by decide +kernel
theorem d_Maker_wp_93 : decode b_Maker_wp 93 = .ok (.iload_n 1, 1) := by decide +kernel
theorem d_Maker_wp_94 : decode b_Maker_wp 94 = .ok (.saload, 1) := by decide +kernel
theorem d_Maker_wp_95 : decode b_Maker_wp 95 = .ok (.invokevirtual 46, 3) := by decide +kernel
theorem d_Maker_wp_98 : decode b_Maker_wp 98 = .ok (.aload_n 0, 1) := by decide +kernel
theorem d_Maker_wp_99 : decode b_Maker_wp 99 = .ok (.iload_n 1, 1) := by decide +kernel
theorem d_Maker_wp_100 : decode b_Maker_wp 100 = .ok (.invokevirtual 87, 3) := by decide +kernel
theorem d_Maker_wp_103 : decode b_Maker_wp 103 = .ok (.invokevirtual 57, 3) := by decide +kernel
theorem d_Maker_wp_106 : decode b_Maker_wp 106 = .ok (.ireturn, 1) := by decide +kernel
theorem d_Maker_wp_107 : decode b_Maker_wp 107 = .ok (.aload_n 0, 1) := by decide +kernel
theorem d_Maker_wp_108 : decode b_Maker_wp 108 = .ok (.aload_n 0, 1) := by decide +kernel
theorem d_Maker_wp_109 : decode b_Maker_wp 109 = .ok (.getfield 29, 3) := by decide +kernel
theorem d_Maker_wp_112 : decode b_Maker_wp 112 = .ok (.getfield 64, 3) := by decide +kernel
theorem d_Maker_wp_115 : decode b_Maker_wp 115 = .ok (.aload_n 0, 1) := by decide +kernel
theorem d_Maker_wp_116 : decode b_Maker_wp 116 = .ok (.getfield 29, 3) := by decide +kernel
theorem d_Maker_wp_119 : decode b_Maker_wp 119 = .ok (.getfield 67, 3) := by decide +kernel
theorem d_Maker_wp_122 : decode b_Maker_wp 122 = .ok (.iload_n 1, 1) := by decide +kernel
theorem d_Maker_wp_123 : decode b_Maker_wp 123 = .ok (.saload, 1) := by decide +kernel
theorem d_Maker_wp_124 : decode b_Maker_wp 124 = .ok (.invokevirtual 46, 3) := by decide +kernel
theorem d_Maker_wp_127 : decode b_Maker_wp 127 = .ok (.ireturn, 1) := by decide +kernel
theorem d_Maker_wp_128 : decode b_Maker_wp 128 = .ok (.aload_n 0, 1) := by decide +kernel
theorem d_Maker_wp_129 : decode b_Maker_wp 129 = .ok (.aload_n 0, 1) := by decide +kernel
theorem d_Maker_wp_130 : decode b_Maker_wp 130 = .ok (.getfield 29, 3) := by decide +kernel
theorem d_Maker_wp_133 : decode b_Maker_wp 133 = .ok (.getfield 64, 3) := by decide +kernel
theorem d_Maker_wp_136 : decode b_Maker_wp 136 = .ok (.aload_n 0, 1) := by decide +kernel
theorem d_Maker_wp_137 : decode b_Maker_wp 137 = .ok (.getfield 29, 3) := by decide +kernel
theorem d_Maker_wp_140 : decode b_Maker_wp 140 = .ok (.getfield 71, 3) := by decide +kernel
theorem d_Maker_wp_143 : decode b_Maker_wp 143 = .ok (.iload_n 1, 1) := by decide +kernel
theorem d_Maker_wp_144 : decode b_Maker_wp 144 = .ok (.saload, 1) := by decide +kernel
theorem d_Maker_wp_145 : decode b_Maker_wp 145 = .ok (.invokevirtual 46, 3) := by decide +kernel
theorem d_Maker_wp_148 : decode b_Maker_wp 148 = .ok (.ireturn, 1) := by decide +kernel
theorem d_Maker_wp_149 : decode b_Maker_wp 149 = .ok (.aload_n 0, 1) := by decide +kernel
theorem d_Maker_wp_150 : decode b_Maker_wp 150 = .ok (.iload_n 1, 1) := by decide +kernel
theorem d_Maker_wp_151 : decode b_Maker_wp 151 = .ok (.invokevirtual 87, 3) := by decide +kernel
theorem d_Maker_wp_154 : decode b_Maker_wp 154 = .ok (.ireturn, 1) := by decide +kernel
set_option maxHeartbeats 40000000 in
set_option maxRecDepth 100000 in
theorem c_K_wp (l : Launch) (s9 : Nat) (hrec : ∀ a, s9 < a → a < 20 → CWp l a) (D : va_G) (ax : Nat → ClassId) (c0 c1 : Nat) (s_made : Int32) (sd : Nat → Int32) (n0 n1 n2 n3 cp z9 : Nat) (fo fl fr : Nat → Int32) (h0 h1 h2 h3 zs cs : Nat) (so sl sr : Nat → Int32) (a0 a1 a2 a3 za ca : Nat) (ao al ar : Nat → Int32) (g0 g1 g2 g3 g4 g5 g6 g7 g8 g9 ga gb cl ln br lp va : Nat) (kd ow sb f1 f2 te kp nm ck co : Nat → Nat) (tm : Nat → Int32) (MX : Nat) (en kc : Nat → Nat) (sz tz : Nat) (hcp : 8 ≤ cp) (hz9 : z9 ≤ cp) (hmx : cp ≤ MX) (hMX : MX ≤ 100000) (hfo : bts fo cp) (hnv : ndv fo fl fr z9) (hsd : ∀ j, j ≤ 10 → trm (sd j)) (hzs : zs ≤ cs) (hcs : cs ≤ 100000) (hsv : ndv so sl sr zs) (hza : za ≤ ca) (hca : ca ≤ 100000) (hz1 : 1 ≤ za) (hz4 : za ≤ 450) (hav : ndv ao al ar za) (hat : tsn ao al ar (za - 1) ≤ 450) (hlw : lsw ln zs kd ow sb f1 f2 te kp nm en kc tm so sl sr) (hs9 : s9 < ln) (hbd : 2 * (z9 + wpw kd kc ln 460 s9) ≤ MX) : Met l y_Maker_wp (xws (.code y_Maker_wp b_Maker_wp 2 (some .int))) ({ frames := 1010 + 8 * (20 - s9), cells := MX - cp, slots := 6 * (MX - cp), locals := 21200 + 300 * (20 - s9) }) (va_Pc [.ref c0, .int (nI s9)] (xo3 D ax [(c0, .inr (3, [.ref n0, .ref c1, .ref g0, .ref a0, .int s_made])), (c1, .inl (ax 0, 16, .inl sd)), (n0, .inr (4, [.ref n1, .ref n2, .ref n3, .int (nI z9)])), (n1, .inl (ax 1, cp, .inl fo)), (n2, .inl (ax 0, cp, .inl fl)), (n3, .inl (ax 0, cp, .inl fr)), (h0, .inr (4, [.ref h1, .ref h2, .ref h3, .int (nI zs)])), (h1, .inl (ax 1, cs, .inl so)), (h2, .inl (ax 0, cs, .inl sl)), (h3, .inl (ax 0, cs, .inl sr)), (a0, .inr (4, [.ref a1, .ref a2, .ref a3, .int (nI za)])), (a1, .inl (ax 1, ca, .inl ao)), (a2, .inl (ax 0, ca, .inl al)), (a3, .inl (ax 0, ca, .inl ar)), (g0, .inr (2, [.ref h0, .ref g1, .ref g2, .ref g3, .ref g4, .ref g5, .ref g6, .ref g7, .ref g8, .ref g9, .ref ga, .ref gb, .int (nI cl), .int (nI ln), .int (nI br), .int (nI lp), .int (nI va)])), (g1, .inl (ax 1, 20, .inl (fun j => nI (kd j)))), (g2, .inl (ax 1, 20, .inl (fun j => nI (ow j)))), (g3, .inl (ax 1, 20, .inl (fun j => nI (sb j)))), (g4, .inl (ax 1, 20, .inl (fun j => nI (f1 j)))), (g5, .inl (ax 1, 20, .inl (fun j => nI (f2 j)))), (g6, .inl (ax 2, 20, .inl (fun j => nI (te j)))), (g7, .inl (ax 2, 20, .inl (fun j => nI (kp j)))), (g8, .inl (ax 0, 20, .inl tm)), (g9, .inl (ax 1, 20, .inl (fun j => nI (nm j)))), (ga, .inl (ax 1, 29, .inl (fun j => nI (ck j)))), (gb, .inl (ax 1, 29, .inl (fun j => nI (co j))))] sz tz)) ((va_Qi (fun (r : Int32) (u : Nat → Nat) => r = nI (u 5) ∧ (z9 ≤ u 3 ∧ u 3 ≤ u 4 ∧ cp ≤ u 4 ∧ u 4 ≤ MX ∧ dbl cp (u 4) ∧ u 5 < u 3 ∧ u 3 ≤ z9 + wpw kd kc ln 460 s9)) (fun (u : Nat → Nat) (t9 : State) => ∃ xsd : Nat → Int32, ∃ xfo : Nat → Int32, ∃ xfl : Nat → Int32, ∃ xfr : Nat → Int32, (t9.heap.size ≤ sz + (u 4 - cp)) ∧ (tsl t9.heap ≤ tz + (6 * (u 4 - cp))) ∧ (ndv xfo xfl xfr (u 3)) ∧ (bts xfo (u 4)) ∧ (∀ i, i < z9 → tsn xfo xfl xfr i = tsn fo fl fr i) ∧ (tsn xfo xfl xfr (u 5) + z9 ≤ u 3) ∧ (∀ j, j ≤ 10 → trm (xsd j)) ∧ va_P D classes [(c0, .inr (3, [.ref n0, .ref c1, .ref g0, .ref a0, .int s_made])), (c1, .inl (ax 0, 16, .inl xsd)), (n0, .inr (4, [.ref (u 0), .ref (u 1), .ref (u 2), .int (nI (u 3))])), (u 0, .inl (ax 1, u 4, .inl xfo)), (u 1, .inl (ax 0, u 4, .inl xfl)), (u 2, .inl (ax 0, u 4, .inl xfr)), (h0, .inr (4, [.ref h1, .ref h2, .ref h3, .int (nI zs)])), (h1, .inl (ax 1, cs, .inl so)), (h2, .inl (ax 0, cs, .inl sl)), (h3, .inl (ax 0, cs, .inl sr)), (a0, .inr (4, [.ref a1, .ref a2, .ref a3, .int (nI za)])), (a1, .inl (ax 1, ca, .inl ao)), (a2, .inl (ax 0, ca, .inl al)), (a3, .inl (ax 0, ca, .inl ar)), (g0, .inr (2, [.ref h0, .ref g1, .ref g2, .ref g3, .ref g4, .ref g5, .ref g6, .ref g7, .ref g8, .ref g9, .ref ga, .ref gb, .int (nI cl), .int (nI ln), .int (nI br), .int (nI lp), .int (nI va)])), (g1, .inl (ax 1, 20, .inl (fun j => nI (kd j)))), (g2, .inl (ax 1, 20, .inl (fun j => nI (ow j)))), (g3, .inl (ax 1, 20, .inl (fun j => nI (sb j)))), (g4, .inl (ax 1, 20, .inl (fun j => nI (f1 j)))), (g5, .inl (ax 1, 20, .inl (fun j => nI (f2 j)))), (g6, .inl (ax 2, 20, .inl (fun j => nI (te j)))), (g7, .inl (ax 2, 20, .inl (fun j => nI (kp j)))), (g8, .inl (ax 0, 20, .inl tm)), (g9, .inl (ax 1, 20, .inl (fun j => nI (nm j)))), (ga, .inl (ax 1, 29, .inl (fun j => nI (ck j)))), (gb, .inl (ax 1, 29, .inl (fun j => nI (co j))))] t9.heap ∧ va_D (va_A [(c0, .inr (3, [.ref n0, .ref c1, .ref g0, .ref a0, .int s_made])), (c1, .inl (ax 0, 16, .inl sd)), (n0, .inr (4, [.ref n1, .ref n2, .ref n3, .int (nI z9)])), (n1, .inl (ax 1, cp, .inl fo)), (n2, .inl (ax 0, cp, .inl fl)), (n3, .inl (ax 0, cp, .inl fr)), (h0, .inr (4, [.ref h1, .ref h2, .ref h3, .int (nI zs)])), (h1, .inl (ax 1, cs, .inl so)), (h2, .inl (ax 0, cs, .inl sl)), (h3, .inl (ax 0, cs, .inl sr)), (a0, .inr (4, [.ref a1, .ref a2, .ref a3, .int (nI za)])), (a1, .inl (ax 1, ca, .inl ao)), (a2, .inl (ax 0, ca, .inl al)), (a3, .inl (ax 0, ca, .inl ar)), (g0, .inr (2, [.ref h0, .ref g1, .ref g2, .ref g3, .ref g4, .ref g5, .ref g6, .ref g7, .ref g8, .ref g9, .ref ga, .ref gb, .int (nI cl), .int (nI ln), .int (nI br), .int (nI lp), .int (nI va)])), (g1, .inl (ax 1, 20, .inl (fun j => nI (kd j)))), (g2, .inl (ax 1, 20, .inl (fun j => nI (ow j)))), (g3, .inl (ax 1, 20, .inl (fun j => nI (sb j)))), (g4, .inl (ax 1, 20, .inl (fun j => nI (f1 j)))), (g5, .inl (ax 1, 20, .inl (fun j => nI (f2 j)))), (g6, .inl (ax 2, 20, .inl (fun j => nI (te j)))), (g7, .inl (ax 2, 20, .inl (fun j => nI (kp j)))), (g8, .inl (ax 0, 20, .inl tm)), (g9, .inl (ax 1, 20, .inl (fun j => nI (nm j)))), (ga, .inl (ax 1, 29, .inl (fun j => nI (ck j)))), (gb, .inl (ax 1, 29, .inl (fun j => nI (co j))))] sz) [(c0, .inr (3, [.ref n0, .ref c1, .ref g0, .ref a0, .int s_made])), (c1, .inl (ax 0, 16, .inl xsd)), (n0, .inr (4, [.ref (u 0), .ref (u 1), .ref (u 2), .int (nI (u 3))])), (u 0, .inl (ax 1, u 4, .inl xfo)), (u 1, .inl (ax 0, u 4, .inl xfl)), (u 2, .inl (ax 0, u 4, .inl xfr)), (h0, .inr (4, [.ref h1, .ref h2, .ref h3, .int (nI zs)])), (h1, .inl (ax 1, cs, .inl so)), (h2, .inl (ax 0, cs, .inl sl)), (h3, .inl (ax 0, cs, .inl sr)), (a0, .inr (4, [.ref a1, .ref a2, .ref a3, .int (nI za)])), (a1, .inl (ax 1, ca, .inl ao)), (a2, .inl (ax 0, ca, .inl al)), (a3, .inl (ax 0, ca, .inl ar)), (g0, .inr (2, [.ref h0, .ref g1, .ref g2, .ref g3, .ref g4, .ref g5, .ref g6, .ref g7, .ref g8, .ref g9, .ref ga, .ref gb, .int (nI cl), .int (nI ln), .int (nI br), .int (nI lp), .int (nI va)])), (g1, .inl (ax 1, 20, .inl (fun j => nI (kd j)))), (g2, .inl (ax 1, 20, .inl (fun j => nI (ow j)))), (g3, .inl (ax 1, 20, .inl (fun j => nI (sb j)))), (g4, .inl (ax 1, 20, .inl (fun j => nI (f1 j)))), (g5, .inl (ax 1, 20, .inl (fun j => nI (f2 j)))), (g6, .inl (ax 2, 20, .inl (fun j => nI (te j)))), (g7, .inl (ax 2, 20, .inl (fun j => nI (kp j)))), (g8, .inl (ax 0, 20, .inl tm)), (g9, .inl (ax 1, 20, .inl (fun j => nI (nm j)))), (ga, .inl (ax 1, 29, .inl (fun j => nI (ck j)))), (gb, .inl (ax 1, 29, .inl (fun j => nI (co j))))]) (va_A [(c0, .inr (3, [.ref n0, .ref c1, .ref g0, .ref a0, .int s_made])), (c1, .inl (ax 0, 16, .inl sd)), (n0, .inr (4, [.ref n1, .ref n2, .ref n3, .int (nI z9)])), (n1, .inl (ax 1, cp, .inl fo)), (n2, .inl (ax 0, cp, .inl fl)), (n3, .inl (ax 0, cp, .inl fr)), (h0, .inr (4, [.ref h1, .ref h2, .ref h3, .int (nI zs)])), (h1, .inl (ax 1, cs, .inl so)), (h2, .inl (ax 0, cs, .inl sl)), (h3, .inl (ax 0, cs, .inl sr)), (a0, .inr (4, [.ref a1, .ref a2, .ref a3, .int (nI za)])), (a1, .inl (ax 1, ca, .inl ao)), (a2, .inl (ax 0, ca, .inl al)), (a3, .inl (ax 0, ca, .inl ar)), (g0, .inr (2, [.ref h0, .ref g1, .ref g2, .ref g3, .ref g4, .ref g5, .ref g6, .ref g7, .ref g8, .ref g9, .ref ga, .ref gb, .int (nI cl), .int (nI ln), .int (nI br), .int (nI lp), .int (nI va)])), (g1, .inl (ax 1, 20, .inl (fun j => nI (kd j)))), (g2, .inl (ax 1, 20, .inl (fun j => nI (ow j)))), (g3, .inl (ax 1, 20, .inl (fun j => nI (sb j)))), (g4, .inl (ax 1, 20, .inl (fun j => nI (f1 j)))), (g5, .inl (ax 1, 20, .inl (fun j => nI (f2 j)))), (g6, .inl (ax 2, 20, .inl (fun j => nI (te j)))), (g7, .inl (ax 2, 20, .inl (fun j => nI (kp j)))), (g8, .inl (ax 0, 20, .inl tm)), (g9, .inl (ax 1, 20, .inl (fun j => nI (nm j)))), (ga, .inl (ax 1, 29, .inl (fun j => nI (ck j)))), (gb, .inl (ax 1, 29, .inl (fun j => nI (co j))))] sz))) (MX - cp) (6 * (MX - cp)) (va_A [(c0, .inr (3, [.ref n0, .ref c1, .ref g0, .ref a0, .int s_made])), (c1, .inl (ax 0, 16, .inl sd)), (n0, .inr (4, [.ref n1, .ref n2, .ref n3, .int (nI z9)])), (n1, .inl (ax 1, cp, .inl fo)), (n2, .inl (ax 0, cp, .inl fl)), (n3, .inl (ax 0, cp, .inl fr)), (h0, .inr (4, [.ref h1, .ref h2, .ref h3, .int (nI zs)])), (h1, .inl (ax 1, cs, .inl so)), (h2, .inl (ax 0, cs, .inl sl)), (h3, .inl (ax 0, cs, .inl sr)), (a0, .inr (4, [.ref a1, .ref a2, .ref a3, .int (nI za)])), (a1, .inl (ax 1, ca, .inl ao)), (a2, .inl (ax 0, ca, .inl al)), (a3, .inl (ax 0, ca, .inl ar)), (g0, .inr (2, [.ref h0, .ref g1, .ref g2, .ref g3, .ref g4, .ref g5, .ref g6, .ref g7, .ref g8, .ref g9, .ref ga, .ref gb, .int (nI cl), .int (nI ln), .int (nI br), .int (nI lp), .int (nI va)])), (g1, .inl (ax 1, 20, .inl (fun j => nI (kd j)))), (g2, .inl (ax 1, 20, .inl (fun j => nI (ow j)))), (g3, .inl (ax 1, 20, .inl (fun j => nI (sb j)))), (g4, .inl (ax 1, 20, .inl (fun j => nI (f1 j)))), (g5, .inl (ax 1, 20, .inl (fun j => nI (f2 j)))), (g6, .inl (ax 2, 20, .inl (fun j => nI (te j)))), (g7, .inl (ax 2, 20, .inl (fun j => nI (kp j)))), (g8, .inl (ax 0, 20, .inl tm)), (g9, .inl (ax 1, 20, .inl (fun j => nI (nm j)))), (ga, .inl (ax 1, 29, .inl (fun j => nI (ck j)))), (gb, .inl (ax 1, 29, .inl (fun j => nI (co j))))] sz) := by
  refine Met.ofW (cc := b_Maker_wp) (maxL := 2) (ret := (some .int)) (by decide) rfl ?_
  intro p e s m args below meth c s₁ B hml hv
  obtain ⟨rfl, ⟨hsz, hP, hK, hD0⟩, htz⟩ := hv
  have hx := B.exec
  have hb := B.bytes
  have hr := B.returns
  have hts := xw_hts B.pre
  have hown : s.vm.findClass R_Maker = some m.cls := findClass_of_methodNamed B.named
  have hlocks := B.notSynchronized
  subst hsz
  subst htz
  have hD := hD0.self (sz := s.heap.size)
  have hN := xz_entry hP
  generalize hAe : va_A [(c0, .inr (3, [.ref n0, .ref c1, .ref g0, .ref a0, .int s_made])), (c1, .inl (ax 0, 16, .inl sd)), (n0, .inr (4, [.ref n1, .ref n2, .ref n3, .int (nI z9)])), (n1, .inl (ax 1, cp, .inl fo)), (n2, .inl (ax 0, cp, .inl fl)), (n3, .inl (ax 0, cp, .inl fr)), (h0, .inr (4, [.ref h1, .ref h2, .ref h3, .int (nI zs)])), (h1, .inl (ax 1, cs, .inl so)), (h2, .inl (ax 0, cs, .inl sl)), (h3, .inl (ax 0, cs, .inl sr)), (a0, .inr (4, [.ref a1, .ref a2, .ref a3, .int (nI za)])), (a1, .inl (ax 1, ca, .inl ao)), (a2, .inl (ax 0, ca, .inl al)), (a3, .inl (ax 0, ca, .inl ar)), (g0, .inr (2, [.ref h0, .ref g1, .ref g2, .ref g3, .ref g4, .ref g5, .ref g6, .ref g7, .ref g8, .ref g9, .ref ga, .ref gb, .int (nI cl), .int (nI ln), .int (nI br), .int (nI lp), .int (nI va)])), (g1, .inl (ax 1, 20, .inl (fun j => nI (kd j)))), (g2, .inl (ax 1, 20, .inl (fun j => nI (ow j)))), (g3, .inl (ax 1, 20, .inl (fun j => nI (sb j)))), (g4, .inl (ax 1, 20, .inl (fun j => nI (f1 j)))), (g5, .inl (ax 1, 20, .inl (fun j => nI (f2 j)))), (g6, .inl (ax 2, 20, .inl (fun j => nI (te j)))), (g7, .inl (ax 2, 20, .inl (fun j => nI (kp j)))), (g8, .inl (ax 0, 20, .inl tm)), (g9, .inl (ax 1, 20, .inl (fun j => nI (nm j)))), (ga, .inl (ax 1, 29, .inl (fun j => nI (ck j)))), (gb, .inl (ax 1, 29, .inl (fun j => nI (co j))))] s.heap.size = A at hD hN ⊢
  have hA : ∀ q : Nat, s.heap.size ≤ q → A q := fun q h => by rw [← hAe]; exact Or.inr h
  have hS : va_S A s.heap s.heap [] := va_S.rf
  have hl0 := lv_entry ([.ref c0, .int (nI s9)]) (n := 2) (Nat.le_of_ble_eq_true rfl)
  rw [lg_entry_eq]
  generalize (lg_sl ([.ref c0, .int (nI s9)]) ++ List.replicate (2 - (lg_sl ([.ref c0, .int (nI s9)])).length) Slot.unset).toArray = ls at hl0 ⊢
  have hl1 : lv_has ls 2 [(0, .ref c0), (1, .int (nI s9))] := hl0
  obtain ⟨hkc, hln, hzz⟩ := hlw.bk hs9
  have hwB := wpw_B (kd := kd) (kc := kc) (n := ln) (B := 460) (s := s9 + 1)
  have hwN := wpw_no (kd := kd) (kc := kc) (B := 460) hs9
  have hkl := (hlw.k hs9).lt
  refine lv_aload_n hx hb d_Maker_wp_0 rfl (lv_at hl1 0 rfl) ?_
  refine va_get (D := D) (ci := 3) (v := .ref g0) (C := R_Maker) (T := F_Maker) (N := 5) hx hb hts i_Maker hown hK.1 hP 0 rfl rfl 2 (by decide) (hts _ wd_132) (fun _ h9 => h9) rfl d_Maker_wp_1 ?_
  refine va_get (D := D) (ci := 2) (v := .ref g1) (C := R_Listing) (T := F_Listing) (N := 17) hx hb hts i_Listing hown hK.1 hP 14 rfl rfl 1 (by decide) (hts _ wd_273) (fun _ h9 => h9) rfl d_Maker_wp_4 ?_
  refine lv_iload_n hx hb d_Maker_wp_7 rfl (lv_at hl1 1 rfl) ?_
  refine va_bald hx hb hK.1 hP 15 1 rfl rfl (vp_in_nI (by omega) (by omega)) d_Maker_wp_8 ?_
  refine W.eq (g2 := F0 m 9 ls [.int (nI (kd s9))]) (by rw [nI_clamp (by omega)]) ?_
  by_cases hw_1 : kd s9 = 2
  · refine W.eq (g2 := F0 m 9 ls [.int 2]) (by rw [hw_1]; rfl) ?_
    refine lv_lookup (off := 51) (tgt := 60) hx hb d_Maker_wp_9 (by decide) (by decide) (by decide) ?_
    have hkq : kd s9 = 2 := by omega
    refine lv_aload_n hx hb d_Maker_wp_60 rfl (lv_at hl1 0 rfl) ?_
    refine lv_iload_n hx hb d_Maker_wp_61 rfl (lv_at hl1 1 rfl) ?_
    obtain ⟨hPc, hDc, hFc, hCs⟩ := xw_sub3 (wc := [(c0, .inr (3, [.ref n0, .ref c1, .ref g0, .ref a0, .int s_made])), (c1, .inl (ax 0, 16, .inl sd)), (n0, .inr (4, [.ref n1, .ref n2, .ref n3, .int (nI z9)])), (n1, .inl (ax 1, cp, .inl fo)), (n2, .inl (ax 0, cp, .inl fl)), (n3, .inl (ax 0, cp, .inl fr)), (h0, .inr (4, [.ref h1, .ref h2, .ref h3, .int (nI zs)])), (h1, .inl (ax 1, cs, .inl so)), (h2, .inl (ax 0, cs, .inl sl)), (h3, .inl (ax 0, cs, .inl sr)), (a0, .inr (4, [.ref a1, .ref a2, .ref a3, .int (nI za)])), (a1, .inl (ax 1, ca, .inl ao)), (a2, .inl (ax 0, ca, .inl al)), (a3, .inl (ax 0, ca, .inl ar)), (g0, .inr (2, [.ref h0, .ref g1, .ref g2, .ref g3, .ref g4, .ref g5, .ref g6, .ref g7, .ref g8, .ref g9, .ref ga, .ref gb, .int (nI cl), .int (nI ln), .int (nI br), .int (nI lp), .int (nI va)])), (g1, .inl (ax 1, 20, .inl (fun j => nI (kd j)))), (g2, .inl (ax 1, 20, .inl (fun j => nI (ow j)))), (g3, .inl (ax 1, 20, .inl (fun j => nI (sb j)))), (g4, .inl (ax 1, 20, .inl (fun j => nI (f1 j)))), (g5, .inl (ax 1, 20, .inl (fun j => nI (f2 j)))), (g6, .inl (ax 2, 20, .inl (fun j => nI (te j)))), (g7, .inl (ax 2, 20, .inl (fun j => nI (kp j)))), (g8, .inl (ax 0, 20, .inl tm)), (g9, .inl (ax 1, 20, .inl (fun j => nI (nm j)))), (ga, .inl (ax 1, 29, .inl (fun j => nI (ck j)))), (gb, .inl (ax 1, 29, .inl (fun j => nI (co j))))]) hP hD hS hA [0, 1, 2, 3, 4, 5, 6, 7, 8, 9, 10, 11, 12, 13, 14, 15, 16, 17, 18, 19, 20, 21, 22, 23, 24, 25] (by decide) rfl
    have hz := xz_of hN hS
    refine wk_know (fun hk8 hk9 => ?_)
    refine va_calli (va_runV (As := [.int (nI s9)]) (rest := []) ⟨hx, hb, hml, hown, hts⟩ (c_K_wpOfAssignment l s9 hrec D ax c0 c1 s_made sd n0 n1 n2 n3 cp z9 fo fl fr h0 h1 h2 h3 zs cs so sl sr a0 a1 a2 a3 za ca ao al ar g0 g1 g2 g3 g4 g5 g6 g7 g8 g9 ga gb cl ln br lp va kd ow sb f1 f2 te kp nm ck co tm MX en kc s.heap.size (tsl s.heap) (by omega) (by omega) (by omega) hMX (by assumption) (by assumption) (by assumption) hzs hcs hsv hza hca hz1 hz4 hav hat hlw hkq hs9 hbd) (xcV (n := 1) hts wd_797 wd_4 wd_794 wd_796 ps_28 rfl rfl (by decide +kernel) ⟨(show (1009 + 8 * (20 - s9)) + 1 ≤ (1010 + 8 * (20 - s9)) by omega), (show 8 + (5 + 11) + (21170 + 300 * (20 - s9)) ≤ (21200 + 300 * (20 - s9)) by omega)⟩) (xpV3 (ci := 3) (q0 := 0) (As := [.int (nI s9)]) hPc hK hz hDc rfl rfl) rfl rfl hl1.1 rfl (lv_room (Nat.le_of_ble_eq_true rfl)) d_Maker_wp_62 ⟨(show (0) + (MX - cp) ≤ (MX - cp) by omega), (show (0) + (6 * (MX - cp)) ≤ (6 * (MX - cp)) by omega)⟩) hS (fun q _ h => hFc q h) hFc (fun r_4 u_2 t H_3 locs ht hvm hw hB hz1 hk1 hS1 => ?_)
    try dsimp only at hw
    obtain ⟨hw, hs_5, hs_6, hs_7, hs_8, hs_9, hs_10, hs_11⟩ := hw
    subst hw
    obtain ⟨x_12, x_13, x_14, x_15, hg8, hg9, hx_16, hx_17, hx_18, hx_19, hx_20, hP1, hD1⟩ := hB
    rw [ht] at hg8 hg9 hP1
    have hjn := xw_join3 (wl := [(c0, .inr (3, [.ref n0, .ref c1, .ref g0, .ref a0, .int s_made])), (c1, .inl (ax 0, 16, .inl x_12)), (n0, .inr (4, [.ref (u_2 0), .ref (u_2 1), .ref (u_2 2), .int (nI (u_2 3))])), ((u_2 0), .inl (ax 1, u_2 4, .inl x_13)), ((u_2 1), .inl (ax 0, u_2 4, .inl x_14)), ((u_2 2), .inl (ax 0, u_2 4, .inl x_15)), (h0, .inr (4, [.ref h1, .ref h2, .ref h3, .int (nI zs)])), (h1, .inl (ax 1, cs, .inl so)), (h2, .inl (ax 0, cs, .inl sl)), (h3, .inl (ax 0, cs, .inl sr)), (a0, .inr (4, [.ref a1, .ref a2, .ref a3, .int (nI za)])), (a1, .inl (ax 1, ca, .inl ao)), (a2, .inl (ax 0, ca, .inl al)), (a3, .inl (ax 0, ca, .inl ar)), (g0, .inr (2, [.ref h0, .ref g1, .ref g2, .ref g3, .ref g4, .ref g5, .ref g6, .ref g7, .ref g8, .ref g9, .ref ga, .ref gb, .int (nI cl), .int (nI ln), .int (nI br), .int (nI lp), .int (nI va)])), (g1, .inl (ax 1, 20, .inl (fun j => nI (kd j)))), (g2, .inl (ax 1, 20, .inl (fun j => nI (ow j)))), (g3, .inl (ax 1, 20, .inl (fun j => nI (sb j)))), (g4, .inl (ax 1, 20, .inl (fun j => nI (f1 j)))), (g5, .inl (ax 1, 20, .inl (fun j => nI (f2 j)))), (g6, .inl (ax 2, 20, .inl (fun j => nI (te j)))), (g7, .inl (ax 2, 20, .inl (fun j => nI (kp j)))), (g8, .inl (ax 0, 20, .inl tm)), (g9, .inl (ax 1, 20, .inl (fun j => nI (nm j)))), (ga, .inl (ax 1, 29, .inl (fun j => nI (ck j)))), (gb, .inl (ax 1, 29, .inl (fun j => nI (co j))))]) hP hD [0, 1, 2, 3, 4, 5, 6, 7, 8, 9, 10, 11, 12, 13, 14, 15, 16, 17, 18, 19, 20, 21, 22, 23, 24, 25] [] hCs (by decide) (by decide) hk1 hFc hP1 hD1 rfl
    clear hP1 hD1
    clear hPc hDc hFc hCs hz hz1 hk1 ht hvm
    clear hP hD hS
    have hS := hS1
    obtain ⟨hP, hD⟩ := hjn
    clear hS1
    refine wk_narrow (k := u_2 4 - cp) (n := 6 * (u_2 4 - cp)) (by omega) (by omega) ?_
    clear hk8 hk9 hg8 hg9
    have hK_21 : ∀ i, i < z9 → tsn x_13 x_14 x_15 i = tsn fo fl fr i := fun i hi => hx_18 i hi
    refine wk_know (fun hk8 hk9 => ?_)
    refine W.widen (k := MX - cp) (n := 6 * (MX - cp)) (by omega) (by omega) ?_
    obtain ⟨hP9, hD9⟩ := xw_sub2 (wc := (fun (u : Nat → Nat) (xsd : Nat → Int32) (xfo : Nat → Int32) (xfl : Nat → Int32) (xfr : Nat → Int32) => [(c0, .inr (3, [.ref n0, .ref c1, .ref g0, .ref a0, .int s_made])), (c1, .inl (ax 0, 16, .inl xsd)), (n0, .inr (4, [.ref (u 0), .ref (u 1), .ref (u 2), .int (nI (u 3))])), (u 0, .inl (ax 1, u 4, .inl xfo)), (u 1, .inl (ax 0, u 4, .inl xfl)), (u 2, .inl (ax 0, u 4, .inl xfr)), (h0, .inr (4, [.ref h1, .ref h2, .ref h3, .int (nI zs)])), (h1, .inl (ax 1, cs, .inl so)), (h2, .inl (ax 0, cs, .inl sl)), (h3, .inl (ax 0, cs, .inl sr)), (a0, .inr (4, [.ref a1, .ref a2, .ref a3, .int (nI za)])), (a1, .inl (ax 1, ca, .inl ao)), (a2, .inl (ax 0, ca, .inl al)), (a3, .inl (ax 0, ca, .inl ar)), (g0, .inr (2, [.ref h0, .ref g1, .ref g2, .ref g3, .ref g4, .ref g5, .ref g6, .ref g7, .ref g8, .ref g9, .ref ga, .ref gb, .int (nI cl), .int (nI ln), .int (nI br), .int (nI lp), .int (nI va)])), (g1, .inl (ax 1, 20, .inl (fun j => nI (kd j)))), (g2, .inl (ax 1, 20, .inl (fun j => nI (ow j)))), (g3, .inl (ax 1, 20, .inl (fun j => nI (sb j)))), (g4, .inl (ax 1, 20, .inl (fun j => nI (f1 j)))), (g5, .inl (ax 1, 20, .inl (fun j => nI (f2 j)))), (g6, .inl (ax 2, 20, .inl (fun j => nI (te j)))), (g7, .inl (ax 2, 20, .inl (fun j => nI (kp j)))), (g8, .inl (ax 0, 20, .inl tm)), (g9, .inl (ax 1, 20, .inl (fun j => nI (nm j)))), (ga, .inl (ax 1, 29, .inl (fun j => nI (ck j)))), (gb, .inl (ax 1, 29, .inl (fun j => nI (co j))))]) (ixn [(u_2 0), (u_2 1), (u_2 2), (u_2 3), (u_2 4), (u_2 5)]) x_12 x_13 x_14 x_15) hP hD [0, 1, 2, 3, 4, 5, 6, 7, 8, 9, 10, 11, 12, 13, 14, 15, 16, 17, 18, 19, 20, 21, 22, 23, 24, 25] (by decide) rfl
    have hex0 : ndv x_13 x_14 x_15 ((u_2 3)) := hx_16
    have hex1 : bts x_13 ((u_2 4)) := (by assumption)
    have hex2 : ∀ i, i < z9 → tsn x_13 x_14 x_15 i = tsn fo fl fr i := hK_21
    have hex3 : tsn x_13 x_14 x_15 ((u_2 5)) + z9 ≤ (u_2 3) := (by omega)
    have hex4 : ∀ j, j ≤ 10 → trm (x_12 j) := hx_20
    have hg8 : H_3.size ≤ s.heap.size + ((u_2 4) - cp) := by omega
    have hg9 : tsl H_3 ≤ tsl s.heap + (6 * ((u_2 4) - cp)) := by omega
    have hsp0 : z9 ≤ (u_2 3) := (by omega)
    have hsp1 : (u_2 3) ≤ (u_2 4) := (by omega)
    have hsp2 : cp ≤ (u_2 4) := (by omega)
    have hsp3 : (u_2 4) ≤ MX := (by omega)
    have hsp4 : dbl cp ((u_2 4)) := hs_9
    have hsp5 : (u_2 5) < (u_2 3) := (by omega)
    have hsp6 : (u_2 3) ≤ z9 + wpw kd kc ln 460 s9 := (by omega)
    exact W.iret (v := nI (u_2 5)) hx hb hr (fun t ht hW => ⟨⟨nI (u_2 5), ixn [(u_2 0), (u_2 1), (u_2 2), (u_2 3), (u_2 4), (u_2 5)], rfl, ⟨rfl, ⟨hsp0, hsp1, hsp2, hsp3, hsp4, hsp5, hsp6⟩⟩, ⟨x_12, x_13, x_14, x_15, by rw [ht]; exact hg8, by rw [ht]; exact hg9, hex0, hex1, hex2, hex3, hex4, by rw [ht]; exact hP9, hD9⟩⟩, hS.F ht⟩) hS.2.2 d_Maker_wp_65
  by_cases hw_22 : kd s9 = 8
  · refine W.eq (g2 := F0 m 9 ls [.int 8]) (by rw [hw_22]; rfl) ?_
    refine lv_lookup (off := 57) (tgt := 66) hx hb d_Maker_wp_9 (by decide) (by decide) (by decide) ?_
    have hkq : kd s9 = 8 := by omega
    refine lv_aload_n hx hb d_Maker_wp_66 rfl (lv_at hl1 0 rfl) ?_
    refine lv_iload_n hx hb d_Maker_wp_67 rfl (lv_at hl1 1 rfl) ?_
    obtain ⟨hPc, hDc, hFc, hCs⟩ := xw_sub3 (wc := [(c0, .inr (3, [.ref n0, .ref c1, .ref g0, .ref a0, .int s_made])), (c1, .inl (ax 0, 16, .inl sd)), (n0, .inr (4, [.ref n1, .ref n2, .ref n3, .int (nI z9)])), (n1, .inl (ax 1, cp, .inl fo)), (n2, .inl (ax 0, cp, .inl fl)), (n3, .inl (ax 0, cp, .inl fr)), (h0, .inr (4, [.ref h1, .ref h2, .ref h3, .int (nI zs)])), (h1, .inl (ax 1, cs, .inl so)), (h2, .inl (ax 0, cs, .inl sl)), (h3, .inl (ax 0, cs, .inl sr)), (a0, .inr (4, [.ref a1, .ref a2, .ref a3, .int (nI za)])), (a1, .inl (ax 1, ca, .inl ao)), (a2, .inl (ax 0, ca, .inl al)), (a3, .inl (ax 0, ca, .inl ar)), (g0, .inr (2, [.ref h0, .ref g1, .ref g2, .ref g3, .ref g4, .ref g5, .ref g6, .ref g7, .ref g8, .ref g9, .ref ga, .ref gb, .int (nI cl), .int (nI ln), .int (nI br), .int (nI lp), .int (nI va)])), (g1, .inl (ax 1, 20, .inl (fun j => nI (kd j)))), (g2, .inl (ax 1, 20, .inl (fun j => nI (ow j)))), (g3, .inl (ax 1, 20, .inl (fun j => nI (sb j)))), (g4, .inl (ax 1, 20, .inl (fun j => nI (f1 j)))), (g5, .inl (ax 1, 20, .inl (fun j => nI (f2 j)))), (g6, .inl (ax 2, 20, .inl (fun j => nI (te j)))), (g7, .inl (ax 2, 20, .inl (fun j => nI (kp j)))), (g8, .inl (ax 0, 20, .inl tm)), (g9, .inl (ax 1, 20, .inl (fun j => nI (nm j)))), (ga, .inl (ax 1, 29, .inl (fun j => nI (ck j)))), (gb, .inl (ax 1, 29, .inl (fun j => nI (co j))))]) hP hD hS hA [0, 1, 2, 3, 4, 5, 6, 7, 8, 9, 10, 11, 12, 13, 14, 15, 16, 17, 18, 19, 20, 21, 22, 23, 24, 25] (by decide) rfl
    have hz := xz_of hN hS
    refine wk_know (fun hk8 hk9 => ?_)
    refine va_calli (va_runV (As := [.int (nI s9)]) (rest := []) ⟨hx, hb, hml, hown, hts⟩ (c_K_wpOfBranch l s9 hrec D ax c0 c1 s_made sd n0 n1 n2 n3 cp z9 fo fl fr h0 h1 h2 h3 zs cs so sl sr a0 a1 a2 a3 za ca ao al ar g0 g1 g2 g3 g4 g5 g6 g7 g8 g9 ga gb cl ln br lp va kd ow sb f1 f2 te kp nm ck co tm MX en kc s.heap.size (tsl s.heap) (by omega) (by omega) (by omega) hMX (by assumption) (by assumption) (by assumption) hzs hcs hsv hza hca hz1 hz4 hav hat hlw hkq hs9 hbd) (xcV (n := 1) hts wd_813 wd_4 wd_810 wd_812 ps_31 rfl rfl (by decide +kernel) ⟨(show (1009 + 8 * (20 - s9)) + 1 ≤ (1010 + 8 * (20 - s9)) by omega), (show 8 + (5 + 11) + (21170 + 300 * (20 - s9)) ≤ (21200 + 300 * (20 - s9)) by omega)⟩) (xpV3 (ci := 3) (q0 := 0) (As := [.int (nI s9)]) hPc hK hz hDc rfl rfl) rfl rfl hl1.1 rfl (lv_room (Nat.le_of_ble_eq_true rfl)) d_Maker_wp_68 ⟨(show (0) + (MX - cp) ≤ (MX - cp) by omega), (show (0) + (6 * (MX - cp)) ≤ (6 * (MX - cp)) by omega)⟩) hS (fun q _ h => hFc q h) hFc (fun r_25 u_23 t H_24 locs ht hvm hw hB hz1 hk1 hS1 => ?_)
    try dsimp only at hw
    obtain ⟨hw, hs_26, hs_27, hs_28, hs_29, hs_30, hs_31, hs_32⟩ := hw
    subst hw
    obtain ⟨x_33, x_34, x_35, x_36, hg8, hg9, hx_37, hx_38, hx_39, hx_40, hx_41, hP1, hD1⟩ := hB
    rw [ht] at hg8 hg9 hP1
    have hjn := xw_join3 (wl := [(c0, .inr (3, [.ref n0, .ref c1, .ref g0, .ref a0, .int s_made])), (c1, .inl (ax 0, 16, .inl x_33)), (n0, .inr (4, [.ref (u_23 0), .ref (u_23 1), .ref (u_23 2), .int (nI (u_23 3))])), ((u_23 0), .inl (ax 1, u_23 4, .inl x_34)), ((u_23 1), .inl (ax 0, u_23 4, .inl x_35)), ((u_23 2), .inl (ax 0, u_23 4, .inl x_36)), (h0, .inr (4, [.ref h1, .ref h2, .ref h3, .int (nI zs)])), (h1, .inl (ax 1, cs, .inl so)), (h2, .inl (ax 0, cs, .inl sl)), (h3, .inl (ax 0, cs, .inl sr)), (a0, .inr (4, [.ref a1, .ref a2, .ref a3, .int (nI za)])), (a1, .inl (ax 1, ca, .inl ao)), (a2, .inl (ax 0, ca, .inl al)), (a3, .inl (ax 0, ca, .inl ar)), (g0, .inr (2, [.ref h0, .ref g1, .ref g2, .ref g3, .ref g4, .ref g5, .ref g6, .ref g7, .ref g8, .ref g9, .ref ga, .ref gb, .int (nI cl), .int (nI ln), .int (nI br), .int (nI lp), .int (nI va)])), (g1, .inl (ax 1, 20, .inl (fun j => nI (kd j)))), (g2, .inl (ax 1, 20, .inl (fun j => nI (ow j)))), (g3, .inl (ax 1, 20, .inl (fun j => nI (sb j)))), (g4, .inl (ax 1, 20, .inl (fun j => nI (f1 j)))), (g5, .inl (ax 1, 20, .inl (fun j => nI (f2 j)))), (g6, .inl (ax 2, 20, .inl (fun j => nI (te j)))), (g7, .inl (ax 2, 20, .inl (fun j => nI (kp j)))), (g8, .inl (ax 0, 20, .inl tm)), (g9, .inl (ax 1, 20, .inl (fun j => nI (nm j)))), (ga, .inl (ax 1, 29, .inl (fun j => nI (ck j)))), (gb, .inl (ax 1, 29, .inl (fun j => nI (co j))))]) hP hD [0, 1, 2, 3, 4, 5, 6, 7, 8, 9, 10, 11, 12, 13, 14, 15, 16, 17, 18, 19, 20, 21, 22, 23, 24, 25] [] hCs (by decide) (by decide) hk1 hFc hP1 hD1 rfl
    clear hP1 hD1
    clear hPc hDc hFc hCs hz hz1 hk1 ht hvm
    clear hP hD hS
    have hS := hS1
    obtain ⟨hP, hD⟩ := hjn
    clear hS1
    refine wk_narrow (k := u_23 4 - cp) (n := 6 * (u_23 4 - cp)) (by omega) (by omega) ?_
    clear hk8 hk9 hg8 hg9
    have hK_42 : ∀ i, i < z9 → tsn x_34 x_35 x_36 i = tsn fo fl fr i := fun i hi => hx_39 i hi
    refine wk_know (fun hk8 hk9 => ?_)
    refine W.widen (k := MX - cp) (n := 6 * (MX - cp)) (by omega) (by omega) ?_
    obtain ⟨hP9, hD9⟩ := xw_sub2 (wc := (fun (u : Nat → Nat) (xsd : Nat → Int32) (xfo : Nat → Int32) (xfl : Nat → Int32) (xfr : Nat → Int32) => [(c0, .inr (3, [.ref n0, .ref c1, .ref g0, .ref a0, .int s_made])), (c1, .inl (ax 0, 16, .inl xsd)), (n0, .inr (4, [.ref (u 0), .ref (u 1), .ref (u 2), .int (nI (u 3))])), (u 0, .inl (ax 1, u 4, .inl xfo)), (u 1, .inl (ax 0, u 4, .inl xfl)), (u 2, .inl (ax 0, u 4, .inl xfr)), (h0, .inr (4, [.ref h1, .ref h2, .ref h3, .int (nI zs)])), (h1, .inl (ax 1, cs, .inl so)), (h2, .inl (ax 0, cs, .inl sl)), (h3, .inl (ax 0, cs, .inl sr)), (a0, .inr (4, [.ref a1, .ref a2, .ref a3, .int (nI za)])), (a1, .inl (ax 1, ca, .inl ao)), (a2, .inl (ax 0, ca, .inl al)), (a3, .inl (ax 0, ca, .inl ar)), (g0, .inr (2, [.ref h0, .ref g1, .ref g2, .ref g3, .ref g4, .ref g5, .ref g6, .ref g7, .ref g8, .ref g9, .ref ga, .ref gb, .int (nI cl), .int (nI ln), .int (nI br), .int (nI lp), .int (nI va)])), (g1, .inl (ax 1, 20, .inl (fun j => nI (kd j)))), (g2, .inl (ax 1, 20, .inl (fun j => nI (ow j)))), (g3, .inl (ax 1, 20, .inl (fun j => nI (sb j)))), (g4, .inl (ax 1, 20, .inl (fun j => nI (f1 j)))), (g5, .inl (ax 1, 20, .inl (fun j => nI (f2 j)))), (g6, .inl (ax 2, 20, .inl (fun j => nI (te j)))), (g7, .inl (ax 2, 20, .inl (fun j => nI (kp j)))), (g8, .inl (ax 0, 20, .inl tm)), (g9, .inl (ax 1, 20, .inl (fun j => nI (nm j)))), (ga, .inl (ax 1, 29, .inl (fun j => nI (ck j)))), (gb, .inl (ax 1, 29, .inl (fun j => nI (co j))))]) (ixn [(u_23 0), (u_23 1), (u_23 2), (u_23 3), (u_23 4), (u_23 5)]) x_33 x_34 x_35 x_36) hP hD [0, 1, 2, 3, 4, 5, 6, 7, 8, 9, 10, 11, 12, 13, 14, 15, 16, 17, 18, 19, 20, 21, 22, 23, 24, 25] (by decide) rfl
    have hex0 : ndv x_34 x_35 x_36 ((u_23 3)) := hx_37
    have hex1 : bts x_34 ((u_23 4)) := (by assumption)
    have hex2 : ∀ i, i < z9 → tsn x_34 x_35 x_36 i = tsn fo fl fr i := hK_42
    have hex3 : tsn x_34 x_35 x_36 ((u_23 5)) + z9 ≤ (u_23 3) := (by omega)
    have hex4 : ∀ j, j ≤ 10 → trm (x_33 j) := hx_41
    have hg8 : H_24.size ≤ s.heap.size + ((u_23 4) - cp) := by omega
    have hg9 : tsl H_24 ≤ tsl s.heap + (6 * ((u_23 4) - cp)) := by omega
    have hsp0 : z9 ≤ (u_23 3) := (by omega)
    have hsp1 : (u_23 3) ≤ (u_23 4) := (by omega)
    have hsp2 : cp ≤ (u_23 4) := (by omega)
    have hsp3 : (u_23 4) ≤ MX := (by omega)
    have hsp4 : dbl cp ((u_23 4)) := hs_30
    have hsp5 : (u_23 5) < (u_23 3) := (by omega)
    have hsp6 : (u_23 3) ≤ z9 + wpw kd kc ln 460 s9 := (by omega)
    exact W.iret (v := nI (u_23 5)) hx hb hr (fun t ht hW => ⟨⟨nI (u_23 5), ixn [(u_23 0), (u_23 1), (u_23 2), (u_23 3), (u_23 4), (u_23 5)], rfl, ⟨rfl, ⟨hsp0, hsp1, hsp2, hsp3, hsp4, hsp5, hsp6⟩⟩, ⟨x_33, x_34, x_35, x_36, by rw [ht]; exact hg8, by rw [ht]; exact hg9, hex0, hex1, hex2, hex3, hex4, by rw [ht]; exact hP9, hD9⟩⟩, hS.F ht⟩) hS.2.2 d_Maker_wp_71
  by_cases hw_43 : kd s9 = 12
  · refine W.eq (g2 := F0 m 9 ls [.int 12]) (by rw [hw_43]; rfl) ?_
    refine lv_lookup (off := 119) (tgt := 128) hx hb d_Maker_wp_9 (by decide) (by decide) (by decide) ?_
    have hkq : kd s9 = 12 := by omega
    obtain ⟨hte, hkp, htk, hf1a, hf1b, hnm⟩ := hlw.wh hs9 hkq
    clear hnm
    refine lv_aload_n hx hb d_Maker_wp_128 rfl (lv_at hl1 0 rfl) ?_
    refine lv_aload_n hx hb d_Maker_wp_129 rfl (lv_at hl1 0 rfl) ?_
    refine va_get (D := D) (ci := 3) (v := .ref g0) (C := R_Maker) (T := F_Maker) (N := 5) hx hb hts i_Maker hown hK.1 hP 0 rfl rfl 2 (by decide) (hts _ wd_132) (fun _ h9 => h9) rfl d_Maker_wp_130 ?_
    refine va_get (D := D) (ci := 2) (v := .ref h0) (C := R_Listing) (T := F_Listing) (N := 17) hx hb hts i_Listing hown hK.1 hP 14 rfl rfl 0 (by decide) (hts _ wd_269) (fun _ h9 => h9) rfl d_Maker_wp_133 ?_
    refine lv_aload_n hx hb d_Maker_wp_136 rfl (lv_at hl1 0 rfl) ?_
    refine va_get (D := D) (ci := 3) (v := .ref g0) (C := R_Maker) (T := F_Maker) (N := 5) hx hb hts i_Maker hown hK.1 hP 0 rfl rfl 2 (by decide) (hts _ wd_132) (fun _ h9 => h9) rfl d_Maker_wp_137 ?_
    refine va_get (D := D) (ci := 2) (v := .ref g7) (C := R_Listing) (T := F_Listing) (N := 17) hx hb hts i_Listing hown hK.1 hP 14 rfl rfl 7 (by decide) (hts _ wd_290) (fun _ h9 => h9) rfl d_Maker_wp_140 ?_
    refine lv_iload_n hx hb d_Maker_wp_143 rfl (lv_at hl1 1 rfl) ?_
    refine va_sald hx hb hK.1 hP 21 2 rfl rfl (vp_in_nI (by omega) (by omega)) d_Maker_wp_144 ?_
    refine W.eq (g2 := F0 m 145 ls [.int (nI (kp s9)), .ref h0, .ref c0]) (by rw [nI_clamp (by omega)]) ?_
    obtain ⟨hPc, hDc, hFc, hCs⟩ := xw_sub3 (wc := [(c0, .inr (3, [.ref n0, .ref c1, (.ref g0), (.ref a0), .int s_made])), (c1, .inl (ax 0, 16, .inl sd)), (n0, .inr (4, [.ref n1, .ref n2, .ref n3, .int (nI z9)])), (n1, .inl (ax 1, cp, .inl fo)), (n2, .inl (ax 0, cp, .inl fl)), (n3, .inl (ax 0, cp, .inl fr)), (h0, .inr (4, [.ref h1, .ref h2, .ref h3, .int (nI zs)])), (h1, .inl (ax 1, cs, .inl so)), (h2, .inl (ax 0, cs, .inl sl)), (h3, .inl (ax 0, cs, .inl sr))]) hP hD hS hA [0, 1, 2, 3, 4, 5, 6, 7, 8, 9] (by decide) rfl
    have hz := xz_of hN hS
    refine wk_know (fun hk8 hk9 => ?_)
    refine va_calli (va_runV (As := [.ref h0, .int (nI (kp s9))]) (rest := []) ⟨hx, hb, hml, hown, hts⟩ ((K_copy_all l (kp s9)) D ax c0 c1 (.ref g0) (.ref a0) s_made sd n0 n1 n2 n3 cp z9 fo fl fr h0 h1 h2 h3 zs cs so sl sr MX s.heap.size (tsl s.heap) (by omega) (by omega) (by omega) (by omega) (by assumption) (by assumption) (by assumption) hzs hcs (by omega) hsv (by omega)) (xcV (n := 2) hts wd_776 wd_4 wd_773 wd_775 ps_23 rfl rfl (by decide +kernel) ⟨(show (50 + 2 * (kp s9)) + 1 ≤ (1010 + 8 * (20 - s9)) by omega), (show 8 + (5 + 11) + (2000 + 40 * (kp s9)) ≤ (21200 + 300 * (20 - s9)) by omega)⟩) (xpV3 (ci := 3) (q0 := 0) (As := [.ref h0, .int (nI (kp s9))]) hPc hK hz hDc rfl rfl) rfl rfl hl1.1 rfl (lv_room (Nat.le_of_ble_eq_true rfl)) d_Maker_wp_145 ⟨(show (0) + (MX - cp) ≤ (MX - cp) by omega), (show (0) + (6 * (MX - cp)) ≤ (6 * (MX - cp)) by omega)⟩) hS (fun q _ h => hFc q h) hFc (fun r_46 u_44 t H_45 locs ht hvm hw hB hz1 hk1 hS1 => ?_)
    try dsimp only at hw
    obtain ⟨hw, hs_47, hs_48, hs_49, hs_50, hs_51, hs_52, hs_53⟩ := hw
    subst hw
    obtain ⟨x_54, x_55, x_56, hg8, hg9, hx_57, hx_58, hx_59, hx_60, hP1, hD1⟩ := hB
    rw [ht] at hg8 hg9 hP1
    have hjn := xw_join3 (wl := [(a0, .inr (4, [.ref a1, .ref a2, .ref a3, .int (nI za)])), (a1, .inl (ax 1, ca, .inl ao)), (a2, .inl (ax 0, ca, .inl al)), (a3, .inl (ax 0, ca, .inl ar)), (g0, .inr (2, [.ref h0, .ref g1, .ref g2, .ref g3, .ref g4, .ref g5, .ref g6, .ref g7, .ref g8, .ref g9, .ref ga, .ref gb, .int (nI cl), .int (nI ln), .int (nI br), .int (nI lp), .int (nI va)])), (g1, .inl (ax 1, 20, .inl (fun j => nI (kd j)))), (g2, .inl (ax 1, 20, .inl (fun j => nI (ow j)))), (g3, .inl (ax 1, 20, .inl (fun j => nI (sb j)))), (g4, .inl (ax 1, 20, .inl (fun j => nI (f1 j)))), (g5, .inl (ax 1, 20, .inl (fun j => nI (f2 j)))), (g6, .inl (ax 2, 20, .inl (fun j => nI (te j)))), (g7, .inl (ax 2, 20, .inl (fun j => nI (kp j)))), (g8, .inl (ax 0, 20, .inl tm)), (g9, .inl (ax 1, 20, .inl (fun j => nI (nm j)))), (ga, .inl (ax 1, 29, .inl (fun j => nI (ck j)))), (gb, .inl (ax 1, 29, .inl (fun j => nI (co j)))), (c0, .inr (3, [.ref n0, .ref c1, .ref g0, .ref a0, .int s_made])), (c1, .inl (ax 0, 16, .inl sd)), (n0, .inr (4, [.ref (u_44 0), .ref (u_44 1), .ref (u_44 2), .int (nI (u_44 3))])), ((u_44 0), .inl (ax 1, u_44 4, .inl x_54)), ((u_44 1), .inl (ax 0, u_44 4, .inl x_55)), ((u_44 2), .inl (ax 0, u_44 4, .inl x_56)), (h0, .inr (4, [.ref h1, .ref h2, .ref h3, .int (nI zs)])), (h1, .inl (ax 1, cs, .inl so)), (h2, .inl (ax 0, cs, .inl sl)), (h3, .inl (ax 0, cs, .inl sr))]) hP hD [0, 1, 2, 3, 4, 5, 6, 7, 8, 9] [10, 11, 12, 13, 14, 15, 16, 17, 18, 19, 20, 21, 22, 23, 24, 25] hCs (by decide) (by decide) hk1 hFc hP1 hD1 rfl
    clear hP1 hD1
    clear hPc hDc hFc hCs hz hz1 hk1 ht hvm
    clear hP hD hS
    have hS := hS1
    obtain ⟨hP, hD⟩ := hjn
    clear hS1
    refine wk_narrow (k := u_44 4 - cp) (n := 6 * (u_44 4 - cp)) (by omega) (by omega) ?_
    clear hk8 hk9 hg8 hg9
    have hK_61 : ∀ i, i < z9 → tsn x_54 x_55 x_56 i = tsn fo fl fr i := fun i hi => hx_59 i hi
    refine wk_know (fun hk8 hk9 => ?_)
    refine W.widen (k := MX - cp) (n := 6 * (MX - cp)) (by omega) (by omega) ?_
    obtain ⟨hP9, hD9⟩ := xw_sub2 (wc := (fun (u : Nat → Nat) (xsd : Nat → Int32) (xfo : Nat → Int32) (xfl : Nat → Int32) (xfr : Nat → Int32) => [(c0, .inr (3, [.ref n0, .ref c1, .ref g0, .ref a0, .int s_made])), (c1, .inl (ax 0, 16, .inl xsd)), (n0, .inr (4, [.ref (u 0), .ref (u 1), .ref (u 2), .int (nI (u 3))])), (u 0, .inl (ax 1, u 4, .inl xfo)), (u 1, .inl (ax 0, u 4, .inl xfl)), (u 2, .inl (ax 0, u 4, .inl xfr)), (h0, .inr (4, [.ref h1, .ref h2, .ref h3, .int (nI zs)])), (h1, .inl (ax 1, cs, .inl so)), (h2, .inl (ax 0, cs, .inl sl)), (h3, .inl (ax 0, cs, .inl sr)), (a0, .inr (4, [.ref a1, .ref a2, .ref a3, .int (nI za)])), (a1, .inl (ax 1, ca, .inl ao)), (a2, .inl (ax 0, ca, .inl al)), (a3, .inl (ax 0, ca, .inl ar)), (g0, .inr (2, [.ref h0, .ref g1, .ref g2, .ref g3, .ref g4, .ref g5, .ref g6, .ref g7, .ref g8, .ref g9, .ref ga, .ref gb, .int (nI cl), .int (nI ln), .int (nI br), .int (nI lp), .int (nI va)])), (g1, .inl (ax 1, 20, .inl (fun j => nI (kd j)))), (g2, .inl (ax 1, 20, .inl (fun j => nI (ow j)))), (g3, .inl (ax 1, 20, .inl (fun j => nI (sb j)))), (g4, .inl (ax 1, 20, .inl (fun j => nI (f1 j)))), (g5, .inl (ax 1, 20, .inl (fun j => nI (f2 j)))), (g6, .inl (ax 2, 20, .inl (fun j => nI (te j)))), (g7, .inl (ax 2, 20, .inl (fun j => nI (kp j)))), (g8, .inl (ax 0, 20, .inl tm)), (g9, .inl (ax 1, 20, .inl (fun j => nI (nm j)))), (ga, .inl (ax 1, 29, .inl (fun j => nI (ck j)))), (gb, .inl (ax 1, 29, .inl (fun j => nI (co j))))]) (ixn [(u_44 0), (u_44 1), (u_44 2), (u_44 3), (u_44 4), (u_44 5)]) sd x_54 x_55 x_56) hP hD [16, 17, 18, 19, 20, 21, 22, 23, 24, 25, 0, 1, 2, 3, 4, 5, 6, 7, 8, 9, 10, 11, 12, 13, 14, 15] (by decide) rfl
    have hex0 : ndv x_54 x_55 x_56 ((u_44 3)) := hx_57
    have hex1 : bts x_54 ((u_44 4)) := (by assumption)
    have hex2 : ∀ i, i < z9 → tsn x_54 x_55 x_56 i = tsn fo fl fr i := hK_61
    have hex3 : tsn x_54 x_55 x_56 ((u_44 5)) + z9 ≤ (u_44 3) := (by omega)
    have hex4 : ∀ j, j ≤ 10 → trm (sd j) := hsd
    have hg8 : H_45.size ≤ s.heap.size + ((u_44 4) - cp) := by omega
    have hg9 : tsl H_45 ≤ tsl s.heap + (6 * ((u_44 4) - cp)) := by omega
    have hsp0 : z9 ≤ (u_44 3) := (by omega)
    have hsp1 : (u_44 3) ≤ (u_44 4) := (by omega)
    have hsp2 : cp ≤ (u_44 4) := (by omega)
    have hsp3 : (u_44 4) ≤ MX := (by omega)
    have hsp4 : dbl cp ((u_44 4)) := hs_51
    have hsp5 : (u_44 5) < (u_44 3) := (by omega)
    have hsp6 : (u_44 3) ≤ z9 + wpw kd kc ln 460 s9 := (by omega)
    exact W.iret (v := nI (u_44 5)) hx hb hr (fun t ht hW => ⟨⟨nI (u_44 5), ixn [(u_44 0), (u_44 1), (u_44 2), (u_44 3), (u_44 4), (u_44 5)], rfl, ⟨rfl, ⟨hsp0, hsp1, hsp2, hsp3, hsp4, hsp5, hsp6⟩⟩, ⟨sd, x_54, x_55, x_56, by rw [ht]; exact hg8, by rw [ht]; exact hg9, hex0, hex1, hex2, hex3, hex4, by rw [ht]; exact hP9, hD9⟩⟩, hS.F ht⟩) hS.2.2 d_Maker_wp_148
  by_cases hw_62 : kd s9 = 17
  · refine W.eq (g2 := F0 m 9 ls [.int 17]) (by rw [hw_62]; rfl) ?_
    refine lv_lookup (off := 63) (tgt := 72) hx hb d_Maker_wp_9 (by decide) (by decide) (by decide) ?_
    obtain ⟨hte, htk⟩ := hlw.tst hs9 (by omega)
    refine lv_aload_n hx hb d_Maker_wp_72 rfl (lv_at hl1 0 rfl) ?_
    refine va_get (D := D) (ci := 3) (v := .ref n0) (C := R_Maker) (T := F_Maker) (N := 5) hx hb hts i_Maker hown hK.1 hP 0 rfl rfl 0 (by decide) (hts _ wd_129) (fun _ h9 => h9) rfl d_Maker_wp_73 ?_
    refine lv_bipush (v := 7) hx hb d_Maker_wp_76 (by decide) ?_
    refine lv_aload_n hx hb d_Maker_wp_78 rfl (lv_at hl1 0 rfl) ?_
    refine lv_aload_n hx hb d_Maker_wp_79 rfl (lv_at hl1 0 rfl) ?_
    refine va_get (D := D) (ci := 3) (v := .ref g0) (C := R_Maker) (T := F_Maker) (N := 5) hx hb hts i_Maker hown hK.1 hP 0 rfl rfl 2 (by decide) (hts _ wd_132) (fun _ h9 => h9) rfl d_Maker_wp_80 ?_
    refine va_get (D := D) (ci := 2) (v := .ref h0) (C := R_Listing) (T := F_Listing) (N := 17) hx hb hts i_Listing hown hK.1 hP 14 rfl rfl 0 (by decide) (hts _ wd_269) (fun _ h9 => h9) rfl d_Maker_wp_83 ?_
    refine lv_aload_n hx hb d_Maker_wp_86 rfl (lv_at hl1 0 rfl) ?_
    refine va_get (D := D) (ci := 3) (v := .ref g0) (C := R_Maker) (T := F_Maker) (N := 5) hx hb hts i_Maker hown hK.1 hP 0 rfl rfl 2 (by decide) (hts _ wd_132) (fun _ h9 => h9) rfl d_Maker_wp_87 ?_
    refine va_get (D := D) (ci := 2) (v := .ref g6) (C := R_Listing) (T := F_Listing) (N := 17) hx hb hts i_Listing hown hK.1 hP 14 rfl rfl 6 (by decide) (hts _ wd_286) (fun _ h9 => h9) rfl d_Maker_wp_90 ?_
    refine lv_iload_n hx hb d_Maker_wp_93 rfl (lv_at hl1 1 rfl) ?_
    refine va_sald hx hb hK.1 hP 20 2 rfl rfl (vp_in_nI (by omega) (by omega)) d_Maker_wp_94 ?_
    refine W.eq (g2 := F0 m 95 ls [.int (nI (te s9)), .ref h0, .ref c0, .int 7, .ref n0]) (by rw [nI_clamp (by omega)]) ?_
    obtain ⟨hPc, hDc, hFc, hCs⟩ := xw_sub3 (wc := [(c0, .inr (3, [.ref n0, .ref c1, (.ref g0), (.ref a0), .int s_made])), (c1, .inl (ax 0, 16, .inl sd)), (n0, .inr (4, [.ref n1, .ref n2, .ref n3, .int (nI z9)])), (n1, .inl (ax 1, cp, .inl fo)), (n2, .inl (ax 0, cp, .inl fl)), (n3, .inl (ax 0, cp, .inl fr)), (h0, .inr (4, [.ref h1, .ref h2, .ref h3, .int (nI zs)])), (h1, .inl (ax 1, cs, .inl so)), (h2, .inl (ax 0, cs, .inl sl)), (h3, .inl (ax 0, cs, .inl sr))]) hP hD hS hA [0, 1, 2, 3, 4, 5, 6, 7, 8, 9] (by decide) rfl
    have hz := xz_of hN hS
    refine wk_know (fun hk8 hk9 => ?_)
    refine va_calli (va_runV (As := [.ref h0, .int (nI (te s9))]) (rest := [.int 7, .ref n0]) ⟨hx, hb, hml, hown, hts⟩ ((K_copy_all l (te s9)) D ax c0 c1 (.ref g0) (.ref a0) s_made sd n0 n1 n2 n3 cp z9 fo fl fr h0 h1 h2 h3 zs cs so sl sr MX s.heap.size (tsl s.heap) (by omega) (by omega) (by omega) (by omega) (by assumption) (by assumption) (by assumption) hzs hcs (by omega) hsv (by omega)) (xcV (n := 2) hts wd_776 wd_4 wd_773 wd_775 ps_23 rfl rfl (by decide +kernel) ⟨(show (50 + 2 * (te s9)) + 1 ≤ (1010 + 8 * (20 - s9)) by omega), (show 8 + (5 + 11) + (2000 + 40 * (te s9)) ≤ (21200 + 300 * (20 - s9)) by omega)⟩) (xpV3 (ci := 3) (q0 := 0) (As := [.ref h0, .int (nI (te s9))]) hPc hK hz hDc rfl rfl) rfl rfl hl1.1 rfl (lv_room (Nat.le_of_ble_eq_true rfl)) d_Maker_wp_95 ⟨(show (0) + (MX - cp) ≤ (MX - cp) by omega), (show (0) + (6 * (MX - cp)) ≤ (6 * (MX - cp)) by omega)⟩) hS (fun q _ h => hFc q h) hFc (fun r_65 u_63 t H_64 locs ht hvm hw hB hz1 hk1 hS1 => ?_)
    try dsimp only at hw
    obtain ⟨hw, hs_66, hs_67, hs_68, hs_69, hs_70, hs_71, hs_72⟩ := hw
    subst hw
    obtain ⟨x_73, x_74, x_75, hg8, hg9, hx_76, hx_77, hx_78, hx_79, hP1, hD1⟩ := hB
    rw [ht] at hg8 hg9 hP1
    have hjn := xw_join3 (wl := [(a0, .inr (4, [.ref a1, .ref a2, .ref a3, .int (nI za)])), (a1, .inl (ax 1, ca, .inl ao)), (a2, .inl (ax 0, ca, .inl al)), (a3, .inl (ax 0, ca, .inl ar)), (g0, .inr (2, [.ref h0, .ref g1, .ref g2, .ref g3, .ref g4, .ref g5, .ref g6, .ref g7, .ref g8, .ref g9, .ref ga, .ref gb, .int (nI cl), .int (nI ln), .int (nI br), .int (nI lp), .int (nI va)])), (g1, .inl (ax 1, 20, .inl (fun j => nI (kd j)))), (g2, .inl (ax 1, 20, .inl (fun j => nI (ow j)))), (g3, .inl (ax 1, 20, .inl (fun j => nI (sb j)))), (g4, .inl (ax 1, 20, .inl (fun j => nI (f1 j)))), (g5, .inl (ax 1, 20, .inl (fun j => nI (f2 j)))), (g6, .inl (ax 2, 20, .inl (fun j => nI (te j)))), (g7, .inl (ax 2, 20, .inl (fun j => nI (kp j)))), (g8, .inl (ax 0, 20, .inl tm)), (g9, .inl (ax 1, 20, .inl (fun j => nI (nm j)))), (ga, .inl (ax 1, 29, .inl (fun j => nI (ck j)))), (gb, .inl (ax 1, 29, .inl (fun j => nI (co j)))), (c0, .inr (3, [.ref n0, .ref c1, .ref g0, .ref a0, .int s_made])), (c1, .inl (ax 0, 16, .inl sd)), (n0, .inr (4, [.ref (u_63 0), .ref (u_63 1), .ref (u_63 2), .int (nI (u_63 3))])), ((u_63 0), .inl (ax 1, u_63 4, .inl x_73)), ((u_63 1), .inl (ax 0, u_63 4, .inl x_74)), ((u_63 2), .inl (ax 0, u_63 4, .inl x_75)), (h0, .inr (4, [.ref h1, .ref h2, .ref h3, .int (nI zs)])), (h1, .inl (ax 1, cs, .inl so)), (h2, .inl (ax 0, cs, .inl sl)), (h3, .inl (ax 0, cs, .inl sr))]) hP hD [0, 1, 2, 3, 4, 5, 6, 7, 8, 9] [10, 11, 12, 13, 14, 15, 16, 17, 18, 19, 20, 21, 22, 23, 24, 25] hCs (by decide) (by decide) hk1 hFc hP1 hD1 rfl
    clear hP1 hD1
    clear hPc hDc hFc hCs hz hz1 hk1 ht hvm
    clear hP hD hS
    have hS := hS1
    obtain ⟨hP, hD⟩ := hjn
    clear hS1
    refine wk_narrow (k := u_63 4 - cp) (n := 6 * (u_63 4 - cp)) (by omega) (by omega) ?_
    clear hk8 hk9 hg8 hg9
    have hK_80 : ∀ i, i < z9 → tsn x_73 x_74 x_75 i = tsn fo fl fr i := fun i hi => hx_78 i hi
    refine lv_aload_n hx hb d_Maker_wp_98 rfl (lv_at hl1 0 rfl) ?_
    refine lv_iload_n hx hb d_Maker_wp_99 rfl (lv_at hl1 1 rfl) ?_
    obtain ⟨hPc, hDc, hFc, hCs⟩ := xw_sub3 (wc := [(c0, .inr (3, [.ref n0, .ref c1, .ref g0, .ref a0, .int s_made])), (c1, .inl (ax 0, 16, .inl sd)), (n0, .inr (4, [.ref (u_63 0), .ref (u_63 1), .ref (u_63 2), .int (nI (u_63 3))])), ((u_63 0), .inl (ax 1, u_63 4, .inl x_73)), ((u_63 1), .inl (ax 0, u_63 4, .inl x_74)), ((u_63 2), .inl (ax 0, u_63 4, .inl x_75)), (h0, .inr (4, [.ref h1, .ref h2, .ref h3, .int (nI zs)])), (h1, .inl (ax 1, cs, .inl so)), (h2, .inl (ax 0, cs, .inl sl)), (h3, .inl (ax 0, cs, .inl sr)), (a0, .inr (4, [.ref a1, .ref a2, .ref a3, .int (nI za)])), (a1, .inl (ax 1, ca, .inl ao)), (a2, .inl (ax 0, ca, .inl al)), (a3, .inl (ax 0, ca, .inl ar)), (g0, .inr (2, [.ref h0, .ref g1, .ref g2, .ref g3, .ref g4, .ref g5, .ref g6, .ref g7, .ref g8, .ref g9, .ref ga, .ref gb, .int (nI cl), .int (nI ln), .int (nI br), .int (nI lp), .int (nI va)])), (g1, .inl (ax 1, 20, .inl (fun j => nI (kd j)))), (g2, .inl (ax 1, 20, .inl (fun j => nI (ow j)))), (g3, .inl (ax 1, 20, .inl (fun j => nI (sb j)))), (g4, .inl (ax 1, 20, .inl (fun j => nI (f1 j)))), (g5, .inl (ax 1, 20, .inl (fun j => nI (f2 j)))), (g6, .inl (ax 2, 20, .inl (fun j => nI (te j)))), (g7, .inl (ax 2, 20, .inl (fun j => nI (kp j)))), (g8, .inl (ax 0, 20, .inl tm)), (g9, .inl (ax 1, 20, .inl (fun j => nI (nm j)))), (ga, .inl (ax 1, 29, .inl (fun j => nI (ck j)))), (gb, .inl (ax 1, 29, .inl (fun j => nI (co j))))]) hP hD hS hA [16, 17, 18, 19, 20, 21, 22, 23, 24, 25, 0, 1, 2, 3, 4, 5, 6, 7, 8, 9, 10, 11, 12, 13, 14, 15] (by decide) rfl
    have hz := xz_of hN hS
    refine wk_know (fun hk8 hk9 => ?_)
    refine va_calli (va_runV (As := [.int (nI s9)]) (rest := [.int (nI (u_63 5)), .int 7, .ref n0]) ⟨hx, hb, hml, hown, hts⟩ (c_K_wpBehind l s9 hrec D ax c0 c1 s_made sd n0 (u_63 0) (u_63 1) (u_63 2) (u_63 4) (u_63 3) x_73 x_74 x_75 h0 h1 h2 h3 zs cs so sl sr a0 a1 a2 a3 za ca ao al ar g0 g1 g2 g3 g4 g5 g6 g7 g8 g9 ga gb cl ln br lp va kd ow sb f1 f2 te kp nm ck co tm MX en kc H_64.size (tsl H_64) (by omega) (by omega) (by omega) hMX (by assumption) (by assumption) (by assumption) hzs hcs hsv hza hca hz1 hz4 hav hat hlw hs9 (by omega)) (xcV (n := 1) hts wd_801 wd_4 wd_798 wd_800 ps_29 rfl rfl (by decide +kernel) ⟨(show (1006 + 8 * (20 - s9)) + 1 ≤ (1010 + 8 * (20 - s9)) by omega), (show 8 + (3 + 11) + (21100 + 300 * (20 - s9)) ≤ (21200 + 300 * (20 - s9)) by omega)⟩) (xpV3 (ci := 3) (q0 := 0) (As := [.int (nI s9)]) hPc hK hz hDc rfl rfl) rfl rfl hl1.1 rfl (lv_room (Nat.le_of_ble_eq_true rfl)) d_Maker_wp_100 ⟨(show (u_63 4 - cp) + (MX - (u_63 4)) ≤ (MX - cp) by omega), (show (6 * (u_63 4 - cp)) + (6 * (MX - (u_63 4))) ≤ (6 * (MX - cp)) by omega)⟩) hS (fun q _ h => hFc q h) hFc (fun r_83 u_81 t H_82 locs ht hvm hw hB hz1 hk1 hS1 => ?_)
    try dsimp only at hw
    obtain ⟨hw, hs_84, hs_85, hs_86, hs_87, hs_88, hs_89, hs_90⟩ := hw
    subst hw
    obtain ⟨x_91, x_92, x_93, x_94, hg8, hg9, hx_95, hx_96, hx_97, hx_98, hx_99, hP1, hD1⟩ := hB
    rw [ht] at hg8 hg9 hP1
    have hjn := xw_join3 (wl := [(c0, .inr (3, [.ref n0, .ref c1, .ref g0, .ref a0, .int s_made])), (c1, .inl (ax 0, 16, .inl x_91)), (n0, .inr (4, [.ref (u_81 0), .ref (u_81 1), .ref (u_81 2), .int (nI (u_81 3))])), ((u_81 0), .inl (ax 1, u_81 4, .inl x_92)), ((u_81 1), .inl (ax 0, u_81 4, .inl x_93)), ((u_81 2), .inl (ax 0, u_81 4, .inl x_94)), (h0, .inr (4, [.ref h1, .ref h2, .ref h3, .int (nI zs)])), (h1, .inl (ax 1, cs, .inl so)), (h2, .inl (ax 0, cs, .inl sl)), (h3, .inl (ax 0, cs, .inl sr)), (a0, .inr (4, [.ref a1, .ref a2, .ref a3, .int (nI za)])), (a1, .inl (ax 1, ca, .inl ao)), (a2, .inl (ax 0, ca, .inl al)), (a3, .inl (ax 0, ca, .inl ar)), (g0, .inr (2, [.ref h0, .ref g1, .ref g2, .ref g3, .ref g4, .ref g5, .ref g6, .ref g7, .ref g8, .ref g9, .ref ga, .ref gb, .int (nI cl), .int (nI ln), .int (nI br), .int (nI lp), .int (nI va)])), (g1, .inl (ax 1, 20, .inl (fun j => nI (kd j)))), (g2, .inl (ax 1, 20, .inl (fun j => nI (ow j)))), (g3, .inl (ax 1, 20, .inl (fun j => nI (sb j)))), (g4, .inl (ax 1, 20, .inl (fun j => nI (f1 j)))), (g5, .inl (ax 1, 20, .inl (fun j => nI (f2 j)))), (g6, .inl (ax 2, 20, .inl (fun j => nI (te j)))), (g7, .inl (ax 2, 20, .inl (fun j => nI (kp j)))), (g8, .inl (ax 0, 20, .inl tm)), (g9, .inl (ax 1, 20, .inl (fun j => nI (nm j)))), (ga, .inl (ax 1, 29, .inl (fun j => nI (ck j)))), (gb, .inl (ax 1, 29, .inl (fun j => nI (co j))))]) hP hD [16, 17, 18, 19, 20, 21, 22, 23, 24, 25, 0, 1, 2, 3, 4, 5, 6, 7, 8, 9, 10, 11, 12, 13, 14, 15] [] hCs (by decide) (by decide) hk1 hFc hP1 hD1 rfl
    clear hP1 hD1
    clear hPc hDc hFc hCs hz hz1 hk1 ht hvm
    clear hP hD hS
    have hS := hS1
    obtain ⟨hP, hD⟩ := hjn
    clear hS1
    refine wk_narrow (k := u_63 4 - cp + (u_81 4 - (u_63 4))) (n := 6 * (u_63 4 - cp) + (6 * (u_81 4 - (u_63 4)))) (by omega) (by omega) ?_
    clear hk8 hk9 hg8 hg9
    have hK_100 : ∀ i, i < z9 → tsn x_92 x_93 x_94 i = tsn fo fl fr i := fun i hi => (hx_97 i (by omega)).trans (hK_80 i hi)
    have hS_101 : tsn x_92 x_93 x_94 (u_63 5) + z9 ≤ (u_63 3) := by rw [hx_97 (u_63 5) (by omega)]; exact hx_79
    obtain ⟨hPc, hDc, hFc, hCs⟩ := xw_sub3 (wc := [(n0, .inr (4, [.ref (u_81 0), .ref (u_81 1), .ref (u_81 2), .int (nI (u_81 3))])), ((u_81 0), .inl (ax 1, u_81 4, .inl x_92)), ((u_81 1), .inl (ax 0, u_81 4, .inl x_93)), ((u_81 2), .inl (ax 0, u_81 4, .inl x_94))]) hP hD hS hA [2, 3, 4, 5] (by decide) rfl
    have hz := xz_of hN hS
    refine wk_know (fun hk8 hk9 => ?_)
    refine va_calli (va_runV (As := [.int 7, .int (nI (u_63 5)), .int (nI (u_81 5))]) (rest := []) ⟨hx, hb, hml, hown, hts⟩ (c_Nodes_add l D ax n0 (u_81 0) (u_81 1) (u_81 2) (u_81 4) (u_81 3) x_92 x_93 x_94 MX 7 (nI (u_63 5)) (nI (u_81 5)) H_82.size (tsl H_82) (by omega) (by omega) (by omega) (by omega) (by omega) (by assumption)) (xcV (n := 3) hts wd_350 wd_5 wd_781 wd_348 wd_349 rfl rfl (by decide +kernel) ⟨(show (30) + 1 ≤ (1010 + 8 * (20 - s9)) by omega), (show 8 + (4 + 11) + (1200) ≤ (21200 + 300 * (20 - s9)) by omega)⟩) (xpV3 (ci := 4) (q0 := 0) (As := [.int 7, .int (nI (u_63 5)), .int (nI (u_81 5))]) hPc hK hz hDc rfl rfl) rfl rfl hl1.1 rfl (lv_room (Nat.le_of_ble_eq_true rfl)) d_Maker_wp_103 ⟨(show (u_63 4 - cp + (u_81 4 - (u_63 4))) + (MX - (u_81 4)) ≤ (MX - cp) by omega), (show (6 * (u_63 4 - cp) + (6 * (u_81 4 - (u_63 4)))) + (6 * (MX - (u_81 4))) ≤ (6 * (MX - cp)) by omega)⟩) hS (fun q _ h => hFc q h) hFc (fun r_104 u_102 t H_103 locs ht hvm hw hB hz1 hk1 hS1 => ?_)
    try dsimp only at hw
    obtain ⟨hw, hs_105, hs_106, hs_107, hs_108⟩ := hw
    subst hw
    obtain ⟨x_109, x_110, x_111, hg8, hg9, hx_112, hx_113, hP1, hD1⟩ := hB
    rw [ht] at hg8 hg9 hP1
    have hjn := xw_join3 (wl := [(c0, .inr (3, [.ref n0, .ref c1, .ref g0, .ref a0, .int s_made])), (c1, .inl (ax 0, 16, .inl x_91)), (h0, .inr (4, [.ref h1, .ref h2, .ref h3, .int (nI zs)])), (h1, .inl (ax 1, cs, .inl so)), (h2, .inl (ax 0, cs, .inl sl)), (h3, .inl (ax 0, cs, .inl sr)), (a0, .inr (4, [.ref a1, .ref a2, .ref a3, .int (nI za)])), (a1, .inl (ax 1, ca, .inl ao)), (a2, .inl (ax 0, ca, .inl al)), (a3, .inl (ax 0, ca, .inl ar)), (g0, .inr (2, [.ref h0, .ref g1, .ref g2, .ref g3, .ref g4, .ref g5, .ref g6, .ref g7, .ref g8, .ref g9, .ref ga, .ref gb, .int (nI cl), .int (nI ln), .int (nI br), .int (nI lp), .int (nI va)])), (g1, .inl (ax 1, 20, .inl (fun j => nI (kd j)))), (g2, .inl (ax 1, 20, .inl (fun j => nI (ow j)))), (g3, .inl (ax 1, 20, .inl (fun j => nI (sb j)))), (g4, .inl (ax 1, 20, .inl (fun j => nI (f1 j)))), (g5, .inl (ax 1, 20, .inl (fun j => nI (f2 j)))), (g6, .inl (ax 2, 20, .inl (fun j => nI (te j)))), (g7, .inl (ax 2, 20, .inl (fun j => nI (kp j)))), (g8, .inl (ax 0, 20, .inl tm)), (g9, .inl (ax 1, 20, .inl (fun j => nI (nm j)))), (ga, .inl (ax 1, 29, .inl (fun j => nI (ck j)))), (gb, .inl (ax 1, 29, .inl (fun j => nI (co j)))), (n0, .inr (4, [.ref (u_102 0), .ref (u_102 1), .ref (u_102 2), .int (nI ((u_81 3) + 1))])), ((u_102 0), .inl (ax 1, u_102 3, .inl x_109)), ((u_102 1), .inl (ax 0, u_102 3, .inl x_110)), ((u_102 2), .inl (ax 0, u_102 3, .inl x_111))]) hP hD [2, 3, 4, 5] [0, 1, 6, 7, 8, 9, 10, 11, 12, 13, 14, 15, 16, 17, 18, 19, 20, 21, 22, 23, 24, 25] hCs (by decide) (by decide) hk1 hFc hP1 hD1 rfl
    clear hP1 hD1
    clear hPc hDc hFc hCs hz hz1 hk1 ht hvm
    clear hP hD hS
    have hS := hS1
    obtain ⟨hP, hD⟩ := hjn
    clear hS1
    refine wk_narrow (k := u_63 4 - cp + (u_81 4 - (u_63 4)) + (u_102 3 - (u_81 4))) (n := 6 * (u_63 4 - cp) + (6 * (u_81 4 - (u_63 4))) + (6 * (u_102 3 - (u_81 4)))) (by omega) (by omega) ?_
    clear hk8 hk9 hg8 hg9
    have hV_114 : ndv x_109 x_110 x_111 ((u_81 3) + 1) := hx_95.add hx_112 (nd_bin (o := 7) (by decide) (by omega) (by omega))
    have hT_115 : tsn x_109 x_110 x_111 (u_81 3) = 1 + tsn x_92 x_93 x_94 (u_63 5) + tsn x_92 x_93 x_94 (u_81 5) := nad.bin (o := 7) (by omega) hx_95 (by decide) (by omega) (by omega) hx_112
    have hG_116 : ∀ i, i < u_81 3 → tsn x_109 x_110 x_111 i = tsn x_92 x_93 x_94 i := fun i hi => nad.keep (by omega) hx_95 hx_112 hi
    have hB_117 : tsn x_109 x_110 x_111 (u_81 3) + z9 ≤ ((u_81 3) + 1) := by omega
    have hK_118 : ∀ i, i < z9 → tsn x_109 x_110 x_111 i = tsn fo fl fr i := fun i hi => (hG_116 i (by omega)).trans (hK_100 i hi)
    refine wk_know (fun hk8 hk9 => ?_)
    refine W.widen (k := MX - cp) (n := 6 * (MX - cp)) (by omega) (by omega) ?_
    obtain ⟨hP9, hD9⟩ := xw_sub2 (wc := (fun (u : Nat → Nat) (xsd : Nat → Int32) (xfo : Nat → Int32) (xfl : Nat → Int32) (xfr : Nat → Int32) => [(c0, .inr (3, [.ref n0, .ref c1, .ref g0, .ref a0, .int s_made])), (c1, .inl (ax 0, 16, .inl xsd)), (n0, .inr (4, [.ref (u 0), .ref (u 1), .ref (u 2), .int (nI (u 3))])), (u 0, .inl (ax 1, u 4, .inl xfo)), (u 1, .inl (ax 0, u 4, .inl xfl)), (u 2, .inl (ax 0, u 4, .inl xfr)), (h0, .inr (4, [.ref h1, .ref h2, .ref h3, .int (nI zs)])), (h1, .inl (ax 1, cs, .inl so)), (h2, .inl (ax 0, cs, .inl sl)), (h3, .inl (ax 0, cs, .inl sr)), (a0, .inr (4, [.ref a1, .ref a2, .ref a3, .int (nI za)])), (a1, .inl (ax 1, ca, .inl ao)), (a2, .inl (ax 0, ca, .inl al)), (a3, .inl (ax 0, ca, .inl ar)), (g0, .inr (2, [.ref h0, .ref g1, .ref g2, .ref g3, .ref g4, .ref g5, .ref g6, .ref g7, .ref g8, .ref g9, .ref ga, .ref gb, .int (nI cl), .int (nI ln), .int (nI br), .int (nI lp), .int (nI va)])), (g1, .inl (ax 1, 20, .inl (fun j => nI (kd j)))), (g2, .inl (ax 1, 20, .inl (fun j => nI (ow j)))), (g3, .inl (ax 1, 20, .inl (fun j => nI (sb j)))), (g4, .inl (ax 1, 20, .inl (fun j => nI (f1 j)))), (g5, .inl (ax 1, 20, .inl (fun j => nI (f2 j)))), (g6, .inl (ax 2, 20, .inl (fun j => nI (te j)))), (g7, .inl (ax 2, 20, .inl (fun j => nI (kp j)))), (g8, .inl (ax 0, 20, .inl tm)), (g9, .inl (ax 1, 20, .inl (fun j => nI (nm j)))), (ga, .inl (ax 1, 29, .inl (fun j => nI (ck j)))), (gb, .inl (ax 1, 29, .inl (fun j => nI (co j))))]) (ixn [(u_102 0), (u_102 1), (u_102 2), ((u_81 3) + 1), (u_102 3), (u_81 3)]) x_91 x_109 x_110 x_111) hP hD [0, 1, 22, 23, 24, 25, 2, 3, 4, 5, 6, 7, 8, 9, 10, 11, 12, 13, 14, 15, 16, 17, 18, 19, 20, 21] (by decide) rfl
    have hex0 : ndv x_109 x_110 x_111 (((u_81 3) + 1)) := hV_114
    have hex1 : bts x_109 ((u_102 3)) := (by assumption)
    have hex2 : ∀ i, i < z9 → tsn x_109 x_110 x_111 i = tsn fo fl fr i := hK_118
    have hex3 : tsn x_109 x_110 x_111 ((u_81 3)) + z9 ≤ ((u_81 3) + 1) := (by omega)
    have hex4 : ∀ j, j ≤ 10 → trm (x_91 j) := hx_99
    have hg8 : H_103.size ≤ s.heap.size + ((u_102 3) - cp) := by omega
    have hg9 : tsl H_103 ≤ tsl s.heap + (6 * ((u_102 3) - cp)) := by omega
    have hsp0 : z9 ≤ ((u_81 3) + 1) := (by omega)
    have hsp1 : ((u_81 3) + 1) ≤ (u_102 3) := (by omega)
    have hsp2 : cp ≤ (u_102 3) := (by omega)
    have hsp3 : (u_102 3) ≤ MX := (by omega)
    have hsp4 : dbl cp ((u_102 3)) := ((hs_70.tr hs_88).tr hs_108)
    have hsp5 : (u_81 3) < ((u_81 3) + 1) := (by omega)
    have hsp6 : ((u_81 3) + 1) ≤ z9 + wpw kd kc ln 460 s9 := (by omega)
    exact W.iret (v := nI (u_81 3)) hx hb hr (fun t ht hW => ⟨⟨nI (u_81 3), ixn [(u_102 0), (u_102 1), (u_102 2), ((u_81 3) + 1), (u_102 3), (u_81 3)], rfl, ⟨rfl, ⟨hsp0, hsp1, hsp2, hsp3, hsp4, hsp5, hsp6⟩⟩, ⟨x_91, x_109, x_110, x_111, by rw [ht]; exact hg8, by rw [ht]; exact hg9, hex0, hex1, hex2, hex3, hex4, by rw [ht]; exact hP9, hD9⟩⟩, hS.F ht⟩) hS.2.2 d_Maker_wp_106
  by_cases hw_119 : kd s9 = 123
  · refine W.eq (g2 := F0 m 9 ls [.int 123]) (by rw [hw_119]; rfl) ?_
    refine lv_lookup (off := 98) (tgt := 107) hx hb d_Maker_wp_9 (by decide) (by decide) (by decide) ?_
    obtain ⟨hte, htk⟩ := hlw.tst hs9 (by omega)
    refine lv_aload_n hx hb d_Maker_wp_107 rfl (lv_at hl1 0 rfl) ?_
    refine lv_aload_n hx hb d_Maker_wp_108 rfl (lv_at hl1 0 rfl) ?_
    refine va_get (D := D) (ci := 3) (v := .ref g0) (C := R_Maker) (T := F_Maker) (N := 5) hx hb hts i_Maker hown hK.1 hP 0 rfl rfl 2 (by decide) (hts _ wd_132) (fun _ h9 => h9) rfl d_Maker_wp_109 ?_
    refine va_get (D := D) (ci := 2) (v := .ref h0) (C := R_Listing) (T := F_Listing) (N := 17) hx hb hts i_Listing hown hK.1 hP 14 rfl rfl 0 (by decide) (hts _ wd_269) (fun _ h9 => h9) rfl d_Maker_wp_112 ?_
    refine lv_aload_n hx hb d_Maker_wp_115 rfl (lv_at hl1 0 rfl) ?_
    refine va_get (D := D) (ci := 3) (v := .ref g0) (C := R_Maker) (T := F_Maker) (N := 5) hx hb hts i_Maker hown hK.1 hP 0 rfl rfl 2 (by decide) (hts _ wd_132) (fun _ h9 => h9) rfl d_Maker_wp_116 ?_
    refine va_get (D := D) (ci := 2) (v := .ref g6) (C := R_Listing) (T := F_Listing) (N := 17) hx hb hts i_Listing hown hK.1 hP 14 rfl rfl 6 (by decide) (hts _ wd_286) (fun _ h9 => h9) rfl d_Maker_wp_119 ?_
    refine lv_iload_n hx hb d_Maker_wp_122 rfl (lv_at hl1 1 rfl) ?_
    refine va_sald hx hb hK.1 hP 20 2 rfl rfl (vp_in_nI (by omega) (by omega)) d_Maker_wp_123 ?_
    refine W.eq (g2 := F0 m 124 ls [.int (nI (te s9)), .ref h0, .ref c0]) (by rw [nI_clamp (by omega)]) ?_
    obtain ⟨hPc, hDc, hFc, hCs⟩ := xw_sub3 (wc := [(c0, .inr (3, [.ref n0, .ref c1, (.ref g0), (.ref a0), .int s_made])), (c1, .inl (ax 0, 16, .inl sd)), (n0, .inr (4, [.ref n1, .ref n2, .ref n3, .int (nI z9)])), (n1, .inl (ax 1, cp, .inl fo)), (n2, .inl (ax 0, cp, .inl fl)), (n3, .inl (ax 0, cp, .inl fr)), (h0, .inr (4, [.ref h1, .ref h2, .ref h3, .int (nI zs)])), (h1, .inl (ax 1, cs, .inl so)), (h2, .inl (ax 0, cs, .inl sl)), (h3, .inl (ax 0, cs, .inl sr))]) hP hD hS hA [0, 1, 2, 3, 4, 5, 6, 7, 8, 9] (by decide) rfl
    have hz := xz_of hN hS
    refine wk_know (fun hk8 hk9 => ?_)
    refine va_calli (va_runV (As := [.ref h0, .int (nI (te s9))]) (rest := []) ⟨hx, hb, hml, hown, hts⟩ ((K_copy_all l (te s9)) D ax c0 c1 (.ref g0) (.ref a0) s_made sd n0 n1 n2 n3 cp z9 fo fl fr h0 h1 h2 h3 zs cs so sl sr MX s.heap.size (tsl s.heap) (by omega) (by omega) (by omega) (by omega) (by assumption) (by assumption) (by assumption) hzs hcs (by omega) hsv (by omega)) (xcV (n := 2) hts wd_776 wd_4 wd_773 wd_775 ps_23 rfl rfl (by decide +kernel) ⟨(show (50 + 2 * (te s9)) + 1 ≤ (1010 + 8 * (20 - s9)) by omega), (show 8 + (5 + 11) + (2000 + 40 * (te s9)) ≤ (21200 + 300 * (20 - s9)) by omega)⟩) (xpV3 (ci := 3) (q0 := 0) (As := [.ref h0, .int (nI (te s9))]) hPc hK hz hDc rfl rfl) rfl rfl hl1.1 rfl (lv_room (Nat.le_of_ble_eq_true rfl)) d_Maker_wp_124 ⟨(show (0) + (MX - cp) ≤ (MX - cp) by omega), (show (0) + (6 * (MX - cp)) ≤ (6 * (MX - cp)) by omega)⟩) hS (fun q _ h => hFc q h) hFc (fun r_122 u_120 t H_121 locs ht hvm hw hB hz1 hk1 hS1 => ?_)
    try dsimp only at hw
    obtain ⟨hw, hs_123, hs_124, hs_125, hs_126, hs_127, hs_128, hs_129⟩ := hw
    subst hw
    obtain ⟨x_130, x_131, x_132, hg8, hg9, hx_133, hx_134, hx_135, hx_136, hP1, hD1⟩ := hB
    rw [ht] at hg8 hg9 hP1
    have hjn := xw_join3 (wl := [(a0, .inr (4, [.ref a1, .ref a2, .ref a3, .int (nI za)])), (a1, .inl (ax 1, ca, .inl ao)), (a2, .inl (ax 0, ca, .inl al)), (a3, .inl (ax 0, ca, .inl ar)), (g0, .inr (2, [.ref h0, .ref g1, .ref g2, .ref g3, .ref g4, .ref g5, .ref g6, .ref g7, .ref g8, .ref g9, .ref ga, .ref gb, .int (nI cl), .int (nI ln), .int (nI br), .int (nI lp), .int (nI va)])), (g1, .inl (ax 1, 20, .inl (fun j => nI (kd j)))), (g2, .inl (ax 1, 20, .inl (fun j => nI (ow j)))), (g3, .inl (ax 1, 20, .inl (fun j => nI (sb j)))), (g4, .inl (ax 1, 20, .inl (fun j => nI (f1 j)))), (g5, .inl (ax 1, 20, .inl (fun j => nI (f2 j)))), (g6, .inl (ax 2, 20, .inl (fun j => nI (te j)))), (g7, .inl (ax 2, 20, .inl (fun j => nI (kp j)))), (g8, .inl (ax 0, 20, .inl tm)), (g9, .inl (ax 1, 20, .inl (fun j => nI (nm j)))), (ga, .inl (ax 1, 29, .inl (fun j => nI (ck j)))), (gb, .inl (ax 1, 29, .inl (fun j => nI (co j)))), (c0, .inr (3, [.ref n0, .ref c1, .ref g0, .ref a0, .int s_made])), (c1, .inl (ax 0, 16, .inl sd)), (n0, .inr (4, [.ref (u_120 0), .ref (u_120 1), .ref (u_120 2), .int (nI (u_120 3))])), ((u_120 0), .inl (ax 1, u_120 4, .inl x_130)), ((u_120 1), .inl (ax 0, u_120 4, .inl x_131)), ((u_120 2), .inl (ax 0, u_120 4, .inl x_132)), (h0, .inr (4, [.ref h1, .ref h2, .ref h3, .int (nI zs)])), (h1, .inl (ax 1, cs, .inl so)), (h2, .inl (ax 0, cs, .inl sl)), (h3, .inl (ax 0, cs, .inl sr))]) hP hD [0, 1, 2, 3, 4, 5, 6, 7, 8, 9] [10, 11, 12, 13, 14, 15, 16, 17, 18, 19, 20, 21, 22, 23, 24, 25] hCs (by decide) (by decide) hk1 hFc hP1 hD1 rfl
    clear hP1 hD1
    clear hPc hDc hFc hCs hz hz1 hk1 ht hvm
    clear hP hD hS
    have hS := hS1
    obtain ⟨hP, hD⟩ := hjn
    clear hS1
    refine wk_narrow (k := u_120 4 - cp) (n := 6 * (u_120 4 - cp)) (by omega) (by omega) ?_
    clear hk8 hk9 hg8 hg9
    have hK_137 : ∀ i, i < z9 → tsn x_130 x_131 x_132 i = tsn fo fl fr i := fun i hi => hx_135 i hi
    refine wk_know (fun hk8 hk9 => ?_)
    refine W.widen (k := MX - cp) (n := 6 * (MX - cp)) (by omega) (by omega) ?_
    obtain ⟨hP9, hD9⟩ := xw_sub2 (wc := (fun (u : Nat → Nat) (xsd : Nat → Int32) (xfo : Nat → Int32) (xfl : Nat → Int32) (xfr : Nat → Int32) => [(c0, .inr (3, [.ref n0, .ref c1, .ref g0, .ref a0, .int s_made])), (c1, .inl (ax 0, 16, .inl xsd)), (n0, .inr (4, [.ref (u 0), .ref (u 1), .ref (u 2), .int (nI (u 3))])), (u 0, .inl (ax 1, u 4, .inl xfo)), (u 1, .inl (ax 0, u 4, .inl xfl)), (u 2, .inl (ax 0, u 4, .inl xfr)), (h0, .inr (4, [.ref h1, .ref h2, .ref h3, .int (nI zs)])), (h1, .inl (ax 1, cs, .inl so)), (h2, .inl (ax 0, cs, .inl sl)), (h3, .inl (ax 0, cs, .inl sr)), (a0, .inr (4, [.ref a1, .ref a2, .ref a3, .int (nI za)])), (a1, .inl (ax 1, ca, .inl ao)), (a2, .inl (ax 0, ca, .inl al)), (a3, .inl (ax 0, ca, .inl ar)), (g0, .inr (2, [.ref h0, .ref g1, .ref g2, .ref g3, .ref g4, .ref g5, .ref g6, .ref g7, .ref g8, .ref g9, .ref ga, .ref gb, .int (nI cl), .int (nI ln), .int (nI br), .int (nI lp), .int (nI va)])), (g1, .inl (ax 1, 20, .inl (fun j => nI (kd j)))), (g2, .inl (ax 1, 20, .inl (fun j => nI (ow j)))), (g3, .inl (ax 1, 20, .inl (fun j => nI (sb j)))), (g4, .inl (ax 1, 20, .inl (fun j => nI (f1 j)))), (g5, .inl (ax 1, 20, .inl (fun j => nI (f2 j)))), (g6, .inl (ax 2, 20, .inl (fun j => nI (te j)))), (g7, .inl (ax 2, 20, .inl (fun j => nI (kp j)))), (g8, .inl (ax 0, 20, .inl tm)), (g9, .inl (ax 1, 20, .inl (fun j => nI (nm j)))), (ga, .inl (ax 1, 29, .inl (fun j => nI (ck j)))), (gb, .inl (ax 1, 29, .inl (fun j => nI (co j))))]) (ixn [(u_120 0), (u_120 1), (u_120 2), (u_120 3), (u_120 4), (u_120 5)]) sd x_130 x_131 x_132) hP hD [16, 17, 18, 19, 20, 21, 22, 23, 24, 25, 0, 1, 2, 3, 4, 5, 6, 7, 8, 9, 10, 11, 12, 13, 14, 15] (by decide) rfl
    have hex0 : ndv x_130 x_131 x_132 ((u_120 3)) := hx_133
    have hex1 : bts x_130 ((u_120 4)) := (by assumption)
    have hex2 : ∀ i, i < z9 → tsn x_130 x_131 x_132 i = tsn fo fl fr i := hK_137
    have hex3 : tsn x_130 x_131 x_132 ((u_120 5)) + z9 ≤ (u_120 3) := (by omega)
    have hex4 : ∀ j, j ≤ 10 → trm (sd j) := hsd
    have hg8 : H_121.size ≤ s.heap.size + ((u_120 4) - cp) := by omega
    have hg9 : tsl H_121 ≤ tsl s.heap + (6 * ((u_120 4) - cp)) := by omega
    have hsp0 : z9 ≤ (u_120 3) := (by omega)
    have hsp1 : (u_120 3) ≤ (u_120 4) := (by omega)
    have hsp2 : cp ≤ (u_120 4) := (by omega)
    have hsp3 : (u_120 4) ≤ MX := (by omega)
    have hsp4 : dbl cp ((u_120 4)) := hs_127
    have hsp5 : (u_120 5) < (u_120 3) := (by omega)
    have hsp6 : (u_120 3) ≤ z9 + wpw kd kc ln 460 s9 := (by omega)
    exact W.iret (v := nI (u_120 5)) hx hb hr (fun t ht hW => ⟨⟨nI (u_120 5), ixn [(u_120 0), (u_120 1), (u_120 2), (u_120 3), (u_120 4), (u_120 5)], rfl, ⟨rfl, ⟨hsp0, hsp1, hsp2, hsp3, hsp4, hsp5, hsp6⟩⟩, ⟨sd, x_130, x_131, x_132, by rw [ht]; exact hg8, by rw [ht]; exact hg9, hex0, hex1, hex2, hex3, hex4, by rw [ht]; exact hP9, hD9⟩⟩, hS.F ht⟩) hS.2.2 d_Maker_wp_127
  refine lv_lookup (off := 140) (tgt := 149) hx hb d_Maker_wp_9 (by decide) (by rw [nI_toInt (by omega)]; exact sw_no (by simp; omega)) (by decide) ?_
  refine lv_aload_n hx hb d_Maker_wp_149 rfl (lv_at hl1 0 rfl) ?_
  refine lv_iload_n hx hb d_Maker_wp_150 rfl (lv_at hl1 1 rfl) ?_
  obtain ⟨hPc, hDc, hFc, hCs⟩ := xw_sub3 (wc := [(c0, .inr (3, [.ref n0, .ref c1, .ref g0, .ref a0, .int s_made])), (c1, .inl (ax 0, 16, .inl sd)), (n0, .inr (4, [.ref n1, .ref n2, .ref n3, .int (nI z9)])), (n1, .inl (ax 1, cp, .inl fo)), (n2, .inl (ax 0, cp, .inl fl)), (n3, .inl (ax 0, cp, .inl fr)), (h0, .inr (4, [.ref h1, .ref h2, .ref h3, .int (nI zs)])), (h1, .inl (ax 1, cs, .inl so)), (h2, .inl (ax 0, cs, .inl sl)), (h3, .inl (ax 0, cs, .inl sr)), (a0, .inr (4, [.ref a1, .ref a2, .ref a3, .int (nI za)])), (a1, .inl (ax 1, ca, .inl ao)), (a2, .inl (ax 0, ca, .inl al)), (a3, .inl (ax 0, ca, .inl ar)), (g0, .inr (2, [.ref h0, .ref g1, .ref g2, .ref g3, .ref g4, .ref g5, .ref g6, .ref g7, .ref g8, .ref g9, .ref ga, .ref gb, .int (nI cl), .int (nI ln), .int (nI br), .int (nI lp), .int (nI va)])), (g1, .inl (ax 1, 20, .inl (fun j => nI (kd j)))), (g2, .inl (ax 1, 20, .inl (fun j => nI (ow j)))), (g3, .inl (ax 1, 20, .inl (fun j => nI (sb j)))), (g4, .inl (ax 1, 20, .inl (fun j => nI (f1 j)))), (g5, .inl (ax 1, 20, .inl (fun j => nI (f2 j)))), (g6, .inl (ax 2, 20, .inl (fun j => nI (te j)))), (g7, .inl (ax 2, 20, .inl (fun j => nI (kp j)))), (g8, .inl (ax 0, 20, .inl tm)), (g9, .inl (ax 1, 20, .inl (fun j => nI (nm j)))), (ga, .inl (ax 1, 29, .inl (fun j => nI (ck j)))), (gb, .inl (ax 1, 29, .inl (fun j => nI (co j))))]) hP hD hS hA [0, 1, 2, 3, 4, 5, 6, 7, 8, 9, 10, 11, 12, 13, 14, 15, 16, 17, 18, 19, 20, 21, 22, 23, 24, 25] (by decide) rfl
  have hz := xz_of hN hS
  refine wk_know (fun hk8 hk9 => ?_)
  refine va_calli (va_runV (As := [.int (nI s9)]) (rest := []) ⟨hx, hb, hml, hown, hts⟩ (c_K_wpBehind l s9 hrec D ax c0 c1 s_made sd n0 n1 n2 n3 cp z9 fo fl fr h0 h1 h2 h3 zs cs so sl sr a0 a1 a2 a3 za ca ao al ar g0 g1 g2 g3 g4 g5 g6 g7 g8 g9 ga gb cl ln br lp va kd ow sb f1 f2 te kp nm ck co tm MX en kc s.heap.size (tsl s.heap) (by omega) (by omega) (by omega) hMX (by assumption) (by assumption) (by assumption) hzs hcs hsv hza hca hz1 hz4 hav hat hlw hs9 (by omega)) (xcV (n := 1) hts wd_801 wd_4 wd_798 wd_800 ps_29 rfl rfl (by decide +kernel) ⟨(show (1006 + 8 * (20 - s9)) + 1 ≤ (1010 + 8 * (20 - s9)) by omega), (show 8 + (3 + 11) + (21100 + 300 * (20 - s9)) ≤ (21200 + 300 * (20 - s9)) by omega)⟩) (xpV3 (ci := 3) (q0 := 0) (As := [.int (nI s9)]) hPc hK hz hDc rfl rfl) rfl rfl hl1.1 rfl (lv_room (Nat.le_of_ble_eq_true rfl)) d_Maker_wp_151 ⟨(show (0) + (MX - cp) ≤ (MX - cp) by omega), (show (0) + (6 * (MX - cp)) ≤ (6 * (MX - cp)) by omega)⟩) hS (fun q _ h => hFc q h) hFc (fun r_140 u_138 t H_139 locs ht hvm hw hB hz1 hk1 hS1 => ?_)
  try dsimp only at hw
  obtain ⟨hw, hs_141, hs_142, hs_143, hs_144, hs_145, hs_146, hs_147⟩ := hw
  subst hw
  obtain ⟨x_148, x_149, x_150, x_151, hg8, hg9, hx_152, hx_153, hx_154, hx_155, hx_156, hP1, hD1⟩ := hB
  rw [ht] at hg8 hg9 hP1
  have hjn := xw_join3 (wl := [(c0, .inr (3, [.ref n0, .ref c1, .ref g0, .ref a0, .int s_made])), (c1, .inl (ax 0, 16, .inl x_148)), (n0, .inr (4, [.ref (u_138 0), .ref (u_138 1), .ref (u_138 2), .int (nI (u_138 3))])), ((u_138 0), .inl (ax 1, u_138 4, .inl x_149)), ((u_138 1), .inl (ax 0, u_138 4, .inl x_150)), ((u_138 2), .inl (ax 0, u_138 4, .inl x_151)), (h0, .inr (4, [.ref h1, .ref h2, .ref h3, .int (nI zs)])), (h1, .inl (ax 1, cs, .inl so)), (h2, .inl (ax 0, cs, .inl sl)), (h3, .inl (ax 0, cs, .inl sr)), (a0, .inr (4, [.ref a1, .ref a2, .ref a3, .int (nI za)])), (a1, .inl (ax 1, ca, .inl ao)), (a2, .inl (ax 0, ca, .inl al)), (a3, .inl (ax 0, ca, .inl ar)), (g0, .inr (2, [.ref h0, .ref g1, .ref g2, .ref g3, .ref g4, .ref g5, .ref g6, .ref g7, .ref g8, .ref g9, .ref ga, .ref gb, .int (nI cl), .int (nI ln), .int (nI br), .int (nI lp), .int (nI va)])), (g1, .inl (ax 1, 20, .inl (fun j => nI (kd j)))), (g2, .inl (ax 1, 20, .inl (fun j => nI (ow j)))), (g3, .inl (ax 1, 20, .inl (fun j => nI (sb j)))), (g4, .inl (ax 1, 20, .inl (fun j => nI (f1 j)))), (g5, .inl (ax 1, 20, .inl (fun j => nI (f2 j)))), (g6, .inl (ax 2, 20, .inl (fun j => nI (te j)))), (g7, .inl (ax 2, 20, .inl (fun j => nI (kp j)))), (g8, .inl (ax 0, 20, .inl tm)), (g9, .inl (ax 1, 20, .inl (fun j => nI (nm j)))), (ga, .inl (ax 1, 29, .inl (fun j => nI (ck j)))), (gb, .inl (ax 1, 29, .inl (fun j => nI (co j))))]) hP hD [0, 1, 2, 3, 4, 5, 6, 7, 8, 9, 10, 11, 12, 13, 14, 15, 16, 17, 18, 19, 20, 21, 22, 23, 24, 25] [] hCs (by decide) (by decide) hk1 hFc hP1 hD1 rfl
  clear hP1 hD1
  clear hPc hDc hFc hCs hz hz1 hk1 ht hvm
  clear hP hD hS
  have hS := hS1
  obtain ⟨hP, hD⟩ := hjn
  clear hS1
  refine wk_narrow (k := u_138 4 - cp) (n := 6 * (u_138 4 - cp)) (by omega) (by omega) ?_
  clear hk8 hk9 hg8 hg9
  have hK_157 : ∀ i, i < z9 → tsn x_149 x_150 x_151 i = tsn fo fl fr i := fun i hi => hx_154 i hi
  refine wk_know (fun hk8 hk9 => ?_)
  refine W.widen (k := MX - cp) (n := 6 * (MX - cp)) (by omega) (by omega) ?_
  obtain ⟨hP9, hD9⟩ := xw_sub2 (wc := (fun (u : Nat → Nat) (xsd : Nat → Int32) (xfo : Nat → Int32) (xfl : Nat → Int32) (xfr : Nat → Int32) => [(c0, .inr (3, [.ref n0, .ref c1, .ref g0, .ref a0, .int s_made])), (c1, .inl (ax 0, 16, .inl xsd)), (n0, .inr (4, [.ref (u 0), .ref (u 1), .ref (u 2), .int (nI (u 3))])), (u 0, .inl (ax 1, u 4, .inl xfo)), (u 1, .inl (ax 0, u 4, .inl xfl)), (u 2, .inl (ax 0, u 4, .inl xfr)), (h0, .inr (4, [.ref h1, .ref h2, .ref h3, .int (nI zs)])), (h1, .inl (ax 1, cs, .inl so)), (h2, .inl (ax 0, cs, .inl sl)), (h3, .inl (ax 0, cs, .inl sr)), (a0, .inr (4, [.ref a1, .ref a2, .ref a3, .int (nI za)])), (a1, .inl (ax 1, ca, .inl ao)), (a2, .inl (ax 0, ca, .inl al)), (a3, .inl (ax 0, ca, .inl ar)), (g0, .inr (2, [.ref h0, .ref g1, .ref g2, .ref g3, .ref g4, .ref g5, .ref g6, .ref g7, .ref g8, .ref g9, .ref ga, .ref gb, .int (nI cl), .int (nI ln), .int (nI br), .int (nI lp), .int (nI va)])), (g1, .inl (ax 1, 20, .inl (fun j => nI (kd j)))), (g2, .inl (ax 1, 20, .inl (fun j => nI (ow j)))), (g3, .inl (ax 1, 20, .inl (fun j => nI (sb j)))), (g4, .inl (ax 1, 20, .inl (fun j => nI (f1 j)))), (g5, .inl (ax 1, 20, .inl (fun j => nI (f2 j)))), (g6, .inl (ax 2, 20, .inl (fun j => nI (te j)))), (g7, .inl (ax 2, 20, .inl (fun j => nI (kp j)))), (g8, .inl (ax 0, 20, .inl tm)), (g9, .inl (ax 1, 20, .inl (fun j => nI (nm j)))), (ga, .inl (ax 1, 29, .inl (fun j => nI (ck j)))), (gb, .inl (ax 1, 29, .inl (fun j => nI (co j))))]) (ixn [(u_138 0), (u_138 1), (u_138 2), (u_138 3), (u_138 4), (u_138 5)]) x_148 x_149 x_150 x_151) hP hD [0, 1, 2, 3, 4, 5, 6, 7, 8, 9, 10, 11, 12, 13, 14, 15, 16, 17, 18, 19, 20, 21, 22, 23, 24, 25] (by decide) rfl
  have hex0 : ndv x_149 x_150 x_151 ((u_138 3)) := hx_152
  have hex1 : bts x_149 ((u_138 4)) := (by assumption)
  have hex2 : ∀ i, i < z9 → tsn x_149 x_150 x_151 i = tsn fo fl fr i := hK_157
  have hex3 : tsn x_149 x_150 x_151 ((u_138 5)) + z9 ≤ (u_138 3) := (by omega)
  have hex4 : ∀ j, j ≤ 10 → trm (x_148 j) := hx_156
  have hg8 : H_139.size ≤ s.heap.size + ((u_138 4) - cp) := by omega
  have hg9 : tsl H_139 ≤ tsl s.heap + (6 * ((u_138 4) - cp)) := by omega
  have hsp0 : z9 ≤ (u_138 3) := (by omega)
  have hsp1 : (u_138 3) ≤ (u_138 4) := (by omega)
  have hsp2 : cp ≤ (u_138 4) := (by omega)
  have hsp3 : (u_138 4) ≤ MX := (by omega)
  have hsp4 : dbl cp ((u_138 4)) := hs_145
  have hsp5 : (u_138 5) < (u_138 3) := (by omega)
  have hsp6 : (u_138 3) ≤ z9 + wpw kd kc ln 460 s9 := (by omega)
  exact W.iret (v := nI (u_138 5)) hx hb hr (fun t ht hW => ⟨⟨nI (u_138 5), ixn [(u_138 0), (u_138 1), (u_138 2), (u_138 3), (u_138 4), (u_138 5)], rfl, ⟨rfl, ⟨hsp0, hsp1, hsp2, hsp3, hsp4, hsp5, hsp6⟩⟩, ⟨x_148, x_149, x_150, x_151, by rw [ht]; exact hg8, by rw [ht]; exact hg9, hex0, hex1, hex2, hex3, hex4, by rw [ht]; exact hP9, hD9⟩⟩, hS.F ht⟩) hS.2.2 d_Maker_wp_154
theorem K_wp_all (l : Launch) : ∀ n s9, 20 - s9 ≤ n → CWp l s9
  | 0, s9, h => fun D ax => c_K_wp l s9 (fun a ha hb => by omega) D ax
  | n + 1, s9, h => fun D ax => c_K_wp l s9 (fun a ha hb => K_wp_all l n a (by omega)) D ax
