/-- a claim's kind and its statement -/
def clq (n : Nat) (kd nm : Nat → Nat) (q s : Nat) : Prop := (q = 0 ∧ s = 4294967295) ∨ (s < n ∧ ((q = 4 ∧ kd s = 123) ∨ ((q = 1 ∨ q = 2) ∧ kd s = 12) ∨ (q = 3 ∧ kd s = 12 ∧ nm s < 128)))
section CLQ
variable {n q s br cl c : Nat} {kd nm ck co : Nat → Nat}
theorem clm.clq (h : clm br cl ck co n kd nm) (hc : c < cl) : clq n kd nm (ck c) (co c) := h.2 c hc
theorem clq.none (h : clq n kd nm q s) (e : s = 4294967295) (hn : n ≤ 20) : q = 0 := by unfold clq at h; omega
theorem clq.some (h : clq n kd nm q s) (e : s ≠ 4294967295) : s < n ∧ 1 ≤ q ∧ q ≤ 4 := by unfold clq at h; omega
theorem clq.some2 (h : clq n kd nm q s) (e : q ≠ 0) : s < n ∧ q ≤ 4 := by unfold clq at h; omega
theorem clq.cut (h : clq n kd nm q s) (e : q = 4) : kd s = 123 := by unfold clq at h; omega
theorem clq.loop (h : clq n kd nm q s) (e : q ≠ 0) (e2 : q ≠ 4) : kd s = 12 := by unfold clq at h; omega
theorem clq.vari (h : clq n kd nm q s) (e : q = 3) : nm s < 128 := by unfold clq at h; omega
end CLQ
theorem ndv.z0 {fo fl fr : Nat → Int32} : ndv fo fl fr 0 := fun i hi => by omega
/-- the formula of a claim that is made -/
def fmk (md : Int32) (z : Nat) (fo fl fr : Nat → Int32) : Prop := md ≠ -1 → ndv fo fl fr z ∧ 1 ≤ z ∧ z ≤ 32768 ∧ tsn fo fl fr (z - 1) ≤ 32768
abbrev b_Maker_premise : ByteArray := prog_5_method_4_code
def y_Maker_premise : MethodName := ⟨R_Maker, "premise", "(II)I"⟩
theorem d_Maker_premise_0 : decode b_Maker_premise 0 = .ok (.iload_n 1, 1) := by decide +kernel
theorem d_Maker_premise_1 : decode b_Maker_premise 1 = .ok (.iconst 4, 1) := by decide +kernel
theorem d_Maker_premise_2 : decode b_Maker_premise 2 = .ok (.if_icmp .ne 24, 3) := by decide +kernel
theorem d_Maker_premise_5 : decode b_Maker_premise 5 = .ok (.aload_n 0, 1) := by decide +kernel
theorem d_Maker_premise_6 : decode b_Maker_premise 6 = .ok (.aload_n 0, 1) := by decide +kernel
theorem d_Maker_premise_7 : decode b_Maker_premise 7 = .ok (.getfield 29, 3) := by decide +kernel
theorem d_Maker_premise_10 : decode b_Maker_premise 10 = .ok (.getfield 64, 3) := by decide +kernel
theorem d_Maker_premise_13 : decode b_Maker_premise 13 = .ok (.aload_n 0, 1) := by decide +kernel
theorem d_Maker_premise_14 : decode b_Maker_premise 14 = .ok (.getfield 29, 3) := by decide +kernel
theorem d_Maker_premise_17 : decode b_Maker_premise 17 = .ok (.getfield 67, 3) := by decide +kernel
theorem d_Maker_premise_20 : decode b_Maker_premise 20 = .ok (.iload_n 2, 1) := by decide +kernel
theorem d_Maker_premise_21 : decode b_Maker_premise 21 = .ok (.saload, 1) := by decide +kernel
theorem d_Maker_premise_22 : decode b_Maker_premise 22 = .ok (.invokevirtual 46, 3) := by decide +kernel
theorem d_Maker_premise_25 : decode b_Maker_premise 25 = .ok (.ireturn, 1) := by decide +kernel
theorem d_Maker_premise_26 : decode b_Maker_premise 26 = .ok (.aload_n 0, 1) := by decide +kernel
theorem d_Maker_premise_27 : decode b_Maker_premise 27 = .ok (.aload_n 0, 1) := by decide +kernel
theorem d_Maker_premise_28 : decode b_Maker_premise 28 = .ok (.getfield 29, 3) := by decide +kernel
theorem d_Maker_premise_31 : decode b_Maker_premise 31 = .ok (.getfield 64, 3) := by decide +kernel
theorem d_Maker_premise_34 : decode b_Maker_premise 34 = .ok (.aload_n 0, 1) := by decide +kernel
theorem d_Maker_premise_35 : decode b_Maker_premise 35 = .ok (.getfield 29, 3) := by decide +kernel
theorem d_Maker_premise_38 : decode b_Maker_premise 38 = .ok (.getfield 71, 3) := by decide +kernel
theorem d_Maker_premise_41 : decode b_Maker_premise 41 = .ok (.iload_n 2, 1) := by decide +kernel
theorem d_Maker_premise_42 : decode b_Maker_premise 42 = .ok (.saload, 1) := by decide +kernel
theorem d_Maker_premise_43 : decode b_Maker_premise 43 = .ok (.invokevirtual 46, 3) := by decide +kernel
theorem d_Maker_premise_46 : decode b_Maker_premise 46 = .ok (.istore_n 3, 1) := by decide +kernel
theorem d_Maker_premise_47 : decode b_Maker_premise 47 = .ok (.aload_n 0, 1) := by decide +kernel
theorem d_Maker_premise_48 : decode b_Maker_premise 48 = .ok (.aload_n 0, 1) := by decide +kernel
theorem d_Maker_premise_49 : decode b_Maker_premise 49 = .ok (.getfield 29, 3) := by decide +kernel
theorem d_Maker_premise_52 : decode b_Maker_premise 52 = .ok (.getfield 64, 3) := by decide +kernel
theorem d_Maker_premise_55 : decode b_Maker_premise 55 = .ok (.aload_n 0, 1) := by decide +kernel
theorem d_Maker_premise_56 : decode b_Maker_premise 56 = .ok (.getfield 29, 3) := by decide +kernel
theorem d_Maker_premise_59 : decode b_Maker_premise 59 = .ok (.getfield 67, 3) := by decide +kernel
theorem d_Maker_premise_62 : decode b_Maker_premise 62 = .ok (.iload_n 2, 1) := by decide +kernel
theorem d_Maker_premise_63 : decode b_Maker_premise 63 = .ok (.saload, 1) := by decide +kernel
theorem d_Maker_premise_64 : decode b_Maker_premise 64 = .ok (.invokevirtual 46, 3) := by decide +kernel
theorem d_Maker_premise_67 : decode b_Maker_premise 67 = .ok (.istore 4, 2) := by decide +kernel
theorem d_Maker_premise_69 : decode b_Maker_premise 69 = .ok (.iload_n 1, 1) := by decide +kernel
theorem d_Maker_premise_70 : decode b_Maker_premise 70 = .ok (.iconst 2, 1) := by decide +kernel
theorem d_Maker_premise_71 : decode b_Maker_premise 71 = .ok (.if_icmp .ne 26, 3) := by decide +kernel
theorem d_Maker_premise_74 : decode b_Maker_premise 74 = .ok (.aload_n 0, 1) := by decide +kernel
theorem d_Maker_premise_75 : decode b_Maker_premise 75 = .ok (.getfield 12, 3) := by decide +kernel
theorem d_Maker_premise_78 : decode b_Maker_premise 78 = .ok (.bipush 7, 2) := by decide +kernel
theorem d_Maker_premise_80 : decode b_Maker_premise 80 = .ok (.iload_n 3, 1) := by decide +kernel
theorem d_Maker_premise_81 : decode b_Maker_premise 81 = .ok (.aload_n 0, 1) := by decide +kernel
theorem d_Maker_premise_82 : decode b_Maker_premise 82 = .ok (.getfield 12, 3) := by decide +kernel
theorem d_Maker_premise_85 : decode b_Maker_premise 85 = .ok (.bipush 6, 2) := by decide +kernel
theorem d_Maker_premise_87 : decode b_Maker_premise 87 = .ok (.iload 4, 2) := by decide +kernel
theorem d_Maker_premise_89 : decode b_Maker_premise 89 = .ok (.iconst (-1), 1) := by decide +kernel
theorem d_Maker_premise_90 : decode b_Maker_premise 90 = .ok (.invokevirtual 57, 3) := by decide +kernel
theorem d_Maker_premise_93 : decode b_Maker_premise 93 = .ok (.invokevirtual 57, 3) := by decide +kernel
theorem d_Maker_premise_96 : decode b_Maker_premise 96 = .ok (.ireturn, 1) := by decide +kernel
theorem d_Maker_premise_97 : decode b_Maker_premise 97 = .ok (.aload_n 0, 1) := by decide +kernel
theorem d_Maker_premise_98 : decode b_Maker_premise 98 = .ok (.getfield 12, 3) := by decide +kernel
theorem d_Maker_premise_101 : decode b_Maker_premise 101 = .ok (.bipush 7, 2) := by decide +kernel
theorem d_Maker_premise_103 : decode b_Maker_premise 103 = .ok (.iload_n 3, 1) := by decide +kernel
theorem d_Maker_premise_104 : decode b_Maker_premise 104 = .ok (.iload 4, 2) := by decide +kernel
theorem d_Maker_premise_106 : decode b_Maker_premise 106 = .ok (.invokevirtual 57, 3) := by decide +kernel
theorem d_Maker_premise_109 : decode b_Maker_premise 109 = .ok (.istore 5, 2) := by decide +kernel
theorem d_Maker_premise_111 : decode b_Maker_premise 111 = .ok (.iload_n 1, 1) := by decide +kernel
theorem d_Maker_premise_112 : decode b_Maker_premise 112 = .ok (.iconst 3, 1) := by decide +kernel
theorem d_Maker_premise_113 : decode b_Maker_premise 113 = .ok (.if_icmp .eq 16, 3) := by decide +kernel
theorem d_Maker_premise_116 : decode b_Maker_premise 116 = .ok (.aload_n 0, 1) := by decide +kernel
theorem d_Maker_premise_117 : decode b_Maker_premise 117 = .ok (.getfield 29, 3) := by decide +kernel
theorem d_Maker_premise_120 : decode b_Maker_premise 120 = .ok (.getfield 74, 3) := by decide +kernel
theorem d_Maker_premise_123 : decode b_Maker_premise 123 = .ok (.iload_n 2, 1) := by decide +kernel
theorem d_Maker_premise_124 : decode b_Maker_premise 124 = .ok (.baload, 1) := by decide +kernel
theorem d_Maker_premise_125 : decode b_Maker_premise 125 = .ok (.iconst (-1), 1) := by decide +kernel
theorem d_Maker_premise_126 : decode b_Maker_premise 126 = .ok (.if_icmp .ne 6, 3) := by decide +kernel
theorem d_Maker_premise_129 : decode b_Maker_premise 129 = .ok (.iload 5, 2) := by decide +kernel
theorem d_Maker_premise_131 : decode b_Maker_premise 131 = .ok (.ireturn, 1) := by decide +kernel
theorem d_Maker_premise_132 : decode b_Maker_premise 132 = .ok (.aload_n 0, 1) := by decide +kernel
theorem d_Maker_premise_133 : decode b_Maker_premise 133 = .ok (.getfield 12, 3) := by decide +kernel
theorem d_Maker_premise_136 : decode b_Maker_premise 136 = .ok (.bipush 7, 2) := by decide +kernel
theorem d_Maker_premise_138 : decode b_Maker_premise 138 = .ok (.iload 5, 2) := by decide +kernel
theorem d_Maker_premise_140 : decode b_Maker_premise 140 = .ok (.aload_n 0, 1) := by decide +kernel
theorem d_Maker_premise_141 : decode b_Maker_premise 141 = .ok (.getfield 12, 3) := by decide +kernel
theorem d_Maker_premise_144 : decode b_Maker_premise 144 = .ok (.iconst 4, 1) := by decide +kernel
theorem d_Maker_premise_145 : decode b_Maker_premise 145 = .ok (.aload_n 0, 1) := by decide +kernel
theorem d_Maker_premise_146 : decode b_Maker_premise 146 = .ok (.getfield 29, 3) := by decide +kernel
theorem d_Maker_premise_149 : decode b_Maker_premise 149 = .ok (.getfield 77, 3) := by decide +kernel
theorem d_Maker_premise_152 : decode b_Maker_premise 152 = .ok (.iload_n 2, 1) := by decide +kernel
theorem d_Maker_premise_153 : decode b_Maker_premise 153 = .ok (.iaload, 1) := by decide +kernel
theorem d_Maker_premise_154 : decode b_Maker_premise 154 = .ok (.aload_n 0, 1) := by decide +kernel
theorem d_Maker_premise_155 : decode b_Maker_premise 155 = .ok (.getfield 29, 3) := by decide +kernel
theorem d_Maker_premise_158 : decode b_Maker_premise 158 = .ok (.getfield 74, 3) := by decide +kernel
theorem d_Maker_premise_161 : decode b_Maker_premise 161 = .ok (.iload_n 2, 1) := by decide +kernel
theorem d_Maker_premise_162 : decode b_Maker_premise 162 = .ok (.baload, 1) := by decide +kernel
theorem d_Maker_premise_163 : decode b_Maker_premise 163 = .ok (.invokevirtual 57, 3) := by decide +kernel
theorem d_Maker_premise_166 : decode b_Maker_premise 166 = .ok (.invokevirtual 57, 3) := by decide +kernel
theorem d_Maker_premise_169 : decode b_Maker_premise 169 = .ok (.ireturn, 1) := by decide +kernel
set_option maxHeartbeats 40000000 in
set_option maxRecDepth 100000 in
theorem c_K_premise (l : Launch) (D : va_G) (ax : Nat → ClassId) (c0 c1 : Nat) (s_made : Int32) (sd : Nat → Int32) (n0 n1 n2 n3 cp z9 : Nat) (fo fl fr : Nat → Int32) (h0 h1 h2 h3 zs cs : Nat) (so sl sr : Nat → Int32) (a0 a1 a2 a3 za ca : Nat) (ao al ar : Nat → Int32) (g0 g1 g2 g3 g4 g5 g6 g7 g8 g9 ga gb cl ln br lp va : Nat) (kd ow sb f1 f2 te kp nm ck co : Nat → Nat) (tm : Nat → Int32) (MX : Nat) (en kc : Nat → Nat) (q9 s9 : Nat) (sz tz : Nat) (hcp : 8 ≤ cp) (hz9 : z9 ≤ cp) (hmx : cp ≤ MX) (hMX : MX ≤ 100000) (hfo : bts fo cp) (hnv : ndv fo fl fr z9) (hsd : ∀ j, j ≤ 10 → trm (sd j)) (hzs : zs ≤ cs) (hcs : cs ≤ 100000) (hsv : ndv so sl sr zs) (hza : za ≤ ca) (hca : ca ≤ 100000) (hz1 : 1 ≤ za) (hz4 : za ≤ 450) (hav : ndv ao al ar za) (hat : tsn ao al ar (za - 1) ≤ 450) (hlw : lsw ln zs kd ow sb f1 f2 te kp nm en kc tm so sl sr) (hcq : clq ln kd nm q9 s9) (hsn : s9 ≠ 4294967295) (hbd : 2 * (z9 + 460) ≤ MX) : Met l y_Maker_premise (xws (.code y_Maker_premise b_Maker_premise 6 (some .int))) ({ frames := 1000, cells := MX - cp, slots := 6 * (MX - cp), locals := 21000 }) (va_Pc [.ref c0, .int (nI q9), .int (nI s9)] (xo3 D ax [(c0, .inr (3, [.ref n0, .ref c1, .ref g0, .ref a0, .int s_made])), (c1, .inl (ax 0, 16, .inl sd)), (n0, .inr (4, [.ref n1, .ref n2, .ref n3, .int (nI z9)])), (n1, .inl (ax 1, cp, .inl fo)), (n2, .inl (ax 0, cp, .inl fl)), (n3, .inl (ax 0, cp, .inl fr)), (h0, .inr (4, [.ref h1, .ref h2, .ref h3, .int (nI zs)])), (h1, .inl (ax 1, cs, .inl so)), (h2, .inl (ax 0, cs, .inl sl)), (h3, .inl (ax 0, cs, .inl sr)), (a0, .inr (4, [.ref a1, .ref a2, .ref a3, .int (nI za)])), (a1, .inl (ax 1, ca, .inl ao)), (a2, .inl (ax 0, ca, .inl al)), (a3, .inl (ax 0, ca, .inl ar)), (g0, .inr (2, [.ref h0, .ref g1, .ref g2, .ref g3, .ref g4, .ref g5, .ref g6, .ref g7, .ref g8, .ref g9, .ref ga, .ref gb, .int (nI cl), .int (nI ln), .int (nI br), .int (nI lp), .int (nI va)])), (g1, .inl (ax 1, 20, .inl (fun j => nI (kd j)))), (g2, .inl (ax 1, 20, .inl (fun j => nI (ow j)))), (g3, .inl (ax 1, 20, .inl (fun j => nI (sb j)))), (g4, .inl (ax 1, 20, .inl (fun j => nI (f1 j)))), (g5, .inl (ax 1, 20, .inl (fun j => nI (f2 j)))), (g6, .inl (ax 2, 20, .inl (fun j => nI (te j)))), (g7, .inl (ax 2, 20, .inl (fun j => nI (kp j)))), (g8, .inl (ax 0, 20, .inl tm)), (g9, .inl (ax 1, 20, .inl (fun j => nI (nm j)))), (ga, .inl (ax 1, 29, .inl (fun j => nI (ck j)))), (gb, .inl (ax 1, 29, .inl (fun j => nI (co j))))] sz tz)) ((va_Qi (fun (r : Int32) (u : Nat → Nat) => r = nI (u 5) ∧ (z9 ≤ u 3 ∧ u 3 ≤ u 4 ∧ cp ≤ u 4 ∧ u 4 ≤ MX ∧ dbl cp (u 4) ∧ u 5 < u 3 ∧ u 3 ≤ z9 + 460)) (fun (u : Nat → Nat) (t9 : State) => ∃ xsd : Nat → Int32, ∃ xfo : Nat → Int32, ∃ xfl : Nat → Int32, ∃ xfr : Nat → Int32, (t9.heap.size ≤ sz + (u 4 - cp)) ∧ (tsl t9.heap ≤ tz + (6 * (u 4 - cp))) ∧ (ndv xfo xfl xfr (u 3)) ∧ (bts xfo (u 4)) ∧ (∀ i, i < z9 → tsn xfo xfl xfr i = tsn fo fl fr i) ∧ (tsn xfo xfl xfr (u 5) + z9 ≤ u 3) ∧ (∀ j, j ≤ 10 → trm (xsd j)) ∧ va_P D classes [(c0, .inr (3, [.ref n0, .ref c1, .ref g0, .ref a0, .int s_made])), (c1, .inl (ax 0, 16, .inl xsd)), (n0, .inr (4, [.ref (u 0), .ref (u 1), .ref (u 2), .int (nI (u 3))])), (u 0, .inl (ax 1, u 4, .inl xfo)), (u 1, .inl (ax 0, u 4, .inl xfl)), (u 2, .inl (ax 0, u 4, .inl xfr)), (h0, .inr (4, [.ref h1, .ref h2, .ref h3, .int (nI zs)])), (h1, .inl (ax 1, cs, .inl so)), (h2, .inl (ax 0, cs, .inl sl)), (h3, .inl (ax 0, cs, .inl sr)), (a0, .inr (4, [.ref a1, .ref a2, .ref a3, .int (nI za)])), (a1, .inl (ax 1, ca, .inl ao)), (a2, .inl (ax 0, ca, .inl al)), (a3, .inl (ax 0, ca, .inl ar)), (g0, .inr (2, [.ref h0, .ref g1, .ref g2, .ref g3, .ref g4, .ref g5, .ref g6, .ref g7, .ref g8, .ref g9, .ref ga, .ref gb, .int (nI cl), .int (nI ln), .int (nI br), .int (nI lp), .int (nI va)])), (g1, .inl (ax 1, 20, .inl (fun j => nI (kd j)))), (g2, .inl (ax 1, 20, .inl (fun j => nI (ow j)))), (g3, .inl (ax 1, 20, .inl (fun j => nI (sb j)))), (g4, .inl (ax 1, 20, .inl (fun j => nI (f1 j)))), (g5, .inl (ax 1, 20, .inl (fun j => nI (f2 j)))), (g6, .inl (ax 2, 20, .inl (fun j => nI (te j)))), (g7, .inl (ax 2, 20, .inl (fun j => nI (kp j)))), (g8, .inl (ax 0, 20, .inl tm)), (g9, .inl (ax 1, 20, .inl (fun j => nI (nm j)))), (ga, .inl (ax 1, 29, .inl (fun j => nI (ck j)))), (gb, .inl (ax 1, 29, .inl (fun j => nI (co j))))] t9.heap ∧ va_D (va_A [(c0, .inr (3, [.ref n0, .ref c1, .ref g0, .ref a0, .int s_made])), (c1, .inl (ax 0, 16, .inl sd)), (n0, .inr (4, [.ref n1, .ref n2, .ref n3, .int (nI z9)])), (n1, .inl (ax 1, cp, .inl fo)), (n2, .inl (ax 0, cp, .inl fl)), (n3, .inl (ax 0, cp, .inl fr)), (h0, .inr (4, [.ref h1, .ref h2, .ref h3, .int (nI zs)])), (h1, .inl (ax 1, cs, .inl so)), (h2, .inl (ax 0, cs, .inl sl)), (h3, .inl (ax 0, cs, .inl sr)), (a0, .inr (4, [.ref a1, .ref a2, .ref a3, .int (nI za)])), (a1, .inl (ax 1, ca, .inl ao)), (a2, .inl (ax 0, ca, .inl al)), (a3, .inl (ax 0, ca, .inl ar)), (g0, .inr (2, [.ref h0, .ref g1, .ref g2, .ref g3, .ref g4, .ref g5, .ref g6, .ref g7, .ref g8, .ref g9, .ref ga, .ref gb, .int (nI cl), .int (nI ln), .int (nI br), .int (nI lp), .int (nI va)])), (g1, .inl (ax 1, 20, .inl (fun j => nI (kd j)))), (g2, .inl (ax 1, 20, .inl (fun j => nI (ow j)))), (g3, .inl (ax 1, 20, .inl (fun j => nI (sb j)))), (g4, .inl (ax 1, 20, .inl (fun j => nI (f1 j)))), (g5, .inl (ax 1, 20, .inl (fun j => nI (f2 j)))), (g6, .inl (ax 2, 20, .inl (fun j => nI (te j)))), (g7, .inl (ax 2, 20, .inl (fun j => nI (kp j)))), (g8, .inl (ax 0, 20, .inl tm)), (g9, .inl (ax 1, 20, .inl (fun j => nI (nm j)))), (ga, .inl (ax 1, 29, .inl (fun j => nI (ck j)))), (gb, .inl (ax 1, 29, .inl (fun j => nI (co j))))] sz) [(c0, .inr (3, [.ref n0, .ref c1, .ref g0, .ref a0, .int s_made])), (c1, .inl (ax 0, 16, .inl xsd)), (n0, .inr (4, [.ref (u 0), .ref (u 1), .ref (u 2), .int (nI (u 3))])), (u 0, .inl (ax 1, u 4, .inl xfo)), (u 1, .inl (ax 0, u 4, .inl xfl)), (u 2, .inl (ax 0, u 4, .inl xfr)), (h0, .inr (4, [.ref h1, .ref h2, .ref h3, .int (nI zs)])), (h1, .inl (ax 1, cs, .inl so)), (h2, .inl (ax 0, cs, .inl sl)), (h3, .inl (ax 0, cs, .inl sr)), (a0, .inr (4, [.ref a1, .ref a2, .ref a3, .int (nI za)])), (a1, .inl (ax 1, ca, .inl ao)), (a2, .inl (ax 0, ca, .inl al)), (a3, .inl (ax 0, ca, .inl ar)), (g0, .inr (2, [.ref h0, .ref g1, .ref g2, .ref g3, .ref g4, .ref g5, .ref g6, .ref g7, .ref g8, .ref g9, .ref ga, .ref gb, .int (nI cl), .int (nI ln), .int (nI br), .int (nI lp), .int (nI va)])), (g1, .inl (ax 1, 20, .inl (fun j => nI (kd j)))), (g2, .inl (ax 1, 20, .inl (fun j => nI (ow j)))), (g3, .inl (ax 1, 20, .inl (fun j => nI (sb j)))), (g4, .inl (ax 1, 20, .inl (fun j => nI (f1 j)))), (g5, .inl (ax 1, 20, .inl (fun j => nI (f2 j)))), (g6, .inl (ax 2, 20, .inl (fun j => nI (te j)))), (g7, .inl (ax 2, 20, .inl (fun j => nI (kp j)))), (g8, .inl (ax 0, 20, .inl tm)), (g9, .inl (ax 1, 20, .inl (fun j => nI (nm j)))), (ga, .inl (ax 1, 29, .inl (fun j => nI (ck j)))), (gb, .inl (ax 1, 29, .inl (fun j => nI (co j))))]) (va_A [(c0, .inr (3, [.ref n0, .ref c1, .ref g0, .ref a0, .int s_made])), (c1, .inl (ax 0, 16, .inl sd)), (n0, .inr (4, [.ref n1, .ref n2, .ref n3, .int (nI z9)])), (n1, .inl (ax 1, cp, .inl fo)), (n2, .inl (ax 0, cp, .inl fl)), (n3, .inl (ax 0, cp, .inl fr)), (h0, .inr (4, [.ref h1, .ref h2, .ref h3, .int (nI zs)])), (h1, .inl (ax 1, cs, .inl so)), (h2, .inl (ax 0, cs, .inl sl)), (h3, .inl (ax 0, cs, .inl sr)), (a0, .inr (4, [.ref a1, .ref a2, .ref a3, .int (nI za)])), (a1, .inl (ax 1, ca, .inl ao)), (a2, .inl (ax 0, ca, .inl al)), (a3, .inl (ax 0, ca, .inl ar)), (g0, .inr (2, [.ref h0, .ref g1, .ref g2, .ref g3, .ref g4, .ref g5, .ref g6, .ref g7, .ref g8, .ref g9, .ref ga, .ref gb, .int (nI cl), .int (nI ln), .int (nI br), .int (nI lp), .int (nI va)])), (g1, .inl (ax 1, 20, .inl (fun j => nI (kd j)))), (g2, .inl (ax 1, 20, .inl (fun j => nI (ow j)))), (g3, .inl (ax 1, 20, .inl (fun j => nI (sb j)))), (g4, .inl (ax 1, 20, .inl (fun j => nI (f1 j)))), (g5, .inl (ax 1, 20, .inl (fun j => nI (f2 j)))), (g6, .inl (ax 2, 20, .inl (fun j => nI (te j)))), (g7, .inl (ax 2, 20, .inl (fun j => nI (kp j)))), (g8, .inl (ax 0, 20, .inl tm)), (g9, .inl (ax 1, 20, .inl (fun j => nI (nm j)))), (ga, .inl (ax 1, 29, .inl (fun j => nI (ck j)))), (gb, .inl (ax 1, 29, .inl (fun j => nI (co j))))] sz))) (MX - cp) (6 * (MX - cp)) (va_A [(c0, .inr (3, [.ref n0, .ref c1, .ref g0, .ref a0, .int s_made])), (c1, .inl (ax 0, 16, .inl sd)), (n0, .inr (4, [.ref n1, .ref n2, .ref n3, .int (nI z9)])), (n1, .inl (ax 1, cp, .inl fo)), (n2, .inl (ax 0, cp, .inl fl)), (n3, .inl (ax 0, cp, .inl fr)), (h0, .inr (4, [.ref h1, .ref h2, .ref h3, .int (nI zs)])), (h1, .inl (ax 1, cs, .inl so)), (h2, .inl (ax 0, cs, .inl sl)), (h3, .inl (ax 0, cs, .inl sr)), (a0, .inr (4, [.ref a1, .ref a2, .ref a3, .int (nI za)])), (a1, .inl (ax 1, ca, .inl ao)), (a2, .inl (ax 0, ca, .inl al)), (a3, .inl (ax 0, ca, .inl ar)), (g0, .inr (2, [.ref h0, .ref g1, .ref g2, .ref g3, .ref g4, .ref g5, .ref g6, .ref g7, .ref g8, .ref g9, .ref ga, .ref gb, .int (nI cl), .int (nI ln), .int (nI br), .int (nI lp), .int (nI va)])), (g1, .inl (ax 1, 20, .inl (fun j => nI (kd j)))), (g2, .inl (ax 1, 20, .inl (fun j => nI (ow j)))), (g3, .inl (ax 1, 20, .inl (fun j => nI (sb j)))), (g4, .inl (ax 1, 20, .inl (fun j => nI (f1 j)))), (g5, .inl (ax 1, 20, .inl (fun j => nI (f2 j)))), (g6, .inl (ax 2, 20, .inl (fun j => nI (te j)))), (g7, .inl (ax 2, 20, .inl (fun j => nI (kp j)))), (g8, .inl (ax 0, 20, .inl tm)), (g9, .inl (ax 1, 20, .inl (fun j => nI (nm j)))), (ga, .inl (ax 1, 29, .inl (fun j => nI (ck j)))), (gb, .inl (ax 1, 29, .inl (fun j => nI (co j))))] sz) := by
  refine Met.ofW (cc := b_Maker_premise) (maxL := 6) (ret := (some .int)) (by decide) rfl ?_
  intro p e s m args below meth c s₁ B hml hv
  obtain ⟨rfl, ⟨hsz, hP, hK, hD0⟩, htz⟩ := hv
  have hx := B.exec
  have hb := B.bytes
  have hr := B.returns
  have hts := xw_hts B.pre
  have hown : s.vm.findClass R_Maker = some m.cls := findClass_of_methodNamed B.named
  have hlocks := B.notSynchronized
  subst hsz
  subst htz
  have hD := hD0.self (sz := s.heap.size)
  have hN := xz_entry hP
  generalize hAe : va_A [(c0, .inr (3, [.ref n0, .ref c1, .ref g0, .ref a0, .int s_made])), (c1, .inl (ax 0, 16, .inl sd)), (n0, .inr (4, [.ref n1, .ref n2, .ref n3, .int (nI z9)])), (n1, .inl (ax 1, cp, .inl fo)), (n2, .inl (ax 0, cp, .inl fl)), (n3, .inl (ax 0, cp, .inl fr)), (h0, .inr (4, [.ref h1, .ref h2, .ref h3, .int (nI zs)])), (h1, .inl (ax 1, cs, .inl so)), (h2, .inl (ax 0, cs, .inl sl)), (h3, .inl (ax 0, cs, .inl sr)), (a0, .inr (4, [.ref a1, .ref a2, .ref a3, .int (nI za)])), (a1, .inl (ax 1, ca, .inl ao)), (a2, .inl (ax 0, ca, .inl al)), (a3, .inl (ax 0, ca, .inl ar)), (g0, .inr (2, [.ref h0, .ref g1, .ref g2, .ref g3, .ref g4, .ref g5, .ref g6, .ref g7, .ref g8, .ref g9, .ref ga, .ref gb, .int (nI cl), .int (nI ln), .int (nI br), .int (nI lp), .int (nI va)])), (g1, .inl (ax 1, 20, .inl (fun j => nI (kd j)))), (g2, .inl (ax 1, 20, .inl (fun j => nI (ow j)))), (g3, .inl (ax 1, 20, .inl (fun j => nI (sb j)))), (g4, .inl (ax 1, 20, .inl (fun j => nI (f1 j)))), (g5, .inl (ax 1, 20, .inl (fun j => nI (f2 j)))), (g6, .inl (ax 2, 20, .inl (fun j => nI (te j)))), (g7, .inl (ax 2, 20, .inl (fun j => nI (kp j)))), (g8, .inl (ax 0, 20, .inl tm)), (g9, .inl (ax 1, 20, .inl (fun j => nI (nm j)))), (ga, .inl (ax 1, 29, .inl (fun j => nI (ck j)))), (gb, .inl (ax 1, 29, .inl (fun j => nI (co j))))] s.heap.size = A at hD hN ⊢
  have hA : ∀ q : Nat, s.heap.size ≤ q → A q := fun q h => by rw [← hAe]; exact Or.inr h
  have hS : va_S A s.heap s.heap [] := va_S.rf
  have hl0 := lv_entry ([.ref c0, .int (nI q9), .int (nI s9)]) (n := 6) (Nat.le_of_ble_eq_true rfl)
  rw [lg_entry_eq]
  generalize (lg_sl ([.ref c0, .int (nI q9), .int (nI s9)]) ++ List.replicate (6 - (lg_sl ([.ref c0, .int (nI q9), .int (nI s9)])).length) Slot.unset).toArray = ls at hl0 ⊢
  have hl1 : lv_has ls 6 [(0, .ref c0), (1, .int (nI q9)), (2, .int (nI s9))] := hl0
  refine xw_gen (fun Z9 hQe => ?_)
  obtain ⟨hs9, hq1, hq4⟩ := hcq.some (by first | assumption | omega)
  obtain ⟨hkc, hln, hzz⟩ := hlw.bk hs9
  refine lv_iload_n hx hb d_Maker_premise_0 rfl (lv_at hl1 1 rfl) ?_
  refine lv_iconst (v := 4) hx hb d_Maker_premise_1 (by decide) ?_
  refine lv_icmp_ne (tgt := 26) hx hb d_Maker_premise_2 (by decide) (fun c_1 => ?_) (fun c_1 => ?_)
  · replace c_1 : ¬ q9 = 4 := fun hq9 => c_1 ((nI_eq (a := q9) (b := 4) (by first | exact Nat.lt_of_lt_of_le (by assumption) (by decide) | exact Nat.lt_of_le_of_lt (by assumption) (by decide) | omega) (by decide)).mpr hq9)
    obtain ⟨hte, hkp, htk, hf1a, hf1b, hnm⟩ := hlw.wh hs9 (hcq.loop (by first | assumption | omega) (by first | assumption | omega))
    refine lv_aload_n hx hb d_Maker_premise_26 rfl (lv_at hl1 0 rfl) ?_
    refine lv_aload_n hx hb d_Maker_premise_27 rfl (lv_at hl1 0 rfl) ?_
    refine va_get (D := D) (ci := 3) (v := .ref g0) (C := R_Maker) (T := F_Maker) (N := 5) hx hb hts i_Maker hown hK.1 hP 0 rfl rfl 2 (by decide) (hts _ wd_132) (fun _ h9 => h9) rfl d_Maker_premise_28 ?_
    refine va_get (D := D) (ci := 2) (v := .ref h0) (C := R_Listing) (T := F_Listing) (N := 17) hx hb hts i_Listing hown hK.1 hP 14 rfl rfl 0 (by decide) (hts _ wd_269) (fun _ h9 => h9) rfl d_Maker_premise_31 ?_
    refine lv_aload_n hx hb d_Maker_premise_34 rfl (lv_at hl1 0 rfl) ?_
    refine va_get (D := D) (ci := 3) (v := .ref g0) (C := R_Maker) (T := F_Maker) (N := 5) hx hb hts i_Maker hown hK.1 hP 0 rfl rfl 2 (by decide) (hts _ wd_132) (fun _ h9 => h9) rfl d_Maker_premise_35 ?_
    refine va_get (D := D) (ci := 2) (v := .ref g7) (C := R_Listing) (T := F_Listing) (N := 17) hx hb hts i_Listing hown hK.1 hP 14 rfl rfl 7 (by decide) (hts _ wd_290) (fun _ h9 => h9) rfl d_Maker_premise_38 ?_
    refine lv_iload_n hx hb d_Maker_premise_41 rfl (lv_at hl1 2 rfl) ?_
    refine va_sald hx hb hK.1 hP 21 2 rfl rfl (vp_in_nI (by first | assumption | omega) (by decide)) d_Maker_premise_42 ?_
    refine W.eq (g2 := F0 m 43 ls [.int (nI (kp s9)), .ref h0, .ref c0]) (by rw [nI_clamp (by first | exact Nat.lt_of_lt_of_le (by assumption) (by decide) | exact Nat.lt_of_le_of_lt (by assumption) (by decide) | omega)]) ?_
    obtain ⟨hPc, hDc, hFc, hCs⟩ := xw_sub3 (wc := [(c0, .inr (3, [.ref n0, .ref c1, (.ref g0), (.ref a0), .int s_made])), (c1, .inl (ax 0, 16, .inl sd)), (n0, .inr (4, [.ref n1, .ref n2, .ref n3, .int (nI z9)])), (n1, .inl (ax 1, cp, .inl fo)), (n2, .inl (ax 0, cp, .inl fl)), (n3, .inl (ax 0, cp, .inl fr)), (h0, .inr (4, [.ref h1, .ref h2, .ref h3, .int (nI zs)])), (h1, .inl (ax 1, cs, .inl so)), (h2, .inl (ax 0, cs, .inl sl)), (h3, .inl (ax 0, cs, .inl sr))]) hP hD hS hA [0, 1, 2, 3, 4, 5, 6, 7, 8, 9] (by decide) rfl
    have hz := xz_of hN hS
    refine wk_know (fun hk8 hk9 => ?_)
    refine va_calli (va_runV (As := [.ref h0, .int (nI (kp s9))]) (rest := []) ⟨hx, hb, hml, hown, hts⟩ ((K_copy_all l (kp s9)) D ax c0 c1 (.ref g0) (.ref a0) s_made sd n0 n1 n2 n3 cp z9 fo fl fr h0 h1 h2 h3 zs cs so sl sr MX s.heap.size (tsl s.heap) (by first | assumption | omega) (by first | assumption | omega) (by first | assumption | omega) (by first | assumption | omega) (by assumption) (by assumption) (by assumption) hzs hcs (by first | assumption | omega) hsv (by first | assumption | omega)) (xcV (n := 2) hts wd_776 wd_4 wd_773 wd_775 ps_23 rfl rfl (by decide +kernel) ⟨(show (50 + 2 * (kp s9)) + 1 ≤ (1000) by omega), (show 8 + (5 + 11) + (2000 + 40 * (kp s9)) ≤ (21000) by omega)⟩) (xpV3 (ci := 3) (q0 := 0) (As := [.ref h0, .int (nI (kp s9))]) hPc hK hz hDc rfl rfl) rfl rfl hl1.1 rfl (lv_room (Nat.le_of_ble_eq_true rfl)) d_Maker_premise_43 ⟨(show (0) + (MX - cp) ≤ (MX - cp) by omega), (show (0) + (6 * (MX - cp)) ≤ (6 * (MX - cp)) by omega)⟩) hS (fun q _ h => hFc q h) hFc (fun r_4 u_2 t H_3 locs ht hvm hw hB hz1 hk1 hS1 => ?_)
    try dsimp only at hw
    obtain ⟨hw, hs_5, hs_6, hs_7, hs_8, hs_9, hs_10, hs_11⟩ := hw
    subst hw
    obtain ⟨x_12, x_13, x_14, hg8, hg9, hx_15, hx_16, hx_17, hx_18, hP1, hD1⟩ := hB
    rw [ht] at hg8 hg9 hP1
    have hjn := xw_join3 (wl := [(a0, .inr (4, [.ref a1, .ref a2, .ref a3, .int (nI za)])), (a1, .inl (ax 1, ca, .inl ao)), (a2, .inl (ax 0, ca, .inl al)), (a3, .inl (ax 0, ca, .inl ar)), (g0, .inr (2, [.ref h0, .ref g1, .ref g2, .ref g3, .ref g4, .ref g5, .ref g6, .ref g7, .ref g8, .ref g9, .ref ga, .ref gb, .int (nI cl), .int (nI ln), .int (nI br), .int (nI lp), .int (nI va)])), (g1, .inl (ax 1, 20, .inl (fun j => nI (kd j)))), (g2, .inl (ax 1, 20, .inl (fun j => nI (ow j)))), (g3, .inl (ax 1, 20, .inl (fun j => nI (sb j)))), (g4, .inl (ax 1, 20, .inl (fun j => nI (f1 j)))), (g5, .inl (ax 1, 20, .inl (fun j => nI (f2 j)))), (g6, .inl (ax 2, 20, .inl (fun j => nI (te j)))), (g7, .inl (ax 2, 20, .inl (fun j => nI (kp j)))), (g8, .inl (ax 0, 20, .inl tm)), (g9, .inl (ax 1, 20, .inl (fun j => nI (nm j)))), (ga, .inl (ax 1, 29, .inl (fun j => nI (ck j)))), (gb, .inl (ax 1, 29, .inl (fun j => nI (co j)))), (c0, .inr (3, [.ref n0, .ref c1, .ref g0, .ref a0, .int s_made])), (c1, .inl (ax 0, 16, .inl sd)), (n0, .inr (4, [.ref (u_2 0), .ref (u_2 1), .ref (u_2 2), .int (nI (u_2 3))])), ((u_2 0), .inl (ax 1, u_2 4, .inl x_12)), ((u_2 1), .inl (ax 0, u_2 4, .inl x_13)), ((u_2 2), .inl (ax 0, u_2 4, .inl x_14)), (h0, .inr (4, [.ref h1, .ref h2, .ref h3, .int (nI zs)])), (h1, .inl (ax 1, cs, .inl so)), (h2, .inl (ax 0, cs, .inl sl)), (h3, .inl (ax 0, cs, .inl sr))]) hP hD [0, 1, 2, 3, 4, 5, 6, 7, 8, 9] [10, 11, 12, 13, 14, 15, 16, 17, 18, 19, 20, 21, 22, 23, 24, 25] hCs (by decide) (by decide) hk1 hFc hP1 hD1 rfl
    clear hP1 hD1
    clear hPc hDc hFc hCs hz hz1 hk1 ht hvm
    clear hP hD hS
    have hS := hS1
    obtain ⟨hP, hD⟩ := hjn
    clear hS1
    refine wk_narrow (k := u_2 4 - cp) (n := 6 * (u_2 4 - cp)) (by first | assumption | omega) (by first | assumption | omega) ?_
    clear hk8 hk9 hg8 hg9
    have hK_19 : ∀ i, i < z9 → tsn x_12 x_13 x_14 i = tsn fo fl fr i := fun i hi => hx_17 i hi
    refine lv_istore_n (lv' := [(3, .int (nI (u_2 5))), (0, .ref c0), (1, .int (nI q9)), (2, .int (nI s9))]) hx hb d_Maker_premise_46 rfl hl1 (by decide) rfl (fun ls hl2 => ?_)
    clear hl1; have hl1 := hl2; clear hl2
    refine lv_aload_n hx hb d_Maker_premise_47 rfl (lv_at hl1 1 rfl) ?_
    refine lv_aload_n hx hb d_Maker_premise_48 rfl (lv_at hl1 1 rfl) ?_
    refine va_get (D := D) (ci := 3) (v := .ref g0) (C := R_Maker) (T := F_Maker) (N := 5) hx hb hts i_Maker hown hK.1 hP 16 rfl rfl 2 (by decide) (hts _ wd_132) (fun _ h9 => h9) rfl d_Maker_premise_49 ?_
    refine va_get (D := D) (ci := 2) (v := .ref h0) (C := R_Listing) (T := F_Listing) (N := 17) hx hb hts i_Listing hown hK.1 hP 4 rfl rfl 0 (by decide) (hts _ wd_269) (fun _ h9 => h9) rfl d_Maker_premise_52 ?_
    refine lv_aload_n hx hb d_Maker_premise_55 rfl (lv_at hl1 1 rfl) ?_
    refine va_get (D := D) (ci := 3) (v := .ref g0) (C := R_Maker) (T := F_Maker) (N := 5) hx hb hts i_Maker hown hK.1 hP 16 rfl rfl 2 (by decide) (hts _ wd_132) (fun _ h9 => h9) rfl d_Maker_premise_56 ?_
    refine va_get (D := D) (ci := 2) (v := .ref g6) (C := R_Listing) (T := F_Listing) (N := 17) hx hb hts i_Listing hown hK.1 hP 4 rfl rfl 6 (by decide) (hts _ wd_286) (fun _ h9 => h9) rfl d_Maker_premise_59 ?_
    refine lv_iload_n hx hb d_Maker_premise_62 rfl (lv_at hl1 3 rfl) ?_
    refine va_sald hx hb hK.1 hP 10 2 rfl rfl (vp_in_nI (by first | assumption | omega) (by decide)) d_Maker_premise_63 ?_
    refine W.eq (g2 := F0 m 64 ls [.int (nI (te s9)), .ref h0, .ref c0]) (by rw [nI_clamp (by first | exact Nat.lt_of_lt_of_le (by assumption) (by decide) | exact Nat.lt_of_le_of_lt (by assumption) (by decide) | omega)]) ?_
    obtain ⟨hPc, hDc, hFc, hCs⟩ := xw_sub3 (wc := [(c0, .inr (3, [.ref n0, .ref c1, (.ref g0), (.ref a0), .int s_made])), (c1, .inl (ax 0, 16, .inl sd)), (n0, .inr (4, [.ref (u_2 0), .ref (u_2 1), .ref (u_2 2), .int (nI (u_2 3))])), ((u_2 0), .inl (ax 1, u_2 4, .inl x_12)), ((u_2 1), .inl (ax 0, u_2 4, .inl x_13)), ((u_2 2), .inl (ax 0, u_2 4, .inl x_14)), (h0, .inr (4, [.ref h1, .ref h2, .ref h3, .int (nI zs)])), (h1, .inl (ax 1, cs, .inl so)), (h2, .inl (ax 0, cs, .inl sl)), (h3, .inl (ax 0, cs, .inl sr))]) hP hD hS hA [16, 17, 18, 19, 20, 21, 22, 23, 24, 25] (by decide) rfl
    have hz := xz_of hN hS
    refine wk_know (fun hk8 hk9 => ?_)
    refine va_calli (va_runV (As := [.ref h0, .int (nI (te s9))]) (rest := []) ⟨hx, hb, hml, hown, hts⟩ ((K_copy_all l (te s9)) D ax c0 c1 (.ref g0) (.ref a0) s_made sd n0 (u_2 0) (u_2 1) (u_2 2) (u_2 4) (u_2 3) x_12 x_13 x_14 h0 h1 h2 h3 zs cs so sl sr MX H_3.size (tsl H_3) (by first | assumption | omega) (by first | assumption | omega) (by first | assumption | omega) (by first | assumption | omega) (by assumption) (by assumption) (by assumption) hzs hcs (by first | assumption | omega) hsv (by first | assumption | omega)) (xcV (n := 2) hts wd_776 wd_4 wd_773 wd_775 ps_23 rfl rfl (by decide +kernel) ⟨(show (50 + 2 * (te s9)) + 1 ≤ (1000) by omega), (show 8 + (5 + 11) + (2000 + 40 * (te s9)) ≤ (21000) by omega)⟩) (xpV3 (ci := 3) (q0 := 0) (As := [.ref h0, .int (nI (te s9))]) hPc hK hz hDc rfl rfl) rfl rfl hl1.1 rfl (lv_room (Nat.le_of_ble_eq_true rfl)) d_Maker_premise_64 ⟨(show (u_2 4 - cp) + (MX - (u_2 4)) ≤ (MX - cp) by omega), (show (6 * (u_2 4 - cp)) + (6 * (MX - (u_2 4))) ≤ (6 * (MX - cp)) by omega)⟩) hS (fun q _ h => hFc q h) hFc (fun r_22 u_20 t H_21 locs ht hvm hw hB hz1 hk1 hS1 => ?_)
    try dsimp only at hw
    obtain ⟨hw, hs_23, hs_24, hs_25, hs_26, hs_27, hs_28, hs_29⟩ := hw
    subst hw
    obtain ⟨x_30, x_31, x_32, hg8, hg9, hx_33, hx_34, hx_35, hx_36, hP1, hD1⟩ := hB
    rw [ht] at hg8 hg9 hP1
    have hjn := xw_join3 (wl := [(a0, .inr (4, [.ref a1, .ref a2, .ref a3, .int (nI za)])), (a1, .inl (ax 1, ca, .inl ao)), (a2, .inl (ax 0, ca, .inl al)), (a3, .inl (ax 0, ca, .inl ar)), (g0, .inr (2, [.ref h0, .ref g1, .ref g2, .ref g3, .ref g4, .ref g5, .ref g6, .ref g7, .ref g8, .ref g9, .ref ga, .ref gb, .int (nI cl), .int (nI ln), .int (nI br), .int (nI lp), .int (nI va)])), (g1, .inl (ax 1, 20, .inl (fun j => nI (kd j)))), (g2, .inl (ax 1, 20, .inl (fun j => nI (ow j)))), (g3, .inl (ax 1, 20, .inl (fun j => nI (sb j)))), (g4, .inl (ax 1, 20, .inl (fun j => nI (f1 j)))), (g5, .inl (ax 1, 20, .inl (fun j => nI (f2 j)))), (g6, .inl (ax 2, 20, .inl (fun j => nI (te j)))), (g7, .inl (ax 2, 20, .inl (fun j => nI (kp j)))), (g8, .inl (ax 0, 20, .inl tm)), (g9, .inl (ax 1, 20, .inl (fun j => nI (nm j)))), (ga, .inl (ax 1, 29, .inl (fun j => nI (ck j)))), (gb, .inl (ax 1, 29, .inl (fun j => nI (co j)))), (c0, .inr (3, [.ref n0, .ref c1, .ref g0, .ref a0, .int s_made])), (c1, .inl (ax 0, 16, .inl sd)), (n0, .inr (4, [.ref (u_20 0), .ref (u_20 1), .ref (u_20 2), .int (nI (u_20 3))])), ((u_20 0), .inl (ax 1, u_20 4, .inl x_30)), ((u_20 1), .inl (ax 0, u_20 4, .inl x_31)), ((u_20 2), .inl (ax 0, u_20 4, .inl x_32)), (h0, .inr (4, [.ref h1, .ref h2, .ref h3, .int (nI zs)])), (h1, .inl (ax 1, cs, .inl so)), (h2, .inl (ax 0, cs, .inl sl)), (h3, .inl (ax 0, cs, .inl sr))]) hP hD [16, 17, 18, 19, 20, 21, 22, 23, 24, 25] [0, 1, 2, 3, 4, 5, 6, 7, 8, 9, 10, 11, 12, 13, 14, 15] hCs (by decide) (by decide) hk1 hFc hP1 hD1 rfl
    clear hP1 hD1
    clear hPc hDc hFc hCs hz hz1 hk1 ht hvm
    clear hP hD hS
    have hS := hS1
    obtain ⟨hP, hD⟩ := hjn
    clear hS1
    refine wk_narrow (k := u_2 4 - cp + (u_20 4 - (u_2 4))) (n := 6 * (u_2 4 - cp) + (6 * (u_20 4 - (u_2 4)))) (by first | assumption | omega) (by first | assumption | omega) ?_
    clear hk8 hk9 hg8 hg9
    have hK_37 : ∀ i, i < z9 → tsn x_30 x_31 x_32 i = tsn fo fl fr i := fun i hi => (hx_35 i (by first | assumption | omega)).trans (hK_19 i hi)
    have hS_38 : tsn x_30 x_31 x_32 (u_2 5) + z9 ≤ (u_2 3) := by rw [hx_35 (u_2 5) (by first | assumption | omega)]; exact hx_18
    refine lv_istore (lv' := [(4, .int (nI (u_20 5))), (3, .int (nI (u_2 5))), (0, .ref c0), (1, .int (nI q9)), (2, .int (nI s9))]) hx hb d_Maker_premise_67 hl1 (by decide) rfl (fun ls hl2 => ?_)
    clear hl1; have hl1 := hl2; clear hl2
    refine lv_iload_n hx hb d_Maker_premise_69 rfl (lv_at hl1 3 rfl) ?_
    refine lv_iconst (v := 2) hx hb d_Maker_premise_70 (by decide) ?_
    refine lv_icmp_ne (tgt := 97) hx hb d_Maker_premise_71 (by decide) (fun c_39 => ?_) (fun c_39 => ?_)
    · replace c_39 : ¬ q9 = 2 := fun hq9 => c_39 ((nI_eq (a := q9) (b := 2) (by first | exact Nat.lt_of_lt_of_le (by assumption) (by decide) | exact Nat.lt_of_le_of_lt (by assumption) (by decide) | omega) (by decide)).mpr hq9)
      refine lv_aload_n hx hb d_Maker_premise_97 rfl (lv_at hl1 2 rfl) ?_
      refine va_get (D := D) (ci := 3) (v := .ref n0) (C := R_Maker) (T := F_Maker) (N := 5) hx hb hts i_Maker hown hK.1 hP 16 rfl rfl 0 (by decide) (hts _ wd_129) (fun _ h9 => h9) rfl d_Maker_premise_98 ?_
      refine lv_bipush (v := 7) hx hb d_Maker_premise_101 (by decide) ?_
      refine lv_iload_n hx hb d_Maker_premise_103 rfl (lv_at hl1 1 rfl) ?_
      refine lv_iload hx hb d_Maker_premise_104 (lv_at hl1 0 rfl) ?_
      obtain ⟨hPc, hDc, hFc, hCs⟩ := xw_sub3 (wc := [(n0, .inr (4, [.ref (u_20 0), .ref (u_20 1), .ref (u_20 2), .int (nI (u_20 3))])), ((u_20 0), .inl (ax 1, u_20 4, .inl x_30)), ((u_20 1), .inl (ax 0, u_20 4, .inl x_31)), ((u_20 2), .inl (ax 0, u_20 4, .inl x_32))]) hP hD hS hA [18, 19, 20, 21] (by decide) rfl
      have hz := xz_of hN hS
      refine wk_know (fun hk8 hk9 => ?_)
      refine va_calli (va_runV (As := [.int 7, .int (nI (u_2 5)), .int (nI (u_20 5))]) (rest := []) ⟨hx, hb, hml, hown, hts⟩ (c_Nodes_add l D ax n0 (u_20 0) (u_20 1) (u_20 2) (u_20 4) (u_20 3) x_30 x_31 x_32 MX 7 (nI (u_2 5)) (nI (u_20 5)) H_21.size (tsl H_21) (by first | assumption | omega) (by first | assumption | omega) (by first | assumption | omega) (by first | assumption | omega) (by first | assumption | omega) (by assumption)) (xcV (n := 3) hts wd_350 wd_5 wd_781 wd_348 wd_349 rfl rfl (by decide +kernel) ⟨(show (30) + 1 ≤ (1000) by omega), (show 8 + (4 + 11) + (1200) ≤ (21000) by omega)⟩) (xpV3 (ci := 4) (q0 := 0) (As := [.int 7, .int (nI (u_2 5)), .int (nI (u_20 5))]) hPc hK hz hDc rfl rfl) rfl rfl hl1.1 rfl (lv_room (Nat.le_of_ble_eq_true rfl)) d_Maker_premise_106 ⟨(show (u_2 4 - cp + (u_20 4 - (u_2 4))) + (MX - (u_20 4)) ≤ (MX - cp) by omega), (show (6 * (u_2 4 - cp) + (6 * (u_20 4 - (u_2 4)))) + (6 * (MX - (u_20 4))) ≤ (6 * (MX - cp)) by omega)⟩) hS (fun q _ h => hFc q h) hFc (fun r_42 u_40 t H_41 locs ht hvm hw hB hz1 hk1 hS1 => ?_)
      try dsimp only at hw
      obtain ⟨hw, hs_43, hs_44, hs_45, hs_46⟩ := hw
      subst hw
      obtain ⟨x_47, x_48, x_49, hg8, hg9, hx_50, hx_51, hP1, hD1⟩ := hB
      rw [ht] at hg8 hg9 hP1
      have hjn := xw_join3 (wl := [(a0, .inr (4, [.ref a1, .ref a2, .ref a3, .int (nI za)])), (a1, .inl (ax 1, ca, .inl ao)), (a2, .inl (ax 0, ca, .inl al)), (a3, .inl (ax 0, ca, .inl ar)), (g0, .inr (2, [.ref h0, .ref g1, .ref g2, .ref g3, .ref g4, .ref g5, .ref g6, .ref g7, .ref g8, .ref g9, .ref ga, .ref gb, .int (nI cl), .int (nI ln), .int (nI br), .int (nI lp), .int (nI va)])), (g1, .inl (ax 1, 20, .inl (fun j => nI (kd j)))), (g2, .inl (ax 1, 20, .inl (fun j => nI (ow j)))), (g3, .inl (ax 1, 20, .inl (fun j => nI (sb j)))), (g4, .inl (ax 1, 20, .inl (fun j => nI (f1 j)))), (g5, .inl (ax 1, 20, .inl (fun j => nI (f2 j)))), (g6, .inl (ax 2, 20, .inl (fun j => nI (te j)))), (g7, .inl (ax 2, 20, .inl (fun j => nI (kp j)))), (g8, .inl (ax 0, 20, .inl tm)), (g9, .inl (ax 1, 20, .inl (fun j => nI (nm j)))), (ga, .inl (ax 1, 29, .inl (fun j => nI (ck j)))), (gb, .inl (ax 1, 29, .inl (fun j => nI (co j)))), (c0, .inr (3, [.ref n0, .ref c1, .ref g0, .ref a0, .int s_made])), (c1, .inl (ax 0, 16, .inl sd)), (h0, .inr (4, [.ref h1, .ref h2, .ref h3, .int (nI zs)])), (h1, .inl (ax 1, cs, .inl so)), (h2, .inl (ax 0, cs, .inl sl)), (h3, .inl (ax 0, cs, .inl sr)), (n0, .inr (4, [.ref (u_40 0), .ref (u_40 1), .ref (u_40 2), .int (nI ((u_20 3) + 1))])), ((u_40 0), .inl (ax 1, u_40 3, .inl x_47)), ((u_40 1), .inl (ax 0, u_40 3, .inl x_48)), ((u_40 2), .inl (ax 0, u_40 3, .inl x_49))]) hP hD [18, 19, 20, 21] [0, 1, 2, 3, 4, 5, 6, 7, 8, 9, 10, 11, 12, 13, 14, 15, 16, 17, 22, 23, 24, 25] hCs (by decide) (by decide) hk1 hFc hP1 hD1 rfl
      clear hP1 hD1
      clear hPc hDc hFc hCs hz hz1 hk1 ht hvm
      clear hP hD hS
      have hS := hS1
      obtain ⟨hP, hD⟩ := hjn
      clear hS1
      refine wk_narrow (k := u_2 4 - cp + (u_20 4 - (u_2 4)) + (u_40 3 - (u_20 4))) (n := 6 * (u_2 4 - cp) + (6 * (u_20 4 - (u_2 4))) + (6 * (u_40 3 - (u_20 4)))) (by first | assumption | omega) (by first | assumption | omega) ?_
      clear hk8 hk9 hg8 hg9
      have hV_52 : ndv x_47 x_48 x_49 ((u_20 3) + 1) := hx_33.add hx_50 (nd_bin (o := 7) (by decide) (by first | assumption | omega) (by first | assumption | omega))
      have hT_53 : tsn x_47 x_48 x_49 (u_20 3) = 1 + tsn x_30 x_31 x_32 (u_2 5) + tsn x_30 x_31 x_32 (u_20 5) := nad.bin (o := 7) (by first | assumption | omega) hx_33 (by decide) (by first | assumption | omega) (by first | assumption | omega) hx_50
      have hG_54 : ∀ i, i < u_20 3 → tsn x_47 x_48 x_49 i = tsn x_30 x_31 x_32 i := fun i hi => nad.keep (by first | assumption | omega) hx_33 hx_50 hi
      have hB_55 : tsn x_47 x_48 x_49 (u_20 3) + z9 ≤ ((u_20 3) + 1) := by omega
      have hK_56 : ∀ i, i < z9 → tsn x_47 x_48 x_49 i = tsn fo fl fr i := fun i hi => (hG_54 i (by first | assumption | omega)).trans (hK_37 i hi)
      refine lv_istore (lv' := [(5, .int (nI (u_20 3))), (4, .int (nI (u_20 5))), (3, .int (nI (u_2 5))), (0, .ref c0), (1, .int (nI q9)), (2, .int (nI s9))]) hx hb d_Maker_premise_109 hl1 (by decide) rfl (fun ls hl2 => ?_)
      clear hl1; have hl1 := hl2; clear hl2
      refine lv_iload_n hx hb d_Maker_premise_111 rfl (lv_at hl1 4 rfl) ?_
      refine lv_iconst (v := 3) hx hb d_Maker_premise_112 (by decide) ?_
      refine lv_icmp_eq (tgt := 129) hx hb d_Maker_premise_113 (by decide) (fun c_57 => ?_) (fun c_57 => ?_)
      · replace c_57 : q9 = 3 := (nI_eq (a := q9) (b := 3) (by first | exact Nat.lt_of_lt_of_le (by assumption) (by decide) | exact Nat.lt_of_le_of_lt (by assumption) (by decide) | omega) (by decide)).mp c_57
        refine lv_iload hx hb d_Maker_premise_129 (lv_at hl1 0 rfl) ?_
        rw [← hQe]
        refine wk_know (fun hk8 hk9 => ?_)
        refine W.widen (k := MX - cp) (n := 6 * (MX - cp)) (by first | assumption | omega) (by first | assumption | omega) ?_
        obtain ⟨hP9, hD9⟩ := xw_sub2 (wc := (fun (u : Nat → Nat) (xsd : Nat → Int32) (xfo : Nat → Int32) (xfl : Nat → Int32) (xfr : Nat → Int32) => [(c0, .inr (3, [.ref n0, .ref c1, .ref g0, .ref a0, .int s_made])), (c1, .inl (ax 0, 16, .inl xsd)), (n0, .inr (4, [.ref (u 0), .ref (u 1), .ref (u 2), .int (nI (u 3))])), (u 0, .inl (ax 1, u 4, .inl xfo)), (u 1, .inl (ax 0, u 4, .inl xfl)), (u 2, .inl (ax 0, u 4, .inl xfr)), (h0, .inr (4, [.ref h1, .ref h2, .ref h3, .int (nI zs)])), (h1, .inl (ax 1, cs, .inl so)), (h2, .inl (ax 0, cs, .inl sl)), (h3, .inl (ax 0, cs, .inl sr)), (a0, .inr (4, [.ref a1, .ref a2, .ref a3, .int (nI za)])), (a1, .inl (ax 1, ca, .inl ao)), (a2, .inl (ax 0, ca, .inl al)), (a3, .inl (ax 0, ca, .inl ar)), (g0, .inr (2, [.ref h0, .ref g1, .ref g2, .ref g3, .ref g4, .ref g5, .ref g6, .ref g7, .ref g8, .ref g9, .ref ga, .ref gb, .int (nI cl), .int (nI ln), .int (nI br), .int (nI lp), .int (nI va)])), (g1, .inl (ax 1, 20, .inl (fun j => nI (kd j)))), (g2, .inl (ax 1, 20, .inl (fun j => nI (ow j)))), (g3, .inl (ax 1, 20, .inl (fun j => nI (sb j)))), (g4, .inl (ax 1, 20, .inl (fun j => nI (f1 j)))), (g5, .inl (ax 1, 20, .inl (fun j => nI (f2 j)))), (g6, .inl (ax 2, 20, .inl (fun j => nI (te j)))), (g7, .inl (ax 2, 20, .inl (fun j => nI (kp j)))), (g8, .inl (ax 0, 20, .inl tm)), (g9, .inl (ax 1, 20, .inl (fun j => nI (nm j)))), (ga, .inl (ax 1, 29, .inl (fun j => nI (ck j)))), (gb, .inl (ax 1, 29, .inl (fun j => nI (co j))))]) (ixn [(u_40 0), (u_40 1), (u_40 2), ((u_20 3) + 1), (u_40 3), (u_20 3)]) sd x_47 x_48 x_49) hP hD [16, 17, 22, 23, 24, 25, 18, 19, 20, 21, 0, 1, 2, 3, 4, 5, 6, 7, 8, 9, 10, 11, 12, 13, 14, 15] (by decide) rfl
        have hex0 : ndv x_47 x_48 x_49 (((u_20 3) + 1)) := hV_52
        have hex1 : bts x_47 ((u_40 3)) := (by assumption)
        have hex2 : ∀ i, i < z9 → tsn x_47 x_48 x_49 i = tsn fo fl fr i := hK_56
        have hex3 : tsn x_47 x_48 x_49 ((u_20 3)) + z9 ≤ ((u_20 3) + 1) := (by first | assumption | omega)
        have hex4 : ∀ j, j ≤ 10 → trm (sd j) := hsd
        have hg8 : H_41.size ≤ s.heap.size + ((u_40 3) - cp) := by omega
        have hg9 : tsl H_41 ≤ tsl s.heap + (6 * ((u_40 3) - cp)) := by omega
        have hsp0 : z9 ≤ ((u_20 3) + 1) := (by first | assumption | omega)
        have hsp1 : ((u_20 3) + 1) ≤ (u_40 3) := (by first | assumption | omega)
        have hsp2 : cp ≤ (u_40 3) := (by first | assumption | omega)
        have hsp3 : (u_40 3) ≤ MX := (by first | assumption | omega)
        have hsp4 : dbl cp ((u_40 3)) := ((hs_9.tr hs_27).tr hs_46)
        have hsp5 : (u_20 3) < ((u_20 3) + 1) := (by first | assumption | omega)
        have hsp6 : ((u_20 3) + 1) ≤ z9 + 460 := (by first | assumption | omega)
        exact W.iret (v := nI (u_20 3)) hx hb hr (fun t ht hW => ⟨⟨nI (u_20 3), ixn [(u_40 0), (u_40 1), (u_40 2), ((u_20 3) + 1), (u_40 3), (u_20 3)], rfl, ⟨rfl, ⟨hsp0, hsp1, hsp2, hsp3, hsp4, hsp5, hsp6⟩⟩, ⟨sd, x_47, x_48, x_49, by rw [ht]; exact hg8, by rw [ht]; exact hg9, hex0, hex1, hex2, hex3, hex4, by rw [ht]; exact hP9, hD9⟩⟩, hS.F ht⟩) hS.2.2 d_Maker_premise_131
      · replace c_57 : ¬ q9 = 3 := fun hq9 => c_57 ((nI_eq (a := q9) (b := 3) (by first | exact Nat.lt_of_lt_of_le (by assumption) (by decide) | exact Nat.lt_of_le_of_lt (by assumption) (by decide) | omega) (by decide)).mpr hq9)
        refine lv_aload_n hx hb d_Maker_premise_116 rfl (lv_at hl1 3 rfl) ?_
        refine va_get (D := D) (ci := 3) (v := .ref g0) (C := R_Maker) (T := F_Maker) (N := 5) hx hb hts i_Maker hown hK.1 hP 16 rfl rfl 2 (by decide) (hts _ wd_132) (fun _ h9 => h9) rfl d_Maker_premise_117 ?_
        refine va_get (D := D) (ci := 2) (v := .ref g9) (C := R_Listing) (T := F_Listing) (N := 17) hx hb hts i_Listing hown hK.1 hP 4 rfl rfl 9 (by decide) (hts _ wd_298) (fun _ h9 => h9) rfl d_Maker_premise_120 ?_
        refine lv_iload_n hx hb d_Maker_premise_123 rfl (lv_at hl1 5 rfl) ?_
        refine va_bald hx hb hK.1 hP 13 1 rfl rfl (vp_in_nI (by first | assumption | omega) (by decide)) d_Maker_premise_124 ?_
        refine W.eq (g2 := F0 m 125 ls [.int (nI (nm s9))]) (by rw [nI_clamp (by first | exact Nat.lt_of_lt_of_le (by assumption) (by decide) | exact Nat.lt_of_le_of_lt (by assumption) (by decide) | omega)]) ?_
        refine lv_iconst (v := (-1)) hx hb d_Maker_premise_125 (by decide) ?_
        by_cases hn_58 : nm s9 = 4294967295
        · refine W.eq (g2 := F0 m 126 ls [.int (-1), .int (-1)]) (by rw [hn_58, nIm]) ?_
          refine lv_icmp_ne (tgt := 132) hx hb d_Maker_premise_126 (by decide) (fun c_59 => ?_) (fun c_59 => ?_)
          · first | exact absurd c_59 (by decide) | exact absurd (by decide) c_59
          refine lv_iload hx hb d_Maker_premise_129 (lv_at hl1 0 rfl) ?_
          rw [← hQe]
          refine wk_know (fun hk8 hk9 => ?_)
          refine W.widen (k := MX - cp) (n := 6 * (MX - cp)) (by first | assumption | omega) (by first | assumption | omega) ?_
          obtain ⟨hP9, hD9⟩ := xw_sub2 (wc := (fun (u : Nat → Nat) (xsd : Nat → Int32) (xfo : Nat → Int32) (xfl : Nat → Int32) (xfr : Nat → Int32) => [(c0, .inr (3, [.ref n0, .ref c1, .ref g0, .ref a0, .int s_made])), (c1, .inl (ax 0, 16, .inl xsd)), (n0, .inr (4, [.ref (u 0), .ref (u 1), .ref (u 2), .int (nI (u 3))])), (u 0, .inl (ax 1, u 4, .inl xfo)), (u 1, .inl (ax 0, u 4, .inl xfl)), (u 2, .inl (ax 0, u 4, .inl xfr)), (h0, .inr (4, [.ref h1, .ref h2, .ref h3, .int (nI zs)])), (h1, .inl (ax 1, cs, .inl so)), (h2, .inl (ax 0, cs, .inl sl)), (h3, .inl (ax 0, cs, .inl sr)), (a0, .inr (4, [.ref a1, .ref a2, .ref a3, .int (nI za)])), (a1, .inl (ax 1, ca, .inl ao)), (a2, .inl (ax 0, ca, .inl al)), (a3, .inl (ax 0, ca, .inl ar)), (g0, .inr (2, [.ref h0, .ref g1, .ref g2, .ref g3, .ref g4, .ref g5, .ref g6, .ref g7, .ref g8, .ref g9, .ref ga, .ref gb, .int (nI cl), .int (nI ln), .int (nI br), .int (nI lp), .int (nI va)])), (g1, .inl (ax 1, 20, .inl (fun j => nI (kd j)))), (g2, .inl (ax 1, 20, .inl (fun j => nI (ow j)))), (g3, .inl (ax 1, 20, .inl (fun j => nI (sb j)))), (g4, .inl (ax 1, 20, .inl (fun j => nI (f1 j)))), (g5, .inl (ax 1, 20, .inl (fun j => nI (f2 j)))), (g6, .inl (ax 2, 20, .inl (fun j => nI (te j)))), (g7, .inl (ax 2, 20, .inl (fun j => nI (kp j)))), (g8, .inl (ax 0, 20, .inl tm)), (g9, .inl (ax 1, 20, .inl (fun j => nI (nm j)))), (ga, .inl (ax 1, 29, .inl (fun j => nI (ck j)))), (gb, .inl (ax 1, 29, .inl (fun j => nI (co j))))]) (ixn [(u_40 0), (u_40 1), (u_40 2), ((u_20 3) + 1), (u_40 3), (u_20 3)]) sd x_47 x_48 x_49) hP hD [16, 17, 22, 23, 24, 25, 18, 19, 20, 21, 0, 1, 2, 3, 4, 5, 6, 7, 8, 9, 10, 11, 12, 13, 14, 15] (by decide) rfl
          have hex0 : ndv x_47 x_48 x_49 (((u_20 3) + 1)) := hV_52
          have hex1 : bts x_47 ((u_40 3)) := (by assumption)
          have hex2 : ∀ i, i < z9 → tsn x_47 x_48 x_49 i = tsn fo fl fr i := hK_56
          have hex3 : tsn x_47 x_48 x_49 ((u_20 3)) + z9 ≤ ((u_20 3) + 1) := (by first | assumption | omega)
          have hex4 : ∀ j, j ≤ 10 → trm (sd j) := hsd
          have hg8 : H_41.size ≤ s.heap.size + ((u_40 3) - cp) := by omega
          have hg9 : tsl H_41 ≤ tsl s.heap + (6 * ((u_40 3) - cp)) := by omega
          have hsp0 : z9 ≤ ((u_20 3) + 1) := (by first | assumption | omega)
          have hsp1 : ((u_20 3) + 1) ≤ (u_40 3) := (by first | assumption | omega)
          have hsp2 : cp ≤ (u_40 3) := (by first | assumption | omega)
          have hsp3 : (u_40 3) ≤ MX := (by first | assumption | omega)
          have hsp4 : dbl cp ((u_40 3)) := ((hs_9.tr hs_27).tr hs_46)
          have hsp5 : (u_20 3) < ((u_20 3) + 1) := (by first | assumption | omega)
          have hsp6 : ((u_20 3) + 1) ≤ z9 + 460 := (by first | assumption | omega)
          exact W.iret (v := nI (u_20 3)) hx hb hr (fun t ht hW => ⟨⟨nI (u_20 3), ixn [(u_40 0), (u_40 1), (u_40 2), ((u_20 3) + 1), (u_40 3), (u_20 3)], rfl, ⟨rfl, ⟨hsp0, hsp1, hsp2, hsp3, hsp4, hsp5, hsp6⟩⟩, ⟨sd, x_47, x_48, x_49, by rw [ht]; exact hg8, by rw [ht]; exact hg9, hex0, hex1, hex2, hex3, hex4, by rw [ht]; exact hP9, hD9⟩⟩, hS.F ht⟩) hS.2.2 d_Maker_premise_131
        · have hn_58l : nm s9 < 2 ^ 31 := by have h9 := (hnm.resolve_left hn_58).1; omega
          refine lv_icmp_ne (tgt := 132) hx hb d_Maker_premise_126 (by decide) (fun c_60 => ?_) (fun c_60 => ?_)
          rotate_right
          · exact absurd c_60 (nIm1 (by first | assumption | omega))
          obtain ⟨hn10, htm⟩ := hnm.resolve_left hn_58
          refine lv_aload_n hx hb d_Maker_premise_132 rfl (lv_at hl1 3 rfl) ?_
          refine va_get (D := D) (ci := 3) (v := .ref n0) (C := R_Maker) (T := F_Maker) (N := 5) hx hb hts i_Maker hown hK.1 hP 16 rfl rfl 0 (by decide) (hts _ wd_129) (fun _ h9 => h9) rfl d_Maker_premise_133 ?_
          refine lv_bipush (v := 7) hx hb d_Maker_premise_136 (by decide) ?_
          refine lv_iload hx hb d_Maker_premise_138 (lv_at hl1 0 rfl) ?_
          refine lv_aload_n hx hb d_Maker_premise_140 rfl (lv_at hl1 3 rfl) ?_
          refine va_get (D := D) (ci := 3) (v := .ref n0) (C := R_Maker) (T := F_Maker) (N := 5) hx hb hts i_Maker hown hK.1 hP 16 rfl rfl 0 (by decide) (hts _ wd_129) (fun _ h9 => h9) rfl d_Maker_premise_141 ?_
          refine lv_iconst (v := 4) hx hb d_Maker_premise_144 (by decide) ?_
          refine lv_aload_n hx hb d_Maker_premise_145 rfl (lv_at hl1 3 rfl) ?_
          refine va_get (D := D) (ci := 3) (v := .ref g0) (C := R_Maker) (T := F_Maker) (N := 5) hx hb hts i_Maker hown hK.1 hP 16 rfl rfl 2 (by decide) (hts _ wd_132) (fun _ h9 => h9) rfl d_Maker_premise_146 ?_
          refine va_get (D := D) (ci := 2) (v := .ref g8) (C := R_Listing) (T := F_Listing) (N := 17) hx hb hts i_Listing hown hK.1 hP 4 rfl rfl 8 (by decide) (hts _ wd_294) (fun _ h9 => h9) rfl d_Maker_premise_149 ?_
          refine lv_iload_n hx hb d_Maker_premise_152 rfl (lv_at hl1 5 rfl) ?_
          refine va_iald hx hb hK.1 hP 12 0 rfl rfl (vp_in_nI (by first | assumption | omega) (by decide)) d_Maker_premise_153 ?_
          refine W.eq (g2 := F0 m 154 ls [.int (tm s9), .int 4, .ref n0, .int (nI (u_20 3)), .int 7, .ref n0]) (by rw [nI_clamp (by first | exact Nat.lt_of_lt_of_le (by assumption) (by decide) | exact Nat.lt_of_le_of_lt (by assumption) (by decide) | omega)]) ?_
          refine lv_aload_n hx hb d_Maker_premise_154 rfl (lv_at hl1 3 rfl) ?_
          refine va_get (D := D) (ci := 3) (v := .ref g0) (C := R_Maker) (T := F_Maker) (N := 5) hx hb hts i_Maker hown hK.1 hP 16 rfl rfl 2 (by decide) (hts _ wd_132) (fun _ h9 => h9) rfl d_Maker_premise_155 ?_
          refine va_get (D := D) (ci := 2) (v := .ref g9) (C := R_Listing) (T := F_Listing) (N := 17) hx hb hts i_Listing hown hK.1 hP 4 rfl rfl 9 (by decide) (hts _ wd_298) (fun _ h9 => h9) rfl d_Maker_premise_158 ?_
          refine lv_iload_n hx hb d_Maker_premise_161 rfl (lv_at hl1 5 rfl) ?_
          refine va_bald hx hb hK.1 hP 13 1 rfl rfl (vp_in_nI (by first | assumption | omega) (by decide)) d_Maker_premise_162 ?_
          refine W.eq (g2 := F0 m 163 ls [.int (nI (nm s9)), .int (tm s9), .int 4, .ref n0, .int (nI (u_20 3)), .int 7, .ref n0]) (by rw [nI_clamp (by first | exact Nat.lt_of_lt_of_le (by assumption) (by decide) | exact Nat.lt_of_le_of_lt (by assumption) (by decide) | omega)]) ?_
          obtain ⟨hPc, hDc, hFc, hCs⟩ := xw_sub3 (wc := [(n0, .inr (4, [.ref (u_40 0), .ref (u_40 1), .ref (u_40 2), .int (nI ((u_20 3) + 1))])), ((u_40 0), .inl (ax 1, u_40 3, .inl x_47)), ((u_40 1), .inl (ax 0, u_40 3, .inl x_48)), ((u_40 2), .inl (ax 0, u_40 3, .inl x_49))]) hP hD hS hA [22, 23, 24, 25] (by decide) rfl
          have hz := xz_of hN hS
          refine wk_know (fun hk8 hk9 => ?_)
          refine va_calli (va_runV (As := [.int 4, .int (tm s9), .int (nI (nm s9))]) (rest := [.int (nI (u_20 3)), .int 7, .ref n0]) ⟨hx, hb, hml, hown, hts⟩ (c_Nodes_add l D ax n0 (u_40 0) (u_40 1) (u_40 2) (u_40 3) ((u_20 3) + 1) x_47 x_48 x_49 MX 4 (tm s9) (nI (nm s9)) H_41.size (tsl H_41) (by first | assumption | omega) (by first | assumption | omega) (by first | assumption | omega) (by first | assumption | omega) (by first | assumption | omega) (by assumption)) (xcV (n := 3) hts wd_350 wd_5 wd_781 wd_348 wd_349 rfl rfl (by decide +kernel) ⟨(show (30) + 1 ≤ (1000) by omega), (show 8 + (4 + 11) + (1200) ≤ (21000) by omega)⟩) (xpV3 (ci := 4) (q0 := 0) (As := [.int 4, .int (tm s9), .int (nI (nm s9))]) hPc hK hz hDc rfl rfl) rfl rfl hl1.1 rfl (lv_room (Nat.le_of_ble_eq_true rfl)) d_Maker_premise_163 ⟨(show (u_2 4 - cp + (u_20 4 - (u_2 4)) + (u_40 3 - (u_20 4))) + (MX - (u_40 3)) ≤ (MX - cp) by omega), (show (6 * (u_2 4 - cp) + (6 * (u_20 4 - (u_2 4))) + (6 * (u_40 3 - (u_20 4)))) + (6 * (MX - (u_40 3))) ≤ (6 * (MX - cp)) by omega)⟩) hS (fun q _ h => hFc q h) hFc (fun r_63 u_61 t H_62 locs ht hvm hw hB hz1 hk1 hS1 => ?_)
          try dsimp only at hw
          obtain ⟨hw, hs_64, hs_65, hs_66, hs_67⟩ := hw
          subst hw
          obtain ⟨x_68, x_69, x_70, hg8, hg9, hx_71, hx_72, hP1, hD1⟩ := hB
          rw [ht] at hg8 hg9 hP1
          have hjn := xw_join3 (wl := [(a0, .inr (4, [.ref a1, .ref a2, .ref a3, .int (nI za)])), (a1, .inl (ax 1, ca, .inl ao)), (a2, .inl (ax 0, ca, .inl al)), (a3, .inl (ax 0, ca, .inl ar)), (g0, .inr (2, [.ref h0, .ref g1, .ref g2, .ref g3, .ref g4, .ref g5, .ref g6, .ref g7, .ref g8, .ref g9, .ref ga, .ref gb, .int (nI cl), .int (nI ln), .int (nI br), .int (nI lp), .int (nI va)])), (g1, .inl (ax 1, 20, .inl (fun j => nI (kd j)))), (g2, .inl (ax 1, 20, .inl (fun j => nI (ow j)))), (g3, .inl (ax 1, 20, .inl (fun j => nI (sb j)))), (g4, .inl (ax 1, 20, .inl (fun j => nI (f1 j)))), (g5, .inl (ax 1, 20, .inl (fun j => nI (f2 j)))), (g6, .inl (ax 2, 20, .inl (fun j => nI (te j)))), (g7, .inl (ax 2, 20, .inl (fun j => nI (kp j)))), (g8, .inl (ax 0, 20, .inl tm)), (g9, .inl (ax 1, 20, .inl (fun j => nI (nm j)))), (ga, .inl (ax 1, 29, .inl (fun j => nI (ck j)))), (gb, .inl (ax 1, 29, .inl (fun j => nI (co j)))), (c0, .inr (3, [.ref n0, .ref c1, .ref g0, .ref a0, .int s_made])), (c1, .inl (ax 0, 16, .inl sd)), (h0, .inr (4, [.ref h1, .ref h2, .ref h3, .int (nI zs)])), (h1, .inl (ax 1, cs, .inl so)), (h2, .inl (ax 0, cs, .inl sl)), (h3, .inl (ax 0, cs, .inl sr)), (n0, .inr (4, [.ref (u_61 0), .ref (u_61 1), .ref (u_61 2), .int (nI (((u_20 3) + 1) + 1))])), ((u_61 0), .inl (ax 1, u_61 3, .inl x_68)), ((u_61 1), .inl (ax 0, u_61 3, .inl x_69)), ((u_61 2), .inl (ax 0, u_61 3, .inl x_70))]) hP hD [22, 23, 24, 25] [0, 1, 2, 3, 4, 5, 6, 7, 8, 9, 10, 11, 12, 13, 14, 15, 16, 17, 18, 19, 20, 21] hCs (by decide) (by decide) hk1 hFc hP1 hD1 rfl
          clear hP1 hD1
          clear hPc hDc hFc hCs hz hz1 hk1 ht hvm
          clear hP hD hS
          have hS := hS1
          obtain ⟨hP, hD⟩ := hjn
          clear hS1
          refine wk_narrow (k := u_2 4 - cp + (u_20 4 - (u_2 4)) + (u_40 3 - (u_20 4)) + (u_61 3 - (u_40 3))) (n := 6 * (u_2 4 - cp) + (6 * (u_20 4 - (u_2 4))) + (6 * (u_40 3 - (u_20 4))) + (6 * (u_61 3 - (u_40 3)))) (by first | assumption | omega) (by first | assumption | omega) ?_
          clear hk8 hk9 hg8 hg9
          have hV_73 : ndv x_68 x_69 x_70 (((u_20 3) + 1) + 1) := hV_52.add hx_71 (nd_atom (o := 4) (by decide) htm (trm_nm (by first | assumption | omega)))
          have hT_74 : tsn x_68 x_69 x_70 ((u_20 3) + 1) = 1 := nad.atom (o := 4) (by decide) hx_71
          have hG_75 : ∀ i, i < (u_20 3) + 1 → tsn x_68 x_69 x_70 i = tsn x_47 x_48 x_49 i := fun i hi => nad.keep (by first | assumption | omega) hV_52 hx_71 hi
          have hB_76 : tsn x_68 x_69 x_70 ((u_20 3) + 1) + ((u_20 3) + 1) ≤ (((u_20 3) + 1) + 1) := by omega
          have hK_77 : ∀ i, i < z9 → tsn x_68 x_69 x_70 i = tsn fo fl fr i := fun i hi => (hG_75 i (by first | assumption | omega)).trans (hK_56 i hi)
          have hS_78 : tsn x_68 x_69 x_70 (u_20 3) + z9 ≤ ((u_20 3) + 1) := by rw [hG_75 (u_20 3) (by first | assumption | omega)]; exact hB_55
          obtain ⟨hPc, hDc, hFc, hCs⟩ := xw_sub3 (wc := [(n0, .inr (4, [.ref (u_61 0), .ref (u_61 1), .ref (u_61 2), .int (nI (((u_20 3) + 1) + 1))])), ((u_61 0), .inl (ax 1, u_61 3, .inl x_68)), ((u_61 1), .inl (ax 0, u_61 3, .inl x_69)), ((u_61 2), .inl (ax 0, u_61 3, .inl x_70))]) hP hD hS hA [22, 23, 24, 25] (by decide) rfl
          have hz := xz_of hN hS
          refine wk_know (fun hk8 hk9 => ?_)
          refine va_calli (va_runV (As := [.int 7, .int (nI (u_20 3)), .int (nI ((u_20 3) + 1))]) (rest := []) ⟨hx, hb, hml, hown, hts⟩ (c_Nodes_add l D ax n0 (u_61 0) (u_61 1) (u_61 2) (u_61 3) (((u_20 3) + 1) + 1) x_68 x_69 x_70 MX 7 (nI (u_20 3)) (nI ((u_20 3) + 1)) H_62.size (tsl H_62) (by first | assumption | omega) (by first | assumption | omega) (by first | assumption | omega) (by first | assumption | omega) (by first | assumption | omega) (by assumption)) (xcV (n := 3) hts wd_350 wd_5 wd_781 wd_348 wd_349 rfl rfl (by decide +kernel) ⟨(show (30) + 1 ≤ (1000) by omega), (show 8 + (4 + 11) + (1200) ≤ (21000) by omega)⟩) (xpV3 (ci := 4) (q0 := 0) (As := [.int 7, .int (nI (u_20 3)), .int (nI ((u_20 3) + 1))]) hPc hK hz hDc rfl rfl) rfl rfl hl1.1 rfl (lv_room (Nat.le_of_ble_eq_true rfl)) d_Maker_premise_166 ⟨(show (u_2 4 - cp + (u_20 4 - (u_2 4)) + (u_40 3 - (u_20 4)) + (u_61 3 - (u_40 3))) + (MX - (u_61 3)) ≤ (MX - cp) by omega), (show (6 * (u_2 4 - cp) + (6 * (u_20 4 - (u_2 4))) + (6 * (u_40 3 - (u_20 4))) + (6 * (u_61 3 - (u_40 3)))) + (6 * (MX - (u_61 3))) ≤ (6 * (MX - cp)) by omega)⟩) hS (fun q _ h => hFc q h) hFc (fun r_81 u_79 t H_80 locs ht hvm hw hB hz1 hk1 hS1 => ?_)
          try dsimp only at hw
          obtain ⟨hw, hs_82, hs_83, hs_84, hs_85⟩ := hw
          subst hw
          obtain ⟨x_86, x_87, x_88, hg8, hg9, hx_89, hx_90, hP1, hD1⟩ := hB
          rw [ht] at hg8 hg9 hP1
          have hjn := xw_join3 (wl := [(a0, .inr (4, [.ref a1, .ref a2, .ref a3, .int (nI za)])), (a1, .inl (ax 1, ca, .inl ao)), (a2, .inl (ax 0, ca, .inl al)), (a3, .inl (ax 0, ca, .inl ar)), (g0, .inr (2, [.ref h0, .ref g1, .ref g2, .ref g3, .ref g4, .ref g5, .ref g6, .ref g7, .ref g8, .ref g9, .ref ga, .ref gb, .int (nI cl), .int (nI ln), .int (nI br), .int (nI lp), .int (nI va)])), (g1, .inl (ax 1, 20, .inl (fun j => nI (kd j)))), (g2, .inl (ax 1, 20, .inl (fun j => nI (ow j)))), (g3, .inl (ax 1, 20, .inl (fun j => nI (sb j)))), (g4, .inl (ax 1, 20, .inl (fun j => nI (f1 j)))), (g5, .inl (ax 1, 20, .inl (fun j => nI (f2 j)))), (g6, .inl (ax 2, 20, .inl (fun j => nI (te j)))), (g7, .inl (ax 2, 20, .inl (fun j => nI (kp j)))), (g8, .inl (ax 0, 20, .inl tm)), (g9, .inl (ax 1, 20, .inl (fun j => nI (nm j)))), (ga, .inl (ax 1, 29, .inl (fun j => nI (ck j)))), (gb, .inl (ax 1, 29, .inl (fun j => nI (co j)))), (c0, .inr (3, [.ref n0, .ref c1, .ref g0, .ref a0, .int s_made])), (c1, .inl (ax 0, 16, .inl sd)), (h0, .inr (4, [.ref h1, .ref h2, .ref h3, .int (nI zs)])), (h1, .inl (ax 1, cs, .inl so)), (h2, .inl (ax 0, cs, .inl sl)), (h3, .inl (ax 0, cs, .inl sr)), (n0, .inr (4, [.ref (u_79 0), .ref (u_79 1), .ref (u_79 2), .int (nI ((((u_20 3) + 1) + 1) + 1))])), ((u_79 0), .inl (ax 1, u_79 3, .inl x_86)), ((u_79 1), .inl (ax 0, u_79 3, .inl x_87)), ((u_79 2), .inl (ax 0, u_79 3, .inl x_88))]) hP hD [22, 23, 24, 25] [0, 1, 2, 3, 4, 5, 6, 7, 8, 9, 10, 11, 12, 13, 14, 15, 16, 17, 18, 19, 20, 21] hCs (by decide) (by decide) hk1 hFc hP1 hD1 rfl
          clear hP1 hD1
          clear hPc hDc hFc hCs hz hz1 hk1 ht hvm
          clear hP hD hS
          have hS := hS1
          obtain ⟨hP, hD⟩ := hjn
          clear hS1
          refine wk_narrow (k := u_2 4 - cp + (u_20 4 - (u_2 4)) + (u_40 3 - (u_20 4)) + (u_61 3 - (u_40 3)) + (u_79 3 - (u_61 3))) (n := 6 * (u_2 4 - cp) + (6 * (u_20 4 - (u_2 4))) + (6 * (u_40 3 - (u_20 4))) + (6 * (u_61 3 - (u_40 3))) + (6 * (u_79 3 - (u_61 3)))) (by first | assumption | omega) (by first | assumption | omega) ?_
          clear hk8 hk9 hg8 hg9
          have hV_91 : ndv x_86 x_87 x_88 ((((u_20 3) + 1) + 1) + 1) := hV_73.add hx_89 (nd_bin (o := 7) (by decide) (by first | assumption | omega) (by first | assumption | omega))
          have hT_92 : tsn x_86 x_87 x_88 (((u_20 3) + 1) + 1) = 1 + tsn x_68 x_69 x_70 (u_20 3) + tsn x_68 x_69 x_70 ((u_20 3) + 1) := nad.bin (o := 7) (by first | assumption | omega) hV_73 (by decide) (by first | assumption | omega) (by first | assumption | omega) hx_89
          have hG_93 : ∀ i, i < ((u_20 3) + 1) + 1 → tsn x_86 x_87 x_88 i = tsn x_68 x_69 x_70 i := fun i hi => nad.keep (by first | assumption | omega) hV_73 hx_89 hi
          have hB_94 : tsn x_86 x_87 x_88 (((u_20 3) + 1) + 1) + z9 ≤ ((((u_20 3) + 1) + 1) + 1) := by omega
          have hK_95 : ∀ i, i < z9 → tsn x_86 x_87 x_88 i = tsn fo fl fr i := fun i hi => (hG_93 i (by first | assumption | omega)).trans (hK_77 i hi)
          rw [← hQe]
          refine wk_know (fun hk8 hk9 => ?_)
          refine W.widen (k := MX - cp) (n := 6 * (MX - cp)) (by first | assumption | omega) (by first | assumption | omega) ?_
          obtain ⟨hP9, hD9⟩ := xw_sub2 (wc := (fun (u : Nat → Nat) (xsd : Nat → Int32) (xfo : Nat → Int32) (xfl : Nat → Int32) (xfr : Nat → Int32) => [(c0, .inr (3, [.ref n0, .ref c1, .ref g0, .ref a0, .int s_made])), (c1, .inl (ax 0, 16, .inl xsd)), (n0, .inr (4, [.ref (u 0), .ref (u 1), .ref (u 2), .int (nI (u 3))])), (u 0, .inl (ax 1, u 4, .inl xfo)), (u 1, .inl (ax 0, u 4, .inl xfl)), (u 2, .inl (ax 0, u 4, .inl xfr)), (h0, .inr (4, [.ref h1, .ref h2, .ref h3, .int (nI zs)])), (h1, .inl (ax 1, cs, .inl so)), (h2, .inl (ax 0, cs, .inl sl)), (h3, .inl (ax 0, cs, .inl sr)), (a0, .inr (4, [.ref a1, .ref a2, .ref a3, .int (nI za)])), (a1, .inl (ax 1, ca, .inl ao)), (a2, .inl (ax 0, ca, .inl al)), (a3, .inl (ax 0, ca, .inl ar)), (g0, .inr (2, [.ref h0, .ref g1, .ref g2, .ref g3, .ref g4, .ref g5, .ref g6, .ref g7, .ref g8, .ref g9, .ref ga, .ref gb, .int (nI cl), .int (nI ln), .int (nI br), .int (nI lp), .int (nI va)])), (g1, .inl (ax 1, 20, .inl (fun j => nI (kd j)))), (g2, .inl (ax 1, 20, .inl (fun j => nI (ow j)))), (g3, .inl (ax 1, 20, .inl (fun j => nI (sb j)))), (g4, .inl (ax 1, 20, .inl (fun j => nI (f1 j)))), (g5, .inl (ax 1, 20, .inl (fun j => nI (f2 j)))), (g6, .inl (ax 2, 20, .inl (fun j => nI (te j)))), (g7, .inl (ax 2, 20, .inl (fun j => nI (kp j)))), (g8, .inl (ax 0, 20, .inl tm)), (g9, .inl (ax 1, 20, .inl (fun j => nI (nm j)))), (ga, .inl (ax 1, 29, .inl (fun j => nI (ck j)))), (gb, .inl (ax 1, 29, .inl (fun j => nI (co j))))]) (ixn [(u_79 0), (u_79 1), (u_79 2), ((((u_20 3) + 1) + 1) + 1), (u_79 3), (((u_20 3) + 1) + 1)]) sd x_86 x_87 x_88) hP hD [16, 17, 22, 23, 24, 25, 18, 19, 20, 21, 0, 1, 2, 3, 4, 5, 6, 7, 8, 9, 10, 11, 12, 13, 14, 15] (by decide) rfl
          have hex0 : ndv x_86 x_87 x_88 (((((u_20 3) + 1) + 1) + 1)) := hV_91
          have hex1 : bts x_86 ((u_79 3)) := (by assumption)
          have hex2 : ∀ i, i < z9 → tsn x_86 x_87 x_88 i = tsn fo fl fr i := hK_95
          have hex3 : tsn x_86 x_87 x_88 ((((u_20 3) + 1) + 1)) + z9 ≤ ((((u_20 3) + 1) + 1) + 1) := (by first | assumption | omega)
          have hex4 : ∀ j, j ≤ 10 → trm (sd j) := hsd
          have hg8 : H_80.size ≤ s.heap.size + ((u_79 3) - cp) := by omega
          have hg9 : tsl H_80 ≤ tsl s.heap + (6 * ((u_79 3) - cp)) := by omega
          have hsp0 : z9 ≤ ((((u_20 3) + 1) + 1) + 1) := (by first | assumption | omega)
          have hsp1 : ((((u_20 3) + 1) + 1) + 1) ≤ (u_79 3) := (by first | assumption | omega)
          have hsp2 : cp ≤ (u_79 3) := (by first | assumption | omega)
          have hsp3 : (u_79 3) ≤ MX := (by first | assumption | omega)
          have hsp4 : dbl cp ((u_79 3)) := ((((hs_9.tr hs_27).tr hs_46).tr hs_67).tr hs_85)
          have hsp5 : (((u_20 3) + 1) + 1) < ((((u_20 3) + 1) + 1) + 1) := (by first | assumption | omega)
          have hsp6 : ((((u_20 3) + 1) + 1) + 1) ≤ z9 + 460 := (by first | assumption | omega)
          exact W.iret (v := nI (((u_20 3) + 1) + 1)) hx hb hr (fun t ht hW => ⟨⟨nI (((u_20 3) + 1) + 1), ixn [(u_79 0), (u_79 1), (u_79 2), ((((u_20 3) + 1) + 1) + 1), (u_79 3), (((u_20 3) + 1) + 1)], rfl, ⟨rfl, ⟨hsp0, hsp1, hsp2, hsp3, hsp4, hsp5, hsp6⟩⟩, ⟨sd, x_86, x_87, x_88, by rw [ht]; exact hg8, by rw [ht]; exact hg9, hex0, hex1, hex2, hex3, hex4, by rw [ht]; exact hP9, hD9⟩⟩, hS.F ht⟩) hS.2.2 d_Maker_premise_169
    · replace c_39 : q9 = 2 := (nI_eq (a := q9) (b := 2) (by first | exact Nat.lt_of_lt_of_le (by assumption) (by decide) | exact Nat.lt_of_le_of_lt (by assumption) (by decide) | omega) (by decide)).mp c_39
      refine lv_aload_n hx hb d_Maker_premise_74 rfl (lv_at hl1 2 rfl) ?_
      refine va_get (D := D) (ci := 3) (v := .ref n0) (C := R_Maker) (T := F_Maker) (N := 5) hx hb hts i_Maker hown hK.1 hP 16 rfl rfl 0 (by decide) (hts _ wd_129) (fun _ h9 => h9) rfl d_Maker_premise_75 ?_
      refine lv_bipush (v := 7) hx hb d_Maker_premise_78 (by decide) ?_
      refine lv_iload_n hx hb d_Maker_premise_80 rfl (lv_at hl1 1 rfl) ?_
      refine lv_aload_n hx hb d_Maker_premise_81 rfl (lv_at hl1 2 rfl) ?_
      refine va_get (D := D) (ci := 3) (v := .ref n0) (C := R_Maker) (T := F_Maker) (N := 5) hx hb hts i_Maker hown hK.1 hP 16 rfl rfl 0 (by decide) (hts _ wd_129) (fun _ h9 => h9) rfl d_Maker_premise_82 ?_
      refine lv_bipush (v := 6) hx hb d_Maker_premise_85 (by decide) ?_
      refine lv_iload hx hb d_Maker_premise_87 (lv_at hl1 0 rfl) ?_
      refine lv_iconst (v := (-1)) hx hb d_Maker_premise_89 (by decide) ?_
      obtain ⟨hPc, hDc, hFc, hCs⟩ := xw_sub3 (wc := [(n0, .inr (4, [.ref (u_20 0), .ref (u_20 1), .ref (u_20 2), .int (nI (u_20 3))])), ((u_20 0), .inl (ax 1, u_20 4, .inl x_30)), ((u_20 1), .inl (ax 0, u_20 4, .inl x_31)), ((u_20 2), .inl (ax 0, u_20 4, .inl x_32))]) hP hD hS hA [18, 19, 20, 21] (by decide) rfl
      have hz := xz_of hN hS
      refine wk_know (fun hk8 hk9 => ?_)
      refine va_calli (va_runV (As := [.int 6, .int (nI (u_20 5)), .int (-1)]) (rest := [.int (nI (u_2 5)), .int 7, .ref n0]) ⟨hx, hb, hml, hown, hts⟩ (c_Nodes_add l D ax n0 (u_20 0) (u_20 1) (u_20 2) (u_20 4) (u_20 3) x_30 x_31 x_32 MX 6 (nI (u_20 5)) (-1) H_21.size (tsl H_21) (by first | assumption | omega) (by first | assumption | omega) (by first | assumption | omega) (by first | assumption | omega) (by first | assumption | omega) (by assumption)) (xcV (n := 3) hts wd_350 wd_5 wd_781 wd_348 wd_349 rfl rfl (by decide +kernel) ⟨(show (30) + 1 ≤ (1000) by omega), (show 8 + (4 + 11) + (1200) ≤ (21000) by omega)⟩) (xpV3 (ci := 4) (q0 := 0) (As := [.int 6, .int (nI (u_20 5)), .int (-1)]) hPc hK hz hDc rfl rfl) rfl rfl hl1.1 rfl (lv_room (Nat.le_of_ble_eq_true rfl)) d_Maker_premise_90 ⟨(show (u_2 4 - cp + (u_20 4 - (u_2 4))) + (MX - (u_20 4)) ≤ (MX - cp) by omega), (show (6 * (u_2 4 - cp) + (6 * (u_20 4 - (u_2 4)))) + (6 * (MX - (u_20 4))) ≤ (6 * (MX - cp)) by omega)⟩) hS (fun q _ h => hFc q h) hFc (fun r_98 u_96 t H_97 locs ht hvm hw hB hz1 hk1 hS1 => ?_)
      try dsimp only at hw
      obtain ⟨hw, hs_99, hs_100, hs_101, hs_102⟩ := hw
      subst hw
      obtain ⟨x_103, x_104, x_105, hg8, hg9, hx_106, hx_107, hP1, hD1⟩ := hB
      rw [ht] at hg8 hg9 hP1
      have hjn := xw_join3 (wl := [(a0, .inr (4, [.ref a1, .ref a2, .ref a3, .int (nI za)])), (a1, .inl (ax 1, ca, .inl ao)), (a2, .inl (ax 0, ca, .inl al)), (a3, .inl (ax 0, ca, .inl ar)), (g0, .inr (2, [.ref h0, .ref g1, .ref g2, .ref g3, .ref g4, .ref g5, .ref g6, .ref g7, .ref g8, .ref g9, .ref ga, .ref gb, .int (nI cl), .int (nI ln), .int (nI br), .int (nI lp), .int (nI va)])), (g1, .inl (ax 1, 20, .inl (fun j => nI (kd j)))), (g2, .inl (ax 1, 20, .inl (fun j => nI (ow j)))), (g3, .inl (ax 1, 20, .inl (fun j => nI (sb j)))), (g4, .inl (ax 1, 20, .inl (fun j => nI (f1 j)))), (g5, .inl (ax 1, 20, .inl (fun j => nI (f2 j)))), (g6, .inl (ax 2, 20, .inl (fun j => nI (te j)))), (g7, .inl (ax 2, 20, .inl (fun j => nI (kp j)))), (g8, .inl (ax 0, 20, .inl tm)), (g9, .inl (ax 1, 20, .inl (fun j => nI (nm j)))), (ga, .inl (ax 1, 29, .inl (fun j => nI (ck j)))), (gb, .inl (ax 1, 29, .inl (fun j => nI (co j)))), (c0, .inr (3, [.ref n0, .ref c1, .ref g0, .ref a0, .int s_made])), (c1, .inl (ax 0, 16, .inl sd)), (h0, .inr (4, [.ref h1, .ref h2, .ref h3, .int (nI zs)])), (h1, .inl (ax 1, cs, .inl so)), (h2, .inl (ax 0, cs, .inl sl)), (h3, .inl (ax 0, cs, .inl sr)), (n0, .inr (4, [.ref (u_96 0), .ref (u_96 1), .ref (u_96 2), .int (nI ((u_20 3) + 1))])), ((u_96 0), .inl (ax 1, u_96 3, .inl x_103)), ((u_96 1), .inl (ax 0, u_96 3, .inl x_104)), ((u_96 2), .inl (ax 0, u_96 3, .inl x_105))]) hP hD [18, 19, 20, 21] [0, 1, 2, 3, 4, 5, 6, 7, 8, 9, 10, 11, 12, 13, 14, 15, 16, 17, 22, 23, 24, 25] hCs (by decide) (by decide) hk1 hFc hP1 hD1 rfl
      clear hP1 hD1
      clear hPc hDc hFc hCs hz hz1 hk1 ht hvm
      clear hP hD hS
      have hS := hS1
      obtain ⟨hP, hD⟩ := hjn
      clear hS1
      refine wk_narrow (k := u_2 4 - cp + (u_20 4 - (u_2 4)) + (u_96 3 - (u_20 4))) (n := 6 * (u_2 4 - cp) + (6 * (u_20 4 - (u_2 4))) + (6 * (u_96 3 - (u_20 4)))) (by first | assumption | omega) (by first | assumption | omega) ?_
      clear hk8 hk9 hg8 hg9
      have hV_108 : ndv x_103 x_104 x_105 ((u_20 3) + 1) := hx_33.add hx_106 (nd_not (by first | assumption | omega))
      have hT_109 : tsn x_103 x_104 x_105 (u_20 3) = 1 + tsn x_30 x_31 x_32 (u_20 5) := nad.not (by first | assumption | omega) hx_33 (by first | assumption | omega) hx_106
      have hG_110 : ∀ i, i < u_20 3 → tsn x_103 x_104 x_105 i = tsn x_30 x_31 x_32 i := fun i hi => nad.keep (by first | assumption | omega) hx_33 hx_106 hi
      have hB_111 : tsn x_103 x_104 x_105 (u_20 3) + (u_2 3) ≤ ((u_20 3) + 1) := by omega
      have hK_112 : ∀ i, i < z9 → tsn x_103 x_104 x_105 i = tsn fo fl fr i := fun i hi => (hG_110 i (by first | assumption | omega)).trans (hK_37 i hi)
      have hS_113 : tsn x_103 x_104 x_105 (u_2 5) + z9 ≤ (u_2 3) := by rw [hG_110 (u_2 5) (by first | assumption | omega)]; exact hS_38
      obtain ⟨hPc, hDc, hFc, hCs⟩ := xw_sub3 (wc := [(n0, .inr (4, [.ref (u_96 0), .ref (u_96 1), .ref (u_96 2), .int (nI ((u_20 3) + 1))])), ((u_96 0), .inl (ax 1, u_96 3, .inl x_103)), ((u_96 1), .inl (ax 0, u_96 3, .inl x_104)), ((u_96 2), .inl (ax 0, u_96 3, .inl x_105))]) hP hD hS hA [22, 23, 24, 25] (by decide) rfl
      have hz := xz_of hN hS
      refine wk_know (fun hk8 hk9 => ?_)
      refine va_calli (va_runV (As := [.int 7, .int (nI (u_2 5)), .int (nI (u_20 3))]) (rest := []) ⟨hx, hb, hml, hown, hts⟩ (c_Nodes_add l D ax n0 (u_96 0) (u_96 1) (u_96 2) (u_96 3) ((u_20 3) + 1) x_103 x_104 x_105 MX 7 (nI (u_2 5)) (nI (u_20 3)) H_97.size (tsl H_97) (by first | assumption | omega) (by first | assumption | omega) (by first | assumption | omega) (by first | assumption | omega) (by first | assumption | omega) (by assumption)) (xcV (n := 3) hts wd_350 wd_5 wd_781 wd_348 wd_349 rfl rfl (by decide +kernel) ⟨(show (30) + 1 ≤ (1000) by omega), (show 8 + (4 + 11) + (1200) ≤ (21000) by omega)⟩) (xpV3 (ci := 4) (q0 := 0) (As := [.int 7, .int (nI (u_2 5)), .int (nI (u_20 3))]) hPc hK hz hDc rfl rfl) rfl rfl hl1.1 rfl (lv_room (Nat.le_of_ble_eq_true rfl)) d_Maker_premise_93 ⟨(show (u_2 4 - cp + (u_20 4 - (u_2 4)) + (u_96 3 - (u_20 4))) + (MX - (u_96 3)) ≤ (MX - cp) by omega), (show (6 * (u_2 4 - cp) + (6 * (u_20 4 - (u_2 4))) + (6 * (u_96 3 - (u_20 4)))) + (6 * (MX - (u_96 3))) ≤ (6 * (MX - cp)) by omega)⟩) hS (fun q _ h => hFc q h) hFc (fun r_116 u_114 t H_115 locs ht hvm hw hB hz1 hk1 hS1 => ?_)
      try dsimp only at hw
      obtain ⟨hw, hs_117, hs_118, hs_119, hs_120⟩ := hw
      subst hw
      obtain ⟨x_121, x_122, x_123, hg8, hg9, hx_124, hx_125, hP1, hD1⟩ := hB
      rw [ht] at hg8 hg9 hP1
      have hjn := xw_join3 (wl := [(a0, .inr (4, [.ref a1, .ref a2, .ref a3, .int (nI za)])), (a1, .inl (ax 1, ca, .inl ao)), (a2, .inl (ax 0, ca, .inl al)), (a3, .inl (ax 0, ca, .inl ar)), (g0, .inr (2, [.ref h0, .ref g1, .ref g2, .ref g3, .ref g4, .ref g5, .ref g6, .ref g7, .ref g8, .ref g9, .ref ga, .ref gb, .int (nI cl), .int (nI ln), .int (nI br), .int (nI lp), .int (nI va)])), (g1, .inl (ax 1, 20, .inl (fun j => nI (kd j)))), (g2, .inl (ax 1, 20, .inl (fun j => nI (ow j)))), (g3, .inl (ax 1, 20, .inl (fun j => nI (sb j)))), (g4, .inl (ax 1, 20, .inl (fun j => nI (f1 j)))), (g5, .inl (ax 1, 20, .inl (fun j => nI (f2 j)))), (g6, .inl (ax 2, 20, .inl (fun j => nI (te j)))), (g7, .inl (ax 2, 20, .inl (fun j => nI (kp j)))), (g8, .inl (ax 0, 20, .inl tm)), (g9, .inl (ax 1, 20, .inl (fun j => nI (nm j)))), (ga, .inl (ax 1, 29, .inl (fun j => nI (ck j)))), (gb, .inl (ax 1, 29, .inl (fun j => nI (co j)))), (c0, .inr (3, [.ref n0, .ref c1, .ref g0, .ref a0, .int s_made])), (c1, .inl (ax 0, 16, .inl sd)), (h0, .inr (4, [.ref h1, .ref h2, .ref h3, .int (nI zs)])), (h1, .inl (ax 1, cs, .inl so)), (h2, .inl (ax 0, cs, .inl sl)), (h3, .inl (ax 0, cs, .inl sr)), (n0, .inr (4, [.ref (u_114 0), .ref (u_114 1), .ref (u_114 2), .int (nI (((u_20 3) + 1) + 1))])), ((u_114 0), .inl (ax 1, u_114 3, .inl x_121)), ((u_114 1), .inl (ax 0, u_114 3, .inl x_122)), ((u_114 2), .inl (ax 0, u_114 3, .inl x_123))]) hP hD [22, 23, 24, 25] [0, 1, 2, 3, 4, 5, 6, 7, 8, 9, 10, 11, 12, 13, 14, 15, 16, 17, 18, 19, 20, 21] hCs (by decide) (by decide) hk1 hFc hP1 hD1 rfl
      clear hP1 hD1
      clear hPc hDc hFc hCs hz hz1 hk1 ht hvm
      clear hP hD hS
      have hS := hS1
      obtain ⟨hP, hD⟩ := hjn
      clear hS1
      refine wk_narrow (k := u_2 4 - cp + (u_20 4 - (u_2 4)) + (u_96 3 - (u_20 4)) + (u_114 3 - (u_96 3))) (n := 6 * (u_2 4 - cp) + (6 * (u_20 4 - (u_2 4))) + (6 * (u_96 3 - (u_20 4))) + (6 * (u_114 3 - (u_96 3)))) (by first | assumption | omega) (by first | assumption | omega) ?_
      clear hk8 hk9 hg8 hg9
      have hV_126 : ndv x_121 x_122 x_123 (((u_20 3) + 1) + 1) := hV_108.add hx_124 (nd_bin (o := 7) (by decide) (by first | assumption | omega) (by first | assumption | omega))
      have hT_127 : tsn x_121 x_122 x_123 ((u_20 3) + 1) = 1 + tsn x_103 x_104 x_105 (u_2 5) + tsn x_103 x_104 x_105 (u_20 3) := nad.bin (o := 7) (by first | assumption | omega) hV_108 (by decide) (by first | assumption | omega) (by first | assumption | omega) hx_124
      have hG_128 : ∀ i, i < (u_20 3) + 1 → tsn x_121 x_122 x_123 i = tsn x_103 x_104 x_105 i := fun i hi => nad.keep (by first | assumption | omega) hV_108 hx_124 hi
      have hB_129 : tsn x_121 x_122 x_123 ((u_20 3) + 1) + z9 ≤ (((u_20 3) + 1) + 1) := by omega
      have hK_130 : ∀ i, i < z9 → tsn x_121 x_122 x_123 i = tsn fo fl fr i := fun i hi => (hG_128 i (by first | assumption | omega)).trans (hK_112 i hi)
      rw [← hQe]
      refine wk_know (fun hk8 hk9 => ?_)
      refine W.widen (k := MX - cp) (n := 6 * (MX - cp)) (by first | assumption | omega) (by first | assumption | omega) ?_
      obtain ⟨hP9, hD9⟩ := xw_sub2 (wc := (fun (u : Nat → Nat) (xsd : Nat → Int32) (xfo : Nat → Int32) (xfl : Nat → Int32) (xfr : Nat → Int32) => [(c0, .inr (3, [.ref n0, .ref c1, .ref g0, .ref a0, .int s_made])), (c1, .inl (ax 0, 16, .inl xsd)), (n0, .inr (4, [.ref (u 0), .ref (u 1), .ref (u 2), .int (nI (u 3))])), (u 0, .inl (ax 1, u 4, .inl xfo)), (u 1, .inl (ax 0, u 4, .inl xfl)), (u 2, .inl (ax 0, u 4, .inl xfr)), (h0, .inr (4, [.ref h1, .ref h2, .ref h3, .int (nI zs)])), (h1, .inl (ax 1, cs, .inl so)), (h2, .inl (ax 0, cs, .inl sl)), (h3, .inl (ax 0, cs, .inl sr)), (a0, .inr (4, [.ref a1, .ref a2, .ref a3, .int (nI za)])), (a1, .inl (ax 1, ca, .inl ao)), (a2, .inl (ax 0, ca, .inl al)), (a3, .inl (ax 0, ca, .inl ar)), (g0, .inr (2, [.ref h0, .ref g1, .ref g2, .ref g3, .ref g4, .ref g5, .ref g6, .ref g7, .ref g8, .ref g9, .ref ga, .ref gb, .int (nI cl), .int (nI ln), .int (nI br), .int (nI lp), .int (nI va)])), (g1, .inl (ax 1, 20, .inl (fun j => nI (kd j)))), (g2, .inl (ax 1, 20, .inl (fun j => nI (ow j)))), (g3, .inl (ax 1, 20, .inl (fun j => nI (sb j)))), (g4, .inl (ax 1, 20, .inl (fun j => nI (f1 j)))), (g5, .inl (ax 1, 20, .inl (fun j => nI (f2 j)))), (g6, .inl (ax 2, 20, .inl (fun j => nI (te j)))), (g7, .inl (ax 2, 20, .inl (fun j => nI (kp j)))), (g8, .inl (ax 0, 20, .inl tm)), (g9, .inl (ax 1, 20, .inl (fun j => nI (nm j)))), (ga, .inl (ax 1, 29, .inl (fun j => nI (ck j)))), (gb, .inl (ax 1, 29, .inl (fun j => nI (co j))))]) (ixn [(u_114 0), (u_114 1), (u_114 2), (((u_20 3) + 1) + 1), (u_114 3), ((u_20 3) + 1)]) sd x_121 x_122 x_123) hP hD [16, 17, 22, 23, 24, 25, 18, 19, 20, 21, 0, 1, 2, 3, 4, 5, 6, 7, 8, 9, 10, 11, 12, 13, 14, 15] (by decide) rfl
      have hex0 : ndv x_121 x_122 x_123 ((((u_20 3) + 1) + 1)) := hV_126
      have hex1 : bts x_121 ((u_114 3)) := (by assumption)
      have hex2 : ∀ i, i < z9 → tsn x_121 x_122 x_123 i = tsn fo fl fr i := hK_130
      have hex3 : tsn x_121 x_122 x_123 (((u_20 3) + 1)) + z9 ≤ (((u_20 3) + 1) + 1) := (by first | assumption | omega)
      have hex4 : ∀ j, j ≤ 10 → trm (sd j) := hsd
      have hg8 : H_115.size ≤ s.heap.size + ((u_114 3) - cp) := by omega
      have hg9 : tsl H_115 ≤ tsl s.heap + (6 * ((u_114 3) - cp)) := by omega
      have hsp0 : z9 ≤ (((u_20 3) + 1) + 1) := (by first | assumption | omega)
      have hsp1 : (((u_20 3) + 1) + 1) ≤ (u_114 3) := (by first | assumption | omega)
      have hsp2 : cp ≤ (u_114 3) := (by first | assumption | omega)
      have hsp3 : (u_114 3) ≤ MX := (by first | assumption | omega)
      have hsp4 : dbl cp ((u_114 3)) := (((hs_9.tr hs_27).tr hs_102).tr hs_120)
      have hsp5 : ((u_20 3) + 1) < (((u_20 3) + 1) + 1) := (by first | assumption | omega)
      have hsp6 : (((u_20 3) + 1) + 1) ≤ z9 + 460 := (by first | assumption | omega)
      exact W.iret (v := nI ((u_20 3) + 1)) hx hb hr (fun t ht hW => ⟨⟨nI ((u_20 3) + 1), ixn [(u_114 0), (u_114 1), (u_114 2), (((u_20 3) + 1) + 1), (u_114 3), ((u_20 3) + 1)], rfl, ⟨rfl, ⟨hsp0, hsp1, hsp2, hsp3, hsp4, hsp5, hsp6⟩⟩, ⟨sd, x_121, x_122, x_123, by rw [ht]; exact hg8, by rw [ht]; exact hg9, hex0, hex1, hex2, hex3, hex4, by rw [ht]; exact hP9, hD9⟩⟩, hS.F ht⟩) hS.2.2 d_Maker_premise_96
  · replace c_1 : q9 = 4 := (nI_eq (a := q9) (b := 4) (by first | exact Nat.lt_of_lt_of_le (by assumption) (by decide) | exact Nat.lt_of_le_of_lt (by assumption) (by decide) | omega) (by decide)).mp c_1
    obtain ⟨hte, htk⟩ := hlw.tst hs9 (Or.inr (hcq.cut (by first | assumption | omega)))
    refine lv_aload_n hx hb d_Maker_premise_5 rfl (lv_at hl1 0 rfl) ?_
    refine lv_aload_n hx hb d_Maker_premise_6 rfl (lv_at hl1 0 rfl) ?_
    refine va_get (D := D) (ci := 3) (v := .ref g0) (C := R_Maker) (T := F_Maker) (N := 5) hx hb hts i_Maker hown hK.1 hP 0 rfl rfl 2 (by decide) (hts _ wd_132) (fun _ h9 => h9) rfl d_Maker_premise_7 ?_
    refine va_get (D := D) (ci := 2) (v := .ref h0) (C := R_Listing) (T := F_Listing) (N := 17) hx hb hts i_Listing hown hK.1 hP 14 rfl rfl 0 (by decide) (hts _ wd_269) (fun _ h9 => h9) rfl d_Maker_premise_10 ?_
    refine lv_aload_n hx hb d_Maker_premise_13 rfl (lv_at hl1 0 rfl) ?_
    refine va_get (D := D) (ci := 3) (v := .ref g0) (C := R_Maker) (T := F_Maker) (N := 5) hx hb hts i_Maker hown hK.1 hP 0 rfl rfl 2 (by decide) (hts _ wd_132) (fun _ h9 => h9) rfl d_Maker_premise_14 ?_
    refine va_get (D := D) (ci := 2) (v := .ref g6) (C := R_Listing) (T := F_Listing) (N := 17) hx hb hts i_Listing hown hK.1 hP 14 rfl rfl 6 (by decide) (hts _ wd_286) (fun _ h9 => h9) rfl d_Maker_premise_17 ?_
    refine lv_iload_n hx hb d_Maker_premise_20 rfl (lv_at hl1 2 rfl) ?_
    refine va_sald hx hb hK.1 hP 20 2 rfl rfl (vp_in_nI (by first | assumption | omega) (by decide)) d_Maker_premise_21 ?_
    refine W.eq (g2 := F0 m 22 ls [.int (nI (te s9)), .ref h0, .ref c0]) (by rw [nI_clamp (by first | exact Nat.lt_of_lt_of_le (by assumption) (by decide) | exact Nat.lt_of_le_of_lt (by assumption) (by decide) | omega)]) ?_
    obtain ⟨hPc, hDc, hFc, hCs⟩ := xw_sub3 (wc := [(c0, .inr (3, [.ref n0, .ref c1, (.ref g0), (.ref a0), .int s_made])), (c1, .inl (ax 0, 16, .inl sd)), (n0, .inr (4, [.ref n1, .ref n2, .ref n3, .int (nI z9)])), (n1, .inl (ax 1, cp, .inl fo)), (n2, .inl (ax 0, cp, .inl fl)), (n3, .inl (ax 0, cp, .inl fr)), (h0, .inr (4, [.ref h1, .ref h2, .ref h3, .int (nI zs)])), (h1, .inl (ax 1, cs, .inl so)), (h2, .inl (ax 0, cs, .inl sl)), (h3, .inl (ax 0, cs, .inl sr))]) hP hD hS hA [0, 1, 2, 3, 4, 5, 6, 7, 8, 9] (by decide) rfl
    have hz := xz_of hN hS
    refine wk_know (fun hk8 hk9 => ?_)
    refine va_calli (va_runV (As := [.ref h0, .int (nI (te s9))]) (rest := []) ⟨hx, hb, hml, hown, hts⟩ ((K_copy_all l (te s9)) D ax c0 c1 (.ref g0) (.ref a0) s_made sd n0 n1 n2 n3 cp z9 fo fl fr h0 h1 h2 h3 zs cs so sl sr MX s.heap.size (tsl s.heap) (by first | assumption | omega) (by first | assumption | omega) (by first | assumption | omega) (by first | assumption | omega) (by assumption) (by assumption) (by assumption) hzs hcs (by first | assumption | omega) hsv (by first | assumption | omega)) (xcV (n := 2) hts wd_776 wd_4 wd_773 wd_775 ps_23 rfl rfl (by decide +kernel) ⟨(show (50 + 2 * (te s9)) + 1 ≤ (1000) by omega), (show 8 + (5 + 11) + (2000 + 40 * (te s9)) ≤ (21000) by omega)⟩) (xpV3 (ci := 3) (q0 := 0) (As := [.ref h0, .int (nI (te s9))]) hPc hK hz hDc rfl rfl) rfl rfl hl1.1 rfl (lv_room (Nat.le_of_ble_eq_true rfl)) d_Maker_premise_22 ⟨(show (0) + (MX - cp) ≤ (MX - cp) by omega), (show (0) + (6 * (MX - cp)) ≤ (6 * (MX - cp)) by omega)⟩) hS (fun q _ h => hFc q h) hFc (fun r_133 u_131 t H_132 locs ht hvm hw hB hz1 hk1 hS1 => ?_)
    try dsimp only at hw
    obtain ⟨hw, hs_134, hs_135, hs_136, hs_137, hs_138, hs_139, hs_140⟩ := hw
    subst hw
    obtain ⟨x_141, x_142, x_143, hg8, hg9, hx_144, hx_145, hx_146, hx_147, hP1, hD1⟩ := hB
    rw [ht] at hg8 hg9 hP1
    have hjn := xw_join3 (wl := [(a0, .inr (4, [.ref a1, .ref a2, .ref a3, .int (nI za)])), (a1, .inl (ax 1, ca, .inl ao)), (a2, .inl (ax 0, ca, .inl al)), (a3, .inl (ax 0, ca, .inl ar)), (g0, .inr (2, [.ref h0, .ref g1, .ref g2, .ref g3, .ref g4, .ref g5, .ref g6, .ref g7, .ref g8, .ref g9, .ref ga, .ref gb, .int (nI cl), .int (nI ln), .int (nI br), .int (nI lp), .int (nI va)])), (g1, .inl (ax 1, 20, .inl (fun j => nI (kd j)))), (g2, .inl (ax 1, 20, .inl (fun j => nI (ow j)))), (g3, .inl (ax 1, 20, .inl (fun j => nI (sb j)))), (g4, .inl (ax 1, 20, .inl (fun j => nI (f1 j)))), (g5, .inl (ax 1, 20, .inl (fun j => nI (f2 j)))), (g6, .inl (ax 2, 20, .inl (fun j => nI (te j)))), (g7, .inl (ax 2, 20, .inl (fun j => nI (kp j)))), (g8, .inl (ax 0, 20, .inl tm)), (g9, .inl (ax 1, 20, .inl (fun j => nI (nm j)))), (ga, .inl (ax 1, 29, .inl (fun j => nI (ck j)))), (gb, .inl (ax 1, 29, .inl (fun j => nI (co j)))), (c0, .inr (3, [.ref n0, .ref c1, .ref g0, .ref a0, .int s_made])), (c1, .inl (ax 0, 16, .inl sd)), (n0, .inr (4, [.ref (u_131 0), .ref (u_131 1), .ref (u_131 2), .int (nI (u_131 3))])), ((u_131 0), .inl (ax 1, u_131 4, .inl x_141)), ((u_131 1), .inl (ax 0, u_131 4, .inl x_142)), ((u_131 2), .inl (ax 0, u_131 4, .inl x_143)), (h0, .inr (4, [.ref h1, .ref h2, .ref h3, .int (nI zs)])), (h1, .inl (ax 1, cs, .inl so)), (h2, .inl (ax 0, cs, .inl sl)), (h3, .inl (ax 0, cs, .inl sr))]) hP hD [0, 1, 2, 3, 4, 5, 6, 7, 8, 9] [10, 11, 12, 13, 14, 15, 16, 17, 18, 19, 20, 21, 22, 23, 24, 25] hCs (by decide) (by decide) hk1 hFc hP1 hD1 rfl
    clear hP1 hD1
    clear hPc hDc hFc hCs hz hz1 hk1 ht hvm
    clear hP hD hS
    have hS := hS1
    obtain ⟨hP, hD⟩ := hjn
    clear hS1
    refine wk_narrow (k := u_131 4 - cp) (n := 6 * (u_131 4 - cp)) (by first | assumption | omega) (by first | assumption | omega) ?_
    clear hk8 hk9 hg8 hg9
    have hK_148 : ∀ i, i < z9 → tsn x_141 x_142 x_143 i = tsn fo fl fr i := fun i hi => hx_146 i hi
    rw [← hQe]
    refine wk_know (fun hk8 hk9 => ?_)
    refine W.widen (k := MX - cp) (n := 6 * (MX - cp)) (by first | assumption | omega) (by first | assumption | omega) ?_
    obtain ⟨hP9, hD9⟩ := xw_sub2 (wc := (fun (u : Nat → Nat) (xsd : Nat → Int32) (xfo : Nat → Int32) (xfl : Nat → Int32) (xfr : Nat → Int32) => [(c0, .inr (3, [.ref n0, .ref c1, .ref g0, .ref a0, .int s_made])), (c1, .inl (ax 0, 16, .inl xsd)), (n0, .inr (4, [.ref (u 0), .ref (u 1), .ref (u 2), .int (nI (u 3))])), (u 0, .inl (ax 1, u 4, .inl xfo)), (u 1, .inl (ax 0, u 4, .inl xfl)), (u 2, .inl (ax 0, u 4, .inl xfr)), (h0, .inr (4, [.ref h1, .ref h2, .ref h3, .int (nI zs)])), (h1, .inl (ax 1, cs, .inl so)), (h2, .inl (ax 0, cs, .inl sl)), (h3, .inl (ax 0, cs, .inl sr)), (a0, .inr (4, [.ref a1, .ref a2, .ref a3, .int (nI za)])), (a1, .inl (ax 1, ca, .inl ao)), (a2, .inl (ax 0, ca, .inl al)), (a3, .inl (ax 0, ca, .inl ar)), (g0, .inr (2, [.ref h0, .ref g1, .ref g2, .ref g3, .ref g4, .ref g5, .ref g6, .ref g7, .ref g8, .ref g9, .ref ga, .ref gb, .int (nI cl), .int (nI ln), .int (nI br), .int (nI lp), .int (nI va)])), (g1, .inl (ax 1, 20, .inl (fun j => nI (kd j)))), (g2, .inl (ax 1, 20, .inl (fun j => nI (ow j)))), (g3, .inl (ax 1, 20, .inl (fun j => nI (sb j)))), (g4, .inl (ax 1, 20, .inl (fun j => nI (f1 j)))), (g5, .inl (ax 1, 20, .inl (fun j => nI (f2 j)))), (g6, .inl (ax 2, 20, .inl (fun j => nI (te j)))), (g7, .inl (ax 2, 20, .inl (fun j => nI (kp j)))), (g8, .inl (ax 0, 20, .inl tm)), (g9, .inl (ax 1, 20, .inl (fun j => nI (nm j)))), (ga, .inl (ax 1, 29, .inl (fun j => nI (ck j)))), (gb, .inl (ax 1, 29, .inl (fun j => nI (co j))))]) (ixn [(u_131 0), (u_131 1), (u_131 2), (u_131 3), (u_131 4), (u_131 5)]) sd x_141 x_142 x_143) hP hD [16, 17, 18, 19, 20, 21, 22, 23, 24, 25, 0, 1, 2, 3, 4, 5, 6, 7, 8, 9, 10, 11, 12, 13, 14, 15] (by decide) rfl
    have hex0 : ndv x_141 x_142 x_143 ((u_131 3)) := hx_144
    have hex1 : bts x_141 ((u_131 4)) := (by assumption)
    have hex2 : ∀ i, i < z9 → tsn x_141 x_142 x_143 i = tsn fo fl fr i := hK_148
    have hex3 : tsn x_141 x_142 x_143 ((u_131 5)) + z9 ≤ (u_131 3) := (by first | assumption | omega)
    have hex4 : ∀ j, j ≤ 10 → trm (sd j) := hsd
    have hg8 : H_132.size ≤ s.heap.size + ((u_131 4) - cp) := by omega
    have hg9 : tsl H_132 ≤ tsl s.heap + (6 * ((u_131 4) - cp)) := by omega
    have hsp0 : z9 ≤ (u_131 3) := (by first | assumption | omega)
    have hsp1 : (u_131 3) ≤ (u_131 4) := (by first | assumption | omega)
    have hsp2 : cp ≤ (u_131 4) := (by first | assumption | omega)
    have hsp3 : (u_131 4) ≤ MX := (by first | assumption | omega)
    have hsp4 : dbl cp ((u_131 4)) := hs_138
    have hsp5 : (u_131 5) < (u_131 3) := (by first | assumption | omega)
    have hsp6 : (u_131 3) ≤ z9 + 460 := (by first | assumption | omega)
    exact W.iret (v := nI (u_131 5)) hx hb hr (fun t ht hW => ⟨⟨nI (u_131 5), ixn [(u_131 0), (u_131 1), (u_131 2), (u_131 3), (u_131 4), (u_131 5)], rfl, ⟨rfl, ⟨hsp0, hsp1, hsp2, hsp3, hsp4, hsp5, hsp6⟩⟩, ⟨sd, x_141, x_142, x_143, by rw [ht]; exact hg8, by rw [ht]; exact hg9, hex0, hex1, hex2, hex3, hex4, by rw [ht]; exact hP9, hD9⟩⟩, hS.F ht⟩) hS.2.2 d_Maker_premise_25
abbrev b_Maker_conclusion : ByteArray := prog_5_method_5_code
def y_Maker_conclusion : MethodName := ⟨R_Maker, "conclusion", "(II)I"⟩
theorem d_Maker_conclusion_0 : decode b_Maker_conclusion 0 = .ok (.iload_n 1, 1) := by decide +kernel
theorem d_Maker_conclusion_1 : decode b_Maker_conclusion 1 = .ok (.tableswitch 71 0 3 #[31, 37, 71, 51], 31) := by decide +kernel
theorem d_Maker_conclusion_32 : decode b_Maker_conclusion 32 = .ok (.aload_n 0, 1) := by decide +kernel
theorem d_Maker_conclusion_33 : decode b_Maker_conclusion 33 = .ok (.iconst 0, 1) := by decide +kernel
theorem d_Maker_conclusion_34 : decode b_Maker_conclusion 34 = .ok (.invokevirtual 80, 3) := by decide +kernel
theorem d_Maker_conclusion_37 : decode b_Maker_conclusion 37 = .ok (.ireturn, 1) := by decide +kernel
theorem d_Maker_conclusion_38 : decode b_Maker_conclusion 38 = .ok (.aload_n 0, 1) := by decide +kernel
theorem d_Maker_conclusion_39 : decode b_Maker_conclusion 39 = .ok (.aload_n 0, 1) := by decide +kernel
theorem d_Maker_conclusion_40 : decode b_Maker_conclusion 40 = .ok (.getfield 29, 3) := by decide +kernel
theorem d_Maker_conclusion_43 : decode b_Maker_conclusion 43 = .ok (.getfield 84, 3) := by decide +kernel
theorem d_Maker_conclusion_46 : decode b_Maker_conclusion 46 = .ok (.iload_n 2, 1) := by decide +kernel
theorem d_Maker_conclusion_47 : decode b_Maker_conclusion 47 = .ok (.baload, 1) := by decide +kernel
theorem d_Maker_conclusion_48 : decode b_Maker_conclusion 48 = .ok (.invokevirtual 80, 3) := by decide +kernel
theorem d_Maker_conclusion_51 : decode b_Maker_conclusion 51 = .ok (.ireturn, 1) := by decide +kernel
theorem d_Maker_conclusion_52 : decode b_Maker_conclusion 52 = .ok (.aload_n 0, 1) := by decide +kernel
theorem d_Maker_conclusion_53 : decode b_Maker_conclusion 53 = .ok (.getfield 12, 3) := by decide +kernel
theorem d_Maker_conclusion_56 : decode b_Maker_conclusion 56 = .ok (.iconst 1, 1) := by decide +kernel
theorem d_Maker_conclusion_57 : decode b_Maker_conclusion 57 = .ok (.aload_n 0, 1) := by decide +kernel
theorem d_Maker_conclusion_58 : decode b_Maker_conclusion 58 = .ok (.getfield 29, 3) := by decide +kernel
theorem d_Maker_conclusion_61 : decode b_Maker_conclusion 61 = .ok (.getfield 77, 3) := by decide +kernel
theorem d_Maker_conclusion_64 : decode b_Maker_conclusion 64 = .ok (.iload_n 2, 1) := by decide +kernel
theorem d_Maker_conclusion_65 : decode b_Maker_conclusion 65 = .ok (.iaload, 1) := by decide +kernel
theorem d_Maker_conclusion_66 : decode b_Maker_conclusion 66 = .ok (.bipush 10, 2) := by decide +kernel
theorem d_Maker_conclusion_68 : decode b_Maker_conclusion 68 = .ok (.invokevirtual 57, 3) := by decide +kernel
theorem d_Maker_conclusion_71 : decode b_Maker_conclusion 71 = .ok (.ireturn, 1) := by decide +kernel
theorem d_Maker_conclusion_72 : decode b_Maker_conclusion 72 = .ok (.aload_n 0, 1) := by decide +kernel
theorem d_Maker_conclusion_73 : decode b_Maker_conclusion 73 = .ok (.iload_n 2, 1) := by decide +kernel
theorem d_Maker_conclusion_74 : decode b_Maker_conclusion 74 = .ok (.invokevirtual 87, 3) := by decide +kernel
theorem d_Maker_conclusion_77 : decode b_Maker_conclusion 77 = .ok (.ireturn, 1) := by decide +kernel
set_option maxHeartbeats 40000000 in
set_option maxRecDepth 100000 in
theorem c_K_conclusion (l : Launch) (D : va_G) (ax : Nat → ClassId) (c0 c1 : Nat) (s_made : Int32) (sd : Nat → Int32) (n0 n1 n2 n3 cp z9 : Nat) (fo fl fr : Nat → Int32) (h0 h1 h2 h3 zs cs : Nat) (so sl sr : Nat → Int32) (a0 a1 a2 a3 za ca : Nat) (ao al ar : Nat → Int32) (g0 g1 g2 g3 g4 g5 g6 g7 g8 g9 ga gb cl ln br lp va : Nat) (kd ow sb f1 f2 te kp nm ck co : Nat → Nat) (tm : Nat → Int32) (MX : Nat) (en kc : Nat → Nat) (q9 s9 : Nat) (sz tz : Nat) (hcp : 8 ≤ cp) (hz9 : z9 ≤ cp) (hmx : cp ≤ MX) (hMX : MX ≤ 100000) (hfo : bts fo cp) (hnv : ndv fo fl fr z9) (hsd : ∀ j, j ≤ 10 → trm (sd j)) (hzs : zs ≤ cs) (hcs : cs ≤ 100000) (hsv : ndv so sl sr zs) (hza : za ≤ ca) (hca : ca ≤ 100000) (hz1 : 1 ≤ za) (hz4 : za ≤ 450) (hav : ndv ao al ar za) (hat : tsn ao al ar (za - 1) ≤ 450) (hlw : lsw ln zs kd ow sb f1 f2 te kp nm en kc tm so sl sr) (hcq : clq ln kd nm q9 s9) (hq9 : q9 < 128) (hln1 : 1 ≤ ln) (hbd : 2 * (z9 + wpw kd kc ln 460 0) ≤ MX) : Met l y_Maker_conclusion (xws (.code y_Maker_conclusion b_Maker_conclusion 3 (some .int))) ({ frames := 1180, cells := MX - cp, slots := 6 * (MX - cp), locals := 27300 }) (va_Pc [.ref c0, .int (nI q9), .int (nI s9)] (xo3 D ax [(c0, .inr (3, [.ref n0, .ref c1, .ref g0, .ref a0, .int s_made])), (c1, .inl (ax 0, 16, .inl sd)), (n0, .inr (4, [.ref n1, .ref n2, .ref n3, .int (nI z9)])), (n1, .inl (ax 1, cp, .inl fo)), (n2, .inl (ax 0, cp, .inl fl)), (n3, .inl (ax 0, cp, .inl fr)), (h0, .inr (4, [.ref h1, .ref h2, .ref h3, .int (nI zs)])), (h1, .inl (ax 1, cs, .inl so)), (h2, .inl (ax 0, cs, .inl sl)), (h3, .inl (ax 0, cs, .inl sr)), (a0, .inr (4, [.ref a1, .ref a2, .ref a3, .int (nI za)])), (a1, .inl (ax 1, ca, .inl ao)), (a2, .inl (ax 0, ca, .inl al)), (a3, .inl (ax 0, ca, .inl ar)), (g0, .inr (2, [.ref h0, .ref g1, .ref g2, .ref g3, .ref g4, .ref g5, .ref g6, .ref g7, .ref g8, .ref g9, .ref ga, .ref gb, .int (nI cl), .int (nI ln), .int (nI br), .int (nI lp), .int (nI va)])), (g1, .inl (ax 1, 20, .inl (fun j => nI (kd j)))), (g2, .inl (ax 1, 20, .inl (fun j => nI (ow j)))), (g3, .inl (ax 1, 20, .inl (fun j => nI (sb j)))), (g4, .inl (ax 1, 20, .inl (fun j => nI (f1 j)))), (g5, .inl (ax 1, 20, .inl (fun j => nI (f2 j)))), (g6, .inl (ax 2, 20, .inl (fun j => nI (te j)))), (g7, .inl (ax 2, 20, .inl (fun j => nI (kp j)))), (g8, .inl (ax 0, 20, .inl tm)), (g9, .inl (ax 1, 20, .inl (fun j => nI (nm j)))), (ga, .inl (ax 1, 29, .inl (fun j => nI (ck j)))), (gb, .inl (ax 1, 29, .inl (fun j => nI (co j))))] sz tz)) ((va_Qi (fun (r : Int32) (u : Nat → Nat) => r = nI (u 5) ∧ (z9 ≤ u 3 ∧ u 3 ≤ u 4 ∧ cp ≤ u 4 ∧ u 4 ≤ MX ∧ dbl cp (u 4) ∧ u 5 < u 3 ∧ u 3 ≤ z9 + wpw kd kc ln 460 0)) (fun (u : Nat → Nat) (t9 : State) => ∃ xsd : Nat → Int32, ∃ xfo : Nat → Int32, ∃ xfl : Nat → Int32, ∃ xfr : Nat → Int32, (t9.heap.size ≤ sz + (u 4 - cp)) ∧ (tsl t9.heap ≤ tz + (6 * (u 4 - cp))) ∧ (ndv xfo xfl xfr (u 3)) ∧ (bts xfo (u 4)) ∧ (∀ i, i < z9 → tsn xfo xfl xfr i = tsn fo fl fr i) ∧ (tsn xfo xfl xfr (u 5) + z9 ≤ u 3) ∧ (∀ j, j ≤ 10 → trm (xsd j)) ∧ va_P D classes [(c0, .inr (3, [.ref n0, .ref c1, .ref g0, .ref a0, .int s_made])), (c1, .inl (ax 0, 16, .inl xsd)), (n0, .inr (4, [.ref (u 0), .ref (u 1), .ref (u 2), .int (nI (u 3))])), (u 0, .inl (ax 1, u 4, .inl xfo)), (u 1, .inl (ax 0, u 4, .inl xfl)), (u 2, .inl (ax 0, u 4, .inl xfr)), (h0, .inr (4, [.ref h1, .ref h2, .ref h3, .int (nI zs)])), (h1, .inl (ax 1, cs, .inl so)), (h2, .inl (ax 0, cs, .inl sl)), (h3, .inl (ax 0, cs, .inl sr)), (a0, .inr (4, [.ref a1, .ref a2, .ref a3, .int (nI za)])), (a1, .inl (ax 1, ca, .inl ao)), (a2, .inl (ax 0, ca, .inl al)), (a3, .inl (ax 0, ca, .inl ar)), (g0, .inr (2, [.ref h0, .ref g1, .ref g2, .ref g3, .ref g4, .ref g5, .ref g6, .ref g7, .ref g8, .ref g9, .ref ga, .ref gb, .int (nI cl), .int (nI ln), .int (nI br), .int (nI lp), .int (nI va)])), (g1, .inl (ax 1, 20, .inl (fun j => nI (kd j)))), (g2, .inl (ax 1, 20, .inl (fun j => nI (ow j)))), (g3, .inl (ax 1, 20, .inl (fun j => nI (sb j)))), (g4, .inl (ax 1, 20, .inl (fun j => nI (f1 j)))), (g5, .inl (ax 1, 20, .inl (fun j => nI (f2 j)))), (g6, .inl (ax 2, 20, .inl (fun j => nI (te j)))), (g7, .inl (ax 2, 20, .inl (fun j => nI (kp j)))), (g8, .inl (ax 0, 20, .inl tm)), (g9, .inl (ax 1, 20, .inl (fun j => nI (nm j)))), (ga, .inl (ax 1, 29, .inl (fun j => nI (ck j)))), (gb, .inl (ax 1, 29, .inl (fun j => nI (co j))))] t9.heap ∧ va_D (va_A [(c0, .inr (3, [.ref n0, .ref c1, .ref g0, .ref a0, .int s_made])), (c1, .inl (ax 0, 16, .inl sd)), (n0, .inr (4, [.ref n1, .ref n2, .ref n3, .int (nI z9)])), (n1, .inl (ax 1, cp, .inl fo)), (n2, .inl (ax 0, cp, .inl fl)), (n3, .inl (ax 0, cp, .inl fr)), (h0, .inr (4, [.ref h1, .ref h2, .ref h3, .int (nI zs)])), (h1, .inl (ax 1, cs, .inl so)), (h2, .inl (ax 0, cs, .inl sl)), (h3, .inl (ax 0, cs, .inl sr)), (a0, .inr (4, [.ref a1, .ref a2, .ref a3, .int (nI za)])), (a1, .inl (ax 1, ca, .inl ao)), (a2, .inl (ax 0, ca, .inl al)), (a3, .inl (ax 0, ca, .inl ar)), (g0, .inr (2, [.ref h0, .ref g1, .ref g2, .ref g3, .ref g4, .ref g5, .ref g6, .ref g7, .ref g8, .ref g9, .ref ga, .ref gb, .int (nI cl), .int (nI ln), .int (nI br), .int (nI lp), .int (nI va)])), (g1, .inl (ax 1, 20, .inl (fun j => nI (kd j)))), (g2, .inl (ax 1, 20, .inl (fun j => nI (ow j)))), (g3, .inl (ax 1, 20, .inl (fun j => nI (sb j)))), (g4, .inl (ax 1, 20, .inl (fun j => nI (f1 j)))), (g5, .inl (ax 1, 20, .inl (fun j => nI (f2 j)))), (g6, .inl (ax 2, 20, .inl (fun j => nI (te j)))), (g7, .inl (ax 2, 20, .inl (fun j => nI (kp j)))), (g8, .inl (ax 0, 20, .inl tm)), (g9, .inl (ax 1, 20, .inl (fun j => nI (nm j)))), (ga, .inl (ax 1, 29, .inl (fun j => nI (ck j)))), (gb, .inl (ax 1, 29, .inl (fun j => nI (co j))))] sz) [(c0, .inr (3, [.ref n0, .ref c1, .ref g0, .ref a0, .int s_made])), (c1, .inl (ax 0, 16, .inl xsd)), (n0, .inr (4, [.ref (u 0), .ref (u 1), .ref (u 2), .int (nI (u 3))])), (u 0, .inl (ax 1, u 4, .inl xfo)), (u 1, .inl (ax 0, u 4, .inl xfl)), (u 2, .inl (ax 0, u 4, .inl xfr)), (h0, .inr (4, [.ref h1, .ref h2, .ref h3, .int (nI zs)])), (h1, .inl (ax 1, cs, .inl so)), (h2, .inl (ax 0, cs, .inl sl)), (h3, .inl (ax 0, cs, .inl sr)), (a0, .inr (4, [.ref a1, .ref a2, .ref a3, .int (nI za)])), (a1, .inl (ax 1, ca, .inl ao)), (a2, .inl (ax 0, ca, .inl al)), (a3, .inl (ax 0, ca, .inl ar)), (g0, .inr (2, [.ref h0, .ref g1, .ref g2, .ref g3, .ref g4, .ref g5, .ref g6, .ref g7, .ref g8, .ref g9, .ref ga, .ref gb, .int (nI cl), .int (nI ln), .int (nI br), .int (nI lp), .int (nI va)])), (g1, .inl (ax 1, 20, .inl (fun j => nI (kd j)))), (g2, .inl (ax 1, 20, .inl (fun j => nI (ow j)))), (g3, .inl (ax 1, 20, .inl (fun j => nI (sb j)))), (g4, .inl (ax 1, 20, .inl (fun j => nI (f1 j)))), (g5, .inl (ax 1, 20, .inl (fun j => nI (f2 j)))), (g6, .inl (ax 2, 20, .inl (fun j => nI (te j)))), (g7, .inl (ax 2, 20, .inl (fun j => nI (kp j)))), (g8, .inl (ax 0, 20, .inl tm)), (g9, .inl (ax 1, 20, .inl (fun j => nI (nm j)))), (ga, .inl (ax 1, 29, .inl (fun j => nI (ck j)))), (gb, .inl (ax 1, 29, .inl (fun j => nI (co j))))]) (va_A [(c0, .inr (3, [.ref n0, .ref c1, .ref g0, .ref a0, .int s_made])), (c1, .inl (ax 0, 16, .inl sd)), (n0, .inr (4, [.ref n1, .ref n2, .ref n3, .int (nI z9)])), (n1, .inl (ax 1, cp, .inl fo)), (n2, .inl (ax 0, cp, .inl fl)), (n3, .inl (ax 0, cp, .inl fr)), (h0, .inr (4, [.ref h1, .ref h2, .ref h3, .int (nI zs)])), (h1, .inl (ax 1, cs, .inl so)), (h2, .inl (ax 0, cs, .inl sl)), (h3, .inl (ax 0, cs, .inl sr)), (a0, .inr (4, [.ref a1, .ref a2, .ref a3, .int (nI za)])), (a1, .inl (ax 1, ca, .inl ao)), (a2, .inl (ax 0, ca, .inl al)), (a3, .inl (ax 0, ca, .inl ar)), (g0, .inr (2, [.ref h0, .ref g1, .ref g2, .ref g3, .ref g4, .ref g5, .ref g6, .ref g7, .ref g8, .ref g9, .ref ga, .ref gb, .int (nI cl), .int (nI ln), .int (nI br), .int (nI lp), .int (nI va)])), (g1, .inl (ax 1, 20, .inl (fun j => nI (kd j)))), (g2, .inl (ax 1, 20, .inl (fun j => nI (ow j)))), (g3, .inl (ax 1, 20, .inl (fun j => nI (sb j)))), (g4, .inl (ax 1, 20, .inl (fun j => nI (f1 j)))), (g5, .inl (ax 1, 20, .inl (fun j => nI (f2 j)))), (g6, .inl (ax 2, 20, .inl (fun j => nI (te j)))), (g7, .inl (ax 2, 20, .inl (fun j => nI (kp j)))), (g8, .inl (ax 0, 20, .inl tm)), (g9, .inl (ax 1, 20, .inl (fun j => nI (nm j)))), (ga, .inl (ax 1, 29, .inl (fun j => nI (ck j)))), (gb, .inl (ax 1, 29, .inl (fun j => nI (co j))))] sz))) (MX - cp) (6 * (MX - cp)) (va_A [(c0, .inr (3, [.ref n0, .ref c1, .ref g0, .ref a0, .int s_made])), (c1, .inl (ax 0, 16, .inl sd)), (n0, .inr (4, [.ref n1, .ref n2, .ref n3, .int (nI z9)])), (n1, .inl (ax 1, cp, .inl fo)), (n2, .inl (ax 0, cp, .inl fl)), (n3, .inl (ax 0, cp, .inl fr)), (h0, .inr (4, [.ref h1, .ref h2, .ref h3, .int (nI zs)])), (h1, .inl (ax 1, cs, .inl so)), (h2, .inl (ax 0, cs, .inl sl)), (h3, .inl (ax 0, cs, .inl sr)), (a0, .inr (4, [.ref a1, .ref a2, .ref a3, .int (nI za)])), (a1, .inl (ax 1, ca, .inl ao)), (a2, .inl (ax 0, ca, .inl al)), (a3, .inl (ax 0, ca, .inl ar)), (g0, .inr (2, [.ref h0, .ref g1, .ref g2, .ref g3, .ref g4, .ref g5, .ref g6, .ref g7, .ref g8, .ref g9, .ref ga, .ref gb, .int (nI cl), .int (nI ln), .int (nI br), .int (nI lp), .int (nI va)])), (g1, .inl (ax 1, 20, .inl (fun j => nI (kd j)))), (g2, .inl (ax 1, 20, .inl (fun j => nI (ow j)))), (g3, .inl (ax 1, 20, .inl (fun j => nI (sb j)))), (g4, .inl (ax 1, 20, .inl (fun j => nI (f1 j)))), (g5, .inl (ax 1, 20, .inl (fun j => nI (f2 j)))), (g6, .inl (ax 2, 20, .inl (fun j => nI (te j)))), (g7, .inl (ax 2, 20, .inl (fun j => nI (kp j)))), (g8, .inl (ax 0, 20, .inl tm)), (g9, .inl (ax 1, 20, .inl (fun j => nI (nm j)))), (ga, .inl (ax 1, 29, .inl (fun j => nI (ck j)))), (gb, .inl (ax 1, 29, .inl (fun j => nI (co j))))] sz) := by
  refine Met.ofW (cc := b_Maker_conclusion) (maxL := 3) (ret := (some .int)) (by decide) rfl ?_
  intro p e s m args below meth c s₁ B hml hv
  obtain ⟨rfl, ⟨hsz, hP, hK, hD0⟩, htz⟩ := hv
  have hx := B.exec
  have hb := B.bytes
  have hr := B.returns
  have hts := xw_hts B.pre
  have hown : s.vm.findClass R_Maker = some m.cls := findClass_of_methodNamed B.named
  have hlocks := B.notSynchronized
  subst hsz
  subst htz
  have hD := hD0.self (sz := s.heap.size)
  have hN := xz_entry hP
  generalize hAe : va_A [(c0, .inr (3, [.ref n0, .ref c1, .ref g0, .ref a0, .int s_made])), (c1, .inl (ax 0, 16, .inl sd)), (n0, .inr (4, [.ref n1, .ref n2, .ref n3, .int (nI z9)])), (n1, .inl (ax 1, cp, .inl fo)), (n2, .inl (ax 0, cp, .inl fl)), (n3, .inl (ax 0, cp, .inl fr)), (h0, .inr (4, [.ref h1, .ref h2, .ref h3, .int (nI zs)])), (h1, .inl (ax 1, cs, .inl so)), (h2, .inl (ax 0, cs, .inl sl)), (h3, .inl (ax 0, cs, .inl sr)), (a0, .inr (4, [.ref a1, .ref a2, .ref a3, .int (nI za)])), (a1, .inl (ax 1, ca, .inl ao)), (a2, .inl (ax 0, ca, .inl al)), (a3, .inl (ax 0, ca, .inl ar)), (g0, .inr (2, [.ref h0, .ref g1, .ref g2, .ref g3, .ref g4, .ref g5, .ref g6, .ref g7, .ref g8, .ref g9, .ref ga, .ref gb, .int (nI cl), .int (nI ln), .int (nI br), .int (nI lp), .int (nI va)])), (g1, .inl (ax 1, 20, .inl (fun j => nI (kd j)))), (g2, .inl (ax 1, 20, .inl (fun j => nI (ow j)))), (g3, .inl (ax 1, 20, .inl (fun j => nI (sb j)))), (g4, .inl (ax 1, 20, .inl (fun j => nI (f1 j)))), (g5, .inl (ax 1, 20, .inl (fun j => nI (f2 j)))), (g6, .inl (ax 2, 20, .inl (fun j => nI (te j)))), (g7, .inl (ax 2, 20, .inl (fun j => nI (kp j)))), (g8, .inl (ax 0, 20, .inl tm)), (g9, .inl (ax 1, 20, .inl (fun j => nI (nm j)))), (ga, .inl (ax 1, 29, .inl (fun j => nI (ck j)))), (gb, .inl (ax 1, 29, .inl (fun j => nI (co j))))] s.heap.size = A at hD hN ⊢
  have hA : ∀ q : Nat, s.heap.size ≤ q → A q := fun q h => by rw [← hAe]; exact Or.inr h
  have hS : va_S A s.heap s.heap [] := va_S.rf
  have hl0 := lv_entry ([.ref c0, .int (nI q9), .int (nI s9)]) (n := 3) (Nat.le_of_ble_eq_true rfl)
  rw [lg_entry_eq]
  generalize (lg_sl ([.ref c0, .int (nI q9), .int (nI s9)]) ++ List.replicate (3 - (lg_sl ([.ref c0, .int (nI q9), .int (nI s9)])).length) Slot.unset).toArray = ls at hl0 ⊢
  have hl1 : lv_has ls 3 [(0, .ref c0), (1, .int (nI q9)), (2, .int (nI s9))] := hl0
  refine xw_gen (fun Z9 hQe => ?_)
  have hln := hlw.1.1
  have hzz := hlw.2.2
  have hwB := wpw_B (kd := kd) (kc := kc) (n := ln) (B := 460) (s := 0)
  refine lv_iload_n hx hb d_Maker_conclusion_0 rfl (lv_at hl1 1 rfl) ?_
  by_cases hw_1 : q9 = 0
  · refine W.eq (g2 := F0 m 1 ls [.int 0]) (by rw [hw_1]; rfl) ?_
    refine lv_tableIn (off := 31) (tgt := 32) hx hb d_Maker_conclusion_1 (by decide) (by decide) (by decide) (by decide) ?_
    refine lv_aload_n hx hb d_Maker_conclusion_32 rfl (lv_at hl1 0 rfl) ?_
    refine lv_iconst (v := 0) hx hb d_Maker_conclusion_33 (by decide) ?_
    obtain ⟨hPc, hDc, hFc, hCs⟩ := xw_sub3 (wc := [(c0, .inr (3, [.ref n0, .ref c1, .ref g0, .ref a0, .int s_made])), (c1, .inl (ax 0, 16, .inl sd)), (n0, .inr (4, [.ref n1, .ref n2, .ref n3, .int (nI z9)])), (n1, .inl (ax 1, cp, .inl fo)), (n2, .inl (ax 0, cp, .inl fl)), (n3, .inl (ax 0, cp, .inl fr)), (h0, .inr (4, [.ref h1, .ref h2, .ref h3, .int (nI zs)])), (h1, .inl (ax 1, cs, .inl so)), (h2, .inl (ax 0, cs, .inl sl)), (h3, .inl (ax 0, cs, .inl sr)), (a0, .inr (4, [.ref a1, .ref a2, .ref a3, .int (nI za)])), (a1, .inl (ax 1, ca, .inl ao)), (a2, .inl (ax 0, ca, .inl al)), (a3, .inl (ax 0, ca, .inl ar)), (g0, .inr (2, [.ref h0, .ref g1, .ref g2, .ref g3, .ref g4, .ref g5, .ref g6, .ref g7, .ref g8, .ref g9, .ref ga, .ref gb, .int (nI cl), .int (nI ln), .int (nI br), .int (nI lp), .int (nI va)])), (g1, .inl (ax 1, 20, .inl (fun j => nI (kd j)))), (g2, .inl (ax 1, 20, .inl (fun j => nI (ow j)))), (g3, .inl (ax 1, 20, .inl (fun j => nI (sb j)))), (g4, .inl (ax 1, 20, .inl (fun j => nI (f1 j)))), (g5, .inl (ax 1, 20, .inl (fun j => nI (f2 j)))), (g6, .inl (ax 2, 20, .inl (fun j => nI (te j)))), (g7, .inl (ax 2, 20, .inl (fun j => nI (kp j)))), (g8, .inl (ax 0, 20, .inl tm)), (g9, .inl (ax 1, 20, .inl (fun j => nI (nm j)))), (ga, .inl (ax 1, 29, .inl (fun j => nI (ck j)))), (gb, .inl (ax 1, 29, .inl (fun j => nI (co j))))]) hP hD hS hA [0, 1, 2, 3, 4, 5, 6, 7, 8, 9, 10, 11, 12, 13, 14, 15, 16, 17, 18, 19, 20, 21, 22, 23, 24, 25] (by decide) rfl
    have hz := xz_of hN hS
    refine wk_know (fun hk8 hk9 => ?_)
    refine va_calli (va_runV (As := [.int 0]) (rest := []) ⟨hx, hb, hml, hown, hts⟩ ((K_wp_all l 20 0 (Nat.sub_le _ _)) D ax c0 c1 s_made sd n0 n1 n2 n3 cp z9 fo fl fr h0 h1 h2 h3 zs cs so sl sr a0 a1 a2 a3 za ca ao al ar g0 g1 g2 g3 g4 g5 g6 g7 g8 g9 ga gb cl ln br lp va kd ow sb f1 f2 te kp nm ck co tm MX en kc s.heap.size (tsl s.heap) (by first | assumption | omega) (by first | assumption | omega) (by first | assumption | omega) hMX (by assumption) (by assumption) (by assumption) hzs hcs hsv hza hca hz1 hz4 hav hat hlw (by first | assumption | omega) (by first | assumption | omega)) (xcV (n := 1) hts wd_793 wd_4 wd_790 wd_792 ps_27 rfl rfl (by decide +kernel) ⟨(show (1010 + 8 * (20 - 0)) + 1 ≤ (1180) by omega), (show 8 + (2 + 11) + (21200 + 300 * (20 - 0)) ≤ (27300) by omega)⟩) (xpV3 (ci := 3) (q0 := 0) (As := [.int 0]) hPc hK hz hDc rfl rfl) rfl rfl hl1.1 rfl (lv_room (Nat.le_of_ble_eq_true rfl)) d_Maker_conclusion_34 ⟨(show (0) + (MX - cp) ≤ (MX - cp) by omega), (show (0) + (6 * (MX - cp)) ≤ (6 * (MX - cp)) by omega)⟩) hS (fun q _ h => hFc q h) hFc (fun r_4 u_2 t H_3 locs ht hvm hw hB hz1 hk1 hS1 => ?_)
    try dsimp only at hw
    obtain ⟨hw, hs_5, hs_6, hs_7, hs_8, hs_9, hs_10, hs_11⟩ := hw
    subst hw
    obtain ⟨x_12, x_13, x_14, x_15, hg8, hg9, hx_16, hx_17, hx_18, hx_19, hx_20, hP1, hD1⟩ := hB
    rw [ht] at hg8 hg9 hP1
    have hjn := xw_join3 (wl := [(c0, .inr (3, [.ref n0, .ref c1, .ref g0, .ref a0, .int s_made])), (c1, .inl (ax 0, 16, .inl x_12)), (n0, .inr (4, [.ref (u_2 0), .ref (u_2 1), .ref (u_2 2), .int (nI (u_2 3))])), ((u_2 0), .inl (ax 1, u_2 4, .inl x_13)), ((u_2 1), .inl (ax 0, u_2 4, .inl x_14)), ((u_2 2), .inl (ax 0, u_2 4, .inl x_15)), (h0, .inr (4, [.ref h1, .ref h2, .ref h3, .int (nI zs)])), (h1, .inl (ax 1, cs, .inl so)), (h2, .inl (ax 0, cs, .inl sl)), (h3, .inl (ax 0, cs, .inl sr)), (a0, .inr (4, [.ref a1, .ref a2, .ref a3, .int (nI za)])), (a1, .inl (ax 1, ca, .inl ao)), (a2, .inl (ax 0, ca, .inl al)), (a3, .inl (ax 0, ca, .inl ar)), (g0, .inr (2, [.ref h0, .ref g1, .ref g2, .ref g3, .ref g4, .ref g5, .ref g6, .ref g7, .ref g8, .ref g9, .ref ga, .ref gb, .int (nI cl), .int (nI ln), .int (nI br), .int (nI lp), .int (nI va)])), (g1, .inl (ax 1, 20, .inl (fun j => nI (kd j)))), (g2, .inl (ax 1, 20, .inl (fun j => nI (ow j)))), (g3, .inl (ax 1, 20, .inl (fun j => nI (sb j)))), (g4, .inl (ax 1, 20, .inl (fun j => nI (f1 j)))), (g5, .inl (ax 1, 20, .inl (fun j => nI (f2 j)))), (g6, .inl (ax 2, 20, .inl (fun j => nI (te j)))), (g7, .inl (ax 2, 20, .inl (fun j => nI (kp j)))), (g8, .inl (ax 0, 20, .inl tm)), (g9, .inl (ax 1, 20, .inl (fun j => nI (nm j)))), (ga, .inl (ax 1, 29, .inl (fun j => nI (ck j)))), (gb, .inl (ax 1, 29, .inl (fun j => nI (co j))))]) hP hD [0, 1, 2, 3, 4, 5, 6, 7, 8, 9, 10, 11, 12, 13, 14, 15, 16, 17, 18, 19, 20, 21, 22, 23, 24, 25] [] hCs (by decide) (by decide) hk1 hFc hP1 hD1 rfl
    clear hP1 hD1
    clear hPc hDc hFc hCs hz hz1 hk1 ht hvm
    clear hP hD hS
    have hS := hS1
    obtain ⟨hP, hD⟩ := hjn
    clear hS1
    refine wk_narrow (k := u_2 4 - cp) (n := 6 * (u_2 4 - cp)) (by first | assumption | omega) (by first | assumption | omega) ?_
    clear hk8 hk9 hg8 hg9
    have hK_21 : ∀ i, i < z9 → tsn x_13 x_14 x_15 i = tsn fo fl fr i := fun i hi => hx_18 i hi
    rw [← hQe]
    refine wk_know (fun hk8 hk9 => ?_)
    refine W.widen (k := MX - cp) (n := 6 * (MX - cp)) (by first | assumption | omega) (by first | assumption | omega) ?_
    obtain ⟨hP9, hD9⟩ := xw_sub2 (wc := (fun (u : Nat → Nat) (xsd : Nat → Int32) (xfo : Nat → Int32) (xfl : Nat → Int32) (xfr : Nat → Int32) => [(c0, .inr (3, [.ref n0, .ref c1, .ref g0, .ref a0, .int s_made])), (c1, .inl (ax 0, 16, .inl xsd)), (n0, .inr (4, [.ref (u 0), .ref (u 1), .ref (u 2), .int (nI (u 3))])), (u 0, .inl (ax 1, u 4, .inl xfo)), (u 1, .inl (ax 0, u 4, .inl xfl)), (u 2, .inl (ax 0, u 4, .inl xfr)), (h0, .inr (4, [.ref h1, .ref h2, .ref h3, .int (nI zs)])), (h1, .inl (ax 1, cs, .inl so)), (h2, .inl (ax 0, cs, .inl sl)), (h3, .inl (ax 0, cs, .inl sr)), (a0, .inr (4, [.ref a1, .ref a2, .ref a3, .int (nI za)])), (a1, .inl (ax 1, ca, .inl ao)), (a2, .inl (ax 0, ca, .inl al)), (a3, .inl (ax 0, ca, .inl ar)), (g0, .inr (2, [.ref h0, .ref g1, .ref g2, .ref g3, .ref g4, .ref g5, .ref g6, .ref g7, .ref g8, .ref g9, .ref ga, .ref gb, .int (nI cl), .int (nI ln), .int (nI br), .int (nI lp), .int (nI va)])), (g1, .inl (ax 1, 20, .inl (fun j => nI (kd j)))), (g2, .inl (ax 1, 20, .inl (fun j => nI (ow j)))), (g3, .inl (ax 1, 20, .inl (fun j => nI (sb j)))), (g4, .inl (ax 1, 20, .inl (fun j => nI (f1 j)))), (g5, .inl (ax 1, 20, .inl (fun j => nI (f2 j)))), (g6, .inl (ax 2, 20, .inl (fun j => nI (te j)))), (g7, .inl (ax 2, 20, .inl (fun j => nI (kp j)))), (g8, .inl (ax 0, 20, .inl tm)), (g9, .inl (ax 1, 20, .inl (fun j => nI (nm j)))), (ga, .inl (ax 1, 29, .inl (fun j => nI (ck j)))), (gb, .inl (ax 1, 29, .inl (fun j => nI (co j))))]) (ixn [(u_2 0), (u_2 1), (u_2 2), (u_2 3), (u_2 4), (u_2 5)]) x_12 x_13 x_14 x_15) hP hD [0, 1, 2, 3, 4, 5, 6, 7, 8, 9, 10, 11, 12, 13, 14, 15, 16, 17, 18, 19, 20, 21, 22, 23, 24, 25] (by decide) rfl
    have hex0 : ndv x_13 x_14 x_15 ((u_2 3)) := hx_16
    have hex1 : bts x_13 ((u_2 4)) := (by assumption)
    have hex2 : ∀ i, i < z9 → tsn x_13 x_14 x_15 i = tsn fo fl fr i := hK_21
    have hex3 : tsn x_13 x_14 x_15 ((u_2 5)) + z9 ≤ (u_2 3) := (by first | assumption | omega)
    have hex4 : ∀ j, j ≤ 10 → trm (x_12 j) := hx_20
    have hg8 : H_3.size ≤ s.heap.size + ((u_2 4) - cp) := by omega
    have hg9 : tsl H_3 ≤ tsl s.heap + (6 * ((u_2 4) - cp)) := by omega
    have hsp0 : z9 ≤ (u_2 3) := (by first | assumption | omega)
    have hsp1 : (u_2 3) ≤ (u_2 4) := (by first | assumption | omega)
    have hsp2 : cp ≤ (u_2 4) := (by first | assumption | omega)
    have hsp3 : (u_2 4) ≤ MX := (by first | assumption | omega)
    have hsp4 : dbl cp ((u_2 4)) := hs_9
    have hsp5 : (u_2 5) < (u_2 3) := (by first | assumption | omega)
    have hsp6 : (u_2 3) ≤ z9 + wpw kd kc ln 460 0 := (by first | assumption | omega)
    exact W.iret (v := nI (u_2 5)) hx hb hr (fun t ht hW => ⟨⟨nI (u_2 5), ixn [(u_2 0), (u_2 1), (u_2 2), (u_2 3), (u_2 4), (u_2 5)], rfl, ⟨rfl, ⟨hsp0, hsp1, hsp2, hsp3, hsp4, hsp5, hsp6⟩⟩, ⟨x_12, x_13, x_14, x_15, by rw [ht]; exact hg8, by rw [ht]; exact hg9, hex0, hex1, hex2, hex3, hex4, by rw [ht]; exact hP9, hD9⟩⟩, hS.F ht⟩) hS.2.2 d_Maker_conclusion_37
  by_cases hw_22 : q9 = 1
  · refine W.eq (g2 := F0 m 1 ls [.int 1]) (by rw [hw_22]; rfl) ?_
    refine lv_tableIn (off := 37) (tgt := 38) hx hb d_Maker_conclusion_1 (by decide) (by decide) (by decide) (by decide) ?_
    obtain ⟨hs9, hq4⟩ := hcq.some2 (by first | assumption | omega)
    obtain ⟨hte, hkp, htk, hf1a, hf1b, hnm⟩ := hlw.wh hs9 (hcq.loop (by first | assumption | omega) (by first | assumption | omega))
    have hwM := wpw_mono (kd := kd) (kc := kc) (n := ln) (B := 460) (s := 0) (j := f1 s9) (by first | assumption | omega)
    clear hnm
    refine lv_aload_n hx hb d_Maker_conclusion_38 rfl (lv_at hl1 0 rfl) ?_
    refine lv_aload_n hx hb d_Maker_conclusion_39 rfl (lv_at hl1 0 rfl) ?_
    refine va_get (D := D) (ci := 3) (v := .ref g0) (C := R_Maker) (T := F_Maker) (N := 5) hx hb hts i_Maker hown hK.1 hP 0 rfl rfl 2 (by decide) (hts _ wd_132) (fun _ h9 => h9) rfl d_Maker_conclusion_40 ?_
    refine va_get (D := D) (ci := 2) (v := .ref g4) (C := R_Listing) (T := F_Listing) (N := 17) hx hb hts i_Listing hown hK.1 hP 14 rfl rfl 4 (by decide) (hts _ wd_279) (fun _ h9 => h9) rfl d_Maker_conclusion_43 ?_
    refine lv_iload_n hx hb d_Maker_conclusion_46 rfl (lv_at hl1 2 rfl) ?_
    refine va_bald hx hb hK.1 hP 18 1 rfl rfl (vp_in_nI (by first | assumption | omega) (by decide)) d_Maker_conclusion_47 ?_
    refine W.eq (g2 := F0 m 48 ls [.int (nI (f1 s9)), .ref c0]) (by rw [nI_clamp (by first | exact Nat.lt_of_lt_of_le (by assumption) (by decide) | exact Nat.lt_of_le_of_lt (by assumption) (by decide) | omega)]) ?_
    obtain ⟨hPc, hDc, hFc, hCs⟩ := xw_sub3 (wc := [(c0, .inr (3, [.ref n0, .ref c1, .ref g0, .ref a0, .int s_made])), (c1, .inl (ax 0, 16, .inl sd)), (n0, .inr (4, [.ref n1, .ref n2, .ref n3, .int (nI z9)])), (n1, .inl (ax 1, cp, .inl fo)), (n2, .inl (ax 0, cp, .inl fl)), (n3, .inl (ax 0, cp, .inl fr)), (h0, .inr (4, [.ref h1, .ref h2, .ref h3, .int (nI zs)])), (h1, .inl (ax 1, cs, .inl so)), (h2, .inl (ax 0, cs, .inl sl)), (h3, .inl (ax 0, cs, .inl sr)), (a0, .inr (4, [.ref a1, .ref a2, .ref a3, .int (nI za)])), (a1, .inl (ax 1, ca, .inl ao)), (a2, .inl (ax 0, ca, .inl al)), (a3, .inl (ax 0, ca, .inl ar)), (g0, .inr (2, [.ref h0, .ref g1, .ref g2, .ref g3, .ref g4, .ref g5, .ref g6, .ref g7, .ref g8, .ref g9, .ref ga, .ref gb, .int (nI cl), .int (nI ln), .int (nI br), .int (nI lp), .int (nI va)])), (g1, .inl (ax 1, 20, .inl (fun j => nI (kd j)))), (g2, .inl (ax 1, 20, .inl (fun j => nI (ow j)))), (g3, .inl (ax 1, 20, .inl (fun j => nI (sb j)))), (g4, .inl (ax 1, 20, .inl (fun j => nI (f1 j)))), (g5, .inl (ax 1, 20, .inl (fun j => nI (f2 j)))), (g6, .inl (ax 2, 20, .inl (fun j => nI (te j)))), (g7, .inl (ax 2, 20, .inl (fun j => nI (kp j)))), (g8, .inl (ax 0, 20, .inl tm)), (g9, .inl (ax 1, 20, .inl (fun j => nI (nm j)))), (ga, .inl (ax 1, 29, .inl (fun j => nI (ck j)))), (gb, .inl (ax 1, 29, .inl (fun j => nI (co j))))]) hP hD hS hA [0, 1, 2, 3, 4, 5, 6, 7, 8, 9, 10, 11, 12, 13, 14, 15, 16, 17, 18, 19, 20, 21, 22, 23, 24, 25] (by decide) rfl
    have hz := xz_of hN hS
    refine wk_know (fun hk8 hk9 => ?_)
    refine va_calli (va_runV (As := [.int (nI (f1 s9))]) (rest := []) ⟨hx, hb, hml, hown, hts⟩ ((K_wp_all l 20 (f1 s9) (Nat.sub_le _ _)) D ax c0 c1 s_made sd n0 n1 n2 n3 cp z9 fo fl fr h0 h1 h2 h3 zs cs so sl sr a0 a1 a2 a3 za ca ao al ar g0 g1 g2 g3 g4 g5 g6 g7 g8 g9 ga gb cl ln br lp va kd ow sb f1 f2 te kp nm ck co tm MX en kc s.heap.size (tsl s.heap) (by first | assumption | omega) (by first | assumption | omega) (by first | assumption | omega) hMX (by assumption) (by assumption) (by assumption) hzs hcs hsv hza hca hz1 hz4 hav hat hlw (by first | assumption | omega) (by first | assumption | omega)) (xcV (n := 1) hts wd_793 wd_4 wd_790 wd_792 ps_27 rfl rfl (by decide +kernel) ⟨(show (1010 + 8 * (20 - (f1 s9))) + 1 ≤ (1180) by omega), (show 8 + (2 + 11) + (21200 + 300 * (20 - (f1 s9))) ≤ (27300) by omega)⟩) (xpV3 (ci := 3) (q0 := 0) (As := [.int (nI (f1 s9))]) hPc hK hz hDc rfl rfl) rfl rfl hl1.1 rfl (lv_room (Nat.le_of_ble_eq_true rfl)) d_Maker_conclusion_48 ⟨(show (0) + (MX - cp) ≤ (MX - cp) by omega), (show (0) + (6 * (MX - cp)) ≤ (6 * (MX - cp)) by omega)⟩) hS (fun q _ h => hFc q h) hFc (fun r_25 u_23 t H_24 locs ht hvm hw hB hz1 hk1 hS1 => ?_)
    try dsimp only at hw
    obtain ⟨hw, hs_26, hs_27, hs_28, hs_29, hs_30, hs_31, hs_32⟩ := hw
    subst hw
    obtain ⟨x_33, x_34, x_35, x_36, hg8, hg9, hx_37, hx_38, hx_39, hx_40, hx_41, hP1, hD1⟩ := hB
    rw [ht] at hg8 hg9 hP1
    have hjn := xw_join3 (wl := [(c0, .inr (3, [.ref n0, .ref c1, .ref g0, .ref a0, .int s_made])), (c1, .inl (ax 0, 16, .inl x_33)), (n0, .inr (4, [.ref (u_23 0), .ref (u_23 1), .ref (u_23 2), .int (nI (u_23 3))])), ((u_23 0), .inl (ax 1, u_23 4, .inl x_34)), ((u_23 1), .inl (ax 0, u_23 4, .inl x_35)), ((u_23 2), .inl (ax 0, u_23 4, .inl x_36)), (h0, .inr (4, [.ref h1, .ref h2, .ref h3, .int (nI zs)])), (h1, .inl (ax 1, cs, .inl so)), (h2, .inl (ax 0, cs, .inl sl)), (h3, .inl (ax 0, cs, .inl sr)), (a0, .inr (4, [.ref a1, .ref a2, .ref a3, .int (nI za)])), (a1, .inl (ax 1, ca, .inl ao)), (a2, .inl (ax 0, ca, .inl al)), (a3, .inl (ax 0, ca, .inl ar)), (g0, .inr (2, [.ref h0, .ref g1, .ref g2, .ref g3, .ref g4, .ref g5, .ref g6, .ref g7, .ref g8, .ref g9, .ref ga, .ref gb, .int (nI cl), .int (nI ln), .int (nI br), .int (nI lp), .int (nI va)])), (g1, .inl (ax 1, 20, .inl (fun j => nI (kd j)))), (g2, .inl (ax 1, 20, .inl (fun j => nI (ow j)))), (g3, .inl (ax 1, 20, .inl (fun j => nI (sb j)))), (g4, .inl (ax 1, 20, .inl (fun j => nI (f1 j)))), (g5, .inl (ax 1, 20, .inl (fun j => nI (f2 j)))), (g6, .inl (ax 2, 20, .inl (fun j => nI (te j)))), (g7, .inl (ax 2, 20, .inl (fun j => nI (kp j)))), (g8, .inl (ax 0, 20, .inl tm)), (g9, .inl (ax 1, 20, .inl (fun j => nI (nm j)))), (ga, .inl (ax 1, 29, .inl (fun j => nI (ck j)))), (gb, .inl (ax 1, 29, .inl (fun j => nI (co j))))]) hP hD [0, 1, 2, 3, 4, 5, 6, 7, 8, 9, 10, 11, 12, 13, 14, 15, 16, 17, 18, 19, 20, 21, 22, 23, 24, 25] [] hCs (by decide) (by decide) hk1 hFc hP1 hD1 rfl
    clear hP1 hD1
    clear hPc hDc hFc hCs hz hz1 hk1 ht hvm
    clear hP hD hS
    have hS := hS1
    obtain ⟨hP, hD⟩ := hjn
    clear hS1
    refine wk_narrow (k := u_23 4 - cp) (n := 6 * (u_23 4 - cp)) (by first | assumption | omega) (by first | assumption | omega) ?_
    clear hk8 hk9 hg8 hg9
    have hK_42 : ∀ i, i < z9 → tsn x_34 x_35 x_36 i = tsn fo fl fr i := fun i hi => hx_39 i hi
    rw [← hQe]
    refine wk_know (fun hk8 hk9 => ?_)
    refine W.widen (k := MX - cp) (n := 6 * (MX - cp)) (by first | assumption | omega) (by first | assumption | omega) ?_
    obtain ⟨hP9, hD9⟩ := xw_sub2 (wc := (fun (u : Nat → Nat) (xsd : Nat → Int32) (xfo : Nat → Int32) (xfl : Nat → Int32) (xfr : Nat → Int32) => [(c0, .inr (3, [.ref n0, .ref c1, .ref g0, .ref a0, .int s_made])), (c1, .inl (ax 0, 16, .inl xsd)), (n0, .inr (4, [.ref (u 0), .ref (u 1), .ref (u 2), .int (nI (u 3))])), (u 0, .inl (ax 1, u 4, .inl xfo)), (u 1, .inl (ax 0, u 4, .inl xfl)), (u 2, .inl (ax 0, u 4, .inl xfr)), (h0, .inr (4, [.ref h1, .ref h2, .ref h3, .int (nI zs)])), (h1, .inl (ax 1, cs, .inl so)), (h2, .inl (ax 0, cs, .inl sl)), (h3, .inl (ax 0, cs, .inl sr)), (a0, .inr (4, [.ref a1, .ref a2, .ref a3, .int (nI za)])), (a1, .inl (ax 1, ca, .inl ao)), (a2, .inl (ax 0, ca, .inl al)), (a3, .inl (ax 0, ca, .inl ar)), (g0, .inr (2, [.ref h0, .ref g1, .ref g2, .ref g3, .ref g4, .ref g5, .ref g6, .ref g7, .ref g8, .ref g9, .ref ga, .ref gb, .int (nI cl), .int (nI ln), .int (nI br), .int (nI lp), .int (nI va)])), (g1, .inl (ax 1, 20, .inl (fun j => nI (kd j)))), (g2, .inl (ax 1, 20, .inl (fun j => nI (ow j)))), (g3, .inl (ax 1, 20, .inl (fun j => nI (sb j)))), (g4, .inl (ax 1, 20, .inl (fun j => nI (f1 j)))), (g5, .inl (ax 1, 20, .inl (fun j => nI (f2 j)))), (g6, .inl (ax 2, 20, .inl (fun j => nI (te j)))), (g7, .inl (ax 2, 20, .inl (fun j => nI (kp j)))), (g8, .inl (ax 0, 20, .inl tm)), (g9, .inl (ax 1, 20, .inl (fun j => nI (nm j)))), (ga, .inl (ax 1, 29, .inl (fun j => nI (ck j)))), (gb, .inl (ax 1, 29, .inl (fun j => nI (co j))))]) (ixn [(u_23 0), (u_23 1), (u_23 2), (u_23 3), (u_23 4), (u_23 5)]) x_33 x_34 x_35 x_36) hP hD [0, 1, 2, 3, 4, 5, 6, 7, 8, 9, 10, 11, 12, 13, 14, 15, 16, 17, 18, 19, 20, 21, 22, 23, 24, 25] (by decide) rfl
    have hex0 : ndv x_34 x_35 x_36 ((u_23 3)) := hx_37
    have hex1 : bts x_34 ((u_23 4)) := (by assumption)
    have hex2 : ∀ i, i < z9 → tsn x_34 x_35 x_36 i = tsn fo fl fr i := hK_42
    have hex3 : tsn x_34 x_35 x_36 ((u_23 5)) + z9 ≤ (u_23 3) := (by first | assumption | omega)
    have hex4 : ∀ j, j ≤ 10 → trm (x_33 j) := hx_41
    have hg8 : H_24.size ≤ s.heap.size + ((u_23 4) - cp) := by omega
    have hg9 : tsl H_24 ≤ tsl s.heap + (6 * ((u_23 4) - cp)) := by omega
    have hsp0 : z9 ≤ (u_23 3) := (by first | assumption | omega)
    have hsp1 : (u_23 3) ≤ (u_23 4) := (by first | assumption | omega)
    have hsp2 : cp ≤ (u_23 4) := (by first | assumption | omega)
    have hsp3 : (u_23 4) ≤ MX := (by first | assumption | omega)
    have hsp4 : dbl cp ((u_23 4)) := hs_30
    have hsp5 : (u_23 5) < (u_23 3) := (by first | assumption | omega)
    have hsp6 : (u_23 3) ≤ z9 + wpw kd kc ln 460 0 := (by first | assumption | omega)
    exact W.iret (v := nI (u_23 5)) hx hb hr (fun t ht hW => ⟨⟨nI (u_23 5), ixn [(u_23 0), (u_23 1), (u_23 2), (u_23 3), (u_23 4), (u_23 5)], rfl, ⟨rfl, ⟨hsp0, hsp1, hsp2, hsp3, hsp4, hsp5, hsp6⟩⟩, ⟨x_33, x_34, x_35, x_36, by rw [ht]; exact hg8, by rw [ht]; exact hg9, hex0, hex1, hex2, hex3, hex4, by rw [ht]; exact hP9, hD9⟩⟩, hS.F ht⟩) hS.2.2 d_Maker_conclusion_51
  by_cases hw_43 : q9 = 2
  · refine W.eq (g2 := F0 m 1 ls [.int 2]) (by rw [hw_43]; rfl) ?_
    refine lv_tableIn (off := 71) (tgt := 72) hx hb d_Maker_conclusion_1 (by decide) (by decide) (by decide) (by decide) ?_
    obtain ⟨hs9, hq4⟩ := hcq.some2 (by first | assumption | omega)
    have hwM := wpw_mono (kd := kd) (kc := kc) (n := ln) (B := 460) (s := 0) (j := s9 + 1) (by first | assumption | omega)
    refine lv_aload_n hx hb d_Maker_conclusion_72 rfl (lv_at hl1 0 rfl) ?_
    refine lv_iload_n hx hb d_Maker_conclusion_73 rfl (lv_at hl1 2 rfl) ?_
    obtain ⟨hPc, hDc, hFc, hCs⟩ := xw_sub3 (wc := [(c0, .inr (3, [.ref n0, .ref c1, .ref g0, .ref a0, .int s_made])), (c1, .inl (ax 0, 16, .inl sd)), (n0, .inr (4, [.ref n1, .ref n2, .ref n3, .int (nI z9)])), (n1, .inl (ax 1, cp, .inl fo)), (n2, .inl (ax 0, cp, .inl fl)), (n3, .inl (ax 0, cp, .inl fr)), (h0, .inr (4, [.ref h1, .ref h2, .ref h3, .int (nI zs)])), (h1, .inl (ax 1, cs, .inl so)), (h2, .inl (ax 0, cs, .inl sl)), (h3, .inl (ax 0, cs, .inl sr)), (a0, .inr (4, [.ref a1, .ref a2, .ref a3, .int (nI za)])), (a1, .inl (ax 1, ca, .inl ao)), (a2, .inl (ax 0, ca, .inl al)), (a3, .inl (ax 0, ca, .inl ar)), (g0, .inr (2, [.ref h0, .ref g1, .ref g2, .ref g3, .ref g4, .ref g5, .ref g6, .ref g7, .ref g8, .ref g9, .ref ga, .ref gb, .int (nI cl), .int (nI ln), .int (nI br), .int (nI lp), .int (nI va)])), (g1, .inl (ax 1, 20, .inl (fun j => nI (kd j)))), (g2, .inl (ax 1, 20, .inl (fun j => nI (ow j)))), (g3, .inl (ax 1, 20, .inl (fun j => nI (sb j)))), (g4, .inl (ax 1, 20, .inl (fun j => nI (f1 j)))), (g5, .inl (ax 1, 20, .inl (fun j => nI (f2 j)))), (g6, .inl (ax 2, 20, .inl (fun j => nI (te j)))), (g7, .inl (ax 2, 20, .inl (fun j => nI (kp j)))), (g8, .inl (ax 0, 20, .inl tm)), (g9, .inl (ax 1, 20, .inl (fun j => nI (nm j)))), (ga, .inl (ax 1, 29, .inl (fun j => nI (ck j)))), (gb, .inl (ax 1, 29, .inl (fun j => nI (co j))))]) hP hD hS hA [0, 1, 2, 3, 4, 5, 6, 7, 8, 9, 10, 11, 12, 13, 14, 15, 16, 17, 18, 19, 20, 21, 22, 23, 24, 25] (by decide) rfl
    have hz := xz_of hN hS
    refine wk_know (fun hk8 hk9 => ?_)
    refine va_calli (va_runV (As := [.int (nI s9)]) (rest := []) ⟨hx, hb, hml, hown, hts⟩ (c_K_wpBehind l s9 (fun a _ _ => K_wp_all l 20 a (Nat.sub_le _ _)) D ax c0 c1 s_made sd n0 n1 n2 n3 cp z9 fo fl fr h0 h1 h2 h3 zs cs so sl sr a0 a1 a2 a3 za ca ao al ar g0 g1 g2 g3 g4 g5 g6 g7 g8 g9 ga gb cl ln br lp va kd ow sb f1 f2 te kp nm ck co tm MX en kc s.heap.size (tsl s.heap) (by first | assumption | omega) (by first | assumption | omega) (by first | assumption | omega) hMX (by assumption) (by assumption) (by assumption) hzs hcs hsv hza hca hz1 hz4 hav hat hlw hs9 (by first | assumption | omega)) (xcV (n := 1) hts wd_801 wd_4 wd_798 wd_800 ps_29 rfl rfl (by decide +kernel) ⟨(show (1006 + 8 * (20 - s9)) + 1 ≤ (1180) by omega), (show 8 + (3 + 11) + (21100 + 300 * (20 - s9)) ≤ (27300) by omega)⟩) (xpV3 (ci := 3) (q0 := 0) (As := [.int (nI s9)]) hPc hK hz hDc rfl rfl) rfl rfl hl1.1 rfl (lv_room (Nat.le_of_ble_eq_true rfl)) d_Maker_conclusion_74 ⟨(show (0) + (MX - cp) ≤ (MX - cp) by omega), (show (0) + (6 * (MX - cp)) ≤ (6 * (MX - cp)) by omega)⟩) hS (fun q _ h => hFc q h) hFc (fun r_46 u_44 t H_45 locs ht hvm hw hB hz1 hk1 hS1 => ?_)
    try dsimp only at hw
    obtain ⟨hw, hs_47, hs_48, hs_49, hs_50, hs_51, hs_52, hs_53⟩ := hw
    subst hw
    obtain ⟨x_54, x_55, x_56, x_57, hg8, hg9, hx_58, hx_59, hx_60, hx_61, hx_62, hP1, hD1⟩ := hB
    rw [ht] at hg8 hg9 hP1
    have hjn := xw_join3 (wl := [(c0, .inr (3, [.ref n0, .ref c1, .ref g0, .ref a0, .int s_made])), (c1, .inl (ax 0, 16, .inl x_54)), (n0, .inr (4, [.ref (u_44 0), .ref (u_44 1), .ref (u_44 2), .int (nI (u_44 3))])), ((u_44 0), .inl (ax 1, u_44 4, .inl x_55)), ((u_44 1), .inl (ax 0, u_44 4, .inl x_56)), ((u_44 2), .inl (ax 0, u_44 4, .inl x_57)), (h0, .inr (4, [.ref h1, .ref h2, .ref h3, .int (nI zs)])), (h1, .inl (ax 1, cs, .inl so)), (h2, .inl (ax 0, cs, .inl sl)), (h3, .inl (ax 0, cs, .inl sr)), (a0, .inr (4, [.ref a1, .ref a2, .ref a3, .int (nI za)])), (a1, .inl (ax 1, ca, .inl ao)), (a2, .inl (ax 0, ca, .inl al)), (a3, .inl (ax 0, ca, .inl ar)), (g0, .inr (2, [.ref h0, .ref g1, .ref g2, .ref g3, .ref g4, .ref g5, .ref g6, .ref g7, .ref g8, .ref g9, .ref ga, .ref gb, .int (nI cl), .int (nI ln), .int (nI br), .int (nI lp), .int (nI va)])), (g1, .inl (ax 1, 20, .inl (fun j => nI (kd j)))), (g2, .inl (ax 1, 20, .inl (fun j => nI (ow j)))), (g3, .inl (ax 1, 20, .inl (fun j => nI (sb j)))), (g4, .inl (ax 1, 20, .inl (fun j => nI (f1 j)))), (g5, .inl (ax 1, 20, .inl (fun j => nI (f2 j)))), (g6, .inl (ax 2, 20, .inl (fun j => nI (te j)))), (g7, .inl (ax 2, 20, .inl (fun j => nI (kp j)))), (g8, .inl (ax 0, 20, .inl tm)), (g9, .inl (ax 1, 20, .inl (fun j => nI (nm j)))), (ga, .inl (ax 1, 29, .inl (fun j => nI (ck j)))), (gb, .inl (ax 1, 29, .inl (fun j => nI (co j))))]) hP hD [0, 1, 2, 3, 4, 5, 6, 7, 8, 9, 10, 11, 12, 13, 14, 15, 16, 17, 18, 19, 20, 21, 22, 23, 24, 25] [] hCs (by decide) (by decide) hk1 hFc hP1 hD1 rfl
    clear hP1 hD1
    clear hPc hDc hFc hCs hz hz1 hk1 ht hvm
    clear hP hD hS
    have hS := hS1
    obtain ⟨hP, hD⟩ := hjn
    clear hS1
    refine wk_narrow (k := u_44 4 - cp) (n := 6 * (u_44 4 - cp)) (by first | assumption | omega) (by first | assumption | omega) ?_
    clear hk8 hk9 hg8 hg9
    have hK_63 : ∀ i, i < z9 → tsn x_55 x_56 x_57 i = tsn fo fl fr i := fun i hi => hx_60 i hi
    rw [← hQe]
    refine wk_know (fun hk8 hk9 => ?_)
    refine W.widen (k := MX - cp) (n := 6 * (MX - cp)) (by first | assumption | omega) (by first | assumption | omega) ?_
    obtain ⟨hP9, hD9⟩ := xw_sub2 (wc := (fun (u : Nat → Nat) (xsd : Nat → Int32) (xfo : Nat → Int32) (xfl : Nat → Int32) (xfr : Nat → Int32) => [(c0, .inr (3, [.ref n0, .ref c1, .ref g0, .ref a0, .int s_made])), (c1, .inl (ax 0, 16, .inl xsd)), (n0, .inr (4, [.ref (u 0), .ref (u 1), .ref (u 2), .int (nI (u 3))])), (u 0, .inl (ax 1, u 4, .inl xfo)), (u 1, .inl (ax 0, u 4, .inl xfl)), (u 2, .inl (ax 0, u 4, .inl xfr)), (h0, .inr (4, [.ref h1, .ref h2, .ref h3, .int (nI zs)])), (h1, .inl (ax 1, cs, .inl so)), (h2, .inl (ax 0, cs, .inl sl)), (h3, .inl (ax 0, cs, .inl sr)), (a0, .inr (4, [.ref a1, .ref a2, .ref a3, .int (nI za)])), (a1, .inl (ax 1, ca, .inl ao)), (a2, .inl (ax 0, ca, .inl al)), (a3, .inl (ax 0, ca, .inl ar)), (g0, .inr (2, [.ref h0, .ref g1, .ref g2, .ref g3, .ref g4, .ref g5, .ref g6, .ref g7, .ref g8, .ref g9, .ref ga, .ref gb, .int (nI cl), .int (nI ln), .int (nI br), .int (nI lp), .int (nI va)])), (g1, .inl (ax 1, 20, .inl (fun j => nI (kd j)))), (g2, .inl (ax 1, 20, .inl (fun j => nI (ow j)))), (g3, .inl (ax 1, 20, .inl (fun j => nI (sb j)))), (g4, .inl (ax 1, 20, .inl (fun j => nI (f1 j)))), (g5, .inl (ax 1, 20, .inl (fun j => nI (f2 j)))), (g6, .inl (ax 2, 20, .inl (fun j => nI (te j)))), (g7, .inl (ax 2, 20, .inl (fun j => nI (kp j)))), (g8, .inl (ax 0, 20, .inl tm)), (g9, .inl (ax 1, 20, .inl (fun j => nI (nm j)))), (ga, .inl (ax 1, 29, .inl (fun j => nI (ck j)))), (gb, .inl (ax 1, 29, .inl (fun j => nI (co j))))]) (ixn [(u_44 0), (u_44 1), (u_44 2), (u_44 3), (u_44 4), (u_44 5)]) x_54 x_55 x_56 x_57) hP hD [0, 1, 2, 3, 4, 5, 6, 7, 8, 9, 10, 11, 12, 13, 14, 15, 16, 17, 18, 19, 20, 21, 22, 23, 24, 25] (by decide) rfl
    have hex0 : ndv x_55 x_56 x_57 ((u_44 3)) := hx_58
    have hex1 : bts x_55 ((u_44 4)) := (by assumption)
    have hex2 : ∀ i, i < z9 → tsn x_55 x_56 x_57 i = tsn fo fl fr i := hK_63
    have hex3 : tsn x_55 x_56 x_57 ((u_44 5)) + z9 ≤ (u_44 3) := (by first | assumption | omega)
    have hex4 : ∀ j, j ≤ 10 → trm (x_54 j) := hx_62
    have hg8 : H_45.size ≤ s.heap.size + ((u_44 4) - cp) := by omega
    have hg9 : tsl H_45 ≤ tsl s.heap + (6 * ((u_44 4) - cp)) := by omega
    have hsp0 : z9 ≤ (u_44 3) := (by first | assumption | omega)
    have hsp1 : (u_44 3) ≤ (u_44 4) := (by first | assumption | omega)
    have hsp2 : cp ≤ (u_44 4) := (by first | assumption | omega)
    have hsp3 : (u_44 4) ≤ MX := (by first | assumption | omega)
    have hsp4 : dbl cp ((u_44 4)) := hs_51
    have hsp5 : (u_44 5) < (u_44 3) := (by first | assumption | omega)
    have hsp6 : (u_44 3) ≤ z9 + wpw kd kc ln 460 0 := (by first | assumption | omega)
    exact W.iret (v := nI (u_44 5)) hx hb hr (fun t ht hW => ⟨⟨nI (u_44 5), ixn [(u_44 0), (u_44 1), (u_44 2), (u_44 3), (u_44 4), (u_44 5)], rfl, ⟨rfl, ⟨hsp0, hsp1, hsp2, hsp3, hsp4, hsp5, hsp6⟩⟩, ⟨x_54, x_55, x_56, x_57, by rw [ht]; exact hg8, by rw [ht]; exact hg9, hex0, hex1, hex2, hex3, hex4, by rw [ht]; exact hP9, hD9⟩⟩, hS.F ht⟩) hS.2.2 d_Maker_conclusion_77
  by_cases hw_64 : q9 = 3
  · refine W.eq (g2 := F0 m 1 ls [.int 3]) (by rw [hw_64]; rfl) ?_
    refine lv_tableIn (off := 51) (tgt := 52) hx hb d_Maker_conclusion_1 (by decide) (by decide) (by decide) (by decide) ?_
    obtain ⟨hs9, hq4⟩ := hcq.some2 (by first | assumption | omega)
    obtain ⟨hte, hkp, htk, hf1a, hf1b, hnm⟩ := hlw.wh hs9 (hcq.loop (by first | assumption | omega) (by first | assumption | omega))
    obtain ⟨hn10, htm⟩ := hnm.resolve_left (by have h9 := hcq.vari (by first | assumption | omega); omega)
    refine lv_aload_n hx hb d_Maker_conclusion_52 rfl (lv_at hl1 0 rfl) ?_
    refine va_get (D := D) (ci := 3) (v := .ref n0) (C := R_Maker) (T := F_Maker) (N := 5) hx hb hts i_Maker hown hK.1 hP 0 rfl rfl 0 (by decide) (hts _ wd_129) (fun _ h9 => h9) rfl d_Maker_conclusion_53 ?_
    refine lv_iconst (v := 1) hx hb d_Maker_conclusion_56 (by decide) ?_
    refine lv_aload_n hx hb d_Maker_conclusion_57 rfl (lv_at hl1 0 rfl) ?_
    refine va_get (D := D) (ci := 3) (v := .ref g0) (C := R_Maker) (T := F_Maker) (N := 5) hx hb hts i_Maker hown hK.1 hP 0 rfl rfl 2 (by decide) (hts _ wd_132) (fun _ h9 => h9) rfl d_Maker_conclusion_58 ?_
    refine va_get (D := D) (ci := 2) (v := .ref g8) (C := R_Listing) (T := F_Listing) (N := 17) hx hb hts i_Listing hown hK.1 hP 14 rfl rfl 8 (by decide) (hts _ wd_294) (fun _ h9 => h9) rfl d_Maker_conclusion_61 ?_
    refine lv_iload_n hx hb d_Maker_conclusion_64 rfl (lv_at hl1 2 rfl) ?_
    refine va_iald hx hb hK.1 hP 22 0 rfl rfl (vp_in_nI (by first | assumption | omega) (by decide)) d_Maker_conclusion_65 ?_
    refine W.eq (g2 := F0 m 66 ls [.int (tm s9), .int 1, .ref n0]) (by rw [nI_clamp (by first | exact Nat.lt_of_lt_of_le (by assumption) (by decide) | exact Nat.lt_of_le_of_lt (by assumption) (by decide) | omega)]) ?_
    refine lv_bipush (v := 10) hx hb d_Maker_conclusion_66 (by decide) ?_
    obtain ⟨hPc, hDc, hFc, hCs⟩ := xw_sub3 (wc := [(n0, .inr (4, [.ref n1, .ref n2, .ref n3, .int (nI z9)])), (n1, .inl (ax 1, cp, .inl fo)), (n2, .inl (ax 0, cp, .inl fl)), (n3, .inl (ax 0, cp, .inl fr))]) hP hD hS hA [2, 3, 4, 5] (by decide) rfl
    have hz := xz_of hN hS
    refine wk_know (fun hk8 hk9 => ?_)
    refine va_calli (va_runV (As := [.int 1, .int (tm s9), .int 10]) (rest := []) ⟨hx, hb, hml, hown, hts⟩ (c_Nodes_add l D ax n0 n1 n2 n3 cp z9 fo fl fr MX 1 (tm s9) 10 s.heap.size (tsl s.heap) (by first | assumption | omega) (by first | assumption | omega) (by first | assumption | omega) (by first | assumption | omega) (by first | assumption | omega) (by assumption)) (xcV (n := 3) hts wd_350 wd_5 wd_781 wd_348 wd_349 rfl rfl (by decide +kernel) ⟨(show (30) + 1 ≤ (1180) by omega), (show 8 + (4 + 11) + (1200) ≤ (27300) by omega)⟩) (xpV3 (ci := 4) (q0 := 0) (As := [.int 1, .int (tm s9), .int 10]) hPc hK hz hDc rfl rfl) rfl rfl hl1.1 rfl (lv_room (Nat.le_of_ble_eq_true rfl)) d_Maker_conclusion_68 ⟨(show (0) + (MX - cp) ≤ (MX - cp) by omega), (show (0) + (6 * (MX - cp)) ≤ (6 * (MX - cp)) by omega)⟩) hS (fun q _ h => hFc q h) hFc (fun r_67 u_65 t H_66 locs ht hvm hw hB hz1 hk1 hS1 => ?_)
    try dsimp only at hw
    obtain ⟨hw, hs_68, hs_69, hs_70, hs_71⟩ := hw
    subst hw
    obtain ⟨x_72, x_73, x_74, hg8, hg9, hx_75, hx_76, hP1, hD1⟩ := hB
    rw [ht] at hg8 hg9 hP1
    have hjn := xw_join3 (wl := [(c0, .inr (3, [.ref n0, .ref c1, .ref g0, .ref a0, .int s_made])), (c1, .inl (ax 0, 16, .inl sd)), (h0, .inr (4, [.ref h1, .ref h2, .ref h3, .int (nI zs)])), (h1, .inl (ax 1, cs, .inl so)), (h2, .inl (ax 0, cs, .inl sl)), (h3, .inl (ax 0, cs, .inl sr)), (a0, .inr (4, [.ref a1, .ref a2, .ref a3, .int (nI za)])), (a1, .inl (ax 1, ca, .inl ao)), (a2, .inl (ax 0, ca, .inl al)), (a3, .inl (ax 0, ca, .inl ar)), (g0, .inr (2, [.ref h0, .ref g1, .ref g2, .ref g3, .ref g4, .ref g5, .ref g6, .ref g7, .ref g8, .ref g9, .ref ga, .ref gb, .int (nI cl), .int (nI ln), .int (nI br), .int (nI lp), .int (nI va)])), (g1, .inl (ax 1, 20, .inl (fun j => nI (kd j)))), (g2, .inl (ax 1, 20, .inl (fun j => nI (ow j)))), (g3, .inl (ax 1, 20, .inl (fun j => nI (sb j)))), (g4, .inl (ax 1, 20, .inl (fun j => nI (f1 j)))), (g5, .inl (ax 1, 20, .inl (fun j => nI (f2 j)))), (g6, .inl (ax 2, 20, .inl (fun j => nI (te j)))), (g7, .inl (ax 2, 20, .inl (fun j => nI (kp j)))), (g8, .inl (ax 0, 20, .inl tm)), (g9, .inl (ax 1, 20, .inl (fun j => nI (nm j)))), (ga, .inl (ax 1, 29, .inl (fun j => nI (ck j)))), (gb, .inl (ax 1, 29, .inl (fun j => nI (co j)))), (n0, .inr (4, [.ref (u_65 0), .ref (u_65 1), .ref (u_65 2), .int (nI (z9 + 1))])), ((u_65 0), .inl (ax 1, u_65 3, .inl x_72)), ((u_65 1), .inl (ax 0, u_65 3, .inl x_73)), ((u_65 2), .inl (ax 0, u_65 3, .inl x_74))]) hP hD [2, 3, 4, 5] [0, 1, 6, 7, 8, 9, 10, 11, 12, 13, 14, 15, 16, 17, 18, 19, 20, 21, 22, 23, 24, 25] hCs (by decide) (by decide) hk1 hFc hP1 hD1 rfl
    clear hP1 hD1
    clear hPc hDc hFc hCs hz hz1 hk1 ht hvm
    clear hP hD hS
    have hS := hS1
    obtain ⟨hP, hD⟩ := hjn
    clear hS1
    refine wk_narrow (k := u_65 3 - cp) (n := 6 * (u_65 3 - cp)) (by first | assumption | omega) (by first | assumption | omega) ?_
    clear hk8 hk9 hg8 hg9
    have hV_77 : ndv x_72 x_73 x_74 (z9 + 1) := hnv.add hx_75 (nd_atom (o := 1) (by decide) htm (trm_nm (b := 10) (by decide)))
    have hT_78 : tsn x_72 x_73 x_74 z9 = 1 := nad.atom (o := 1) (by decide) hx_75
    have hG_79 : ∀ i, i < z9 → tsn x_72 x_73 x_74 i = tsn fo fl fr i := fun i hi => nad.keep (by first | assumption | omega) hnv hx_75 hi
    have hB_80 : tsn x_72 x_73 x_74 z9 + z9 ≤ (z9 + 1) := by omega
    have hK_81 : ∀ i, i < z9 → tsn x_72 x_73 x_74 i = tsn fo fl fr i := fun i hi => hG_79 i hi
    rw [← hQe]
    refine wk_know (fun hk8 hk9 => ?_)
    refine W.widen (k := MX - cp) (n := 6 * (MX - cp)) (by first | assumption | omega) (by first | assumption | omega) ?_
    obtain ⟨hP9, hD9⟩ := xw_sub2 (wc := (fun (u : Nat → Nat) (xsd : Nat → Int32) (xfo : Nat → Int32) (xfl : Nat → Int32) (xfr : Nat → Int32) => [(c0, .inr (3, [.ref n0, .ref c1, .ref g0, .ref a0, .int s_made])), (c1, .inl (ax 0, 16, .inl xsd)), (n0, .inr (4, [.ref (u 0), .ref (u 1), .ref (u 2), .int (nI (u 3))])), (u 0, .inl (ax 1, u 4, .inl xfo)), (u 1, .inl (ax 0, u 4, .inl xfl)), (u 2, .inl (ax 0, u 4, .inl xfr)), (h0, .inr (4, [.ref h1, .ref h2, .ref h3, .int (nI zs)])), (h1, .inl (ax 1, cs, .inl so)), (h2, .inl (ax 0, cs, .inl sl)), (h3, .inl (ax 0, cs, .inl sr)), (a0, .inr (4, [.ref a1, .ref a2, .ref a3, .int (nI za)])), (a1, .inl (ax 1, ca, .inl ao)), (a2, .inl (ax 0, ca, .inl al)), (a3, .inl (ax 0, ca, .inl ar)), (g0, .inr (2, [.ref h0, .ref g1, .ref g2, .ref g3, .ref g4, .ref g5, .ref g6, .ref g7, .ref g8, .ref g9, .ref ga, .ref gb, .int (nI cl), .int (nI ln), .int (nI br), .int (nI lp), .int (nI va)])), (g1, .inl (ax 1, 20, .inl (fun j => nI (kd j)))), (g2, .inl (ax 1, 20, .inl (fun j => nI (ow j)))), (g3, .inl (ax 1, 20, .inl (fun j => nI (sb j)))), (g4, .inl (ax 1, 20, .inl (fun j => nI (f1 j)))), (g5, .inl (ax 1, 20, .inl (fun j => nI (f2 j)))), (g6, .inl (ax 2, 20, .inl (fun j => nI (te j)))), (g7, .inl (ax 2, 20, .inl (fun j => nI (kp j)))), (g8, .inl (ax 0, 20, .inl tm)), (g9, .inl (ax 1, 20, .inl (fun j => nI (nm j)))), (ga, .inl (ax 1, 29, .inl (fun j => nI (ck j)))), (gb, .inl (ax 1, 29, .inl (fun j => nI (co j))))]) (ixn [(u_65 0), (u_65 1), (u_65 2), (z9 + 1), (u_65 3), z9]) sd x_72 x_73 x_74) hP hD [0, 1, 22, 23, 24, 25, 2, 3, 4, 5, 6, 7, 8, 9, 10, 11, 12, 13, 14, 15, 16, 17, 18, 19, 20, 21] (by decide) rfl
    have hex0 : ndv x_72 x_73 x_74 ((z9 + 1)) := hV_77
    have hex1 : bts x_72 ((u_65 3)) := (by assumption)
    have hex2 : ∀ i, i < z9 → tsn x_72 x_73 x_74 i = tsn fo fl fr i := hK_81
    have hex3 : tsn x_72 x_73 x_74 (z9) + z9 ≤ (z9 + 1) := (by first | assumption | omega)
    have hex4 : ∀ j, j ≤ 10 → trm (sd j) := hsd
    have hg8 : H_66.size ≤ s.heap.size + ((u_65 3) - cp) := by omega
    have hg9 : tsl H_66 ≤ tsl s.heap + (6 * ((u_65 3) - cp)) := by omega
    have hsp0 : z9 ≤ (z9 + 1) := (by first | assumption | omega)
    have hsp1 : (z9 + 1) ≤ (u_65 3) := (by first | assumption | omega)
    have hsp2 : cp ≤ (u_65 3) := (by first | assumption | omega)
    have hsp3 : (u_65 3) ≤ MX := (by first | assumption | omega)
    have hsp4 : dbl cp ((u_65 3)) := hs_71
    have hsp5 : z9 < (z9 + 1) := (by first | assumption | omega)
    have hsp6 : (z9 + 1) ≤ z9 + wpw kd kc ln 460 0 := (by first | assumption | omega)
    exact W.iret (v := nI z9) hx hb hr (fun t ht hW => ⟨⟨nI z9, ixn [(u_65 0), (u_65 1), (u_65 2), (z9 + 1), (u_65 3), z9], rfl, ⟨rfl, ⟨hsp0, hsp1, hsp2, hsp3, hsp4, hsp5, hsp6⟩⟩, ⟨sd, x_72, x_73, x_74, by rw [ht]; exact hg8, by rw [ht]; exact hg9, hex0, hex1, hex2, hex3, hex4, by rw [ht]; exact hP9, hD9⟩⟩, hS.F ht⟩) hS.2.2 d_Maker_conclusion_71
  refine lv_tableOut (tgt := 72) hx hb d_Maker_conclusion_1 (by rw [nI_toInt (by first | assumption | omega)]; omega) (by decide) ?_
  obtain ⟨hs9, hq4⟩ := hcq.some2 (by first | assumption | omega)
  have hwM := wpw_mono (kd := kd) (kc := kc) (n := ln) (B := 460) (s := 0) (j := s9 + 1) (by first | assumption | omega)
  refine lv_aload_n hx hb d_Maker_conclusion_72 rfl (lv_at hl1 0 rfl) ?_
  refine lv_iload_n hx hb d_Maker_conclusion_73 rfl (lv_at hl1 2 rfl) ?_
  obtain ⟨hPc, hDc, hFc, hCs⟩ := xw_sub3 (wc := [(c0, .inr (3, [.ref n0, .ref c1, .ref g0, .ref a0, .int s_made])), (c1, .inl (ax 0, 16, .inl sd)), (n0, .inr (4, [.ref n1, .ref n2, .ref n3, .int (nI z9)])), (n1, .inl (ax 1, cp, .inl fo)), (n2, .inl (ax 0, cp, .inl fl)), (n3, .inl (ax 0, cp, .inl fr)), (h0, .inr (4, [.ref h1, .ref h2, .ref h3, .int (nI zs)])), (h1, .inl (ax 1, cs, .inl so)), (h2, .inl (ax 0, cs, .inl sl)), (h3, .inl (ax 0, cs, .inl sr)), (a0, .inr (4, [.ref a1, .ref a2, .ref a3, .int (nI za)])), (a1, .inl (ax 1, ca, .inl ao)), (a2, .inl (ax 0, ca, .inl al)), (a3, .inl (ax 0, ca, .inl ar)), (g0, .inr (2, [.ref h0, .ref g1, .ref g2, .ref g3, .ref g4, .ref g5, .ref g6, .ref g7, .ref g8, .ref g9, .ref ga, .ref gb, .int (nI cl), .int (nI ln), .int (nI br), .int (nI lp), .int (nI va)])), (g1, .inl (ax 1, 20, .inl (fun j => nI (kd j)))), (g2, .inl (ax 1, 20, .inl (fun j => nI (ow j)))), (g3, .inl (ax 1, 20, .inl (fun j => nI (sb j)))), (g4, .inl (ax 1, 20, .inl (fun j => nI (f1 j)))), (g5, .inl (ax 1, 20, .inl (fun j => nI (f2 j)))), (g6, .inl (ax 2, 20, .inl (fun j => nI (te j)))), (g7, .inl (ax 2, 20, .inl (fun j => nI (kp j)))), (g8, .inl (ax 0, 20, .inl tm)), (g9, .inl (ax 1, 20, .inl (fun j => nI (nm j)))), (ga, .inl (ax 1, 29, .inl (fun j => nI (ck j)))), (gb, .inl (ax 1, 29, .inl (fun j => nI (co j))))]) hP hD hS hA [0, 1, 2, 3, 4, 5, 6, 7, 8, 9, 10, 11, 12, 13, 14, 15, 16, 17, 18, 19, 20, 21, 22, 23, 24, 25] (by decide) rfl
  have hz := xz_of hN hS
  refine wk_know (fun hk8 hk9 => ?_)
  refine va_calli (va_runV (As := [.int (nI s9)]) (rest := []) ⟨hx, hb, hml, hown, hts⟩ (c_K_wpBehind l s9 (fun a _ _ => K_wp_all l 20 a (Nat.sub_le _ _)) D ax c0 c1 s_made sd n0 n1 n2 n3 cp z9 fo fl fr h0 h1 h2 h3 zs cs so sl sr a0 a1 a2 a3 za ca ao al ar g0 g1 g2 g3 g4 g5 g6 g7 g8 g9 ga gb cl ln br lp va kd ow sb f1 f2 te kp nm ck co tm MX en kc s.heap.size (tsl s.heap) (by first | assumption | omega) (by first | assumption | omega) (by first | assumption | omega) hMX (by assumption) (by assumption) (by assumption) hzs hcs hsv hza hca hz1 hz4 hav hat hlw hs9 (by first | assumption | omega)) (xcV (n := 1) hts wd_801 wd_4 wd_798 wd_800 ps_29 rfl rfl (by decide +kernel) ⟨(show (1006 + 8 * (20 - s9)) + 1 ≤ (1180) by omega), (show 8 + (3 + 11) + (21100 + 300 * (20 - s9)) ≤ (27300) by omega)⟩) (xpV3 (ci := 3) (q0 := 0) (As := [.int (nI s9)]) hPc hK hz hDc rfl rfl) rfl rfl hl1.1 rfl (lv_room (Nat.le_of_ble_eq_true rfl)) d_Maker_conclusion_74 ⟨(show (0) + (MX - cp) ≤ (MX - cp) by omega), (show (0) + (6 * (MX - cp)) ≤ (6 * (MX - cp)) by omega)⟩) hS (fun q _ h => hFc q h) hFc (fun r_84 u_82 t H_83 locs ht hvm hw hB hz1 hk1 hS1 => ?_)
  try dsimp only at hw
  obtain ⟨hw, hs_85, hs_86, hs_87, hs_88, hs_89, hs_90, hs_91⟩ := hw
  subst hw
  obtain ⟨x_92, x_93, x_94, x_95, hg8, hg9, hx_96, hx_97, hx_98, hx_99, hx_100, hP1, hD1⟩ := hB
  rw [ht] at hg8 hg9 hP1
  have hjn := xw_join3 (wl := [(c0, .inr (3, [.ref n0, .ref c1, .ref g0, .ref a0, .int s_made])), (c1, .inl (ax 0, 16, .inl x_92)), (n0, .inr (4, [.ref (u_82 0), .ref (u_82 1), .ref (u_82 2), .int (nI (u_82 3))])), ((u_82 0), .inl (ax 1, u_82 4, .inl x_93)), ((u_82 1), .inl (ax 0, u_82 4, .inl x_94)), ((u_82 2), .inl (ax 0, u_82 4, .inl x_95)), (h0, .inr (4, [.ref h1, .ref h2, .ref h3, .int (nI zs)])), (h1, .inl (ax 1, cs, .inl so)), (h2, .inl (ax 0, cs, .inl sl)), (h3, .inl (ax 0, cs, .inl sr)), (a0, .inr (4, [.ref a1, .ref a2, .ref a3, .int (nI za)])), (a1, .inl (ax 1, ca, .inl ao)), (a2, .inl (ax 0, ca, .inl al)), (a3, .inl (ax 0, ca, .inl ar)), (g0, .inr (2, [.ref h0, .ref g1, .ref g2, .ref g3, .ref g4, .ref g5, .ref g6, .ref g7, .ref g8, .ref g9, .ref ga, .ref gb, .int (nI cl), .int (nI ln), .int (nI br), .int (nI lp), .int (nI va)])), (g1, .inl (ax 1, 20, .inl (fun j => nI (kd j)))), (g2, .inl (ax 1, 20, .inl (fun j => nI (ow j)))), (g3, .inl (ax 1, 20, .inl (fun j => nI (sb j)))), (g4, .inl (ax 1, 20, .inl (fun j => nI (f1 j)))), (g5, .inl (ax 1, 20, .inl (fun j => nI (f2 j)))), (g6, .inl (ax 2, 20, .inl (fun j => nI (te j)))), (g7, .inl (ax 2, 20, .inl (fun j => nI (kp j)))), (g8, .inl (ax 0, 20, .inl tm)), (g9, .inl (ax 1, 20, .inl (fun j => nI (nm j)))), (ga, .inl (ax 1, 29, .inl (fun j => nI (ck j)))), (gb, .inl (ax 1, 29, .inl (fun j => nI (co j))))]) hP hD [0, 1, 2, 3, 4, 5, 6, 7, 8, 9, 10, 11, 12, 13, 14, 15, 16, 17, 18, 19, 20, 21, 22, 23, 24, 25] [] hCs (by decide) (by decide) hk1 hFc hP1 hD1 rfl
  clear hP1 hD1
  clear hPc hDc hFc hCs hz hz1 hk1 ht hvm
  clear hP hD hS
  have hS := hS1
  obtain ⟨hP, hD⟩ := hjn
  clear hS1
  refine wk_narrow (k := u_82 4 - cp) (n := 6 * (u_82 4 - cp)) (by first | assumption | omega) (by first | assumption | omega) ?_
  clear hk8 hk9 hg8 hg9
  have hK_101 : ∀ i, i < z9 → tsn x_93 x_94 x_95 i = tsn fo fl fr i := fun i hi => hx_98 i hi
  rw [← hQe]
  refine wk_know (fun hk8 hk9 => ?_)
  refine W.widen (k := MX - cp) (n := 6 * (MX - cp)) (by first | assumption | omega) (by first | assumption | omega) ?_
  obtain ⟨hP9, hD9⟩ := xw_sub2 (wc := (fun (u : Nat → Nat) (xsd : Nat → Int32) (xfo : Nat → Int32) (xfl : Nat → Int32) (xfr : Nat → Int32) => [(c0, .inr (3, [.ref n0, .ref c1, .ref g0, .ref a0, .int s_made])), (c1, .inl (ax 0, 16, .inl xsd)), (n0, .inr (4, [.ref (u 0), .ref (u 1), .ref (u 2), .int (nI (u 3))])), (u 0, .inl (ax 1, u 4, .inl xfo)), (u 1, .inl (ax 0, u 4, .inl xfl)), (u 2, .inl (ax 0, u 4, .inl xfr)), (h0, .inr (4, [.ref h1, .ref h2, .ref h3, .int (nI zs)])), (h1, .inl (ax 1, cs, .inl so)), (h2, .inl (ax 0, cs, .inl sl)), (h3, .inl (ax 0, cs, .inl sr)), (a0, .inr (4, [.ref a1, .ref a2, .ref a3, .int (nI za)])), (a1, .inl (ax 1, ca, .inl ao)), (a2, .inl (ax 0, ca, .inl al)), (a3, .inl (ax 0, ca, .inl ar)), (g0, .inr (2, [.ref h0, .ref g1, .ref g2, .ref g3, .ref g4, .ref g5, .ref g6, .ref g7, .ref g8, .ref g9, .ref ga, .ref gb, .int (nI cl), .int (nI ln), .int (nI br), .int (nI lp), .int (nI va)])), (g1, .inl (ax 1, 20, .inl (fun j => nI (kd j)))), (g2, .inl (ax 1, 20, .inl (fun j => nI (ow j)))), (g3, .inl (ax 1, 20, .inl (fun j => nI (sb j)))), (g4, .inl (ax 1, 20, .inl (fun j => nI (f1 j)))), (g5, .inl (ax 1, 20, .inl (fun j => nI (f2 j)))), (g6, .inl (ax 2, 20, .inl (fun j => nI (te j)))), (g7, .inl (ax 2, 20, .inl (fun j => nI (kp j)))), (g8, .inl (ax 0, 20, .inl tm)), (g9, .inl (ax 1, 20, .inl (fun j => nI (nm j)))), (ga, .inl (ax 1, 29, .inl (fun j => nI (ck j)))), (gb, .inl (ax 1, 29, .inl (fun j => nI (co j))))]) (ixn [(u_82 0), (u_82 1), (u_82 2), (u_82 3), (u_82 4), (u_82 5)]) x_92 x_93 x_94 x_95) hP hD [0, 1, 2, 3, 4, 5, 6, 7, 8, 9, 10, 11, 12, 13, 14, 15, 16, 17, 18, 19, 20, 21, 22, 23, 24, 25] (by decide) rfl
  have hex0 : ndv x_93 x_94 x_95 ((u_82 3)) := hx_96
  have hex1 : bts x_93 ((u_82 4)) := (by assumption)
  have hex2 : ∀ i, i < z9 → tsn x_93 x_94 x_95 i = tsn fo fl fr i := hK_101
  have hex3 : tsn x_93 x_94 x_95 ((u_82 5)) + z9 ≤ (u_82 3) := (by first | assumption | omega)
  have hex4 : ∀ j, j ≤ 10 → trm (x_92 j) := hx_100
  have hg8 : H_83.size ≤ s.heap.size + ((u_82 4) - cp) := by omega
  have hg9 : tsl H_83 ≤ tsl s.heap + (6 * ((u_82 4) - cp)) := by omega
  have hsp0 : z9 ≤ (u_82 3) := (by first | assumption | omega)
  have hsp1 : (u_82 3) ≤ (u_82 4) := (by first | assumption | omega)
  have hsp2 : cp ≤ (u_82 4) := (by first | assumption | omega)
  have hsp3 : (u_82 4) ≤ MX := (by first | assumption | omega)
  have hsp4 : dbl cp ((u_82 4)) := hs_89
  have hsp5 : (u_82 5) < (u_82 3) := (by first | assumption | omega)
  have hsp6 : (u_82 3) ≤ z9 + wpw kd kc ln 460 0 := (by first | assumption | omega)
  exact W.iret (v := nI (u_82 5)) hx hb hr (fun t ht hW => ⟨⟨nI (u_82 5), ixn [(u_82 0), (u_82 1), (u_82 2), (u_82 3), (u_82 4), (u_82 5)], rfl, ⟨rfl, ⟨hsp0, hsp1, hsp2, hsp3, hsp4, hsp5, hsp6⟩⟩, ⟨x_92, x_93, x_94, x_95, by rw [ht]; exact hg8, by rw [ht]; exact hg9, hex0, hex1, hex2, hex3, hex4, by rw [ht]; exact hP9, hD9⟩⟩, hS.F ht⟩) hS.2.2 d_Maker_conclusion_77
