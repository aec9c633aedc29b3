/-- a claim's kind and its statement -/
def clq (n : Nat) (kd nm : Nat → Nat) (q s : Nat) : Prop := (q = 0 ∧ s = 4294967295) ∨ (s < n ∧ ((q = 4 ∧ kd s = 123) ∨ ((q = 1 ∨ q = 2) ∧ kd s = 12) ∨ (q = 3 ∧ kd s = 12 ∧ nm s < 128)))
section CLQ
variable {n q s br cl c : Nat} {kd nm ck co : Nat → Nat}
theorem clm.clq (h : clm br cl ck co n kd nm) (hc : c < cl) : clq n kd nm (ck c) (co c) := h.2 c hc
theorem clq.none (h : clq n kd nm q s) (e : s = 4294967295) (hn : n ≤ 20) : q = 0 := by unfold clq at h; omega
theorem clq.some (h : clq n kd nm q s) (e : s ≠ 4294967295) : s < n ∧ 1 ≤ q ∧ q ≤ 4 := by unfold clq at h; omega
theorem clq.some2 (h : clq n kd nm q s) (e : q ≠ 0) : s < n ∧ q ≤ 4 := by unfold clq at h; omega
theorem clq.cut (h : clq n kd nm q s) (e : q = 4) : kd s = 123 := by unfold clq at h; omega
theorem clq.loop (h : clq n kd nm q s) (e : q ≠ 0) (e2 : q ≠ 4) : kd s = 12 := by unfold clq at h; omega
theorem clq.vari (h : clq n kd nm q s) (e : q = 3) : nm s < 128 := by unfold clq at h; omega
end CLQ
theorem ndv.z0 {fo fl fr : Nat → Int32} : ndv fo fl fr 0 := fun i hi => by omega
/-- the formula of a claim that is made -/
def fmk (md : Int32) (z : Nat) (fo fl fr : Nat → Int32) : Prop := md ≠ -1 → ndv fo fl fr z ∧ 1 ≤ z ∧ z ≤ 32768 ∧ tsn fo fl fr (z - 1) ≤ 32768
abbrev b_Maker_premise : ByteArray := prog_5_method_4_code
def y_Maker_premise : MethodName := ⟨R_Maker, "premise", "(II)I"⟩
theorem d_Maker_premise_0 : decode b_Maker_premise 0 = .ok (.iload_n 1, 1) := by decide +kernel
theorem d_Maker_premise_1 : decode b_Maker_premise 1 = .ok (.iconst 4, 1) := by decide +kernel
theorem d_Maker_premise_2 : decode b_Maker_premise 2 = .ok (.if_icmp .ne 24, 3) := by decide +kernel
theorem d_Maker_premise_5 : decode b_Maker_premise 5 = .ok (.aload_n 0, 1) := by decide +kernel
theorem d_Maker_premise_6 : decode b_Maker_premise 6 = .ok (.aload_n 0, 1) := by decide +kernel
theorem d_Maker_premise_7 : decode b_Maker_premise 7 = .ok (.getfield 29, 3) := by decide +kernel
theorem d_Maker_premise_10 : decode b_Maker_premise 10 = .ok (.getfield 64, 3) := by decide +kernel
theorem d_Maker_premise_13 : decode b_Maker_premise 13 = .ok (.aload_n 0, 1) := by decide +kernel
theorem d_Maker_premise_14 : decode b_Maker_premise 14 = .ok (.getfield 29, 3) := by decide +kernel
theorem d_Maker_premise_17 : decode b_Maker_premise 17 = .ok (.getfield 67, 3) := by decide +kernel
theorem d_Maker_premise_20 : decode b_Maker_premise 20 = .ok (.iload_n 2, 1) := by decide +kernel
theorem d_Maker_premise_21 : decode b_Maker_premise 21 = .ok (.saload, 1) := by decide +kernel
theorem d_Maker_premise_22 : decode b_Maker_premise 22 = .ok (.invokevirtual 46, 3) := by decide +kernel
theorem d_Maker_premise_25 : decode b_Maker_premise 25 = .ok (.ireturn, 1) := by decide +kernel
theorem d_Maker_premise_26 : decode b_Maker_premise 26 = .ok (.aload_n 0, 1) := by decide +kernel
theorem d_Maker_premise_27 : decode b_Maker_premise 27 = .ok (.aload_n 0, 1) := by decide +kernel
theorem d_Maker_premise_28 : decode b_Maker_premise 28 = .ok (.getfield 29, 3) := by decide +kernel
theorem d_Maker_premise_31 : decode b_Maker_premise 31 = .ok (.getfield 64, 3) := by decide +kernel
theorem d_Maker_premise_34 : decode b_Maker_premise 34 = .ok (.aload_n 0, 1) := by decide +kernel
theorem d_Maker_premise_35 : decode b_Maker_premise 35 = .ok (.getfield 29, 3) := by decide +kernel
theorem d_Maker_premise_38 : decode b_Maker_premise 38 = .ok (.getfield 71, 3) := by decide +kernel
theorem d_Maker_premise_41 : decode b_Maker_premise 41 = .ok (.iload_n 2, 1) := by decide +kernel
theorem d_Maker_premise_42 : decode b_Maker_premise 42 = .ok (.saload, 1) := by decide +kernel
theorem d_Maker_premise_43 : decode b_Maker_premise 43 = .ok (.invokevirtual 46, 3) := by decide +kernel
theorem d_Maker_premise_46 : decode b_Maker_premise 46 = .ok (.istore_n 3, 1) := by decide +kernel
theorem d_Maker_premise_47 : decode b_Maker_premise 47 = .ok (.aload_n 0, 1) := by decide +kernel
theorem d_Maker_premise_48 : decode b_Maker_premise 48 = .ok (.aload_n 0, 1) := by decide +kernel
theorem d_Maker_premise_49 : decode b_Maker_premise 49 = .ok (.getfield 29, 3) := by decide +kernel
theorem d_Maker_premise_52 : decode b_Maker_premise 52 = .ok (.getfield 64, 3) := by decide +kernel
theorem d_Maker_premise_55 : decode b_Maker_premise 55 = .ok (.aload_n 0, 1) := by decide +kernel
theorem d_Maker_premise_56 : decode b_Maker_premise 56 = .ok (.getfield 29, 3) := by decide +kernel
theorem d_Maker_premise_59 : decode b_Maker_premise 59 = .ok (.getfield 67, 3) := by decide +kernel
theorem d_Maker_premise_62 : decode b_Maker_premise 62 = .ok (.iload_n 2, 1) := by decide +kernel
theorem d_Maker_premise_63 : decode b_Maker_premise 63 = .ok (.saload, 1) := by decide +kernel
theorem d_Maker_premise_64 : decode b_Maker_premise 64 = .ok (.invokevirtual 46, 3) := by decide +kernel
theorem d_Maker_premise_67 : decode b_Maker_premise 67 = .ok (.istore 4, 2) := by decide +kernel
theorem d_Maker_premise_69 : decode b_Maker_premise 69 = .ok (.iload_n 1, 1) := by decide +kernel
theorem d_Maker_premise_70 : decode b_Maker_premise 70 = .ok (.iconst 2, 1) := by decide +kernel
theorem d_Maker_premise_71 : decode b_Maker_premise 71 = .ok (.if_icmp .ne 26, 3) := by decide +kernel
theorem d_Maker_premise_74 : decode b_Maker_premise 74 = .ok (.aload_n 0, 1) := by decide +kernel
theorem d_Maker_premise_75 : decode b_Maker_premise 75 = .ok (.getfield 12, 3) := by decide +kernel
theorem d_Maker_premise_78 : decode b_Maker_premise 78 = .ok (.bipush 7, 2) := by decide +kernel
theorem d_Maker_premise_80 : decode b_Maker_premise 80 = .ok (.iload_n 3, 1) := by decide +kernel
theorem d_Maker_premise_81 : decode b_Maker_premise 81 = .ok (.aload_n 0, 1) := by decide +kernel
theorem d_Maker_premise_82 : decode b_Maker_premise 82 = .ok (.getfield 12, 3) := by decide +kernel
theorem d_Maker_premise_85 : decode b_Maker_premise 85 = .ok (.bipush 6, 2) := by decide +kernel
theorem d_Maker_premise_87 : decode b_Maker_premise 87 = .ok (.iload 4, 2) := by decide +kernel
theorem d_Maker_premise_89 : decode b_Maker_premise 89 = .ok (.iconst (-1), 1) := by decide +kernel
theorem d_Maker_premise_90 : decode b_Maker_premise 90 = .ok (.invokevirtual 57, 3) := by decide +kernel
theorem d_Maker_premise_93 : decode b_Maker_premise 93 = .ok (.invokevirtual 57, 3) := by decide +kernel
theorem d_Maker_premise_96 : decode b_Maker_premise 96 = .ok (.ireturn, 1) := by decide +kernel
theorem d_Maker_premise_97 : decode b_Maker_premise 97 = .ok (.aload_n 0, 1) := by decide +kernel
theorem d_Maker_premise_98 : decode b_Maker_premise 98 = .ok (.getfield 12, 3) := by decide +kernel
theorem d_Maker_premise_101 : decode b_Maker_premise 101 = .ok (.bipush 7, 2) := by decide +kernel
theorem d_Maker_premise_103 : decode b_Maker_premise 103 = .ok (.iload_n 3, 1) := by decide +kernel
theorem d_Maker_premise_104 : decode b_Maker_premise 104 = .ok (.iload 4, 2) := by decide +kernel
theorem d_Maker_premise_106 : decode b_Maker_premise 106 = .ok (.invokevirtual 57, 3) := by decide +kernel
theorem d_Maker_premise_109 : decode b_Maker_premise 109 = .ok (.istore 5, 2) := by decide +kernel
theorem d_Maker_premise_111 : decode b_Maker_premise 111 = .ok (.iload_n 1, 1) := by decide +kernel
theorem d_Maker_premise_112 : decode b_Maker_premise 112 = .ok (.iconst 3, 1) := by decide +kernel
theorem d_Maker_premise_113 : decode b_Maker_premise 113 = .ok (.if_icmp .eq 16, 3) := by decide +kernel
theorem d_Maker_premise_116 : decode b_Maker_premise 116 = .ok (.aload_n 0, 1) := by decide +kernel
theorem d_Maker_premise_117 : decode b_Maker_premise 117 = .ok (.getfield 29, 3) := by decide +kernel
theorem d_Maker_premise_120 : decode b_Maker_premise 120 = .ok (.getfield 74, 3) := by decide +kernel
theorem d_Maker_premise_123 : decode b_Maker_premise 123 = .ok (.iload_n 2, 1) := by decide +kernel
theorem d_Maker_premise_124 : decode b_Maker_premise 124 = .ok (.baload, 1) := by decide +kernel
theorem d_Maker_premise_125 : decode b_Maker_premise 125 = .ok (.iconst (-1), 1) := by decide +kernel
theorem d_Maker_premise_126 : decode b_Maker_premise 126 = .ok (.if_icmp .ne 6, 3) := by decide +kernel
theorem d_Maker_premise_129 : decode b_Maker_premise 129 = .ok (.iload 5, 2) := by decide +kernel
theorem d_Maker_premise_131 : decode b_Maker_premise 131 = .ok (.ireturn, 1) := by decide +kernel
theorem d_Maker_premise_132 : decode b_Maker_premise 132 = .ok (.aload_n 0, 1) := by decide +kernel
theorem d_Maker_premise_133 : decode b_Maker_premise 133 = .ok (.getfield 12, 3) := by decide +kernel
theorem d_Maker_premise_136 : decode b_Maker_premise 136 = .ok (.bipush 7, 2) := by decide +kernel
theorem d_Maker_premise_138 : decode b_Maker_premise 138 = .ok (.iload 5, 2) := by decide +kernel
theorem d_Maker_premise_140 : decode b_Maker_premise 140 = .ok (.aload_n 0, 1) := by decide +kernel
theorem d_Maker_premise_141 : decode b_Maker_premise 141 = .ok (.getfield 12, 3) := by decide +kernel
theorem d_Maker_premise_144 : decode b_Maker_premise 144 = .ok (.iconst 4, 1) := by decide +kernel
theorem d_Maker_premise_145 : decode b_Maker_premise 145 = .ok (.aload_n 0, 1) := by decide +kernel
theorem d_Maker_premise_146 : decode b_Maker_premise 146 = .ok (.getfield 29, 3) := by decide +kernel
theorem d_Maker_premise_149 : decode b_Maker_premise 149 = .ok (.getfield 77, 3) := by decide +kernel
theorem d_Maker_premise_152 : decode b_Maker_premise 152 = .ok (.iload_n 2, 1) := by decide +kernel
theorem d_Maker_premise_153 : decode b_Maker_premise 153 = .ok (.iaload, 1) := by decide +kernel
theorem d_Maker_premise_154 : decode b_Maker_premise 154 = .ok (.aload_n 0, 1) := by decide +kernel
theorem d_Maker_premise_155 : decode b_Maker_premise 155 = .ok (.getfield 29, 3) := by decide +kernel
theorem d_Maker_premise_158 : decode b_Maker_premise 158 = .ok (.getfield 74, 3) := by decide +kernel
theorem d_Maker_premise_161 : decode b_Maker_premise 161 = .ok (.iload_n 2, 1) := by decide +kernel
theorem d_Maker_premise_162 : decode b_Maker_premise 162 = .ok (.baload, 1) := by decide +kernel
theorem d_Maker_premise_163 : decode b_Maker_premise 163 = .ok (.invokevirtual 57, 3) := by decide +kernel
theorem d_Maker_premise_166 : decode b_Maker_premise 166 = .ok (.invokevirtual 57, 3) := by decide +kernel
theorem d_Maker_premise_169 : decode b_Maker_premise 169 = .ok (.ireturn, 1) := by decide +kernel
set_option maxHeartbeats 40000000 in
set_option maxRecDepth 100000 in
theorem c_K_premise (l : Launch) (D : va_G) (ax : Nat → ClassId) (c0 c1 : Nat) (s_made : Int32) (sd : Nat → Int32) (n0 n1 n2 n3 cp z9 : Nat) (fo fl fr : Nat → Int32) (h0 h1 h2 h3 zs cs : Nat) (so sl sr : Nat → Int32) (a0 a1 a2 a3 za ca : Nat) (ao al ar : Nat → Int32) (g0 g1 g2 g3 g4 g5 g6 g7 g8 g9 ga gb cl ln br lp va : Nat) (kd ow sb f1 f2 te kp nm ck co : Nat → Nat) (tm : Nat → Int32) (MX : Nat) (en kc : Nat → Nat) (lz9 l0 po : List sgT) (h9 : Nat → Nat × Int32) (IT : Nat → itT) (X Y : Nat → List itT) (q9 s9 : Nat) (sz tz : Nat) (hcp : 8 ≤ cp) (hz9 : z9 ≤ cp) (hmx : cp ≤ MX) (hMX : MX ≤ 100000) (hfo : bts fo cp) (hnv : ndv fo fl fr z9) (hsd : ∀ j, j ≤ 10 → trm (sd j)) (hzs : zs ≤ cs) (hcs : cs ≤ 100000) (hsv : ndv so sl sr zs) (hza : za ≤ ca) (hca : ca ≤ 100000) (hz1 : 1 ≤ za) (hz4 : za ≤ 450) (hav : ndv ao al ar za) (hat : tsn ao al ar (za - 1) ≤ 450) (hlw : lsw ln zs kd ow sb f1 f2 te kp nm en kc tm so sl sr) (hlg : lgQ so sl sr ao al ar zs za ln kd ow sb f1 f2 te kp nm tm lz9 po IT X Y) (hL9 : ndl fo fl fr l0 ∧ l0.length = z9) (hsq : sdq sd h9) (hcq : clq ln kd nm q9 s9) (hsn : s9 ≠ 4294967295) (hbd : 2 * (z9 + 460) ≤ MX) (hid : h9 = idT) : Met l y_Maker_premise (xws (.code y_Maker_premise b_Maker_premise 6 (some .int))) ({ frames := 1000, cells := MX - cp, slots := 6 * (MX - cp), locals := 21000 }) (va_Pc [.ref c0, .int (nI q9), .int (nI s9)] (xo3 D ax [(c0, .inr (3, [.ref n0, .ref c1, .ref g0, .ref a0, .int s_made])), (c1, .inl (ax 0, 16, .inl sd)), (n0, .inr (4, [.ref n1, .ref n2, .ref n3, .int (nI z9)])), (n1, .inl (ax 1, cp, .inl fo)), (n2, .inl (ax 0, cp, .inl fl)), (n3, .inl (ax 0, cp, .inl fr)), (h0, .inr (4, [.ref h1, .ref h2, .ref h3, .int (nI zs)])), (h1, .inl (ax 1, cs, .inl so)), (h2, .inl (ax 0, cs, .inl sl)), (h3, .inl (ax 0, cs, .inl sr)), (a0, .inr (4, [.ref a1, .ref a2, .ref a3, .int (nI za)])), (a1, .inl (ax 1, ca, .inl ao)), (a2, .inl (ax 0, ca, .inl al)), (a3, .inl (ax 0, ca, .inl ar)), (g0, .inr (2, [.ref h0, .ref g1, .ref g2, .ref g3, .ref g4, .ref g5, .ref g6, .ref g7, .ref g8, .ref g9, .ref ga, .ref gb, .int (nI cl), .int (nI ln), .int (nI br), .int (nI lp), .int (nI va)])), (g1, .inl (ax 1, 20, .inl (fun j => nI (kd j)))), (g2, .inl (ax 1, 20, .inl (fun j => nI (ow j)))), (g3, .inl (ax 1, 20, .inl (fun j => nI (sb j)))), (g4, .inl (ax 1, 20, .inl (fun j => nI (f1 j)))), (g5, .inl (ax 1, 20, .inl (fun j => nI (f2 j)))), (g6, .inl (ax 2, 20, .inl (fun j => nI (te j)))), (g7, .inl (ax 2, 20, .inl (fun j => nI (kp j)))), (g8, .inl (ax 0, 20, .inl tm)), (g9, .inl (ax 1, 20, .inl (fun j => nI (nm j)))), (ga, .inl (ax 1, 29, .inl (fun j => nI (ck j)))), (gb, .inl (ax 1, 29, .inl (fun j => nI (co j))))] sz tz)) ((va_Qi (fun (r : Int32) (u : Nat → Nat) => r = nI (u 5) ∧ (z9 ≤ u 3 ∧ u 3 ≤ u 4 ∧ cp ≤ u 4 ∧ u 4 ≤ MX ∧ dbl cp (u 4) ∧ u 5 + 1 = u 3 ∧ u 3 ≤ z9 + 460)) (fun (u : Nat → Nat) (t9 : State) => ∃ xsd : Nat → Int32, ∃ xfo : Nat → Int32, ∃ xfl : Nat → Int32, ∃ xfr : Nat → Int32, (t9.heap.size ≤ sz + (u 4 - cp)) ∧ (tsl t9.heap ≤ tz + (6 * (u 4 - cp))) ∧ (ndv xfo xfl xfr (u 3)) ∧ (bts xfo (u 4)) ∧ (∀ i, i < z9 → tsn xfo xfl xfr i = tsn fo fl fr i) ∧ (tsn xfo xfl xfr (u 5) + z9 ≤ u 3) ∧ (∀ j, j ≤ 10 → trm (xsd j)) ∧ (ndl xfo xfl xfr (l0 ++ prF (IT s9) q9) ∧ (l0 ++ prF (IT s9) q9).length = u 3) ∧ (∃ d, cmpl d (prF (IT s9) q9)) ∧ (sdq xsd h9) ∧ va_P D classes [(c0, .inr (3, [.ref n0, .ref c1, .ref g0, .ref a0, .int s_made])), (c1, .inl (ax 0, 16, .inl xsd)), (n0, .inr (4, [.ref (u 0), .ref (u 1), .ref (u 2), .int (nI (u 3))])), (u 0, .inl (ax 1, u 4, .inl xfo)), (u 1, .inl (ax 0, u 4, .inl xfl)), (u 2, .inl (ax 0, u 4, .inl xfr)), (h0, .inr (4, [.ref h1, .ref h2, .ref h3, .int (nI zs)])), (h1, .inl (ax 1, cs, .inl so)), (h2, .inl (ax 0, cs, .inl sl)), (h3, .inl (ax 0, cs, .inl sr)), (a0, .inr (4, [.ref a1, .ref a2, .ref a3, .int (nI za)])), (a1, .inl (ax 1, ca, .inl ao)), (a2, .inl (ax 0, ca, .inl al)), (a3, .inl (ax 0, ca, .inl ar)), (g0, .inr (2, [.ref h0, .ref g1, .ref g2, .ref g3, .ref g4, .ref g5, .ref g6, .ref g7, .ref g8, .ref g9, .ref ga, .ref gb, .int (nI cl), .int (nI ln), .int (nI br), .int (nI lp), .int (nI va)])), (g1, .inl (ax 1, 20, .inl (fun j => nI (kd j)))), (g2, .inl (ax 1, 20, .inl (fun j => nI (ow j)))), (g3, .inl (ax 1, 20, .inl (fun j => nI (sb j)))), (g4, .inl (ax 1, 20, .inl (fun j => nI (f1 j)))), (g5, .inl (ax 1, 20, .inl (fun j => nI (f2 j)))), (g6, .inl (ax 2, 20, .inl (fun j => nI (te j)))), (g7, .inl (ax 2, 20, .inl (fun j => nI (kp j)))), (g8, .inl (ax 0, 20, .inl tm)), (g9, .inl (ax 1, 20, .inl (fun j => nI (nm j)))), (ga, .inl (ax 1, 29, .inl (fun j => nI (ck j)))), (gb, .inl (ax 1, 29, .inl (fun j => nI (co j))))] t9.heap ∧ va_D (va_A [(c0, .inr (3, [.ref n0, .ref c1, .ref g0, .ref a0, .int s_made])), (c1, .inl (ax 0, 16, .inl sd)), (n0, .inr (4, [.ref n1, .ref n2, .ref n3, .int (nI z9)])), (n1, .inl (ax 1, cp, .inl fo)), (n2, .inl (ax 0, cp, .inl fl)), (n3, .inl (ax 0, cp, .inl fr)), (h0, .inr (4, [.ref h1, .ref h2, .ref h3, .int (nI zs)])), (h1, .inl (ax 1, cs, .inl so)), (h2, .inl (ax 0, cs, .inl sl)), (h3, .inl (ax 0, cs, .inl sr)), (a0, .inr (4, [.ref a1, .ref a2, .ref a3, .int (nI za)])), (a1, .inl (ax 1, ca, .inl ao)), (a2, .inl (ax 0, ca, .inl al)), (a3, .inl (ax 0, ca, .inl ar)), (g0, .inr (2, [.ref h0, .ref g1, .ref g2, .ref g3, .ref g4, .ref g5, .ref g6, .ref g7, .ref g8, .ref g9, .ref ga, .ref gb, .int (nI cl), .int (nI ln), .int (nI br), .int (nI lp), .int (nI va)])), (g1, .inl (ax 1, 20, .inl (fun j => nI (kd j)))), (g2, .inl (ax 1, 20, .inl (fun j => nI (ow j)))), (g3, .inl (ax 1, 20, .inl (fun j => nI (sb j)))), (g4, .inl (ax 1, 20, .inl (fun j => nI (f1 j)))), (g5, .inl (ax 1, 20, .inl (fun j => nI (f2 j)))), (g6, .inl (ax 2, 20, .inl (fun j => nI (te j)))), (g7, .inl (ax 2, 20, .inl (fun j => nI (kp j)))), (g8, .inl (ax 0, 20, .inl tm)), (g9, .inl (ax 1, 20, .inl (fun j => nI (nm j)))), (ga, .inl (ax 1, 29, .inl (fun j => nI (ck j)))), (gb, .inl (ax 1, 29, .inl (fun j => nI (co j))))] sz) [(c0, .inr (3, [.ref n0, .ref c1, .ref g0, .ref a0, .int s_made])), (c1, .inl (ax 0, 16, .inl xsd)), (n0, .inr (4, [.ref (u 0), .ref (u 1), .ref (u 2), .int (nI (u 3))])), (u 0, .inl (ax 1, u 4, .inl xfo)), (u 1, .inl (ax 0, u 4, .inl xfl)), (u 2, .inl (ax 0, u 4, .inl xfr)), (h0, .inr (4, [.ref h1, .ref h2, .ref h3, .int (nI zs)])), (h1, .inl (ax 1, cs, .inl so)), (h2, .inl (ax 0, cs, .inl sl)), (h3, .inl (ax 0, cs, .inl sr)), (a0, .inr (4, [.ref a1, .ref a2, .ref a3, .int (nI za)])), (a1, .inl (ax 1, ca, .inl ao)), (a2, .inl (ax 0, ca, .inl al)), (a3, .inl (ax 0, ca, .inl ar)), (g0, .inr (2, [.ref h0, .ref g1, .ref g2, .ref g3, .ref g4, .ref g5, .ref g6, .ref g7, .ref g8, .ref g9, .ref ga, .ref gb, .int (nI cl), .int (nI ln), .int (nI br), .int (nI lp), .int (nI va)])), (g1, .inl (ax 1, 20, .inl (fun j => nI (kd j)))), (g2, .inl (ax 1, 20, .inl (fun j => nI (ow j)))), (g3, .inl (ax 1, 20, .inl (fun j => nI (sb j)))), (g4, .inl (ax 1, 20, .inl (fun j => nI (f1 j)))), (g5, .inl (ax 1, 20, .inl (fun j => nI (f2 j)))), (g6, .inl (ax 2, 20, .inl (fun j => nI (te j)))), (g7, .inl (ax 2, 20, .inl (fun j => nI (kp j)))), (g8, .inl (ax 0, 20, .inl tm)), (g9, .inl (ax 1, 20, .inl (fun j => nI (nm j)))), (ga, .inl (ax 1, 29, .inl (fun j => nI (ck j)))), (gb, .inl (ax 1, 29, .inl (fun j => nI (co j))))]) (va_A [(c0, .inr (3, [.ref n0, .ref c1, .ref g0, .ref a0, .int s_made])), (c1, .inl (ax 0, 16, .inl sd)), (n0, .inr (4, [.ref n1, .ref n2, .ref n3, .int (nI z9)])), (n1, .inl (ax 1, cp, .inl fo)), (n2, .inl (ax 0, cp, .inl fl)), (n3, .inl (ax 0, cp, .inl fr)), (h0, .inr (4, [.ref h1, .ref h2, .ref h3, .int (nI zs)])), (h1, .inl (ax 1, cs, .inl so)), (h2, .inl (ax 0, cs, .inl sl)), (h3, .inl (ax 0, cs, .inl sr)), (a0, .inr (4, [.ref a1, .ref a2, .ref a3, .int (nI za)])), (a1, .inl (ax 1, ca, .inl ao)), (a2, .inl (ax 0, ca, .inl al)), (a3, .inl (ax 0, ca, .inl ar)), (g0, .inr (2, [.ref h0, .ref g1, .ref g2, .ref g3, .ref g4, .ref g5, .ref g6, .ref g7, .ref g8, .ref g9, .ref ga, .ref gb, .int (nI cl), .int (nI ln), .int (nI br), .int (nI lp), .int (nI va)])), (g1, .inl (ax 1, 20, .inl (fun j => nI (kd j)))), (g2, .inl (ax 1, 20, .inl (fun j => nI (ow j)))), (g3, .inl (ax 1, 20, .inl (fun j => nI (sb j)))), (g4, .inl (ax 1, 20, .inl (fun j => nI (f1 j)))), (g5, .inl (ax 1, 20, .inl (fun j => nI (f2 j)))), (g6, .inl (ax 2, 20, .inl (fun j => nI (te j)))), (g7, .inl (ax 2, 20, .inl (fun j => nI (kp j)))), (g8, .inl (ax 0, 20, .inl tm)), (g9, .inl (ax 1, 20, .inl (fun j => nI (nm j)))), (ga, .inl (ax 1, 29, .inl (fun j => nI (ck j)))), (gb, .inl (ax 1, 29, .inl (fun j => nI (co j))))] sz))) (MX - cp) (6 * (MX - cp)) (va_A [(c0, .inr (3, [.ref n0, .ref c1, .ref g0, .ref a0, .int s_made])), (c1, .inl (ax 0, 16, .inl sd)), (n0, .inr (4, [.ref n1, .ref n2, .ref n3, .int (nI z9)])), (n1, .inl (ax 1, cp, .inl fo)), (n2, .inl (ax 0, cp, .inl fl)), (n3, .inl (ax 0, cp, .inl fr)), (h0, .inr (4, [.ref h1, .ref h2, .ref h3, .int (nI zs)])), (h1, .inl (ax 1, cs, .inl so)), (h2, .inl (ax 0, cs, .inl sl)), (h3, .inl (ax 0, cs, .inl sr)), (a0, .inr (4, [.ref a1, .ref a2, .ref a3, .int (nI za)])), (a1, .inl (ax 1, ca, .inl ao)), (a2, .inl (ax 0, ca, .inl al)), (a3, .inl (ax 0, ca, .inl ar)), (g0, .inr (2, [.ref h0, .ref g1, .ref g2, .ref g3, .ref g4, .ref g5, .ref g6, .ref g7, .ref g8, .ref g9, .ref ga, .ref gb, .int (nI cl), .int (nI ln), .int (nI br), .int (nI lp), .int (nI va)])), (g1, .inl (ax 1, 20, .inl (fun j => nI (kd j)))), (g2, .inl (ax 1, 20, .inl (fun j => nI (ow j)))), (g3, .inl (ax 1, 20, .inl (fun j => nI (sb j)))), (g4, .inl (ax 1, 20, .inl (fun j => nI (f1 j)))), (g5, .inl (ax 1, 20, .inl (fun j => nI (f2 j)))), (g6, .inl (ax 2, 20, .inl (fun j => nI (te j)))), (g7, .inl (ax 2, 20, .inl (fun j => nI (kp j)))), (g8, .inl (ax 0, 20, .inl tm)), (g9, .inl (ax 1, 20, .inl (fun j => nI (nm j)))), (ga, .inl (ax 1, 29, .inl (fun j => nI (ck j)))), (gb, .inl (ax 1, 29, .inl (fun j => nI (co j))))] sz) := by
  refine Met.ofW (cc := b_Maker_premise) (maxL := 6) (ret := (some .int)) (by decide) rfl ?_
  intro p e s m args below meth c s₁ B hml hv
  obtain ⟨rfl, ⟨hsz, hP, hK, hD0⟩, htz⟩ := hv
  have hx := B.exec
  have hb := B.bytes
  have hr := B.returns
  have hts := xw_hts B.pre
  have hown : s.vm.findClass R_Maker = some m.cls := findClass_of_methodNamed B.named
  have hlocks := B.notSynchronized
  subst hsz
  subst htz
  have hD := hD0.self (sz := s.heap.size)
  have hN := xz_entry hP
  generalize hAe : va_A [(c0, .inr (3, [.ref n0, .ref c1, .ref g0, .ref a0, .int s_made])), (c1, .inl (ax 0, 16, .inl sd)), (n0, .inr (4, [.ref n1, .ref n2, .ref n3, .int (nI z9)])), (n1, .inl (ax 1, cp, .inl fo)), (n2, .inl (ax 0, cp, .inl fl)), (n3, .inl (ax 0, cp, .inl fr)), (h0, .inr (4, [.ref h1, .ref h2, .ref h3, .int (nI zs)])), (h1, .inl (ax 1, cs, .inl so)), (h2, .inl (ax 0, cs, .inl sl)), (h3, .inl (ax 0, cs, .inl sr)), (a0, .inr (4, [.ref a1, .ref a2, .ref a3, .int (nI za)])), (a1, .inl (ax 1, ca, .inl ao)), (a2, .inl (ax 0, ca, .inl al)), (a3, .inl (ax 0, ca, .inl ar)), (g0, .inr (2, [.ref h0, .ref g1, .ref g2, .ref g3, .ref g4, .ref g5, .ref g6, .ref g7, .ref g8, .ref g9, .ref ga, .ref gb, .int (nI cl), .int (nI ln), .int (nI br), .int (nI lp), .int (nI va)])), (g1, .inl (ax 1, 20, .inl (fun j => nI (kd j)))), (g2, .inl (ax 1, 20, .inl (fun j => nI (ow j)))), (g3, .inl (ax 1, 20, .inl (fun j => nI (sb j)))), (g4, .inl (ax 1, 20, .inl (fun j => nI (f1 j)))), (g5, .inl (ax 1, 20, .inl (fun j => nI (f2 j)))), (g6, .inl (ax 2, 20, .inl (fun j => nI (te j)))), (g7, .inl (ax 2, 20, .inl (fun j => nI (kp j)))), (g8, .inl (ax 0, 20, .inl tm)), (g9, .inl (ax 1, 20, .inl (fun j => nI (nm j)))), (ga, .inl (ax 1, 29, .inl (fun j => nI (ck j)))), (gb, .inl (ax 1, 29, .inl (fun j => nI (co j))))] s.heap.size = A at hD hN ⊢
  have hA : ∀ q : Nat, s.heap.size ≤ q → A q := fun q h => by rw [← hAe]; exact Or.inr h
  have hS : va_S A s.heap s.heap [] := va_S.rf
  have hl0 := lv_entry ([.ref c0, .int (nI q9), .int (nI s9)]) (n := 6) (Nat.le_of_ble_eq_true rfl)
  rw [lg_entry_eq]
  generalize (lg_sl ([.ref c0, .int (nI q9), .int (nI s9)]) ++ List.replicate (6 - (lg_sl ([.ref c0, .int (nI q9), .int (nI s9)])).length) Slot.unset).toArray = ls at hl0 ⊢
  have hl1 : lv_has ls 6 [(0, .ref c0), (1, .int (nI q9)), (2, .int (nI s9))] := hl0
  refine xw_gen (fun Z9 hQe => ?_)
  obtain ⟨hs9, hq1, hq4⟩ := hcq.some (by first | assumption | omega)
  obtain ⟨hkc, hln, hzz⟩ := hlw.bk hs9
  refine lv_iload_n hx hb d_Maker_premise_0 rfl (lv_at hl1 1 rfl) ?_
  refine lv_iconst (v := 4) hx hb d_Maker_premise_1 (by decide) ?_
  refine lv_icmp_ne (tgt := 26) hx hb d_Maker_premise_2 (by decide) (fun c_1 => ?_) (fun c_1 => ?_)
  · replace c_1 : ¬ q9 = 4 := fun hq9 => c_1 ((nI_eq (a := q9) (b := 4) (by first | exact Nat.lt_of_lt_of_le (by assumption) (by decide) | exact Nat.lt_of_le_of_lt (by assumption) (by decide) | omega) (by decide)).mpr hq9)
    obtain ⟨hte, hkp, htk, hf1a, hf1b, hnm⟩ := hlw.wh hs9 (hcq.loop (by first | assumption | omega) (by first | assumption | omega))
    refine lv_aload_n hx hb d_Maker_premise_26 rfl (lv_at hl1 0 rfl) ?_
    refine lv_aload_n hx hb d_Maker_premise_27 rfl (lv_at hl1 0 rfl) ?_
    refine va_get (D := D) (ci := 3) (v := .ref g0) (C := R_Maker) (T := F_Maker) (N := 5) hx hb hts i_Maker hown hK.1 hP 0 rfl rfl 2 (by decide) (hts _ wd_132) (fun _ h9 => h9) rfl d_Maker_premise_28 ?_
    refine va_get (D := D) (ci := 2) (v := .ref h0) (C := R_Listing) (T := F_Listing) (N := 17) hx hb hts i_Listing hown hK.1 hP 14 rfl rfl 0 (by decide) (hts _ wd_269) (fun _ h9 => h9) rfl d_Maker_premise_31 ?_
    refine lv_aload_n hx hb d_Maker_premise_34 rfl (lv_at hl1 0 rfl) ?_
    refine va_get (D := D) (ci := 3) (v := .ref g0) (C := R_Maker) (T := F_Maker) (N := 5) hx hb hts i_Maker hown hK.1 hP 0 rfl rfl 2 (by decide) (hts _ wd_132) (fun _ h9 => h9) rfl d_Maker_premise_35 ?_
    refine va_get (D := D) (ci := 2) (v := .ref g7) (C := R_Listing) (T := F_Listing) (N := 17) hx hb hts i_Listing hown hK.1 hP 14 rfl rfl 7 (by decide) (hts _ wd_290) (fun _ h9 => h9) rfl d_Maker_premise_38 ?_
    refine lv_iload_n hx hb d_Maker_premise_41 rfl (lv_at hl1 2 rfl) ?_
    refine va_sald hx hb hK.1 hP 21 2 rfl rfl (vp_in_nI (by first | assumption | omega) (by decide)) d_Maker_premise_42 ?_
    refine W.eq (g2 := F0 m 43 ls [.int (nI (kp s9)), .ref h0, .ref c0]) (by rw [nI_clamp (by first | exact Nat.lt_of_lt_of_le (by assumption) (by decide) | exact Nat.lt_of_le_of_lt (by assumption) (by decide) | omega)]) ?_
    obtain ⟨hPc, hDc, hFc, hCs⟩ := xw_sub3 (wc := [(c0, .inr (3, [.ref n0, .ref c1, (.ref g0), (.ref a0), .int s_made])), (c1, .inl (ax 0, 16, .inl sd)), (n0, .inr (4, [.ref n1, .ref n2, .ref n3, .int (nI z9)])), (n1, .inl (ax 1, cp, .inl fo)), (n2, .inl (ax 0, cp, .inl fl)), (n3, .inl (ax 0, cp, .inl fr)), (h0, .inr (4, [.ref h1, .ref h2, .ref h3, .int (nI zs)])), (h1, .inl (ax 1, cs, .inl so)), (h2, .inl (ax 0, cs, .inl sl)), (h3, .inl (ax 0, cs, .inl sr))]) hP hD hS hA [0, 1, 2, 3, 4, 5, 6, 7, 8, 9] (by decide) rfl
    have hz := xz_of hN hS
    refine wk_know (fun hk8 hk9 => ?_)
    refine va_calli (va_runV (As := [.ref h0, .int (nI (kp s9))]) (rest := []) ⟨hx, hb, hml, hown, hts⟩ ((K_copy_all l (kp s9)) D ax c0 c1 (.ref g0) (.ref a0) s_made sd n0 n1 n2 n3 cp z9 fo fl fr h0 h1 h2 h3 zs cs so sl sr MX lz9 l0 h9 1023 s.heap.size (tsl s.heap) (by first | assumption | omega) (by first | assumption | omega) (by first | assumption | omega) (by first | assumption | omega) (by assumption) (by assumption) (by assumption) hzs hcs (by first | assumption | omega) hsv (by first | assumption | omega) hlg.1 (by assumption) (sdq.s (by assumption))) (xcV (n := 2) hts wd_776 wd_4 wd_773 wd_775 ps_23 rfl rfl (by decide +kernel) ⟨(show (50 + 2 * (kp s9)) + 1 ≤ (1000) by omega), (show 8 + (5 + 11) + (2000 + 40 * (kp s9)) ≤ (21000) by omega)⟩) (xpV3 (ci := 3) (q0 := 0) (As := [.ref h0, .int (nI (kp s9))]) hPc hK hz hDc rfl rfl) rfl rfl hl1.1 rfl (lv_room (Nat.le_of_ble_eq_true rfl)) d_Maker_premise_43 ⟨(show (0) + (MX - cp) ≤ (MX - cp) by omega), (show (0) + (6 * (MX - cp)) ≤ (6 * (MX - cp)) by omega)⟩) hS (fun q _ h => hFc q h) hFc (fun r_4 u_2 t H_3 locs ht hvm hw hB hz1 hk1 hS1 => ?_)
    try dsimp only at hw
    obtain ⟨hw, hs_5, hs_6, hs_7, hs_8, hs_9, hs_10, hs_11⟩ := hw
    subst hw
    obtain ⟨x_12, x_13, x_14, hg8, hg9, hx_15, hx_16, hx_17, hx_18, hx_19, hx_20, hP1, hD1⟩ := hB
    rw [ht] at hg8 hg9 hP1
    have hjn := xw_join3 (wl := [(a0, .inr (4, [.ref a1, .ref a2, .ref a3, .int (nI za)])), (a1, .inl (ax 1, ca, .inl ao)), (a2, .inl (ax 0, ca, .inl al)), (a3, .inl (ax 0, ca, .inl ar)), (g0, .inr (2, [.ref h0, .ref g1, .ref g2, .ref g3, .ref g4, .ref g5, .ref g6, .ref g7, .ref g8, .ref g9, .ref ga, .ref gb, .int (nI cl), .int (nI ln), .int (nI br), .int (nI lp), .int (nI va)])), (g1, .inl (ax 1, 20, .inl (fun j => nI (kd j)))), (g2, .inl (ax 1, 20, .inl (fun j => nI (ow j)))), (g3, .inl (ax 1, 20, .inl (fun j => nI (sb j)))), (g4, .inl (ax 1, 20, .inl (fun j => nI (f1 j)))), (g5, .inl (ax 1, 20, .inl (fun j => nI (f2 j)))), (g6, .inl (ax 2, 20, .inl (fun j => nI (te j)))), (g7, .inl (ax 2, 20, .inl (fun j => nI (kp j)))), (g8, .inl (ax 0, 20, .inl tm)), (g9, .inl (ax 1, 20, .inl (fun j => nI (nm j)))), (ga, .inl (ax 1, 29, .inl (fun j => nI (ck j)))), (gb, .inl (ax 1, 29, .inl (fun j => nI (co j)))), (c0, .inr (3, [.ref n0, .ref c1, .ref g0, .ref a0, .int s_made])), (c1, .inl (ax 0, 16, .inl sd)), (n0, .inr (4, [.ref (u_2 0), .ref (u_2 1), .ref (u_2 2), .int (nI (u_2 3))])), ((u_2 0), .inl (ax 1, u_2 4, .inl x_12)), ((u_2 1), .inl (ax 0, u_2 4, .inl x_13)), ((u_2 2), .inl (ax 0, u_2 4, .inl x_14)), (h0, .inr (4, [.ref h1, .ref h2, .ref h3, .int (nI zs)])), (h1, .inl (ax 1, cs, .inl so)), (h2, .inl (ax 0, cs, .inl sl)), (h3, .inl (ax 0, cs, .inl sr))]) hP hD [0, 1, 2, 3, 4, 5, 6, 7, 8, 9] [10, 11, 12, 13, 14, 15, 16, 17, 18, 19, 20, 21, 22, 23, 24, 25] hCs (by decide) (by decide) hk1 hFc hP1 hD1 rfl
    clear hP1 hD1
    clear hPc hDc hFc hCs hz hz1 hk1 ht hvm
    clear hP hD hS
    have hS := hS1
    obtain ⟨hP, hD⟩ := hjn
    clear hS1
    refine wk_narrow (k := u_2 4 - cp) (n := 6 * (u_2 4 - cp)) (by first | assumption | omega) (by first | assumption | omega) ?_
    clear hk8 hk9 hg8 hg9
    have hK_21 : ∀ i, i < z9 → tsn x_12 x_13 x_14 i = tsn fo fl fr i := fun i hi => hx_17 i hi
    refine lv_istore_n (lv' := [(3, .int (nI (u_2 5))), (0, .ref c0), (1, .int (nI q9)), (2, .int (nI s9))]) hx hb d_Maker_premise_46 rfl hl1 (by decide) rfl (fun ls hl2 => ?_)
    clear hl1; have hl1 := hl2; clear hl2
    refine lv_aload_n hx hb d_Maker_premise_47 rfl (lv_at hl1 1 rfl) ?_
    refine lv_aload_n hx hb d_Maker_premise_48 rfl (lv_at hl1 1 rfl) ?_
    refine va_get (D := D) (ci := 3) (v := .ref g0) (C := R_Maker) (T := F_Maker) (N := 5) hx hb hts i_Maker hown hK.1 hP 16 rfl rfl 2 (by decide) (hts _ wd_132) (fun _ h9 => h9) rfl d_Maker_premise_49 ?_
    refine va_get (D := D) (ci := 2) (v := .ref h0) (C := R_Listing) (T := F_Listing) (N := 17) hx hb hts i_Listing hown hK.1 hP 4 rfl rfl 0 (by decide) (hts _ wd_269) (fun _ h9 => h9) rfl d_Maker_premise_52 ?_
    refine lv_aload_n hx hb d_Maker_premise_55 rfl (lv_at hl1 1 rfl) ?_
    refine va_get (D := D) (ci := 3) (v := .ref g0) (C := R_Maker) (T := F_Maker) (N := 5) hx hb hts i_Maker hown hK.1 hP 16 rfl rfl 2 (by decide) (hts _ wd_132) (fun _ h9 => h9) rfl d_Maker_premise_56 ?_
    refine va_get (D := D) (ci := 2) (v := .ref g6) (C := R_Listing) (T := F_Listing) (N := 17) hx hb hts i_Listing hown hK.1 hP 4 rfl rfl 6 (by decide) (hts _ wd_286) (fun _ h9 => h9) rfl d_Maker_premise_59 ?_
    refine lv_iload_n hx hb d_Maker_premise_62 rfl (lv_at hl1 3 rfl) ?_
    refine va_sald hx hb hK.1 hP 10 2 rfl rfl (vp_in_nI (by first | assumption | omega) (by decide)) d_Maker_premise_63 ?_
    refine W.eq (g2 := F0 m 64 ls [.int (nI (te s9)), .ref h0, .ref c0]) (by rw [nI_clamp (by first | exact Nat.lt_of_lt_of_le (by assumption) (by decide) | exact Nat.lt_of_le_of_lt (by assumption) (by decide) | omega)]) ?_
    obtain ⟨hPc, hDc, hFc, hCs⟩ := xw_sub3 (wc := [(c0, .inr (3, [.ref n0, .ref c1, (.ref g0), (.ref a0), .int s_made])), (c1, .inl (ax 0, 16, .inl sd)), (n0, .inr (4, [.ref (u_2 0), .ref (u_2 1), .ref (u_2 2), .int (nI (u_2 3))])), ((u_2 0), .inl (ax 1, u_2 4, .inl x_12)), ((u_2 1), .inl (ax 0, u_2 4, .inl x_13)), ((u_2 2), .inl (ax 0, u_2 4, .inl x_14)), (h0, .inr (4, [.ref h1, .ref h2, .ref h3, .int (nI zs)])), (h1, .inl (ax 1, cs, .inl so)), (h2, .inl (ax 0, cs, .inl sl)), (h3, .inl (ax 0, cs, .inl sr))]) hP hD hS hA [16, 17, 18, 19, 20, 21, 22, 23, 24, 25] (by decide) rfl
    have hz := xz_of hN hS
    refine wk_know (fun hk8 hk9 => ?_)
    refine va_calli (va_runV (As := [.ref h0, .int (nI (te s9))]) (rest := []) ⟨hx, hb, hml, hown, hts⟩ ((K_copy_all l (te s9)) D ax c0 c1 (.ref g0) (.ref a0) s_made sd n0 (u_2 0) (u_2 1) (u_2 2) (u_2 4) (u_2 3) x_12 x_13 x_14 h0 h1 h2 h3 zs cs so sl sr MX lz9 (l0 ++ ptL h9 (sub9 lz9 (kp s9))) h9 1023 H_3.size (tsl H_3) (by first | assumption | omega) (by first | assumption | omega) (by first | assumption | omega) (by first | assumption | omega) (by assumption) (by assumption) (by assumption) hzs hcs (by first | assumption | omega) hsv (by first | assumption | omega) hlg.1 (by assumption) (sdq.s (by assumption))) (xcV (n := 2) hts wd_776 wd_4 wd_773 wd_775 ps_23 rfl rfl (by decide +kernel) ⟨(show (50 + 2 * (te s9)) + 1 ≤ (1000) by omega), (show 8 + (5 + 11) + (2000 + 40 * (te s9)) ≤ (21000) by omega)⟩) (xpV3 (ci := 3) (q0 := 0) (As := [.ref h0, .int (nI (te s9))]) hPc hK hz hDc rfl rfl) rfl rfl hl1.1 rfl (lv_room (Nat.le_of_ble_eq_true rfl)) d_Maker_premise_64 ⟨(show (u_2 4 - cp) + (MX - (u_2 4)) ≤ (MX - cp) by omega), (show (6 * (u_2 4 - cp)) + (6 * (MX - (u_2 4))) ≤ (6 * (MX - cp)) by omega)⟩) hS (fun q _ h => hFc q h) hFc (fun r_24 u_22 t H_23 locs ht hvm hw hB hz1 hk1 hS1 => ?_)
    try dsimp only at hw
    obtain ⟨hw, hs_25, hs_26, hs_27, hs_28, hs_29, hs_30, hs_31⟩ := hw
    subst hw
    obtain ⟨x_32, x_33, x_34, hg8, hg9, hx_35, hx_36, hx_37, hx_38, hx_39, hx_40, hP1, hD1⟩ := hB
    rw [ht] at hg8 hg9 hP1
    have hjn := xw_join3 (wl := [(a0, .inr (4, [.ref a1, .ref a2, .ref a3, .int (nI za)])), (a1, .inl (ax 1, ca, .inl ao)), (a2, .inl (ax 0, ca, .inl al)), (a3, .inl (ax 0, ca, .inl ar)), (g0, .inr (2, [.ref h0, .ref g1, .ref g2, .ref g3, .ref g4, .ref g5, .ref g6, .ref g7, .ref g8, .ref g9, .ref ga, .ref gb, .int (nI cl), .int (nI ln), .int (nI br), .int (nI lp), .int (nI va)])), (g1, .inl (ax 1, 20, .inl (fun j => nI (kd j)))), (g2, .inl (ax 1, 20, .inl (fun j => nI (ow j)))), (g3, .inl (ax 1, 20, .inl (fun j => nI (sb j)))), (g4, .inl (ax 1, 20, .inl (fun j => nI (f1 j)))), (g5, .inl (ax 1, 20, .inl (fun j => nI (f2 j)))), (g6, .inl (ax 2, 20, .inl (fun j => nI (te j)))), (g7, .inl (ax 2, 20, .inl (fun j => nI (kp j)))), (g8, .inl (ax 0, 20, .inl tm)), (g9, .inl (ax 1, 20, .inl (fun j => nI (nm j)))), (ga, .inl (ax 1, 29, .inl (fun j => nI (ck j)))), (gb, .inl (ax 1, 29, .inl (fun j => nI (co j)))), (c0, .inr (3, [.ref n0, .ref c1, .ref g0, .ref a0, .int s_made])), (c1, .inl (ax 0, 16, .inl sd)), (n0, .inr (4, [.ref (u_22 0), .ref (u_22 1), .ref (u_22 2), .int (nI (u_22 3))])), ((u_22 0), .inl (ax 1, u_22 4, .inl x_32)), ((u_22 1), .inl (ax 0, u_22 4, .inl x_33)), ((u_22 2), .inl (ax 0, u_22 4, .inl x_34)), (h0, .inr (4, [.ref h1, .ref h2, .ref h3, .int (nI zs)])), (h1, .inl (ax 1, cs, .inl so)), (h2, .inl (ax 0, cs, .inl sl)), (h3, .inl (ax 0, cs, .inl sr))]) hP hD [16, 17, 18, 19, 20, 21, 22, 23, 24, 25] [0, 1, 2, 3, 4, 5, 6, 7, 8, 9, 10, 11, 12, 13, 14, 15] hCs (by decide) (by decide) hk1 hFc hP1 hD1 rfl
    clear hP1 hD1
    clear hPc hDc hFc hCs hz hz1 hk1 ht hvm
    clear hP hD hS
    have hS := hS1
    obtain ⟨hP, hD⟩ := hjn
    clear hS1
    refine wk_narrow (k := u_2 4 - cp + (u_22 4 - (u_2 4))) (n := 6 * (u_2 4 - cp) + (6 * (u_22 4 - (u_2 4)))) (by first | assumption | omega) (by first | assumption | omega) ?_
    clear hk8 hk9 hg8 hg9
    have hK_41 : ∀ i, i < z9 → tsn x_32 x_33 x_34 i = tsn fo fl fr i := fun i hi => (hx_37 i (by first | assumption | omega)).trans (hK_21 i hi)
    have hS_42 : tsn x_32 x_33 x_34 (u_2 5) + z9 ≤ (u_2 3) := by rw [hx_37 (u_2 5) (by first | assumption | omega)]; exact hx_18
    refine lv_istore (lv' := [(4, .int (nI (u_22 5))), (3, .int (nI (u_2 5))), (0, .ref c0), (1, .int (nI q9)), (2, .int (nI s9))]) hx hb d_Maker_premise_67 hl1 (by decide) rfl (fun ls hl2 => ?_)
    clear hl1; have hl1 := hl2; clear hl2
    refine lv_iload_n hx hb d_Maker_premise_69 rfl (lv_at hl1 3 rfl) ?_
    refine lv_iconst (v := 2) hx hb d_Maker_premise_70 (by decide) ?_
    refine lv_icmp_ne (tgt := 97) hx hb d_Maker_premise_71 (by decide) (fun c_43 => ?_) (fun c_43 => ?_)
    · replace c_43 : ¬ q9 = 2 := fun hq9 => c_43 ((nI_eq (a := q9) (b := 2) (by first | exact Nat.lt_of_lt_of_le (by assumption) (by decide) | exact Nat.lt_of_le_of_lt (by assumption) (by decide) | omega) (by decide)).mpr hq9)
      refine lv_aload_n hx hb d_Maker_premise_97 rfl (lv_at hl1 2 rfl) ?_
      refine va_get (D := D) (ci := 3) (v := .ref n0) (C := R_Maker) (T := F_Maker) (N := 5) hx hb hts i_Maker hown hK.1 hP 16 rfl rfl 0 (by decide) (hts _ wd_129) (fun _ h9 => h9) rfl d_Maker_premise_98 ?_
      refine lv_bipush (v := 7) hx hb d_Maker_premise_101 (by decide) ?_
      refine lv_iload_n hx hb d_Maker_premise_103 rfl (lv_at hl1 1 rfl) ?_
      refine lv_iload hx hb d_Maker_premise_104 (lv_at hl1 0 rfl) ?_
      obtain ⟨hPc, hDc, hFc, hCs⟩ := xw_sub3 (wc := [(n0, .inr (4, [.ref (u_22 0), .ref (u_22 1), .ref (u_22 2), .int (nI (u_22 3))])), ((u_22 0), .inl (ax 1, u_22 4, .inl x_32)), ((u_22 1), .inl (ax 0, u_22 4, .inl x_33)), ((u_22 2), .inl (ax 0, u_22 4, .inl x_34))]) hP hD hS hA [18, 19, 20, 21] (by decide) rfl
      have hz := xz_of hN hS
      refine wk_know (fun hk8 hk9 => ?_)
      refine va_calli (va_runV (As := [.int 7, .int (nI (u_2 5)), .int (nI (u_22 5))]) (rest := []) ⟨hx, hb, hml, hown, hts⟩ (c_Nodes_add l D ax n0 (u_22 0) (u_22 1) (u_22 2) (u_22 4) (u_22 3) x_32 x_33 x_34 MX 7 (nI (u_2 5)) (nI (u_22 5)) H_23.size (tsl H_23) (by first | assumption | omega) (by first | assumption | omega) (by first | assumption | omega) (by first | assumption | omega) (by first | assumption | omega) (by assumption)) (xcV (n := 3) hts wd_350 wd_5 wd_781 wd_348 wd_349 rfl rfl (by decide +kernel) ⟨(show (30) + 1 ≤ (1000) by omega), (show 8 + (4 + 11) + (1200) ≤ (21000) by omega)⟩) (xpV3 (ci := 4) (q0 := 0) (As := [.int 7, .int (nI (u_2 5)), .int (nI (u_22 5))]) hPc hK hz hDc rfl rfl) rfl rfl hl1.1 rfl (lv_room (Nat.le_of_ble_eq_true rfl)) d_Maker_premise_106 ⟨(show (u_2 4 - cp + (u_22 4 - (u_2 4))) + (MX - (u_22 4)) ≤ (MX - cp) by omega), (show (6 * (u_2 4 - cp) + (6 * (u_22 4 - (u_2 4)))) + (6 * (MX - (u_22 4))) ≤ (6 * (MX - cp)) by omega)⟩) hS (fun q _ h => hFc q h) hFc (fun r_46 u_44 t H_45 locs ht hvm hw hB hz1 hk1 hS1 => ?_)
      try dsimp only at hw
      obtain ⟨hw, hs_47, hs_48, hs_49, hs_50⟩ := hw
      subst hw
      obtain ⟨x_51, x_52, x_53, hg8, hg9, hx_54, hx_55, hP1, hD1⟩ := hB
      rw [ht] at hg8 hg9 hP1
      have hjn := xw_join3 (wl := [(a0, .inr (4, [.ref a1, .ref a2, .ref a3, .int (nI za)])), (a1, .inl (ax 1, ca, .inl ao)), (a2, .inl (ax 0, ca, .inl al)), (a3, .inl (ax 0, ca, .inl ar)), (g0, .inr (2, [.ref h0, .ref g1, .ref g2, .ref g3, .ref g4, .ref g5, .ref g6, .ref g7, .ref g8, .ref g9, .ref ga, .ref gb, .int (nI cl), .int (nI ln), .int (nI br), .int (nI lp), .int (nI va)])), (g1, .inl (ax 1, 20, .inl (fun j => nI (kd j)))), (g2, .inl (ax 1, 20, .inl (fun j => nI (ow j)))), (g3, .inl (ax 1, 20, .inl (fun j => nI (sb j)))), (g4, .inl (ax 1, 20, .inl (fun j => nI (f1 j)))), (g5, .inl (ax 1, 20, .inl (fun j => nI (f2 j)))), (g6, .inl (ax 2, 20, .inl (fun j => nI (te j)))), (g7, .inl (ax 2, 20, .inl (fun j => nI (kp j)))), (g8, .inl (ax 0, 20, .inl tm)), (g9, .inl (ax 1, 20, .inl (fun j => nI (nm j)))), (ga, .inl (ax 1, 29, .inl (fun j => nI (ck j)))), (gb, .inl (ax 1, 29, .inl (fun j => nI (co j)))), (c0, .inr (3, [.ref n0, .ref c1, .ref g0, .ref a0, .int s_made])), (c1, .inl (ax 0, 16, .inl sd)), (h0, .inr (4, [.ref h1, .ref h2, .ref h3, .int (nI zs)])), (h1, .inl (ax 1, cs, .inl so)), (h2, .inl (ax 0, cs, .inl sl)), (h3, .inl (ax 0, cs, .inl sr)), (n0, .inr (4, [.ref (u_44 0), .ref (u_44 1), .ref (u_44 2), .int (nI ((u_22 3) + 1))])), ((u_44 0), .inl (ax 1, u_44 3, .inl x_51)), ((u_44 1), .inl (ax 0, u_44 3, .inl x_52)), ((u_44 2), .inl (ax 0, u_44 3, .inl x_53))]) hP hD [18, 19, 20, 21] [0, 1, 2, 3, 4, 5, 6, 7, 8, 9, 10, 11, 12, 13, 14, 15, 16, 17, 22, 23, 24, 25] hCs (by decide) (by decide) hk1 hFc hP1 hD1 rfl
      clear hP1 hD1
      clear hPc hDc hFc hCs hz hz1 hk1 ht hvm
      clear hP hD hS
      have hS := hS1
      obtain ⟨hP, hD⟩ := hjn
      clear hS1
      refine wk_narrow (k := u_2 4 - cp + (u_22 4 - (u_2 4)) + (u_44 3 - (u_22 4))) (n := 6 * (u_2 4 - cp) + (6 * (u_22 4 - (u_2 4))) + (6 * (u_44 3 - (u_22 4)))) (by first | assumption | omega) (by first | assumption | omega) ?_
      clear hk8 hk9 hg8 hg9
      have hZ_56 : ndl x_51 x_52 x_53 (l0 ++ (ptL h9 (sub9 lz9 (kp s9)) ++ ptL h9 (sub9 lz9 (te s9)) ++ [opS 2])) ∧ (l0 ++ (ptL h9 (sub9 lz9 (kp s9)) ++ ptL h9 (sub9 lz9 (te s9)) ++ [opS 2])).length = (u_22 3) + 1 := bin_q (o := 2) (by decide) hx_19.2 hx_39 ⟨_, hx_40⟩ (by first | assumption | omega) (by first | assumption | omega) hx_54
      have hY_57 : ∃ d, cmpl d ((ptL h9 (sub9 lz9 (kp s9)) ++ ptL h9 (sub9 lz9 (te s9)) ++ [opS 2])) := cmx_b (by decide) ⟨_, hx_20⟩ ⟨_, hx_40⟩
      have hV_58 : ndv x_51 x_52 x_53 ((u_22 3) + 1) := hx_35.add hx_54 (nd_bin (o := 7) (by decide) (by first | assumption | omega) (by first | assumption | omega))
      have hT_59 : tsn x_51 x_52 x_53 (u_22 3) = 1 + tsn x_32 x_33 x_34 (u_2 5) + tsn x_32 x_33 x_34 (u_22 5) := nad.bin (o := 7) (by first | assumption | omega) hx_35 (by decide) (by first | assumption | omega) (by first | assumption | omega) hx_54
      have hG_60 : ∀ i, i < u_22 3 → tsn x_51 x_52 x_53 i = tsn x_32 x_33 x_34 i := fun i hi => nad.keep (by first | assumption | omega) hx_35 hx_54 hi
      have hB_61 : tsn x_51 x_52 x_53 (u_22 3) + z9 ≤ ((u_22 3) + 1) := by omega
      have hK_62 : ∀ i, i < z9 → tsn x_51 x_52 x_53 i = tsn fo fl fr i := fun i hi => (hG_60 i (by first | assumption | omega)).trans (hK_41 i hi)
      refine lv_istore (lv' := [(5, .int (nI (u_22 3))), (4, .int (nI (u_22 5))), (3, .int (nI (u_2 5))), (0, .ref c0), (1, .int (nI q9)), (2, .int (nI s9))]) hx hb d_Maker_premise_109 hl1 (by decide) rfl (fun ls hl2 => ?_)
      clear hl1; have hl1 := hl2; clear hl2
      refine lv_iload_n hx hb d_Maker_premise_111 rfl (lv_at hl1 4 rfl) ?_
      refine lv_iconst (v := 3) hx hb d_Maker_premise_112 (by decide) ?_
      refine lv_icmp_eq (tgt := 129) hx hb d_Maker_premise_113 (by decide) (fun c_63 => ?_) (fun c_63 => ?_)
      · replace c_63 : q9 = 3 := (nI_eq (a := q9) (b := 3) (by first | exact Nat.lt_of_lt_of_le (by assumption) (by decide) | exact Nat.lt_of_le_of_lt (by assumption) (by decide) | omega) (by decide)).mp c_63
        refine lv_iload hx hb d_Maker_premise_129 (lv_at hl1 0 rfl) ?_
        rw [← hQe]
        refine wk_know (fun hk8 hk9 => ?_)
        refine W.widen (k := MX - cp) (n := 6 * (MX - cp)) (by first | assumption | omega) (by first | assumption | omega) ?_
        obtain ⟨hP9, hD9⟩ := xw_sub2 (wc := (fun (u : Nat → Nat) (xsd : Nat → Int32) (xfo : Nat → Int32) (xfl : Nat → Int32) (xfr : Nat → Int32) => [(c0, .inr (3, [.ref n0, .ref c1, .ref g0, .ref a0, .int s_made])), (c1, .inl (ax 0, 16, .inl xsd)), (n0, .inr (4, [.ref (u 0), .ref (u 1), .ref (u 2), .int (nI (u 3))])), (u 0, .inl (ax 1, u 4, .inl xfo)), (u 1, .inl (ax 0, u 4, .inl xfl)), (u 2, .inl (ax 0, u 4, .inl xfr)), (h0, .inr (4, [.ref h1, .ref h2, .ref h3, .int (nI zs)])), (h1, .inl (ax 1, cs, .inl so)), (h2, .inl (ax 0, cs, .inl sl)), (h3, .inl (ax 0, cs, .inl sr)), (a0, .inr (4, [.ref a1, .ref a2, .ref a3, .int (nI za)])), (a1, .inl (ax 1, ca, .inl ao)), (a2, .inl (ax 0, ca, .inl al)), (a3, .inl (ax 0, ca, .inl ar)), (g0, .inr (2, [.ref h0, .ref g1, .ref g2, .ref g3, .ref g4, .ref g5, .ref g6, .ref g7, .ref g8, .ref g9, .ref ga, .ref gb, .int (nI cl), .int (nI ln), .int (nI br), .int (nI lp), .int (nI va)])), (g1, .inl (ax 1, 20, .inl (fun j => nI (kd j)))), (g2, .inl (ax 1, 20, .inl (fun j => nI (ow j)))), (g3, .inl (ax 1, 20, .inl (fun j => nI (sb j)))), (g4, .inl (ax 1, 20, .inl (fun j => nI (f1 j)))), (g5, .inl (ax 1, 20, .inl (fun j => nI (f2 j)))), (g6, .inl (ax 2, 20, .inl (fun j => nI (te j)))), (g7, .inl (ax 2, 20, .inl (fun j => nI (kp j)))), (g8, .inl (ax 0, 20, .inl tm)), (g9, .inl (ax 1, 20, .inl (fun j => nI (nm j)))), (ga, .inl (ax 1, 29, .inl (fun j => nI (ck j)))), (gb, .inl (ax 1, 29, .inl (fun j => nI (co j))))]) (ixn [(u_44 0), (u_44 1), (u_44 2), ((u_22 3) + 1), (u_44 3), (u_22 3)]) sd x_51 x_52 x_53) hP hD [16, 17, 22, 23, 24, 25, 18, 19, 20, 21, 0, 1, 2, 3, 4, 5, 6, 7, 8, 9, 10, 11, 12, 13, 14, 15] (by decide) rfl
        have hex0 : ndv x_51 x_52 x_53 (((u_22 3) + 1)) := hV_58
        have hex1 : bts x_51 ((u_44 3)) := (by assumption)
        have hex2 : ∀ i, i < z9 → tsn x_51 x_52 x_53 i = tsn fo fl fr i := hK_62
        have hex3 : tsn x_51 x_52 x_53 ((u_22 3)) + z9 ≤ ((u_22 3) + 1) := (by first | assumption | omega)
        have hex4 : ∀ j, j ≤ 10 → trm (sd j) := hsd
        have hex5 : ndl x_51 x_52 x_53 (l0 ++ prF (IT s9) q9) ∧ (l0 ++ prF (IT s9) q9).length = ((u_22 3) + 1) := (by rw [p_va hlg hid hs9 (hcq.loop (by first | assumption | omega) (by first | assumption | omega)) (by first | assumption | omega)]; exact hZ_56)
        have hex6 : ∃ d, cmpl d (prF (IT s9) q9) := (by rw [p_va hlg hid hs9 (hcq.loop (by first | assumption | omega) (by first | assumption | omega)) (by first | assumption | omega)]; exact hY_57)
        have hex7 : sdq sd h9 := hsq
        have hg8 : H_45.size ≤ s.heap.size + ((u_44 3) - cp) := by omega
        have hg9 : tsl H_45 ≤ tsl s.heap + (6 * ((u_44 3) - cp)) := by omega
        have hsp0 : z9 ≤ ((u_22 3) + 1) := (by first | assumption | omega)
        have hsp1 : ((u_22 3) + 1) ≤ (u_44 3) := (by first | assumption | omega)
        have hsp2 : cp ≤ (u_44 3) := (by first | assumption | omega)
        have hsp3 : (u_44 3) ≤ MX := (by first | assumption | omega)
        have hsp4 : dbl cp ((u_44 3)) := ((hs_9.tr hs_29).tr hs_50)
        have hsp5 : (u_22 3) + 1 = ((u_22 3) + 1) := (by first | assumption | omega)
        have hsp6 : ((u_22 3) + 1) ≤ z9 + 460 := (by first | assumption | omega)
        exact W.iret (v := nI (u_22 3)) hx hb hr (fun t ht hW => ⟨⟨nI (u_22 3), ixn [(u_44 0), (u_44 1), (u_44 2), ((u_22 3) + 1), (u_44 3), (u_22 3)], rfl, ⟨rfl, ⟨hsp0, hsp1, hsp2, hsp3, hsp4, hsp5, hsp6⟩⟩, ⟨sd, x_51, x_52, x_53, by rw [ht]; exact hg8, by rw [ht]; exact hg9, hex0, hex1, hex2, hex3, hex4, hex5, hex6, hex7, by rw [ht]; exact hP9, hD9⟩⟩, hS.F ht⟩) hS.2.2 d_Maker_premise_131
      · replace c_63 : ¬ q9 = 3 := fun hq9 => c_63 ((nI_eq (a := q9) (b := 3) (by first | exact Nat.lt_of_lt_of_le (by assumption) (by decide) | exact Nat.lt_of_le_of_lt (by assumption) (by decide) | omega) (by decide)).mpr hq9)
        refine lv_aload_n hx hb d_Maker_premise_116 rfl (lv_at hl1 3 rfl) ?_
        refine va_get (D := D) (ci := 3) (v := .ref g0) (C := R_Maker) (T := F_Maker) (N := 5) hx hb hts i_Maker hown hK.1 hP 16 rfl rfl 2 (by decide) (hts _ wd_132) (fun _ h9 => h9) rfl d_Maker_premise_117 ?_
        refine va_get (D := D) (ci := 2) (v := .ref g9) (C := R_Listing) (T := F_Listing) (N := 17) hx hb hts i_Listing hown hK.1 hP 4 rfl rfl 9 (by decide) (hts _ wd_298) (fun _ h9 => h9) rfl d_Maker_premise_120 ?_
        refine lv_iload_n hx hb d_Maker_premise_123 rfl (lv_at hl1 5 rfl) ?_
        refine va_bald hx hb hK.1 hP 13 1 rfl rfl (vp_in_nI (by first | assumption | omega) (by decide)) d_Maker_premise_124 ?_
        refine W.eq (g2 := F0 m 125 ls [.int (nI (nm s9))]) (by rw [nI_clamp (by first | exact Nat.lt_of_lt_of_le (by assumption) (by decide) | exact Nat.lt_of_le_of_lt (by assumption) (by decide) | omega)]) ?_
        refine lv_iconst (v := (-1)) hx hb d_Maker_premise_125 (by decide) ?_
        by_cases hn_64 : nm s9 = 4294967295
        · refine W.eq (g2 := F0 m 126 ls [.int (-1), .int (-1)]) (by rw [hn_64, nIm]) ?_
          refine lv_icmp_ne (tgt := 132) hx hb d_Maker_premise_126 (by decide) (fun c_65 => ?_) (fun c_65 => ?_)
          · first | exact absurd c_65 (by decide) | exact absurd (by decide) c_65
          refine lv_iload hx hb d_Maker_premise_129 (lv_at hl1 0 rfl) ?_
          rw [← hQe]
          refine wk_know (fun hk8 hk9 => ?_)
          refine W.widen (k := MX - cp) (n := 6 * (MX - cp)) (by first | assumption | omega) (by first | assumption | omega) ?_
          obtain ⟨hP9, hD9⟩ := xw_sub2 (wc := (fun (u : Nat → Nat) (xsd : Nat → Int32) (xfo : Nat → Int32) (xfl : Nat → Int32) (xfr : Nat → Int32) => [(c0, .inr (3, [.ref n0, .ref c1, .ref g0, .ref a0, .int s_made])), (c1, .inl (ax 0, 16, .inl xsd)), (n0, .inr (4, [.ref (u 0), .ref (u 1), .ref (u 2), .int (nI (u 3))])), (u 0, .inl (ax 1, u 4, .inl xfo)), (u 1, .inl (ax 0, u 4, .inl xfl)), (u 2, .inl (ax 0, u 4, .inl xfr)), (h0, .inr (4, [.ref h1, .ref h2, .ref h3, .int (nI zs)])), (h1, .inl (ax 1, cs, .inl so)), (h2, .inl (ax 0, cs, .inl sl)), (h3, .inl (ax 0, cs, .inl sr)), (a0, .inr (4, [.ref a1, .ref a2, .ref a3, .int (nI za)])), (a1, .inl (ax 1, ca, .inl ao)), (a2, .inl (ax 0, ca, .inl al)), (a3, .inl (ax 0, ca, .inl ar)), (g0, .inr (2, [.ref h0, .ref g1, .ref g2, .ref g3, .ref g4, .ref g5, .ref g6, .ref g7, .ref g8, .ref g9, .ref ga, .ref gb, .int (nI cl), .int (nI ln), .int (nI br), .int (nI lp), .int (nI va)])), (g1, .inl (ax 1, 20, .inl (fun j => nI (kd j)))), (g2, .inl (ax 1, 20, .inl (fun j => nI (ow j)))), (g3, .inl (ax 1, 20, .inl (fun j => nI (sb j)))), (g4, .inl (ax 1, 20, .inl (fun j => nI (f1 j)))), (g5, .inl (ax 1, 20, .inl (fun j => nI (f2 j)))), (g6, .inl (ax 2, 20, .inl (fun j => nI (te j)))), (g7, .inl (ax 2, 20, .inl (fun j => nI (kp j)))), (g8, .inl (ax 0, 20, .inl tm)), (g9, .inl (ax 1, 20, .inl (fun j => nI (nm j)))), (ga, .inl (ax 1, 29, .inl (fun j => nI (ck j)))), (gb, .inl (ax 1, 29, .inl (fun j => nI (co j))))]) (ixn [(u_44 0), (u_44 1), (u_44 2), ((u_22 3) + 1), (u_44 3), (u_22 3)]) sd x_51 x_52 x_53) hP hD [16, 17, 22, 23, 24, 25, 18, 19, 20, 21, 0, 1, 2, 3, 4, 5, 6, 7, 8, 9, 10, 11, 12, 13, 14, 15] (by decide) rfl
          have hex0 : ndv x_51 x_52 x_53 (((u_22 3) + 1)) := hV_58
          have hex1 : bts x_51 ((u_44 3)) := (by assumption)
          have hex2 : ∀ i, i < z9 → tsn x_51 x_52 x_53 i = tsn fo fl fr i := hK_62
          have hex3 : tsn x_51 x_52 x_53 ((u_22 3)) + z9 ≤ ((u_22 3) + 1) := (by first | assumption | omega)
          have hex4 : ∀ j, j ≤ 10 → trm (sd j) := hsd
          have hex5 : ndl x_51 x_52 x_53 (l0 ++ prF (IT s9) q9) ∧ (l0 ++ prF (IT s9) q9).length = ((u_22 3) + 1) := (by rw [p_b0 hlg hid hs9 (hcq.loop (by first | assumption | omega) (by first | assumption | omega)) (by first | assumption | omega) hn_64]; exact hZ_56)
          have hex6 : ∃ d, cmpl d (prF (IT s9) q9) := (by rw [p_b0 hlg hid hs9 (hcq.loop (by first | assumption | omega) (by first | assumption | omega)) (by first | assumption | omega) hn_64]; exact hY_57)
          have hex7 : sdq sd h9 := hsq
          have hg8 : H_45.size ≤ s.heap.size + ((u_44 3) - cp) := by omega
          have hg9 : tsl H_45 ≤ tsl s.heap + (6 * ((u_44 3) - cp)) := by omega
          have hsp0 : z9 ≤ ((u_22 3) + 1) := (by first | assumption | omega)
          have hsp1 : ((u_22 3) + 1) ≤ (u_44 3) := (by first | assumption | omega)
          have hsp2 : cp ≤ (u_44 3) := (by first | assumption | omega)
          have hsp3 : (u_44 3) ≤ MX := (by first | assumption | omega)
          have hsp4 : dbl cp ((u_44 3)) := ((hs_9.tr hs_29).tr hs_50)
          have hsp5 : (u_22 3) + 1 = ((u_22 3) + 1) := (by first | assumption | omega)
          have hsp6 : ((u_22 3) + 1) ≤ z9 + 460 := (by first | assumption | omega)
          exact W.iret (v := nI (u_22 3)) hx hb hr (fun t ht hW => ⟨⟨nI (u_22 3), ixn [(u_44 0), (u_44 1), (u_44 2), ((u_22 3) + 1), (u_44 3), (u_22 3)], rfl, ⟨rfl, ⟨hsp0, hsp1, hsp2, hsp3, hsp4, hsp5, hsp6⟩⟩, ⟨sd, x_51, x_52, x_53, by rw [ht]; exact hg8, by rw [ht]; exact hg9, hex0, hex1, hex2, hex3, hex4, hex5, hex6, hex7, by rw [ht]; exact hP9, hD9⟩⟩, hS.F ht⟩) hS.2.2 d_Maker_premise_131
        · have hn_64l : nm s9 < 2 ^ 31 := by have h9 := (hnm.resolve_left hn_64).1; omega
          refine lv_icmp_ne (tgt := 132) hx hb d_Maker_premise_126 (by decide) (fun c_66 => ?_) (fun c_66 => ?_)
          rotate_right
          · exact absurd c_66 (nIm1 (by first | assumption | omega))
          obtain ⟨hn10, htm⟩ := hnm.resolve_left hn_64
          have hit := ((hlg.2.2.2 s9 hs9).2.2.2.2.2 (hcq.loop (by first | assumption | omega) (by first | assumption | omega))).2.2.2.2.resolve_left (fun q => hn_64 q.1)
          refine lv_aload_n hx hb d_Maker_premise_132 rfl (lv_at hl1 3 rfl) ?_
          refine va_get (D := D) (ci := 3) (v := .ref n0) (C := R_Maker) (T := F_Maker) (N := 5) hx hb hts i_Maker hown hK.1 hP 16 rfl rfl 0 (by decide) (hts _ wd_129) (fun _ h9 => h9) rfl d_Maker_premise_133 ?_
          refine lv_bipush (v := 7) hx hb d_Maker_premise_136 (by decide) ?_
          refine lv_iload hx hb d_Maker_premise_138 (lv_at hl1 0 rfl) ?_
          refine lv_aload_n hx hb d_Maker_premise_140 rfl (lv_at hl1 3 rfl) ?_
          refine va_get (D := D) (ci := 3) (v := .ref n0) (C := R_Maker) (T := F_Maker) (N := 5) hx hb hts i_Maker hown hK.1 hP 16 rfl rfl 0 (by decide) (hts _ wd_129) (fun _ h9 => h9) rfl d_Maker_premise_141 ?_
          refine lv_iconst (v := 4) hx hb d_Maker_premise_144 (by decide) ?_
          refine lv_aload_n hx hb d_Maker_premise_145 rfl (lv_at hl1 3 rfl) ?_
          refine va_get (D := D) (ci := 3) (v := .ref g0) (C := R_Maker) (T := F_Maker) (N := 5) hx hb hts i_Maker hown hK.1 hP 16 rfl rfl 2 (by decide) (hts _ wd_132) (fun _ h9 => h9) rfl d_Maker_premise_146 ?_
          refine va_get (D := D) (ci := 2) (v := .ref g8) (C := R_Listing) (T := F_Listing) (N := 17) hx hb hts i_Listing hown hK.1 hP 4 rfl rfl 8 (by decide) (hts _ wd_294) (fun _ h9 => h9) rfl d_Maker_premise_149 ?_
          refine lv_iload_n hx hb d_Maker_premise_152 rfl (lv_at hl1 5 rfl) ?_
          refine va_iald hx hb hK.1 hP 12 0 rfl rfl (vp_in_nI (by first | assumption | omega) (by decide)) d_Maker_premise_153 ?_
          refine W.eq (g2 := F0 m 154 ls [.int (tm s9), .int 4, .ref n0, .int (nI (u_22 3)), .int 7, .ref n0]) (by rw [nI_clamp (by first | exact Nat.lt_of_lt_of_le (by assumption) (by decide) | exact Nat.lt_of_le_of_lt (by assumption) (by decide) | omega)]) ?_
          refine lv_aload_n hx hb d_Maker_premise_154 rfl (lv_at hl1 3 rfl) ?_
          refine va_get (D := D) (ci := 3) (v := .ref g0) (C := R_Maker) (T := F_Maker) (N := 5) hx hb hts i_Maker hown hK.1 hP 16 rfl rfl 2 (by decide) (hts _ wd_132) (fun _ h9 => h9) rfl d_Maker_premise_155 ?_
          refine va_get (D := D) (ci := 2) (v := .ref g9) (C := R_Listing) (T := F_Listing) (N := 17) hx hb hts i_Listing hown hK.1 hP 4 rfl rfl 9 (by decide) (hts _ wd_298) (fun _ h9 => h9) rfl d_Maker_premise_158 ?_
          refine lv_iload_n hx hb d_Maker_premise_161 rfl (lv_at hl1 5 rfl) ?_
          refine va_bald hx hb hK.1 hP 13 1 rfl rfl (vp_in_nI (by first | assumption | omega) (by decide)) d_Maker_premise_162 ?_
          refine W.eq (g2 := F0 m 163 ls [.int (nI (nm s9)), .int (tm s9), .int 4, .ref n0, .int (nI (u_22 3)), .int 7, .ref n0]) (by rw [nI_clamp (by first | exact Nat.lt_of_lt_of_le (by assumption) (by decide) | exact Nat.lt_of_le_of_lt (by assumption) (by decide) | omega)]) ?_
          obtain ⟨hPc, hDc, hFc, hCs⟩ := xw_sub3 (wc := [(n0, .inr (4, [.ref (u_44 0), .ref (u_44 1), .ref (u_44 2), .int (nI ((u_22 3) + 1))])), ((u_44 0), .inl (ax 1, u_44 3, .inl x_51)), ((u_44 1), .inl (ax 0, u_44 3, .inl x_52)), ((u_44 2), .inl (ax 0, u_44 3, .inl x_53))]) hP hD hS hA [22, 23, 24, 25] (by decide) rfl
          have hz := xz_of hN hS
          refine wk_know (fun hk8 hk9 => ?_)
          refine va_calli (va_runV (As := [.int 4, .int (tm s9), .int (nI (nm s9))]) (rest := [.int (nI (u_22 3)), .int 7, .ref n0]) ⟨hx, hb, hml, hown, hts⟩ (c_Nodes_add l D ax n0 (u_44 0) (u_44 1) (u_44 2) (u_44 3) ((u_22 3) + 1) x_51 x_52 x_53 MX 4 (tm s9) (nI (nm s9)) H_45.size (tsl H_45) (by first | assumption | omega) (by first | assumption | omega) (by first | assumption | omega) (by first | assumption | omega) (by first | assumption | omega) (by assumption)) (xcV (n := 3) hts wd_350 wd_5 wd_781 wd_348 wd_349 rfl rfl (by decide +kernel) ⟨(show (30) + 1 ≤ (1000) by omega), (show 8 + (4 + 11) + (1200) ≤ (21000) by omega)⟩) (xpV3 (ci := 4) (q0 := 0) (As := [.int 4, .int (tm s9), .int (nI (nm s9))]) hPc hK hz hDc rfl rfl) rfl rfl hl1.1 rfl (lv_room (Nat.le_of_ble_eq_true rfl)) d_Maker_premise_163 ⟨(show (u_2 4 - cp + (u_22 4 - (u_2 4)) + (u_44 3 - (u_22 4))) + (MX - (u_44 3)) ≤ (MX - cp) by omega), (show (6 * (u_2 4 - cp) + (6 * (u_22 4 - (u_2 4))) + (6 * (u_44 3 - (u_22 4)))) + (6 * (MX - (u_44 3))) ≤ (6 * (MX - cp)) by omega)⟩) hS (fun q _ h => hFc q h) hFc (fun r_69 u_67 t H_68 locs ht hvm hw hB hz1 hk1 hS1 => ?_)
          try dsimp only at hw
          obtain ⟨hw, hs_70, hs_71, hs_72, hs_73⟩ := hw
          subst hw
          obtain ⟨x_74, x_75, x_76, hg8, hg9, hx_77, hx_78, hP1, hD1⟩ := hB
          rw [ht] at hg8 hg9 hP1
          have hjn := xw_join3 (wl := [(a0, .inr (4, [.ref a1, .ref a2, .ref a3, .int (nI za)])), (a1, .inl (ax 1, ca, .inl ao)), (a2, .inl (ax 0, ca, .inl al)), (a3, .inl (ax 0, ca, .inl ar)), (g0, .inr (2, [.ref h0, .ref g1, .ref g2, .ref g3, .ref g4, .ref g5, .ref g6, .ref g7, .ref g8, .ref g9, .ref ga, .ref gb, .int (nI cl), .int (nI ln), .int (nI br), .int (nI lp), .int (nI va)])), (g1, .inl (ax 1, 20, .inl (fun j => nI (kd j)))), (g2, .inl (ax 1, 20, .inl (fun j => nI (ow j)))), (g3, .inl (ax 1, 20, .inl (fun j => nI (sb j)))), (g4, .inl (ax 1, 20, .inl (fun j => nI (f1 j)))), (g5, .inl (ax 1, 20, .inl (fun j => nI (f2 j)))), (g6, .inl (ax 2, 20, .inl (fun j => nI (te j)))), (g7, .inl (ax 2, 20, .inl (fun j => nI (kp j)))), (g8, .inl (ax 0, 20, .inl tm)), (g9, .inl (ax 1, 20, .inl (fun j => nI (nm j)))), (ga, .inl (ax 1, 29, .inl (fun j => nI (ck j)))), (gb, .inl (ax 1, 29, .inl (fun j => nI (co j)))), (c0, .inr (3, [.ref n0, .ref c1, .ref g0, .ref a0, .int s_made])), (c1, .inl (ax 0, 16, .inl sd)), (h0, .inr (4, [.ref h1, .ref h2, .ref h3, .int (nI zs)])), (h1, .inl (ax 1, cs, .inl so)), (h2, .inl (ax 0, cs, .inl sl)), (h3, .inl (ax 0, cs, .inl sr)), (n0, .inr (4, [.ref (u_67 0), .ref (u_67 1), .ref (u_67 2), .int (nI (((u_22 3) + 1) + 1))])), ((u_67 0), .inl (ax 1, u_67 3, .inl x_74)), ((u_67 1), .inl (ax 0, u_67 3, .inl x_75)), ((u_67 2), .inl (ax 0, u_67 3, .inl x_76))]) hP hD [22, 23, 24, 25] [0, 1, 2, 3, 4, 5, 6, 7, 8, 9, 10, 11, 12, 13, 14, 15, 16, 17, 18, 19, 20, 21] hCs (by decide) (by decide) hk1 hFc hP1 hD1 rfl
          clear hP1 hD1
          clear hPc hDc hFc hCs hz hz1 hk1 ht hvm
          clear hP hD hS
          have hS := hS1
          obtain ⟨hP, hD⟩ := hjn
          clear hS1
          refine wk_narrow (k := u_2 4 - cp + (u_22 4 - (u_2 4)) + (u_44 3 - (u_22 4)) + (u_67 3 - (u_44 3))) (n := 6 * (u_2 4 - cp) + (6 * (u_22 4 - (u_2 4))) + (6 * (u_44 3 - (u_22 4))) + (6 * (u_67 3 - (u_44 3)))) (by first | assumption | omega) (by first | assumption | omega) ?_
          clear hk8 hk9 hg8 hg9
          have hZ_79 : ndl x_74 x_75 x_76 ((l0 ++ (ptL h9 (sub9 lz9 (kp s9)) ++ ptL h9 (sub9 lz9 (te s9)) ++ [opS 2])) ++ [(4, (IT s9).2.2.2.1, (nm s9, 0))]) ∧ ((l0 ++ (ptL h9 (sub9 lz9 (kp s9)) ++ ptL h9 (sub9 lz9 (te s9)) ++ [opS 2])) ++ [(4, (IT s9).2.2.2.1, (nm s9, 0))]).length = ((u_22 3) + 1) + 1 := atm_q (s := (4, (IT s9).2.2.2.1, (nm s9, 0))) hZ_56 (show (4 : Nat) < 6 by decide) hx_77 hit.2.2.2.1 tmI_z.symm
          have hY_80 : ∃ d, cmpl d ([(4, (IT s9).2.2.2.1, (nm s9, 0))]) := cmx_a (s := (4, (IT s9).2.2.2.1, (nm s9, 0))) (show (4 : Nat) < 6 by decide)
          have hV_81 : ndv x_74 x_75 x_76 (((u_22 3) + 1) + 1) := hV_58.add hx_77 (nd_atom (o := 4) (by decide) htm (trm_nm (by first | assumption | omega)))
          have hT_82 : tsn x_74 x_75 x_76 ((u_22 3) + 1) = 1 := nad.atom (o := 4) (by decide) hx_77
          have hG_83 : ∀ i, i < (u_22 3) + 1 → tsn x_74 x_75 x_76 i = tsn x_51 x_52 x_53 i := fun i hi => nad.keep (by first | assumption | omega) hV_58 hx_77 hi
          have hB_84 : tsn x_74 x_75 x_76 ((u_22 3) + 1) + ((u_22 3) + 1) ≤ (((u_22 3) + 1) + 1) := by omega
          have hK_85 : ∀ i, i < z9 → tsn x_74 x_75 x_76 i = tsn fo fl fr i := fun i hi => (hG_83 i (by first | assumption | omega)).trans (hK_62 i hi)
          have hS_86 : tsn x_74 x_75 x_76 (u_22 3) + z9 ≤ ((u_22 3) + 1) := by rw [hG_83 (u_22 3) (by first | assumption | omega)]; exact hB_61
          obtain ⟨hPc, hDc, hFc, hCs⟩ := xw_sub3 (wc := [(n0, .inr (4, [.ref (u_67 0), .ref (u_67 1), .ref (u_67 2), .int (nI (((u_22 3) + 1) + 1))])), ((u_67 0), .inl (ax 1, u_67 3, .inl x_74)), ((u_67 1), .inl (ax 0, u_67 3, .inl x_75)), ((u_67 2), .inl (ax 0, u_67 3, .inl x_76))]) hP hD hS hA [22, 23, 24, 25] (by decide) rfl
          have hz := xz_of hN hS
          refine wk_know (fun hk8 hk9 => ?_)
          refine va_calli (va_runV (As := [.int 7, .int (nI (u_22 3)), .int (nI ((u_22 3) + 1))]) (rest := []) ⟨hx, hb, hml, hown, hts⟩ (c_Nodes_add l D ax n0 (u_67 0) (u_67 1) (u_67 2) (u_67 3) (((u_22 3) + 1) + 1) x_74 x_75 x_76 MX 7 (nI (u_22 3)) (nI ((u_22 3) + 1)) H_68.size (tsl H_68) (by first | assumption | omega) (by first | assumption | omega) (by first | assumption | omega) (by first | assumption | omega) (by first | assumption | omega) (by assumption)) (xcV (n := 3) hts wd_350 wd_5 wd_781 wd_348 wd_349 rfl rfl (by decide +kernel) ⟨(show (30) + 1 ≤ (1000) by omega), (show 8 + (4 + 11) + (1200) ≤ (21000) by omega)⟩) (xpV3 (ci := 4) (q0 := 0) (As := [.int 7, .int (nI (u_22 3)), .int (nI ((u_22 3) + 1))]) hPc hK hz hDc rfl rfl) rfl rfl hl1.1 rfl (lv_room (Nat.le_of_ble_eq_true rfl)) d_Maker_premise_166 ⟨(show (u_2 4 - cp + (u_22 4 - (u_2 4)) + (u_44 3 - (u_22 4)) + (u_67 3 - (u_44 3))) + (MX - (u_67 3)) ≤ (MX - cp) by omega), (show (6 * (u_2 4 - cp) + (6 * (u_22 4 - (u_2 4))) + (6 * (u_44 3 - (u_22 4))) + (6 * (u_67 3 - (u_44 3)))) + (6 * (MX - (u_67 3))) ≤ (6 * (MX - cp)) by omega)⟩) hS (fun q _ h => hFc q h) hFc (fun r_89 u_87 t H_88 locs ht hvm hw hB hz1 hk1 hS1 => ?_)
          try dsimp only at hw
          obtain ⟨hw, hs_90, hs_91, hs_92, hs_93⟩ := hw
          subst hw
          obtain ⟨x_94, x_95, x_96, hg8, hg9, hx_97, hx_98, hP1, hD1⟩ := hB
          rw [ht] at hg8 hg9 hP1
          have hjn := xw_join3 (wl := [(a0, .inr (4, [.ref a1, .ref a2, .ref a3, .int (nI za)])), (a1, .inl (ax 1, ca, .inl ao)), (a2, .inl (ax 0, ca, .inl al)), (a3, .inl (ax 0, ca, .inl ar)), (g0, .inr (2, [.ref h0, .ref g1, .ref g2, .ref g3, .ref g4, .ref g5, .ref g6, .ref g7, .ref g8, .ref g9, .ref ga, .ref gb, .int (nI cl), .int (nI ln), .int (nI br), .int (nI lp), .int (nI va)])), (g1, .inl (ax 1, 20, .inl (fun j => nI (kd j)))), (g2, .inl (ax 1, 20, .inl (fun j => nI (ow j)))), (g3, .inl (ax 1, 20, .inl (fun j => nI (sb j)))), (g4, .inl (ax 1, 20, .inl (fun j => nI (f1 j)))), (g5, .inl (ax 1, 20, .inl (fun j => nI (f2 j)))), (g6, .inl (ax 2, 20, .inl (fun j => nI (te j)))), (g7, .inl (ax 2, 20, .inl (fun j => nI (kp j)))), (g8, .inl (ax 0, 20, .inl tm)), (g9, .inl (ax 1, 20, .inl (fun j => nI (nm j)))), (ga, .inl (ax 1, 29, .inl (fun j => nI (ck j)))), (gb, .inl (ax 1, 29, .inl (fun j => nI (co j)))), (c0, .inr (3, [.ref n0, .ref c1, .ref g0, .ref a0, .int s_made])), (c1, .inl (ax 0, 16, .inl sd)), (h0, .inr (4, [.ref h1, .ref h2, .ref h3, .int (nI zs)])), (h1, .inl (ax 1, cs, .inl so)), (h2, .inl (ax 0, cs, .inl sl)), (h3, .inl (ax 0, cs, .inl sr)), (n0, .inr (4, [.ref (u_87 0), .ref (u_87 1), .ref (u_87 2), .int (nI ((((u_22 3) + 1) + 1) + 1))])), ((u_87 0), .inl (ax 1, u_87 3, .inl x_94)), ((u_87 1), .inl (ax 0, u_87 3, .inl x_95)), ((u_87 2), .inl (ax 0, u_87 3, .inl x_96))]) hP hD [22, 23, 24, 25] [0, 1, 2, 3, 4, 5, 6, 7, 8, 9, 10, 11, 12, 13, 14, 15, 16, 17, 18, 19, 20, 21] hCs (by decide) (by decide) hk1 hFc hP1 hD1 rfl
          clear hP1 hD1
          clear hPc hDc hFc hCs hz hz1 hk1 ht hvm
          clear hP hD hS
          have hS := hS1
          obtain ⟨hP, hD⟩ := hjn
          clear hS1
          refine wk_narrow (k := u_2 4 - cp + (u_22 4 - (u_2 4)) + (u_44 3 - (u_22 4)) + (u_67 3 - (u_44 3)) + (u_87 3 - (u_67 3))) (n := 6 * (u_2 4 - cp) + (6 * (u_22 4 - (u_2 4))) + (6 * (u_44 3 - (u_22 4))) + (6 * (u_67 3 - (u_44 3))) + (6 * (u_87 3 - (u_67 3)))) (by first | assumption | omega) (by first | assumption | omega) ?_
          clear hk8 hk9 hg8 hg9
          have hZ_99 : ndl x_94 x_95 x_96 (l0 ++ ((ptL h9 (sub9 lz9 (kp s9)) ++ ptL h9 (sub9 lz9 (te s9)) ++ [opS 2]) ++ [(4, (IT s9).2.2.2.1, (nm s9, 0))] ++ [opS 2])) ∧ (l0 ++ ((ptL h9 (sub9 lz9 (kp s9)) ++ ptL h9 (sub9 lz9 (te s9)) ++ [opS 2]) ++ [(4, (IT s9).2.2.2.1, (nm s9, 0))] ++ [opS 2])).length = (((u_22 3) + 1) + 1) + 1 := bin_q (o := 2) (by decide) hZ_56.2 hZ_79 hY_80 (by first | assumption | omega) (by first | assumption | omega) hx_97
          have hY_100 : ∃ d, cmpl d (((ptL h9 (sub9 lz9 (kp s9)) ++ ptL h9 (sub9 lz9 (te s9)) ++ [opS 2]) ++ [(4, (IT s9).2.2.2.1, (nm s9, 0))] ++ [opS 2])) := cmx_b (by decide) hY_57 hY_80
          have hV_101 : ndv x_94 x_95 x_96 ((((u_22 3) + 1) + 1) + 1) := hV_81.add hx_97 (nd_bin (o := 7) (by decide) (by first | assumption | omega) (by first | assumption | omega))
          have hT_102 : tsn x_94 x_95 x_96 (((u_22 3) + 1) + 1) = 1 + tsn x_74 x_75 x_76 (u_22 3) + tsn x_74 x_75 x_76 ((u_22 3) + 1) := nad.bin (o := 7) (by first | assumption | omega) hV_81 (by decide) (by first | assumption | omega) (by first | assumption | omega) hx_97
          have hG_103 : ∀ i, i < ((u_22 3) + 1) + 1 → tsn x_94 x_95 x_96 i = tsn x_74 x_75 x_76 i := fun i hi => nad.keep (by first | assumption | omega) hV_81 hx_97 hi
          have hB_104 : tsn x_94 x_95 x_96 (((u_22 3) + 1) + 1) + z9 ≤ ((((u_22 3) + 1) + 1) + 1) := by omega
          have hK_105 : ∀ i, i < z9 → tsn x_94 x_95 x_96 i = tsn fo fl fr i := fun i hi => (hG_103 i (by first | assumption | omega)).trans (hK_85 i hi)
          rw [← hQe]
          refine wk_know (fun hk8 hk9 => ?_)
          refine W.widen (k := MX - cp) (n := 6 * (MX - cp)) (by first | assumption | omega) (by first | assumption | omega) ?_
          obtain ⟨hP9, hD9⟩ := xw_sub2 (wc := (fun (u : Nat → Nat) (xsd : Nat → Int32) (xfo : Nat → Int32) (xfl : Nat → Int32) (xfr : Nat → Int32) => [(c0, .inr (3, [.ref n0, .ref c1, .ref g0, .ref a0, .int s_made])), (c1, .inl (ax 0, 16, .inl xsd)), (n0, .inr (4, [.ref (u 0), .ref (u 1), .ref (u 2), .int (nI (u 3))])), (u 0, .inl (ax 1, u 4, .inl xfo)), (u 1, .inl (ax 0, u 4, .inl xfl)), (u 2, .inl (ax 0, u 4, .inl xfr)), (h0, .inr (4, [.ref h1, .ref h2, .ref h3, .int (nI zs)])), (h1, .inl (ax 1, cs, .inl so)), (h2, .inl (ax 0, cs, .inl sl)), (h3, .inl (ax 0, cs, .inl sr)), (a0, .inr (4, [.ref a1, .ref a2, .ref a3, .int (nI za)])), (a1, .inl (ax 1, ca, .inl ao)), (a2, .inl (ax 0, ca, .inl al)), (a3, .inl (ax 0, ca, .inl ar)), (g0, .inr (2, [.ref h0, .ref g1, .ref g2, .ref g3, .ref g4, .ref g5, .ref g6, .ref g7, .ref g8, .ref g9, .ref ga, .ref gb, .int (nI cl), .int (nI ln), .int (nI br), .int (nI lp), .int (nI va)])), (g1, .inl (ax 1, 20, .inl (fun j => nI (kd j)))), (g2, .inl (ax 1, 20, .inl (fun j => nI (ow j)))), (g3, .inl (ax 1, 20, .inl (fun j => nI (sb j)))), (g4, .inl (ax 1, 20, .inl (fun j => nI (f1 j)))), (g5, .inl (ax 1, 20, .inl (fun j => nI (f2 j)))), (g6, .inl (ax 2, 20, .inl (fun j => nI (te j)))), (g7, .inl (ax 2, 20, .inl (fun j => nI (kp j)))), (g8, .inl (ax 0, 20, .inl tm)), (g9, .inl (ax 1, 20, .inl (fun j => nI (nm j)))), (ga, .inl (ax 1, 29, .inl (fun j => nI (ck j)))), (gb, .inl (ax 1, 29, .inl (fun j => nI (co j))))]) (ixn [(u_87 0), (u_87 1), (u_87 2), ((((u_22 3) + 1) + 1) + 1), (u_87 3), (((u_22 3) + 1) + 1)]) sd x_94 x_95 x_96) hP hD [16, 17, 22, 23, 24, 25, 18, 19, 20, 21, 0, 1, 2, 3, 4, 5, 6, 7, 8, 9, 10, 11, 12, 13, 14, 15] (by decide) rfl
          have hex0 : ndv x_94 x_95 x_96 (((((u_22 3) + 1) + 1) + 1)) := hV_101
          have hex1 : bts x_94 ((u_87 3)) := (by assumption)
          have hex2 : ∀ i, i < z9 → tsn x_94 x_95 x_96 i = tsn fo fl fr i := hK_105
          have hex3 : tsn x_94 x_95 x_96 ((((u_22 3) + 1) + 1)) + z9 ≤ ((((u_22 3) + 1) + 1) + 1) := (by first | assumption | omega)
          have hex4 : ∀ j, j ≤ 10 → trm (sd j) := hsd
          have hex5 : ndl x_94 x_95 x_96 (l0 ++ prF (IT s9) q9) ∧ (l0 ++ prF (IT s9) q9).length = ((((u_22 3) + 1) + 1) + 1) := (by rw [p_b1 hlg hid hs9 (hcq.loop (by first | assumption | omega) (by first | assumption | omega)) (by first | assumption | omega) hn_64]; exact hZ_99)
          have hex6 : ∃ d, cmpl d (prF (IT s9) q9) := (by rw [p_b1 hlg hid hs9 (hcq.loop (by first | assumption | omega) (by first | assumption | omega)) (by first | assumption | omega) hn_64]; exact hY_100)
          have hex7 : sdq sd h9 := hsq
          have hg8 : H_88.size ≤ s.heap.size + ((u_87 3) - cp) := by omega
          have hg9 : tsl H_88 ≤ tsl s.heap + (6 * ((u_87 3) - cp)) := by omega
          have hsp0 : z9 ≤ ((((u_22 3) + 1) + 1) + 1) := (by first | assumption | omega)
          have hsp1 : ((((u_22 3) + 1) + 1) + 1) ≤ (u_87 3) := (by first | assumption | omega)
          have hsp2 : cp ≤ (u_87 3) := (by first | assumption | omega)
          have hsp3 : (u_87 3) ≤ MX := (by first | assumption | omega)
          have hsp4 : dbl cp ((u_87 3)) := ((((hs_9.tr hs_29).tr hs_50).tr hs_73).tr hs_93)
          have hsp5 : (((u_22 3) + 1) + 1) + 1 = ((((u_22 3) + 1) + 1) + 1) := (by first | assumption | omega)
          have hsp6 : ((((u_22 3) + 1) + 1) + 1) ≤ z9 + 460 := (by first | assumption | omega)
          exact W.iret (v := nI (((u_22 3) + 1) + 1)) hx hb hr (fun t ht hW => ⟨⟨nI (((u_22 3) + 1) + 1), ixn [(u_87 0), (u_87 1), (u_87 2), ((((u_22 3) + 1) + 1) + 1), (u_87 3), (((u_22 3) + 1) + 1)], rfl, ⟨rfl, ⟨hsp0, hsp1, hsp2, hsp3, hsp4, hsp5, hsp6⟩⟩, ⟨sd, x_94, x_95, x_96, by rw [ht]; exact hg8, by rw [ht]; exact hg9, hex0, hex1, hex2, hex3, hex4, hex5, hex6, hex7, by rw [ht]; exact hP9, hD9⟩⟩, hS.F ht⟩) hS.2.2 d_Maker_premise_169
    · replace c_43 : q9 = 2 := (nI_eq (a := q9) (b := 2) (by first | exact Nat.lt_of_lt_of_le (by assumption) (by decide) | exact Nat.lt_of_le_of_lt (by assumption) (by decide) | omega) (by decide)).mp c_43
      refine lv_aload_n hx hb d_Maker_premise_74 rfl (lv_at hl1 2 rfl) ?_
      refine va_get (D := D) (ci := 3) (v := .ref n0) (C := R_Maker) (T := F_Maker) (N := 5) hx hb hts i_Maker hown hK.1 hP 16 rfl rfl 0 (by decide) (hts _ wd_129) (fun _ h9 => h9) rfl d_Maker_premise_75 ?_
      refine lv_bipush (v := 7) hx hb d_Maker_premise_78 (by decide) ?_
      refine lv_iload_n hx hb d_Maker_premise_80 rfl (lv_at hl1 1 rfl) ?_
      refine lv_aload_n hx hb d_Maker_premise_81 rfl (lv_at hl1 2 rfl) ?_
      refine va_get (D := D) (ci := 3) (v := .ref n0) (C := R_Maker) (T := F_Maker) (N := 5) hx hb hts i_Maker hown hK.1 hP 16 rfl rfl 0 (by decide) (hts _ wd_129) (fun _ h9 => h9) rfl d_Maker_premise_82 ?_
      refine lv_bipush (v := 6) hx hb d_Maker_premise_85 (by decide) ?_
      refine lv_iload hx hb d_Maker_premise_87 (lv_at hl1 0 rfl) ?_
      refine lv_iconst (v := (-1)) hx hb d_Maker_premise_89 (by decide) ?_
      obtain ⟨hPc, hDc, hFc, hCs⟩ := xw_sub3 (wc := [(n0, .inr (4, [.ref (u_22 0), .ref (u_22 1), .ref (u_22 2), .int (nI (u_22 3))])), ((u_22 0), .inl (ax 1, u_22 4, .inl x_32)), ((u_22 1), .inl (ax 0, u_22 4, .inl x_33)), ((u_22 2), .inl (ax 0, u_22 4, .inl x_34))]) hP hD hS hA [18, 19, 20, 21] (by decide) rfl
      have hz := xz_of hN hS
      refine wk_know (fun hk8 hk9 => ?_)
      refine va_calli (va_runV (As := [.int 6, .int (nI (u_22 5)), .int (-1)]) (rest := [.int (nI (u_2 5)), .int 7, .ref n0]) ⟨hx, hb, hml, hown, hts⟩ (c_Nodes_add l D ax n0 (u_22 0) (u_22 1) (u_22 2) (u_22 4) (u_22 3) x_32 x_33 x_34 MX 6 (nI (u_22 5)) (-1) H_23.size (tsl H_23) (by first | assumption | omega) (by first | assumption | omega) (by first | assumption | omega) (by first | assumption | omega) (by first | assumption | omega) (by assumption)) (xcV (n := 3) hts wd_350 wd_5 wd_781 wd_348 wd_349 rfl rfl (by decide +kernel) ⟨(show (30) + 1 ≤ (1000) by omega), (show 8 + (4 + 11) + (1200) ≤ (21000) by omega)⟩) (xpV3 (ci := 4) (q0 := 0) (As := [.int 6, .int (nI (u_22 5)), .int (-1)]) hPc hK hz hDc rfl rfl) rfl rfl hl1.1 rfl (lv_room (Nat.le_of_ble_eq_true rfl)) d_Maker_premise_90 ⟨(show (u_2 4 - cp + (u_22 4 - (u_2 4))) + (MX - (u_22 4)) ≤ (MX - cp) by omega), (show (6 * (u_2 4 - cp) + (6 * (u_22 4 - (u_2 4)))) + (6 * (MX - (u_22 4))) ≤ (6 * (MX - cp)) by omega)⟩) hS (fun q _ h => hFc q h) hFc (fun r_108 u_106 t H_107 locs ht hvm hw hB hz1 hk1 hS1 => ?_)
      try dsimp only at hw
      obtain ⟨hw, hs_109, hs_110, hs_111, hs_112⟩ := hw
      subst hw
      obtain ⟨x_113, x_114, x_115, hg8, hg9, hx_116, hx_117, hP1, hD1⟩ := hB
      rw [ht] at hg8 hg9 hP1
      have hjn := xw_join3 (wl := [(a0, .inr (4, [.ref a1, .ref a2, .ref a3, .int (nI za)])), (a1, .inl (ax 1, ca, .inl ao)), (a2, .inl (ax 0, ca, .inl al)), (a3, .inl (ax 0, ca, .inl ar)), (g0, .inr (2, [.ref h0, .ref g1, .ref g2, .ref g3, .ref g4, .ref g5, .ref g6, .ref g7, .ref g8, .ref g9, .ref ga, .ref gb, .int (nI cl), .int (nI ln), .int (nI br), .int (nI lp), .int (nI va)])), (g1, .inl (ax 1, 20, .inl (fun j => nI (kd j)))), (g2, .inl (ax 1, 20, .inl (fun j => nI (ow j)))), (g3, .inl (ax 1, 20, .inl (fun j => nI (sb j)))), (g4, .inl (ax 1, 20, .inl (fun j => nI (f1 j)))), (g5, .inl (ax 1, 20, .inl (fun j => nI (f2 j)))), (g6, .inl (ax 2, 20, .inl (fun j => nI (te j)))), (g7, .inl (ax 2, 20, .inl (fun j => nI (kp j)))), (g8, .inl (ax 0, 20, .inl tm)), (g9, .inl (ax 1, 20, .inl (fun j => nI (nm j)))), (ga, .inl (ax 1, 29, .inl (fun j => nI (ck j)))), (gb, .inl (ax 1, 29, .inl (fun j => nI (co j)))), (c0, .inr (3, [.ref n0, .ref c1, .ref g0, .ref a0, .int s_made])), (c1, .inl (ax 0, 16, .inl sd)), (h0, .inr (4, [.ref h1, .ref h2, .ref h3, .int (nI zs)])), (h1, .inl (ax 1, cs, .inl so)), (h2, .inl (ax 0, cs, .inl sl)), (h3, .inl (ax 0, cs, .inl sr)), (n0, .inr (4, [.ref (u_106 0), .ref (u_106 1), .ref (u_106 2), .int (nI ((u_22 3) + 1))])), ((u_106 0), .inl (ax 1, u_106 3, .inl x_113)), ((u_106 1), .inl (ax 0, u_106 3, .inl x_114)), ((u_106 2), .inl (ax 0, u_106 3, .inl x_115))]) hP hD [18, 19, 20, 21] [0, 1, 2, 3, 4, 5, 6, 7, 8, 9, 10, 11, 12, 13, 14, 15, 16, 17, 22, 23, 24, 25] hCs (by decide) (by decide) hk1 hFc hP1 hD1 rfl
      clear hP1 hD1
      clear hPc hDc hFc hCs hz hz1 hk1 ht hvm
      clear hP hD hS
      have hS := hS1
      obtain ⟨hP, hD⟩ := hjn
      clear hS1
      refine wk_narrow (k := u_2 4 - cp + (u_22 4 - (u_2 4)) + (u_106 3 - (u_22 4))) (n := 6 * (u_2 4 - cp) + (6 * (u_22 4 - (u_2 4))) + (6 * (u_106 3 - (u_22 4)))) (by first | assumption | omega) (by first | assumption | omega) ?_
      clear hk8 hk9 hg8 hg9
      have hZ_118 : ndl x_113 x_114 x_115 ((l0 ++ ptL h9 (sub9 lz9 (kp s9))) ++ (ptL h9 (sub9 lz9 (te s9)) ++ [opS 1])) ∧ ((l0 ++ ptL h9 (sub9 lz9 (kp s9))) ++ (ptL h9 (sub9 lz9 (te s9)) ++ [opS 1])).length = (u_22 3) + 1 := not_q hx_39 (by first | assumption | omega) hx_116
      have hY_119 : ∃ d, cmpl d ((ptL h9 (sub9 lz9 (te s9)) ++ [opS 1])) := cmx_n ⟨_, hx_40⟩
      have hV_120 : ndv x_113 x_114 x_115 ((u_22 3) + 1) := hx_35.add hx_116 (nd_not (by first | assumption | omega))
      have hT_121 : tsn x_113 x_114 x_115 (u_22 3) = 1 + tsn x_32 x_33 x_34 (u_22 5) := nad.not (by first | assumption | omega) hx_35 (by first | assumption | omega) hx_116
      have hG_122 : ∀ i, i < u_22 3 → tsn x_113 x_114 x_115 i = tsn x_32 x_33 x_34 i := fun i hi => nad.keep (by first | assumption | omega) hx_35 hx_116 hi
      have hB_123 : tsn x_113 x_114 x_115 (u_22 3) + (u_2 3) ≤ ((u_22 3) + 1) := by omega
      have hK_124 : ∀ i, i < z9 → tsn x_113 x_114 x_115 i = tsn fo fl fr i := fun i hi => (hG_122 i (by first | assumption | omega)).trans (hK_41 i hi)
      have hS_125 : tsn x_113 x_114 x_115 (u_2 5) + z9 ≤ (u_2 3) := by rw [hG_122 (u_2 5) (by first | assumption | omega)]; exact hS_42
      obtain ⟨hPc, hDc, hFc, hCs⟩ := xw_sub3 (wc := [(n0, .inr (4, [.ref (u_106 0), .ref (u_106 1), .ref (u_106 2), .int (nI ((u_22 3) + 1))])), ((u_106 0), .inl (ax 1, u_106 3, .inl x_113)), ((u_106 1), .inl (ax 0, u_106 3, .inl x_114)), ((u_106 2), .inl (ax 0, u_106 3, .inl x_115))]) hP hD hS hA [22, 23, 24, 25] (by decide) rfl
      have hz := xz_of hN hS
      refine wk_know (fun hk8 hk9 => ?_)
      refine va_calli (va_runV (As := [.int 7, .int (nI (u_2 5)), .int (nI (u_22 3))]) (rest := []) ⟨hx, hb, hml, hown, hts⟩ (c_Nodes_add l D ax n0 (u_106 0) (u_106 1) (u_106 2) (u_106 3) ((u_22 3) + 1) x_113 x_114 x_115 MX 7 (nI (u_2 5)) (nI (u_22 3)) H_107.size (tsl H_107) (by first | assumption | omega) (by first | assumption | omega) (by first | assumption | omega) (by first | assumption | omega) (by first | assumption | omega) (by assumption)) (xcV (n := 3) hts wd_350 wd_5 wd_781 wd_348 wd_349 rfl rfl (by decide +kernel) ⟨(show (30) + 1 ≤ (1000) by omega), (show 8 + (4 + 11) + (1200) ≤ (21000) by omega)⟩) (xpV3 (ci := 4) (q0 := 0) (As := [.int 7, .int (nI (u_2 5)), .int (nI (u_22 3))]) hPc hK hz hDc rfl rfl) rfl rfl hl1.1 rfl (lv_room (Nat.le_of_ble_eq_true rfl)) d_Maker_premise_93 ⟨(show (u_2 4 - cp + (u_22 4 - (u_2 4)) + (u_106 3 - (u_22 4))) + (MX - (u_106 3)) ≤ (MX - cp) by omega), (show (6 * (u_2 4 - cp) + (6 * (u_22 4 - (u_2 4))) + (6 * (u_106 3 - (u_22 4)))) + (6 * (MX - (u_106 3))) ≤ (6 * (MX - cp)) by omega)⟩) hS (fun q _ h => hFc q h) hFc (fun r_128 u_126 t H_127 locs ht hvm hw hB hz1 hk1 hS1 => ?_)
      try dsimp only at hw
      obtain ⟨hw, hs_129, hs_130, hs_131, hs_132⟩ := hw
      subst hw
      obtain ⟨x_133, x_134, x_135, hg8, hg9, hx_136, hx_137, hP1, hD1⟩ := hB
      rw [ht] at hg8 hg9 hP1
      have hjn := xw_join3 (wl := [(a0, .inr (4, [.ref a1, .ref a2, .ref a3, .int (nI za)])), (a1, .inl (ax 1, ca, .inl ao)), (a2, .inl (ax 0, ca, .inl al)), (a3, .inl (ax 0, ca, .inl ar)), (g0, .inr (2, [.ref h0, .ref g1, .ref g2, .ref g3, .ref g4, .ref g5, .ref g6, .ref g7, .ref g8, .ref g9, .ref ga, .ref gb, .int (nI cl), .int (nI ln), .int (nI br), .int (nI lp), .int (nI va)])), (g1, .inl (ax 1, 20, .inl (fun j => nI (kd j)))), (g2, .inl (ax 1, 20, .inl (fun j => nI (ow j)))), (g3, .inl (ax 1, 20, .inl (fun j => nI (sb j)))), (g4, .inl (ax 1, 20, .inl (fun j => nI (f1 j)))), (g5, .inl (ax 1, 20, .inl (fun j => nI (f2 j)))), (g6, .inl (ax 2, 20, .inl (fun j => nI (te j)))), (g7, .inl (ax 2, 20, .inl (fun j => nI (kp j)))), (g8, .inl (ax 0, 20, .inl tm)), (g9, .inl (ax 1, 20, .inl (fun j => nI (nm j)))), (ga, .inl (ax 1, 29, .inl (fun j => nI (ck j)))), (gb, .inl (ax 1, 29, .inl (fun j => nI (co j)))), (c0, .inr (3, [.ref n0, .ref c1, .ref g0, .ref a0, .int s_made])), (c1, .inl (ax 0, 16, .inl sd)), (h0, .inr (4, [.ref h1, .ref h2, .ref h3, .int (nI zs)])), (h1, .inl (ax 1, cs, .inl so)), (h2, .inl (ax 0, cs, .inl sl)), (h3, .inl (ax 0, cs, .inl sr)), (n0, .inr (4, [.ref (u_126 0), .ref (u_126 1), .ref (u_126 2), .int (nI (((u_22 3) + 1) + 1))])), ((u_126 0), .inl (ax 1, u_126 3, .inl x_133)), ((u_126 1), .inl (ax 0, u_126 3, .inl x_134)), ((u_126 2), .inl (ax 0, u_126 3, .inl x_135))]) hP hD [22, 23, 24, 25] [0, 1, 2, 3, 4, 5, 6, 7, 8, 9, 10, 11, 12, 13, 14, 15, 16, 17, 18, 19, 20, 21] hCs (by decide) (by decide) hk1 hFc hP1 hD1 rfl
      clear hP1 hD1
      clear hPc hDc hFc hCs hz hz1 hk1 ht hvm
      clear hP hD hS
      have hS := hS1
      obtain ⟨hP, hD⟩ := hjn
      clear hS1
      refine wk_narrow (k := u_2 4 - cp + (u_22 4 - (u_2 4)) + (u_106 3 - (u_22 4)) + (u_126 3 - (u_106 3))) (n := 6 * (u_2 4 - cp) + (6 * (u_22 4 - (u_2 4))) + (6 * (u_106 3 - (u_22 4))) + (6 * (u_126 3 - (u_106 3)))) (by first | assumption | omega) (by first | assumption | omega) ?_
      clear hk8 hk9 hg8 hg9
      have hZ_138 : ndl x_133 x_134 x_135 (l0 ++ (ptL h9 (sub9 lz9 (kp s9)) ++ (ptL h9 (sub9 lz9 (te s9)) ++ [opS 1]) ++ [opS 2])) ∧ (l0 ++ (ptL h9 (sub9 lz9 (kp s9)) ++ (ptL h9 (sub9 lz9 (te s9)) ++ [opS 1]) ++ [opS 2])).length = ((u_22 3) + 1) + 1 := bin_q (o := 2) (by decide) hx_19.2 hZ_118 hY_119 (by first | assumption | omega) (by first | assumption | omega) hx_136
      have hY_139 : ∃ d, cmpl d ((ptL h9 (sub9 lz9 (kp s9)) ++ (ptL h9 (sub9 lz9 (te s9)) ++ [opS 1]) ++ [opS 2])) := cmx_b (by decide) ⟨_, hx_20⟩ hY_119
      have hV_140 : ndv x_133 x_134 x_135 (((u_22 3) + 1) + 1) := hV_120.add hx_136 (nd_bin (o := 7) (by decide) (by first | assumption | omega) (by first | assumption | omega))
      have hT_141 : tsn x_133 x_134 x_135 ((u_22 3) + 1) = 1 + tsn x_113 x_114 x_115 (u_2 5) + tsn x_113 x_114 x_115 (u_22 3) := nad.bin (o := 7) (by first | assumption | omega) hV_120 (by decide) (by first | assumption | omega) (by first | assumption | omega) hx_136
      have hG_142 : ∀ i, i < (u_22 3) + 1 → tsn x_133 x_134 x_135 i = tsn x_113 x_114 x_115 i := fun i hi => nad.keep (by first | assumption | omega) hV_120 hx_136 hi
      have hB_143 : tsn x_133 x_134 x_135 ((u_22 3) + 1) + z9 ≤ (((u_22 3) + 1) + 1) := by omega
      have hK_144 : ∀ i, i < z9 → tsn x_133 x_134 x_135 i = tsn fo fl fr i := fun i hi => (hG_142 i (by first | assumption | omega)).trans (hK_124 i hi)
      rw [← hQe]
      refine wk_know (fun hk8 hk9 => ?_)
      refine W.widen (k := MX - cp) (n := 6 * (MX - cp)) (by first | assumption | omega) (by first | assumption | omega) ?_
      obtain ⟨hP9, hD9⟩ := xw_sub2 (wc := (fun (u : Nat → Nat) (xsd : Nat → Int32) (xfo : Nat → Int32) (xfl : Nat → Int32) (xfr : Nat → Int32) => [(c0, .inr (3, [.ref n0, .ref c1, .ref g0, .ref a0, .int s_made])), (c1, .inl (ax 0, 16, .inl xsd)), (n0, .inr (4, [.ref (u 0), .ref (u 1), .ref (u 2), .int (nI (u 3))])), (u 0, .inl (ax 1, u 4, .inl xfo)), (u 1, .inl (ax 0, u 4, .inl xfl)), (u 2, .inl (ax 0, u 4, .inl xfr)), (h0, .inr (4, [.ref h1, .ref h2, .ref h3, .int (nI zs)])), (h1, .inl (ax 1, cs, .inl so)), (h2, .inl (ax 0, cs, .inl sl)), (h3, .inl (ax 0, cs, .inl sr)), (a0, .inr (4, [.ref a1, .ref a2, .ref a3, .int (nI za)])), (a1, .inl (ax 1, ca, .inl ao)), (a2, .inl (ax 0, ca, .inl al)), (a3, .inl (ax 0, ca, .inl ar)), (g0, .inr (2, [.ref h0, .ref g1, .ref g2, .ref g3, .ref g4, .ref g5, .ref g6, .ref g7, .ref g8, .ref g9, .ref ga, .ref gb, .int (nI cl), .int (nI ln), .int (nI br), .int (nI lp), .int (nI va)])), (g1, .inl (ax 1, 20, .inl (fun j => nI (kd j)))), (g2, .inl (ax 1, 20, .inl (fun j => nI (ow j)))), (g3, .inl (ax 1, 20, .inl (fun j => nI (sb j)))), (g4, .inl (ax 1, 20, .inl (fun j => nI (f1 j)))), (g5, .inl (ax 1, 20, .inl (fun j => nI (f2 j)))), (g6, .inl (ax 2, 20, .inl (fun j => nI (te j)))), (g7, .inl (ax 2, 20, .inl (fun j => nI (kp j)))), (g8, .inl (ax 0, 20, .inl tm)), (g9, .inl (ax 1, 20, .inl (fun j => nI (nm j)))), (ga, .inl (ax 1, 29, .inl (fun j => nI (ck j)))), (gb, .inl (ax 1, 29, .inl (fun j => nI (co j))))]) (ixn [(u_126 0), (u_126 1), (u_126 2), (((u_22 3) + 1) + 1), (u_126 3), ((u_22 3) + 1)]) sd x_133 x_134 x_135) hP hD [16, 17, 22, 23, 24, 25, 18, 19, 20, 21, 0, 1, 2, 3, 4, 5, 6, 7, 8, 9, 10, 11, 12, 13, 14, 15] (by decide) rfl
      have hex0 : ndv x_133 x_134 x_135 ((((u_22 3) + 1) + 1)) := hV_140
      have hex1 : bts x_133 ((u_126 3)) := (by assumption)
      have hex2 : ∀ i, i < z9 → tsn x_133 x_134 x_135 i = tsn fo fl fr i := hK_144
      have hex3 : tsn x_133 x_134 x_135 (((u_22 3) + 1)) + z9 ≤ (((u_22 3) + 1) + 1) := (by first | assumption | omega)
      have hex4 : ∀ j, j ≤ 10 → trm (sd j) := hsd
      have hex5 : ndl x_133 x_134 x_135 (l0 ++ prF (IT s9) q9) ∧ (l0 ++ prF (IT s9) q9).length = (((u_22 3) + 1) + 1) := (by rw [p_ex hlg hid hs9 (hcq.loop (by first | assumption | omega) (by first | assumption | omega)) (by first | assumption | omega)]; exact hZ_138)
      have hex6 : ∃ d, cmpl d (prF (IT s9) q9) := (by rw [p_ex hlg hid hs9 (hcq.loop (by first | assumption | omega) (by first | assumption | omega)) (by first | assumption | omega)]; exact hY_139)
      have hex7 : sdq sd h9 := hsq
      have hg8 : H_127.size ≤ s.heap.size + ((u_126 3) - cp) := by omega
      have hg9 : tsl H_127 ≤ tsl s.heap + (6 * ((u_126 3) - cp)) := by omega
      have hsp0 : z9 ≤ (((u_22 3) + 1) + 1) := (by first | assumption | omega)
      have hsp1 : (((u_22 3) + 1) + 1) ≤ (u_126 3) := (by first | assumption | omega)
      have hsp2 : cp ≤ (u_126 3) := (by first | assumption | omega)
      have hsp3 : (u_126 3) ≤ MX := (by first | assumption | omega)
      have hsp4 : dbl cp ((u_126 3)) := (((hs_9.tr hs_29).tr hs_112).tr hs_132)
      have hsp5 : ((u_22 3) + 1) + 1 = (((u_22 3) + 1) + 1) := (by first | assumption | omega)
      have hsp6 : (((u_22 3) + 1) + 1) ≤ z9 + 460 := (by first | assumption | omega)
      exact W.iret (v := nI ((u_22 3) + 1)) hx hb hr (fun t ht hW => ⟨⟨nI ((u_22 3) + 1), ixn [(u_126 0), (u_126 1), (u_126 2), (((u_22 3) + 1) + 1), (u_126 3), ((u_22 3) + 1)], rfl, ⟨rfl, ⟨hsp0, hsp1, hsp2, hsp3, hsp4, hsp5, hsp6⟩⟩, ⟨sd, x_133, x_134, x_135, by rw [ht]; exact hg8, by rw [ht]; exact hg9, hex0, hex1, hex2, hex3, hex4, hex5, hex6, hex7, by rw [ht]; exact hP9, hD9⟩⟩, hS.F ht⟩) hS.2.2 d_Maker_premise_96
  · replace c_1 : q9 = 4 := (nI_eq (a := q9) (b := 4) (by first | exact Nat.lt_of_lt_of_le (by assumption) (by decide) | exact Nat.lt_of_le_of_lt (by assumption) (by decide) | omega) (by decide)).mp c_1
    obtain ⟨hte, htk⟩ := hlw.tst hs9 (Or.inr (hcq.cut (by first | assumption | omega)))
    refine lv_aload_n hx hb d_Maker_premise_5 rfl (lv_at hl1 0 rfl) ?_
    refine lv_aload_n hx hb d_Maker_premise_6 rfl (lv_at hl1 0 rfl) ?_
    refine va_get (D := D) (ci := 3) (v := .ref g0) (C := R_Maker) (T := F_Maker) (N := 5) hx hb hts i_Maker hown hK.1 hP 0 rfl rfl 2 (by decide) (hts _ wd_132) (fun _ h9 => h9) rfl d_Maker_premise_7 ?_
    refine va_get (D := D) (ci := 2) (v := .ref h0) (C := R_Listing) (T := F_Listing) (N := 17) hx hb hts i_Listing hown hK.1 hP 14 rfl rfl 0 (by decide) (hts _ wd_269) (fun _ h9 => h9) rfl d_Maker_premise_10 ?_
    refine lv_aload_n hx hb d_Maker_premise_13 rfl (lv_at hl1 0 rfl) ?_
    refine va_get (D := D) (ci := 3) (v := .ref g0) (C := R_Maker) (T := F_Maker) (N := 5) hx hb hts i_Maker hown hK.1 hP 0 rfl rfl 2 (by decide) (hts _ wd_132) (fun _ h9 => h9) rfl d_Maker_premise_14 ?_
    refine va_get (D := D) (ci := 2) (v := .ref g6) (C := R_Listing) (T := F_Listing) (N := 17) hx hb hts i_Listing hown hK.1 hP 14 rfl rfl 6 (by decide) (hts _ wd_286) (fun _ h9 => h9) rfl d_Maker_premise_17 ?_
    refine lv_iload_n hx hb d_Maker_premise_20 rfl (lv_at hl1 2 rfl) ?_
    refine va_sald hx hb hK.1 hP 20 2 rfl rfl (vp_in_nI (by first | assumption | omega) (by decide)) d_Maker_premise_21 ?_
    refine W.eq (g2 := F0 m 22 ls [.int (nI (te s9)), .ref h0, .ref c0]) (by rw [nI_clamp (by first | exact Nat.lt_of_lt_of_le (by assumption) (by decide) | exact Nat.lt_of_le_of_lt (by assumption) (by decide) | omega)]) ?_
    obtain ⟨hPc, hDc, hFc, hCs⟩ := xw_sub3 (wc := [(c0, .inr (3, [.ref n0, .ref c1, (.ref g0), (.ref a0), .int s_made])), (c1, .inl (ax 0, 16, .inl sd)), (n0, .inr (4, [.ref n1, .ref n2, .ref n3, .int (nI z9)])), (n1, .inl (ax 1, cp, .inl fo)), (n2, .inl (ax 0, cp, .inl fl)), (n3, .inl (ax 0, cp, .inl fr)), (h0, .inr (4, [.ref h1, .ref h2, .ref h3, .int (nI zs)])), (h1, .inl (ax 1, cs, .inl so)), (h2, .inl (ax 0, cs, .inl sl)), (h3, .inl (ax 0, cs, .inl sr))]) hP hD hS hA [0, 1, 2, 3, 4, 5, 6, 7, 8, 9] (by decide) rfl
    have hz := xz_of hN hS
    refine wk_know (fun hk8 hk9 => ?_)
    refine va_calli (va_runV (As := [.ref h0, .int (nI (te s9))]) (rest := []) ⟨hx, hb, hml, hown, hts⟩ ((K_copy_all l (te s9)) D ax c0 c1 (.ref g0) (.ref a0) s_made sd n0 n1 n2 n3 cp z9 fo fl fr h0 h1 h2 h3 zs cs so sl sr MX lz9 l0 h9 1023 s.heap.size (tsl s.heap) (by first | assumption | omega) (by first | assumption | omega) (by first | assumption | omega) (by first | assumption | omega) (by assumption) (by assumption) (by assumption) hzs hcs (by first | assumption | omega) hsv (by first | assumption | omega) hlg.1 (by assumption) (sdq.s (by assumption))) (xcV (n := 2) hts wd_776 wd_4 wd_773 wd_775 ps_23 rfl rfl (by decide +kernel) ⟨(show (50 + 2 * (te s9)) + 1 ≤ (1000) by omega), (show 8 + (5 + 11) + (2000 + 40 * (te s9)) ≤ (21000) by omega)⟩) (xpV3 (ci := 3) (q0 := 0) (As := [.ref h0, .int (nI (te s9))]) hPc hK hz hDc rfl rfl) rfl rfl hl1.1 rfl (lv_room (Nat.le_of_ble_eq_true rfl)) d_Maker_premise_22 ⟨(show (0) + (MX - cp) ≤ (MX - cp) by omega), (show (0) + (6 * (MX - cp)) ≤ (6 * (MX - cp)) by omega)⟩) hS (fun q _ h => hFc q h) hFc (fun r_147 u_145 t H_146 locs ht hvm hw hB hz1 hk1 hS1 => ?_)
    try dsimp only at hw
    obtain ⟨hw, hs_148, hs_149, hs_150, hs_151, hs_152, hs_153, hs_154⟩ := hw
    subst hw
    obtain ⟨x_155, x_156, x_157, hg8, hg9, hx_158, hx_159, hx_160, hx_161, hx_162, hx_163, hP1, hD1⟩ := hB
    rw [ht] at hg8 hg9 hP1
    have hjn := xw_join3 (wl := [(a0, .inr (4, [.ref a1, .ref a2, .ref a3, .int (nI za)])), (a1, .inl (ax 1, ca, .inl ao)), (a2, .inl (ax 0, ca, .inl al)), (a3, .inl (ax 0, ca, .inl ar)), (g0, .inr (2, [.ref h0, .ref g1, .ref g2, .ref g3, .ref g4, .ref g5, .ref g6, .ref g7, .ref g8, .ref g9, .ref ga, .ref gb, .int (nI cl), .int (nI ln), .int (nI br), .int (nI lp), .int (nI va)])), (g1, .inl (ax 1, 20, .inl (fun j => nI (kd j)))), (g2, .inl (ax 1, 20, .inl (fun j => nI (ow j)))), (g3, .inl (ax 1, 20, .inl (fun j => nI (sb j)))), (g4, .inl (ax 1, 20, .inl (fun j => nI (f1 j)))), (g5, .inl (ax 1, 20, .inl (fun j => nI (f2 j)))), (g6, .inl (ax 2, 20, .inl (fun j => nI (te j)))), (g7, .inl (ax 2, 20, .inl (fun j => nI (kp j)))), (g8, .inl (ax 0, 20, .inl tm)), (g9, .inl (ax 1, 20, .inl (fun j => nI (nm j)))), (ga, .inl (ax 1, 29, .inl (fun j => nI (ck j)))), (gb, .inl (ax 1, 29, .inl (fun j => nI (co j)))), (c0, .inr (3, [.ref n0, .ref c1, .ref g0, .ref a0, .int s_made])), (c1, .inl (ax 0, 16, .inl sd)), (n0, .inr (4, [.ref (u_145 0), .ref (u_145 1), .ref (u_145 2), .int (nI (u_145 3))])), ((u_145 0), .inl (ax 1, u_145 4, .inl x_155)), ((u_145 1), .inl (ax 0, u_145 4, .inl x_156)), ((u_145 2), .inl (ax 0, u_145 4, .inl x_157)), (h0, .inr (4, [.ref h1, .ref h2, .ref h3, .int (nI zs)])), (h1, .inl (ax 1, cs, .inl so)), (h2, .inl (ax 0, cs, .inl sl)), (h3, .inl (ax 0, cs, .inl sr))]) hP hD [0, 1, 2, 3, 4, 5, 6, 7, 8, 9] [10, 11, 12, 13, 14, 15, 16, 17, 18, 19, 20, 21, 22, 23, 24, 25] hCs (by decide) (by decide) hk1 hFc hP1 hD1 rfl
    clear hP1 hD1
    clear hPc hDc hFc hCs hz hz1 hk1 ht hvm
    clear hP hD hS
    have hS := hS1
    obtain ⟨hP, hD⟩ := hjn
    clear hS1
    refine wk_narrow (k := u_145 4 - cp) (n := 6 * (u_145 4 - cp)) (by first | assumption | omega) (by first | assumption | omega) ?_
    clear hk8 hk9 hg8 hg9
    have hK_164 : ∀ i, i < z9 → tsn x_155 x_156 x_157 i = tsn fo fl fr i := fun i hi => hx_160 i hi
    rw [← hQe]
    refine wk_know (fun hk8 hk9 => ?_)
    refine W.widen (k := MX - cp) (n := 6 * (MX - cp)) (by first | assumption | omega) (by first | assumption | omega) ?_
    obtain ⟨hP9, hD9⟩ := xw_sub2 (wc := (fun (u : Nat → Nat) (xsd : Nat → Int32) (xfo : Nat → Int32) (xfl : Nat → Int32) (xfr : Nat → Int32) => [(c0, .inr (3, [.ref n0, .ref c1, .ref g0, .ref a0, .int s_made])), (c1, .inl (ax 0, 16, .inl xsd)), (n0, .inr (4, [.ref (u 0), .ref (u 1), .ref (u 2), .int (nI (u 3))])), (u 0, .inl (ax 1, u 4, .inl xfo)), (u 1, .inl (ax 0, u 4, .inl xfl)), (u 2, .inl (ax 0, u 4, .inl xfr)), (h0, .inr (4, [.ref h1, .ref h2, .ref h3, .int (nI zs)])), (h1, .inl (ax 1, cs, .inl so)), (h2, .inl (ax 0, cs, .inl sl)), (h3, .inl (ax 0, cs, .inl sr)), (a0, .inr (4, [.ref a1, .ref a2, .ref a3, .int (nI za)])), (a1, .inl (ax 1, ca, .inl ao)), (a2, .inl (ax 0, ca, .inl al)), (a3, .inl (ax 0, ca, .inl ar)), (g0, .inr (2, [.ref h0, .ref g1, .ref g2, .ref g3, .ref g4, .ref g5, .ref g6, .ref g7, .ref g8, .ref g9, .ref ga, .ref gb, .int (nI cl), .int (nI ln), .int (nI br), .int (nI lp), .int (nI va)])), (g1, .inl (ax 1, 20, .inl (fun j => nI (kd j)))), (g2, .inl (ax 1, 20, .inl (fun j => nI (ow j)))), (g3, .inl (ax 1, 20, .inl (fun j => nI (sb j)))), (g4, .inl (ax 1, 20, .inl (fun j => nI (f1 j)))), (g5, .inl (ax 1, 20, .inl (fun j => nI (f2 j)))), (g6, .inl (ax 2, 20, .inl (fun j => nI (te j)))), (g7, .inl (ax 2, 20, .inl (fun j => nI (kp j)))), (g8, .inl (ax 0, 20, .inl tm)), (g9, .inl (ax 1, 20, .inl (fun j => nI (nm j)))), (ga, .inl (ax 1, 29, .inl (fun j => nI (ck j)))), (gb, .inl (ax 1, 29, .inl (fun j => nI (co j))))]) (ixn [(u_145 0), (u_145 1), (u_145 2), (u_145 3), (u_145 4), (u_145 5)]) sd x_155 x_156 x_157) hP hD [16, 17, 18, 19, 20, 21, 22, 23, 24, 25, 0, 1, 2, 3, 4, 5, 6, 7, 8, 9, 10, 11, 12, 13, 14, 15] (by decide) rfl
    have hex0 : ndv x_155 x_156 x_157 ((u_145 3)) := hx_158
    have hex1 : bts x_155 ((u_145 4)) := (by assumption)
    have hex2 : ∀ i, i < z9 → tsn x_155 x_156 x_157 i = tsn fo fl fr i := hK_164
    have hex3 : tsn x_155 x_156 x_157 ((u_145 5)) + z9 ≤ (u_145 3) := (by first | assumption | omega)
    have hex4 : ∀ j, j ≤ 10 → trm (sd j) := hsd
    have hex5 : ndl x_155 x_156 x_157 (l0 ++ prF (IT s9) q9) ∧ (l0 ++ prF (IT s9) q9).length = (u_145 3) := (by rw [p_cut hlg hid hs9 (hcq.cut (by first | assumption | omega)) (by first | assumption | omega)]; exact hx_162)
    have hex6 : ∃ d, cmpl d (prF (IT s9) q9) := (by rw [p_cut hlg hid hs9 (hcq.cut (by first | assumption | omega)) (by first | assumption | omega)]; exact ⟨_, hx_163⟩)
    have hex7 : sdq sd h9 := hsq
    have hg8 : H_146.size ≤ s.heap.size + ((u_145 4) - cp) := by omega
    have hg9 : tsl H_146 ≤ tsl s.heap + (6 * ((u_145 4) - cp)) := by omega
    have hsp0 : z9 ≤ (u_145 3) := (by first | assumption | omega)
    have hsp1 : (u_145 3) ≤ (u_145 4) := (by first | assumption | omega)
    have hsp2 : cp ≤ (u_145 4) := (by first | assumption | omega)
    have hsp3 : (u_145 4) ≤ MX := (by first | assumption | omega)
    have hsp4 : dbl cp ((u_145 4)) := hs_152
    have hsp5 : (u_145 5) + 1 = (u_145 3) := (by first | assumption | omega)
    have hsp6 : (u_145 3) ≤ z9 + 460 := (by first | assumption | omega)
    exact W.iret (v := nI (u_145 5)) hx hb hr (fun t ht hW => ⟨⟨nI (u_145 5), ixn [(u_145 0), (u_145 1), (u_145 2), (u_145 3), (u_145 4), (u_145 5)], rfl, ⟨rfl, ⟨hsp0, hsp1, hsp2, hsp3, hsp4, hsp5, hsp6⟩⟩, ⟨sd, x_155, x_156, x_157, by rw [ht]; exact hg8, by rw [ht]; exact hg9, hex0, hex1, hex2, hex3, hex4, hex5, hex6, hex7, by rw [ht]; exact hP9, hD9⟩⟩, hS.F ht⟩) hS.2.2 d_Maker_premise_25
abbrev b_Maker_conclusion : ByteArray := prog_5_method_5_code
def y_Maker_conclusion : MethodName := ⟨R_Maker, "conclusion", "(II)I"⟩
theorem d_Maker_conclusion_0 : decode b_Maker_conclusion 0 = .ok (.iload_n 1, 1) := by decide +kernel
theorem d_Maker_conclusion_1 : decode b_Maker_conclusion 1 = .ok (.tableswitch 71 0 3 #[31, 37, 71, 51], 31) := by decide +kernel
theorem d_Maker_conclusion_32 : decode b_Maker_conclusion 32 = .ok (.aload_n 0, 1) := by decide +kernel
theorem d_Maker_conclusion_33 : decode b_Maker_conclusion 33 = .ok (.iconst 0, 1) := by decide +kernel
theorem d_Maker_conclusion_34 : decode b_Maker_conclusion 34 = .ok (.invokevirtual 80, 3) := by decide +kernel
theorem d_Maker_conclusion_37 : decode b_Maker_conclusion 37 = .ok (.ireturn, 1) := by decide +kernel
theorem d_Maker_conclusion_38 : decode b_Maker_conclusion 38 = .ok (.aload_n 0, 1) := by decide +kernel
theorem d_Maker_conclusion_39 : decode b_Maker_conclusion 39 = .ok (.aload_n 0, 1) := by decide +kernel
theorem d_Maker_conclusion_40 : decode b_Maker_conclusion 40 = .ok (.getfield 29, 3) := by decide +kernel
theorem d_Maker_conclusion_43 : decode b_Maker_conclusion 43 = .ok (.getfield 84, 3) := by decide +kernel
theorem d_Maker_conclusion_46 : decode b_Maker_conclusion 46 = .ok (.iload_n 2, 1) := by decide +kernel
theorem d_Maker_conclusion_47 : decode b_Maker_conclusion 47 = .ok (.baload, 1) := by decide +kernel
theorem d_Maker_conclusion_48 : decode b_Maker_conclusion 48 = .ok (.invokevirtual 80, 3) := by decide +kernel
theorem d_Maker_conclusion_51 : decode b_Maker_conclusion 51 = .ok (.ireturn, 1) := by decide +kernel
theorem d_Maker_conclusion_52 : decode b_Maker_conclusion 52 = .ok (.aload_n 0, 1) := by decide +kernel
theorem d_Maker_conclusion_53 : decode b_Maker_conclusion 53 = .ok (.getfield 12, 3) := by decide +kernel
theorem d_Maker_conclusion_56 : decode b_Maker_conclusion 56 = .ok (.iconst 1, 1) := by decide +kernel
theorem d_Maker_conclusion_57 : decode b_Maker_conclusion 57 = .ok (.aload_n 0, 1) := by decide +kernel
theorem d_Maker_conclusion_58 : decode b_Maker_conclusion 58 = .ok (.getfield 29, 3) := by decide +kernel
theorem d_Maker_conclusion_61 : decode b_Maker_conclusion 61 = .ok (.getfield 77, 3) := by decide +kernel
theorem d_Maker_conclusion_64 : decode b_Maker_conclusion 64 = .ok (.iload_n 2, 1) := by decide +kernel
theorem d_Maker_conclusion_65 : decode b_Maker_conclusion 65 = .ok (.iaload, 1) := by decide +kernel
theorem d_Maker_conclusion_66 : decode b_Maker_conclusion 66 = .ok (.bipush 10, 2) := by decide +kernel
theorem d_Maker_conclusion_68 : decode b_Maker_conclusion 68 = .ok (.invokevirtual 57, 3) := by decide +kernel
theorem d_Maker_conclusion_71 : decode b_Maker_conclusion 71 = .ok (.ireturn, 1) := by decide +kernel
theorem d_Maker_conclusion_72 : decode b_Maker_conclusion 72 = .ok (.aload_n 0, 1) := by decide +kernel
theorem d_Maker_conclusion_73 : decode b_Maker_conclusion 73 = .ok (.iload_n 2, 1) := by decide +kernel
theorem d_Maker_conclusion_74 : decode b_Maker_conclusion 74 = .ok (.invokevirtual 87, 3) := by decide +kernel
theorem d_Maker_conclusion_77 : decode b_Maker_conclusion 77 = .ok (.ireturn, 1) := by decide +kernel
set_option maxHeartbeats 40000000 in
set_option maxRecDepth 100000 in
theorem c_K_conclusion (l : Launch) (D : va_G) (ax : Nat → ClassId) (c0 c1 : Nat) (s_made : Int32) (sd : Nat → Int32) (n0 n1 n2 n3 cp z9 : Nat) (fo fl fr : Nat → Int32) (h0 h1 h2 h3 zs cs : Nat) (so sl sr : Nat → Int32) (a0 a1 a2 a3 za ca : Nat) (ao al ar : Nat → Int32) (g0 g1 g2 g3 g4 g5 g6 g7 g8 g9 ga gb cl ln br lp va : Nat) (kd ow sb f1 f2 te kp nm ck co : Nat → Nat) (tm : Nat → Int32) (MX : Nat) (en kc : Nat → Nat) (lz9 l0 po : List sgT) (h9 : Nat → Nat × Int32) (IT : Nat → itT) (X Y : Nat → List itT) (q9 s9 : Nat) (sz tz : Nat) (hcp : 8 ≤ cp) (hz9 : z9 ≤ cp) (hmx : cp ≤ MX) (hMX : MX ≤ 100000) (hfo : bts fo cp) (hnv : ndv fo fl fr z9) (hsd : ∀ j, j ≤ 10 → trm (sd j)) (hzs : zs ≤ cs) (hcs : cs ≤ 100000) (hsv : ndv so sl sr zs) (hza : za ≤ ca) (hca : ca ≤ 100000) (hz1 : 1 ≤ za) (hz4 : za ≤ 450) (hav : ndv ao al ar za) (hat : tsn ao al ar (za - 1) ≤ 450) (hlw : lsw ln zs kd ow sb f1 f2 te kp nm en kc tm so sl sr) (hlg : lgQ so sl sr ao al ar zs za ln kd ow sb f1 f2 te kp nm tm lz9 po IT X Y) (hL9 : ndl fo fl fr l0 ∧ l0.length = z9) (hsq : sdq sd h9) (hcq : clq ln kd nm q9 s9) (hq9 : q9 < 128) (hln1 : 1 ≤ ln) (hbd : 2 * (z9 + wpw kd kc ln 460 0) ≤ MX) (hid : h9 = idT) : Met l y_Maker_conclusion (xws (.code y_Maker_conclusion b_Maker_conclusion 3 (some .int))) ({ frames := 1180, cells := MX - cp, slots := 6 * (MX - cp), locals := 27300 }) (va_Pc [.ref c0, .int (nI q9), .int (nI s9)] (xo3 D ax [(c0, .inr (3, [.ref n0, .ref c1, .ref g0, .ref a0, .int s_made])), (c1, .inl (ax 0, 16, .inl sd)), (n0, .inr (4, [.ref n1, .ref n2, .ref n3, .int (nI z9)])), (n1, .inl (ax 1, cp, .inl fo)), (n2, .inl (ax 0, cp, .inl fl)), (n3, .inl (ax 0, cp, .inl fr)), (h0, .inr (4, [.ref h1, .ref h2, .ref h3, .int (nI zs)])), (h1, .inl (ax 1, cs, .inl so)), (h2, .inl (ax 0, cs, .inl sl)), (h3, .inl (ax 0, cs, .inl sr)), (a0, .inr (4, [.ref a1, .ref a2, .ref a3, .int (nI za)])), (a1, .inl (ax 1, ca, .inl ao)), (a2, .inl (ax 0, ca, .inl al)), (a3, .inl (ax 0, ca, .inl ar)), (g0, .inr (2, [.ref h0, .ref g1, .ref g2, .ref g3, .ref g4, .ref g5, .ref g6, .ref g7, .ref g8, .ref g9, .ref ga, .ref gb, .int (nI cl), .int (nI ln), .int (nI br), .int (nI lp), .int (nI va)])), (g1, .inl (ax 1, 20, .inl (fun j => nI (kd j)))), (g2, .inl (ax 1, 20, .inl (fun j => nI (ow j)))), (g3, .inl (ax 1, 20, .inl (fun j => nI (sb j)))), (g4, .inl (ax 1, 20, .inl (fun j => nI (f1 j)))), (g5, .inl (ax 1, 20, .inl (fun j => nI (f2 j)))), (g6, .inl (ax 2, 20, .inl (fun j => nI (te j)))), (g7, .inl (ax 2, 20, .inl (fun j => nI (kp j)))), (g8, .inl (ax 0, 20, .inl tm)), (g9, .inl (ax 1, 20, .inl (fun j => nI (nm j)))), (ga, .inl (ax 1, 29, .inl (fun j => nI (ck j)))), (gb, .inl (ax 1, 29, .inl (fun j => nI (co j))))] sz tz)) ((va_Qi (fun (r : Int32) (u : Nat → Nat) => r = nI (u 5) ∧ (z9 ≤ u 3 ∧ u 3 ≤ u 4 ∧ cp ≤ u 4 ∧ u 4 ≤ MX ∧ dbl cp (u 4) ∧ u 5 + 1 = u 3 ∧ u 3 ≤ z9 + wpw kd kc ln 460 0)) (fun (u : Nat → Nat) (t9 : State) => ∃ xsd : Nat → Int32, ∃ xfo : Nat → Int32, ∃ xfl : Nat → Int32, ∃ xfr : Nat → Int32, (t9.heap.size ≤ sz + (u 4 - cp)) ∧ (tsl t9.heap ≤ tz + (6 * (u 4 - cp))) ∧ (ndv xfo xfl xfr (u 3)) ∧ (bts xfo (u 4)) ∧ (∀ i, i < z9 → tsn xfo xfl xfr i = tsn fo fl fr i) ∧ (tsn xfo xfl xfr (u 5) + z9 ≤ u 3) ∧ (∀ j, j ≤ 10 → trm (xsd j)) ∧ (ndl xfo xfl xfr (l0 ++ coF po X Y f1 (IT s9) q9 s9) ∧ (l0 ++ coF po X Y f1 (IT s9) q9 s9).length = u 3) ∧ (∃ d, cmpl d (coF po X Y f1 (IT s9) q9 s9)) ∧ (sdq xsd h9) ∧ va_P D classes [(c0, .inr (3, [.ref n0, .ref c1, .ref g0, .ref a0, .int s_made])), (c1, .inl (ax 0, 16, .inl xsd)), (n0, .inr (4, [.ref (u 0), .ref (u 1), .ref (u 2), .int (nI (u 3))])), (u 0, .inl (ax 1, u 4, .inl xfo)), (u 1, .inl (ax 0, u 4, .inl xfl)), (u 2, .inl (ax 0, u 4, .inl xfr)), (h0, .inr (4, [.ref h1, .ref h2, .ref h3, .int (nI zs)])), (h1, .inl (ax 1, cs, .inl so)), (h2, .inl (ax 0, cs, .inl sl)), (h3, .inl (ax 0, cs, .inl sr)), (a0, .inr (4, [.ref a1, .ref a2, .ref a3, .int (nI za)])), (a1, .inl (ax 1, ca, .inl ao)), (a2, .inl (ax 0, ca, .inl al)), (a3, .inl (ax 0, ca, .inl ar)), (g0, .inr (2, [.ref h0, .ref g1, .ref g2, .ref g3, .ref g4, .ref g5, .ref g6, .ref g7, .ref g8, .ref g9, .ref ga, .ref gb, .int (nI cl), .int (nI ln), .int (nI br), .int (nI lp), .int (nI va)])), (g1, .inl (ax 1, 20, .inl (fun j => nI (kd j)))), (g2, .inl (ax 1, 20, .inl (fun j => nI (ow j)))), (g3, .inl (ax 1, 20, .inl (fun j => nI (sb j)))), (g4, .inl (ax 1, 20, .inl (fun j => nI (f1 j)))), (g5, .inl (ax 1, 20, .inl (fun j => nI (f2 j)))), (g6, .inl (ax 2, 20, .inl (fun j => nI (te j)))), (g7, .inl (ax 2, 20, .inl (fun j => nI (kp j)))), (g8, .inl (ax 0, 20, .inl tm)), (g9, .inl (ax 1, 20, .inl (fun j => nI (nm j)))), (ga, .inl (ax 1, 29, .inl (fun j => nI (ck j)))), (gb, .inl (ax 1, 29, .inl (fun j => nI (co j))))] t9.heap ∧ va_D (va_A [(c0, .inr (3, [.ref n0, .ref c1, .ref g0, .ref a0, .int s_made])), (c1, .inl (ax 0, 16, .inl sd)), (n0, .inr (4, [.ref n1, .ref n2, .ref n3, .int (nI z9)])), (n1, .inl (ax 1, cp, .inl fo)), (n2, .inl (ax 0, cp, .inl fl)), (n3, .inl (ax 0, cp, .inl fr)), (h0, .inr (4, [.ref h1, .ref h2, .ref h3, .int (nI zs)])), (h1, .inl (ax 1, cs, .inl so)), (h2, .inl (ax 0, cs, .inl sl)), (h3, .inl (ax 0, cs, .inl sr)), (a0, .inr (4, [.ref a1, .ref a2, .ref a3, .int (nI za)])), (a1, .inl (ax 1, ca, .inl ao)), (a2, .inl (ax 0, ca, .inl al)), (a3, .inl (ax 0, ca, .inl ar)), (g0, .inr (2, [.ref h0, .ref g1, .ref g2, .ref g3, .ref g4, .ref g5, .ref g6, .ref g7, .ref g8, .ref g9, .ref ga, .ref gb, .int (nI cl), .int (nI ln), .int (nI br), .int (nI lp), .int (nI va)])), (g1, .inl (ax 1, 20, .inl (fun j => nI (kd j)))), (g2, .inl (ax 1, 20, .inl (fun j => nI (ow j)))), (g3, .inl (ax 1, 20, .inl (fun j => nI (sb j)))), (g4, .inl (ax 1, 20, .inl (fun j => nI (f1 j)))), (g5, .inl (ax 1, 20, .inl (fun j => nI (f2 j)))), (g6, .inl (ax 2, 20, .inl (fun j => nI (te j)))), (g7, .inl (ax 2, 20, .inl (fun j => nI (kp j)))), (g8, .inl (ax 0, 20, .inl tm)), (g9, .inl (ax 1, 20, .inl (fun j => nI (nm j)))), (ga, .inl (ax 1, 29, .inl (fun j => nI (ck j)))), (gb, .inl (ax 1, 29, .inl (fun j => nI (co j))))] sz) [(c0, .inr (3, [.ref n0, .ref c1, .ref g0, .ref a0, .int s_made])), (c1, .inl (ax 0, 16, .inl xsd)), (n0, .inr (4, [.ref (u 0), .ref (u 1), .ref (u 2), .int (nI (u 3))])), (u 0, .inl (ax 1, u 4, .inl xfo)), (u 1, .inl (ax 0, u 4, .inl xfl)), (u 2, .inl (ax 0, u 4, .inl xfr)), (h0, .inr (4, [.ref h1, .ref h2, .ref h3, .int (nI zs)])), (h1, .inl (ax 1, cs, .inl so)), (h2, .inl (ax 0, cs, .inl sl)), (h3, .inl (ax 0, cs, .inl sr)), (a0, .inr (4, [.ref a1, .ref a2, .ref a3, .int (nI za)])), (a1, .inl (ax 1, ca, .inl ao)), (a2, .inl (ax 0, ca, .inl al)), (a3, .inl (ax 0, ca, .inl ar)), (g0, .inr (2, [.ref h0, .ref g1, .ref g2, .ref g3, .ref g4, .ref g5, .ref g6, .ref g7, .ref g8, .ref g9, .ref ga, .ref gb, .int (nI cl), .int (nI ln), .int (nI br), .int (nI lp), .int (nI va)])), (g1, .inl (ax 1, 20, .inl (fun j => nI (kd j)))), (g2, .inl (ax 1, 20, .inl (fun j => nI (ow j)))), (g3, .inl (ax 1, 20, .inl (fun j => nI (sb j)))), (g4, .inl (ax 1, 20, .inl (fun j => nI (f1 j)))), (g5, .inl (ax 1, 20, .inl (fun j => nI (f2 j)))), (g6, .inl (ax 2, 20, .inl (fun j => nI (te j)))), (g7, .inl (ax 2, 20, .inl (fun j => nI (kp j)))), (g8, .inl (ax 0, 20, .inl tm)), (g9, .inl (ax 1, 20, .inl (fun j => nI (nm j)))), (ga, .inl (ax 1, 29, .inl (fun j => nI (ck j)))), (gb, .inl (ax 1, 29, .inl (fun j => nI (co j))))]) (va_A [(c0, .inr (3, [.ref n0, .ref c1, .ref g0, .ref a0, .int s_made])), (c1, .inl (ax 0, 16, .inl sd)), (n0, .inr (4, [.ref n1, .ref n2, .ref n3, .int (nI z9)])), (n1, .inl (ax 1, cp, .inl fo)), (n2, .inl (ax 0, cp, .inl fl)), (n3, .inl (ax 0, cp, .inl fr)), (h0, .inr (4, [.ref h1, .ref h2, .ref h3, .int (nI zs)])), (h1, .inl (ax 1, cs, .inl so)), (h2, .inl (ax 0, cs, .inl sl)), (h3, .inl (ax 0, cs, .inl sr)), (a0, .inr (4, [.ref a1, .ref a2, .ref a3, .int (nI za)])), (a1, .inl (ax 1, ca, .inl ao)), (a2, .inl (ax 0, ca, .inl al)), (a3, .inl (ax 0, ca, .inl ar)), (g0, .inr (2, [.ref h0, .ref g1, .ref g2, .ref g3, .ref g4, .ref g5, .ref g6, .ref g7, .ref g8, .ref g9, .ref ga, .ref gb, .int (nI cl), .int (nI ln), .int (nI br), .int (nI lp), .int (nI va)])), (g1, .inl (ax 1, 20, .inl (fun j => nI (kd j)))), (g2, .inl (ax 1, 20, .inl (fun j => nI (ow j)))), (g3, .inl (ax 1, 20, .inl (fun j => nI (sb j)))), (g4, .inl (ax 1, 20, .inl (fun j => nI (f1 j)))), (g5, .inl (ax 1, 20, .inl (fun j => nI (f2 j)))), (g6, .inl (ax 2, 20, .inl (fun j => nI (te j)))), (g7, .inl (ax 2, 20, .inl (fun j => nI (kp j)))), (g8, .inl (ax 0, 20, .inl tm)), (g9, .inl (ax 1, 20, .inl (fun j => nI (nm j)))), (ga, .inl (ax 1, 29, .inl (fun j => nI (ck j)))), (gb, .inl (ax 1, 29, .inl (fun j => nI (co j))))] sz))) (MX - cp) (6 * (MX - cp)) (va_A [(c0, .inr (3, [.ref n0, .ref c1, .ref g0, .ref a0, .int s_made])), (c1, .inl (ax 0, 16, .inl sd)), (n0, .inr (4, [.ref n1, .ref n2, .ref n3, .int (nI z9)])), (n1, .inl (ax 1, cp, .inl fo)), (n2, .inl (ax 0, cp, .inl fl)), (n3, .inl (ax 0, cp, .inl fr)), (h0, .inr (4, [.ref h1, .ref h2, .ref h3, .int (nI zs)])), (h1, .inl (ax 1, cs, .inl so)), (h2, .inl (ax 0, cs, .inl sl)), (h3, .inl (ax 0, cs, .inl sr)), (a0, .inr (4, [.ref a1, .ref a2, .ref a3, .int (nI za)])), (a1, .inl (ax 1, ca, .inl ao)), (a2, .inl (ax 0, ca, .inl al)), (a3, .inl (ax 0, ca, .inl ar)), (g0, .inr (2, [.ref h0, .ref g1, .ref g2, .ref g3, .ref g4, .ref g5, .ref g6, .ref g7, .ref g8, .ref g9, .ref ga, .ref gb, .int (nI cl), .int (nI ln), .int (nI br), .int (nI lp), .int (nI va)])), (g1, .inl (ax 1, 20, .inl (fun j => nI (kd j)))), (g2, .inl (ax 1, 20, .inl (fun j => nI (ow j)))), (g3, .inl (ax 1, 20, .inl (fun j => nI (sb j)))), (g4, .inl (ax 1, 20, .inl (fun j => nI (f1 j)))), (g5, .inl (ax 1, 20, .inl (fun j => nI (f2 j)))), (g6, .inl (ax 2, 20, .inl (fun j => nI (te j)))), (g7, .inl (ax 2, 20, .inl (fun j => nI (kp j)))), (g8, .inl (ax 0, 20, .inl tm)), (g9, .inl (ax 1, 20, .inl (fun j => nI (nm j)))), (ga, .inl (ax 1, 29, .inl (fun j => nI (ck j)))), (gb, .inl (ax 1, 29, .inl (fun j => nI (co j))))] sz) := by
  refine Met.ofW (cc := b_Maker_conclusion) (maxL := 3) (ret := (some .int)) (by decide) rfl ?_
  intro p e s m args below meth c s₁ B hml hv
  obtain ⟨rfl, ⟨hsz, hP, hK, hD0⟩, htz⟩ := hv
  have hx := B.exec
  have hb := B.bytes
  have hr := B.returns
  have hts := xw_hts B.pre
  have hown : s.vm.findClass R_Maker = some m.cls := findClass_of_methodNamed B.named
  have hlocks := B.notSynchronized
  subst hsz
  subst htz
  have hD := hD0.self (sz := s.heap.size)
  have hN := xz_entry hP
  generalize hAe : va_A [(c0, .inr (3, [.ref n0, .ref c1, .ref g0, .ref a0, .int s_made])), (c1, .inl (ax 0, 16, .inl sd)), (n0, .inr (4, [.ref n1, .ref n2, .ref n3, .int (nI z9)])), (n1, .inl (ax 1, cp, .inl fo)), (n2, .inl (ax 0, cp, .inl fl)), (n3, .inl (ax 0, cp, .inl fr)), (h0, .inr (4, [.ref h1, .ref h2, .ref h3, .int (nI zs)])), (h1, .inl (ax 1, cs, .inl so)), (h2, .inl (ax 0, cs, .inl sl)), (h3, .inl (ax 0, cs, .inl sr)), (a0, .inr (4, [.ref a1, .ref a2, .ref a3, .int (nI za)])), (a1, .inl (ax 1, ca, .inl ao)), (a2, .inl (ax 0, ca, .inl al)), (a3, .inl (ax 0, ca, .inl ar)), (g0, .inr (2, [.ref h0, .ref g1, .ref g2, .ref g3, .ref g4, .ref g5, .ref g6, .ref g7, .ref g8, .ref g9, .ref ga, .ref gb, .int (nI cl), .int (nI ln), .int (nI br), .int (nI lp), .int (nI va)])), (g1, .inl (ax 1, 20, .inl (fun j => nI (kd j)))), (g2, .inl (ax 1, 20, .inl (fun j => nI (ow j)))), (g3, .inl (ax 1, 20, .inl (fun j => nI (sb j)))), (g4, .inl (ax 1, 20, .inl (fun j => nI (f1 j)))), (g5, .inl (ax 1, 20, .inl (fun j => nI (f2 j)))), (g6, .inl (ax 2, 20, .inl (fun j => nI (te j)))), (g7, .inl (ax 2, 20, .inl (fun j => nI (kp j)))), (g8, .inl (ax 0, 20, .inl tm)), (g9, .inl (ax 1, 20, .inl (fun j => nI (nm j)))), (ga, .inl (ax 1, 29, .inl (fun j => nI (ck j)))), (gb, .inl (ax 1, 29, .inl (fun j => nI (co j))))] s.heap.size = A at hD hN ⊢
  have hA : ∀ q : Nat, s.heap.size ≤ q → A q := fun q h => by rw [← hAe]; exact Or.inr h
  have hS : va_S A s.heap s.heap [] := va_S.rf
  have hl0 := lv_entry ([.ref c0, .int (nI q9), .int (nI s9)]) (n := 3) (Nat.le_of_ble_eq_true rfl)
  rw [lg_entry_eq]
  generalize (lg_sl ([.ref c0, .int (nI q9), .int (nI s9)]) ++ List.replicate (3 - (lg_sl ([.ref c0, .int (nI q9), .int (nI s9)])).length) Slot.unset).toArray = ls at hl0 ⊢
  have hl1 : lv_has ls 3 [(0, .ref c0), (1, .int (nI q9)), (2, .int (nI s9))] := hl0
  refine xw_gen (fun Z9 hQe => ?_)
  have hln := hlw.1.1
  have hzz := hlw.2.2
  have hwB := wpw_B (kd := kd) (kc := kc) (n := ln) (B := 460) (s := 0)
  refine lv_iload_n hx hb d_Maker_conclusion_0 rfl (lv_at hl1 1 rfl) ?_
  by_cases hw_1 : q9 = 0
  · refine W.eq (g2 := F0 m 1 ls [.int 0]) (by rw [hw_1]; rfl) ?_
    refine lv_tableIn (off := 31) (tgt := 32) hx hb d_Maker_conclusion_1 (by decide) (by decide) (by decide) (by decide) ?_
    refine lv_aload_n hx hb d_Maker_conclusion_32 rfl (lv_at hl1 0 rfl) ?_
    refine lv_iconst (v := 0) hx hb d_Maker_conclusion_33 (by decide) ?_
    obtain ⟨hPc, hDc, hFc, hCs⟩ := xw_sub3 (wc := [(c0, .inr (3, [.ref n0, .ref c1, .ref g0, .ref a0, .int s_made])), (c1, .inl (ax 0, 16, .inl sd)), (n0, .inr (4, [.ref n1, .ref n2, .ref n3, .int (nI z9)])), (n1, .inl (ax 1, cp, .inl fo)), (n2, .inl (ax 0, cp, .inl fl)), (n3, .inl (ax 0, cp, .inl fr)), (h0, .inr (4, [.ref h1, .ref h2, .ref h3, .int (nI zs)])), (h1, .inl (ax 1, cs, .inl so)), (h2, .inl (ax 0, cs, .inl sl)), (h3, .inl (ax 0, cs, .inl sr)), (a0, .inr (4, [.ref a1, .ref a2, .ref a3, .int (nI za)])), (a1, .inl (ax 1, ca, .inl ao)), (a2, .inl (ax 0, ca, .inl al)), (a3, .inl (ax 0, ca, .inl ar)), (g0, .inr (2, [.ref h0, .ref g1, .ref g2, .ref g3, .ref g4, .ref g5, .ref g6, .ref g7, .ref g8, .ref g9, .ref ga, .ref gb, .int (nI cl), .int (nI ln), .int (nI br), .int (nI lp), .int (nI va)])), (g1, .inl (ax 1, 20, .inl (fun j => nI (kd j)))), (g2, .inl (ax 1, 20, .inl (fun j => nI (ow j)))), (g3, .inl (ax 1, 20, .inl (fun j => nI (sb j)))), (g4, .inl (ax 1, 20, .inl (fun j => nI (f1 j)))), (g5, .inl (ax 1, 20, .inl (fun j => nI (f2 j)))), (g6, .inl (ax 2, 20, .inl (fun j => nI (te j)))), (g7, .inl (ax 2, 20, .inl (fun j => nI (kp j)))), (g8, .inl (ax 0, 20, .inl tm)), (g9, .inl (ax 1, 20, .inl (fun j => nI (nm j)))), (ga, .inl (ax 1, 29, .inl (fun j => nI (ck j)))), (gb, .inl (ax 1, 29, .inl (fun j => nI (co j))))]) hP hD hS hA [0, 1, 2, 3, 4, 5, 6, 7, 8, 9, 10, 11, 12, 13, 14, 15, 16, 17, 18, 19, 20, 21, 22, 23, 24, 25] (by decide) rfl
    have hz := xz_of hN hS
    refine wk_know (fun hk8 hk9 => ?_)
    refine va_calli (va_runV (As := [.int 0]) (rest := []) ⟨hx, hb, hml, hown, hts⟩ ((K_wp_all l 20 0 (Nat.sub_le _ _)) D ax c0 c1 s_made sd n0 n1 n2 n3 cp z9 fo fl fr h0 h1 h2 h3 zs cs so sl sr a0 a1 a2 a3 za ca ao al ar g0 g1 g2 g3 g4 g5 g6 g7 g8 g9 ga gb cl ln br lp va kd ow sb f1 f2 te kp nm ck co tm MX en kc lz9 l0 po h9 IT X Y s.heap.size (tsl s.heap) (by first | assumption | omega) (by first | assumption | omega) (by first | assumption | omega) hMX (by assumption) (by assumption) (by assumption) hzs hcs hsv hza hca hz1 hz4 hav hat hlw hlg (by assumption) (by assumption) (by first | assumption | omega) (by first | assumption | omega)) (xcV (n := 1) hts wd_793 wd_4 wd_790 wd_792 ps_27 rfl rfl (by decide +kernel) ⟨(show (1010 + 8 * (20 - 0)) + 1 ≤ (1180) by omega), (show 8 + (2 + 11) + (21200 + 300 * (20 - 0)) ≤ (27300) by omega)⟩) (xpV3 (ci := 3) (q0 := 0) (As := [.int 0]) hPc hK hz hDc rfl rfl) rfl rfl hl1.1 rfl (lv_room (Nat.le_of_ble_eq_true rfl)) d_Maker_conclusion_34 ⟨(show (0) + (MX - cp) ≤ (MX - cp) by omega), (show (0) + (6 * (MX - cp)) ≤ (6 * (MX - cp)) by omega)⟩) hS (fun q _ h => hFc q h) hFc (fun r_4 u_2 t H_3 locs ht hvm hw hB hz1 hk1 hS1 => ?_)
    try dsimp only at hw
    obtain ⟨hw, hs_5, hs_6, hs_7, hs_8, hs_9, hs_10, hs_11⟩ := hw
    subst hw
    obtain ⟨x_12, x_13, x_14, x_15, hg8, hg9, hx_16, hx_17, hx_18, hx_19, hx_20, hx_21, hx_22, hx_23, hP1, hD1⟩ := hB
    rw [ht] at hg8 hg9 hP1
    have hjn := xw_join3 (wl := [(c0, .inr (3, [.ref n0, .ref c1, .ref g0, .ref a0, .int s_made])), (c1, .inl (ax 0, 16, .inl x_12)), (n0, .inr (4, [.ref (u_2 0), .ref (u_2 1), .ref (u_2 2), .int (nI (u_2 3))])), ((u_2 0), .inl (ax 1, u_2 4, .inl x_13)), ((u_2 1), .inl (ax 0, u_2 4, .inl x_14)), ((u_2 2), .inl (ax 0, u_2 4, .inl x_15)), (h0, .inr (4, [.ref h1, .ref h2, .ref h3, .int (nI zs)])), (h1, .inl (ax 1, cs, .inl so)), (h2, .inl (ax 0, cs, .inl sl)), (h3, .inl (ax 0, cs, .inl sr)), (a0, .inr (4, [.ref a1, .ref a2, .ref a3, .int (nI za)])), (a1, .inl (ax 1, ca, .inl ao)), (a2, .inl (ax 0, ca, .inl al)), (a3, .inl (ax 0, ca, .inl ar)), (g0, .inr (2, [.ref h0, .ref g1, .ref g2, .ref g3, .ref g4, .ref g5, .ref g6, .ref g7, .ref g8, .ref g9, .ref ga, .ref gb, .int (nI cl), .int (nI ln), .int (nI br), .int (nI lp), .int (nI va)])), (g1, .inl (ax 1, 20, .inl (fun j => nI (kd j)))), (g2, .inl (ax 1, 20, .inl (fun j => nI (ow j)))), (g3, .inl (ax 1, 20, .inl (fun j => nI (sb j)))), (g4, .inl (ax 1, 20, .inl (fun j => nI (f1 j)))), (g5, .inl (ax 1, 20, .inl (fun j => nI (f2 j)))), (g6, .inl (ax 2, 20, .inl (fun j => nI (te j)))), (g7, .inl (ax 2, 20, .inl (fun j => nI (kp j)))), (g8, .inl (ax 0, 20, .inl tm)), (g9, .inl (ax 1, 20, .inl (fun j => nI (nm j)))), (ga, .inl (ax 1, 29, .inl (fun j => nI (ck j)))), (gb, .inl (ax 1, 29, .inl (fun j => nI (co j))))]) hP hD [0, 1, 2, 3, 4, 5, 6, 7, 8, 9, 10, 11, 12, 13, 14, 15, 16, 17, 18, 19, 20, 21, 22, 23, 24, 25] [] hCs (by decide) (by decide) hk1 hFc hP1 hD1 rfl
    clear hP1 hD1
    clear hPc hDc hFc hCs hz hz1 hk1 ht hvm
    clear hP hD hS
    have hS := hS1
    obtain ⟨hP, hD⟩ := hjn
    clear hS1
    refine wk_narrow (k := u_2 4 - cp) (n := 6 * (u_2 4 - cp)) (by first | assumption | omega) (by first | assumption | omega) ?_
    clear hk8 hk9 hg8 hg9
    have hK_24 : ∀ i, i < z9 → tsn x_13 x_14 x_15 i = tsn fo fl fr i := fun i hi => hx_18 i hi
    rw [← hQe]
    refine wk_know (fun hk8 hk9 => ?_)
    refine W.widen (k := MX - cp) (n := 6 * (MX - cp)) (by first | assumption | omega) (by first | assumption | omega) ?_
    obtain ⟨hP9, hD9⟩ := xw_sub2 (wc := (fun (u : Nat → Nat) (xsd : Nat → Int32) (xfo : Nat → Int32) (xfl : Nat → Int32) (xfr : Nat → Int32) => [(c0, .inr (3, [.ref n0, .ref c1, .ref g0, .ref a0, .int s_made])), (c1, .inl (ax 0, 16, .inl xsd)), (n0, .inr (4, [.ref (u 0), .ref (u 1), .ref (u 2), .int (nI (u 3))])), (u 0, .inl (ax 1, u 4, .inl xfo)), (u 1, .inl (ax 0, u 4, .inl xfl)), (u 2, .inl (ax 0, u 4, .inl xfr)), (h0, .inr (4, [.ref h1, .ref h2, .ref h3, .int (nI zs)])), (h1, .inl (ax 1, cs, .inl so)), (h2, .inl (ax 0, cs, .inl sl)), (h3, .inl (ax 0, cs, .inl sr)), (a0, .inr (4, [.ref a1, .ref a2, .ref a3, .int (nI za)])), (a1, .inl (ax 1, ca, .inl ao)), (a2, .inl (ax 0, ca, .inl al)), (a3, .inl (ax 0, ca, .inl ar)), (g0, .inr (2, [.ref h0, .ref g1, .ref g2, .ref g3, .ref g4, .ref g5, .ref g6, .ref g7, .ref g8, .ref g9, .ref ga, .ref gb, .int (nI cl), .int (nI ln), .int (nI br), .int (nI lp), .int (nI va)])), (g1, .inl (ax 1, 20, .inl (fun j => nI (kd j)))), (g2, .inl (ax 1, 20, .inl (fun j => nI (ow j)))), (g3, .inl (ax 1, 20, .inl (fun j => nI (sb j)))), (g4, .inl (ax 1, 20, .inl (fun j => nI (f1 j)))), (g5, .inl (ax 1, 20, .inl (fun j => nI (f2 j)))), (g6, .inl (ax 2, 20, .inl (fun j => nI (te j)))), (g7, .inl (ax 2, 20, .inl (fun j => nI (kp j)))), (g8, .inl (ax 0, 20, .inl tm)), (g9, .inl (ax 1, 20, .inl (fun j => nI (nm j)))), (ga, .inl (ax 1, 29, .inl (fun j => nI (ck j)))), (gb, .inl (ax 1, 29, .inl (fun j => nI (co j))))]) (ixn [(u_2 0), (u_2 1), (u_2 2), (u_2 3), (u_2 4), (u_2 5)]) x_12 x_13 x_14 x_15) hP hD [0, 1, 2, 3, 4, 5, 6, 7, 8, 9, 10, 11, 12, 13, 14, 15, 16, 17, 18, 19, 20, 21, 22, 23, 24, 25] (by decide) rfl
    have hex0 : ndv x_13 x_14 x_15 ((u_2 3)) := hx_16
    have hex1 : bts x_13 ((u_2 4)) := (by assumption)
    have hex2 : ∀ i, i < z9 → tsn x_13 x_14 x_15 i = tsn fo fl fr i := hK_24
    have hex3 : tsn x_13 x_14 x_15 ((u_2 5)) + z9 ≤ (u_2 3) := (by first | assumption | omega)
    have hex4 : ∀ j, j ≤ 10 → trm (x_12 j) := hx_20
    have hex5 : ndl x_13 x_14 x_15 (l0 ++ coF po X Y f1 (IT s9) q9 s9) ∧ (l0 ++ coF po X Y f1 (IT s9) q9 s9).length = (u_2 3) := (by rw [c_0 (i := s9) hid (by first | assumption | omega)]; exact hx_21)
    have hex6 : ∃ d, cmpl d (coF po X Y f1 (IT s9) q9 s9) := (by rw [c_0 (i := s9) hid (by first | assumption | omega)]; exact hx_22)
    have hex7 : sdq x_12 h9 := hx_23
    have hg8 : H_3.size ≤ s.heap.size + ((u_2 4) - cp) := by omega
    have hg9 : tsl H_3 ≤ tsl s.heap + (6 * ((u_2 4) - cp)) := by omega
    have hsp0 : z9 ≤ (u_2 3) := (by first | assumption | omega)
    have hsp1 : (u_2 3) ≤ (u_2 4) := (by first | assumption | omega)
    have hsp2 : cp ≤ (u_2 4) := (by first | assumption | omega)
    have hsp3 : (u_2 4) ≤ MX := (by first | assumption | omega)
    have hsp4 : dbl cp ((u_2 4)) := hs_9
    have hsp5 : (u_2 5) + 1 = (u_2 3) := (by first | assumption | omega)
    have hsp6 : (u_2 3) ≤ z9 + wpw kd kc ln 460 0 := (by first | assumption | omega)
    exact W.iret (v := nI (u_2 5)) hx hb hr (fun t ht hW => ⟨⟨nI (u_2 5), ixn [(u_2 0), (u_2 1), (u_2 2), (u_2 3), (u_2 4), (u_2 5)], rfl, ⟨rfl, ⟨hsp0, hsp1, hsp2, hsp3, hsp4, hsp5, hsp6⟩⟩, ⟨x_12, x_13, x_14, x_15, by rw [ht]; exact hg8, by rw [ht]; exact hg9, hex0, hex1, hex2, hex3, hex4, hex5, hex6, hex7, by rw [ht]; exact hP9, hD9⟩⟩, hS.F ht⟩) hS.2.2 d_Maker_conclusion_37
  by_cases hw_25 : q9 = 1
  · refine W.eq (g2 := F0 m 1 ls [.int 1]) (by rw [hw_25]; rfl) ?_
    refine lv_tableIn (off := 37) (tgt := 38) hx hb d_Maker_conclusion_1 (by decide) (by decide) (by decide) (by decide) ?_
    obtain ⟨hs9, hq4⟩ := hcq.some2 (by first | assumption | omega)
    obtain ⟨hte, hkp, htk, hf1a, hf1b, hnm⟩ := hlw.wh hs9 (hcq.loop (by first | assumption | omega) (by first | assumption | omega))
    have hwM := wpw_mono (kd := kd) (kc := kc) (n := ln) (B := 460) (s := 0) (j := f1 s9) (by first | assumption | omega)
    clear hnm
    refine lv_aload_n hx hb d_Maker_conclusion_38 rfl (lv_at hl1 0 rfl) ?_
    refine lv_aload_n hx hb d_Maker_conclusion_39 rfl (lv_at hl1 0 rfl) ?_
    refine va_get (D := D) (ci := 3) (v := .ref g0) (C := R_Maker) (T := F_Maker) (N := 5) hx hb hts i_Maker hown hK.1 hP 0 rfl rfl 2 (by decide) (hts _ wd_132) (fun _ h9 => h9) rfl d_Maker_conclusion_40 ?_
    refine va_get (D := D) (ci := 2) (v := .ref g4) (C := R_Listing) (T := F_Listing) (N := 17) hx hb hts i_Listing hown hK.1 hP 14 rfl rfl 4 (by decide) (hts _ wd_279) (fun _ h9 => h9) rfl d_Maker_conclusion_43 ?_
    refine lv_iload_n hx hb d_Maker_conclusion_46 rfl (lv_at hl1 2 rfl) ?_
    refine va_bald hx hb hK.1 hP 18 1 rfl rfl (vp_in_nI (by first | assumption | omega) (by decide)) d_Maker_conclusion_47 ?_
    refine W.eq (g2 := F0 m 48 ls [.int (nI (f1 s9)), .ref c0]) (by rw [nI_clamp (by first | exact Nat.lt_of_lt_of_le (by assumption) (by decide) | exact Nat.lt_of_le_of_lt (by assumption) (by decide) | omega)]) ?_
    obtain ⟨hPc, hDc, hFc, hCs⟩ := xw_sub3 (wc := [(c0, .inr (3, [.ref n0, .ref c1, .ref g0, .ref a0, .int s_made])), (c1, .inl (ax 0, 16, .inl sd)), (n0, .inr (4, [.ref n1, .ref n2, .ref n3, .int (nI z9)])), (n1, .inl (ax 1, cp, .inl fo)), (n2, .inl (ax 0, cp, .inl fl)), (n3, .inl (ax 0, cp, .inl fr)), (h0, .inr (4, [.ref h1, .ref h2, .ref h3, .int (nI zs)])), (h1, .inl (ax 1, cs, .inl so)), (h2, .inl (ax 0, cs, .inl sl)), (h3, .inl (ax 0, cs, .inl sr)), (a0, .inr (4, [.ref a1, .ref a2, .ref a3, .int (nI za)])), (a1, .inl (ax 1, ca, .inl ao)), (a2, .inl (ax 0, ca, .inl al)), (a3, .inl (ax 0, ca, .inl ar)), (g0, .inr (2, [.ref h0, .ref g1, .ref g2, .ref g3, .ref g4, .ref g5, .ref g6, .ref g7, .ref g8, .ref g9, .ref ga, .ref gb, .int (nI cl), .int (nI ln), .int (nI br), .int (nI lp), .int (nI va)])), (g1, .inl (ax 1, 20, .inl (fun j => nI (kd j)))), (g2, .inl (ax 1, 20, .inl (fun j => nI (ow j)))), (g3, .inl (ax 1, 20, .inl (fun j => nI (sb j)))), (g4, .inl (ax 1, 20, .inl (fun j => nI (f1 j)))), (g5, .inl (ax 1, 20, .inl (fun j => nI (f2 j)))), (g6, .inl (ax 2, 20, .inl (fun j => nI (te j)))), (g7, .inl (ax 2, 20, .inl (fun j => nI (kp j)))), (g8, .inl (ax 0, 20, .inl tm)), (g9, .inl (ax 1, 20, .inl (fun j => nI (nm j)))), (ga, .inl (ax 1, 29, .inl (fun j => nI (ck j)))), (gb, .inl (ax 1, 29, .inl (fun j => nI (co j))))]) hP hD hS hA [0, 1, 2, 3, 4, 5, 6, 7, 8, 9, 10, 11, 12, 13, 14, 15, 16, 17, 18, 19, 20, 21, 22, 23, 24, 25] (by decide) rfl
    have hz := xz_of hN hS
    refine wk_know (fun hk8 hk9 => ?_)
    refine va_calli (va_runV (As := [.int (nI (f1 s9))]) (rest := []) ⟨hx, hb, hml, hown, hts⟩ ((K_wp_all l 20 (f1 s9) (Nat.sub_le _ _)) D ax c0 c1 s_made sd n0 n1 n2 n3 cp z9 fo fl fr h0 h1 h2 h3 zs cs so sl sr a0 a1 a2 a3 za ca ao al ar g0 g1 g2 g3 g4 g5 g6 g7 g8 g9 ga gb cl ln br lp va kd ow sb f1 f2 te kp nm ck co tm MX en kc lz9 l0 po h9 IT X Y s.heap.size (tsl s.heap) (by first | assumption | omega) (by first | assumption | omega) (by first | assumption | omega) hMX (by assumption) (by assumption) (by assumption) hzs hcs hsv hza hca hz1 hz4 hav hat hlw hlg (by assumption) (by assumption) (by first | assumption | omega) (by first | assumption | omega)) (xcV (n := 1) hts wd_793 wd_4 wd_790 wd_792 ps_27 rfl rfl (by decide +kernel) ⟨(show (1010 + 8 * (20 - (f1 s9))) + 1 ≤ (1180) by omega), (show 8 + (2 + 11) + (21200 + 300 * (20 - (f1 s9))) ≤ (27300) by omega)⟩) (xpV3 (ci := 3) (q0 := 0) (As := [.int (nI (f1 s9))]) hPc hK hz hDc rfl rfl) rfl rfl hl1.1 rfl (lv_room (Nat.le_of_ble_eq_true rfl)) d_Maker_conclusion_48 ⟨(show (0) + (MX - cp) ≤ (MX - cp) by omega), (show (0) + (6 * (MX - cp)) ≤ (6 * (MX - cp)) by omega)⟩) hS (fun q _ h => hFc q h) hFc (fun r_28 u_26 t H_27 locs ht hvm hw hB hz1 hk1 hS1 => ?_)
    try dsimp only at hw
    obtain ⟨hw, hs_29, hs_30, hs_31, hs_32, hs_33, hs_34, hs_35⟩ := hw
    subst hw
    obtain ⟨x_36, x_37, x_38, x_39, hg8, hg9, hx_40, hx_41, hx_42, hx_43, hx_44, hx_45, hx_46, hx_47, hP1, hD1⟩ := hB
    rw [ht] at hg8 hg9 hP1
    have hjn := xw_join3 (wl := [(c0, .inr (3, [.ref n0, .ref c1, .ref g0, .ref a0, .int s_made])), (c1, .inl (ax 0, 16, .inl x_36)), (n0, .inr (4, [.ref (u_26 0), .ref (u_26 1), .ref (u_26 2), .int (nI (u_26 3))])), ((u_26 0), .inl (ax 1, u_26 4, .inl x_37)), ((u_26 1), .inl (ax 0, u_26 4, .inl x_38)), ((u_26 2), .inl (ax 0, u_26 4, .inl x_39)), (h0, .inr (4, [.ref h1, .ref h2, .ref h3, .int (nI zs)])), (h1, .inl (ax 1, cs, .inl so)), (h2, .inl (ax 0, cs, .inl sl)), (h3, .inl (ax 0, cs, .inl sr)), (a0, .inr (4, [.ref a1, .ref a2, .ref a3, .int (nI za)])), (a1, .inl (ax 1, ca, .inl ao)), (a2, .inl (ax 0, ca, .inl al)), (a3, .inl (ax 0, ca, .inl ar)), (g0, .inr (2, [.ref h0, .ref g1, .ref g2, .ref g3, .ref g4, .ref g5, .ref g6, .ref g7, .ref g8, .ref g9, .ref ga, .ref gb, .int (nI cl), .int (nI ln), .int (nI br), .int (nI lp), .int (nI va)])), (g1, .inl (ax 1, 20, .inl (fun j => nI (kd j)))), (g2, .inl (ax 1, 20, .inl (fun j => nI (ow j)))), (g3, .inl (ax 1, 20, .inl (fun j => nI (sb j)))), (g4, .inl (ax 1, 20, .inl (fun j => nI (f1 j)))), (g5, .inl (ax 1, 20, .inl (fun j => nI (f2 j)))), (g6, .inl (ax 2, 20, .inl (fun j => nI (te j)))), (g7, .inl (ax 2, 20, .inl (fun j => nI (kp j)))), (g8, .inl (ax 0, 20, .inl tm)), (g9, .inl (ax 1, 20, .inl (fun j => nI (nm j)))), (ga, .inl (ax 1, 29, .inl (fun j => nI (ck j)))), (gb, .inl (ax 1, 29, .inl (fun j => nI (co j))))]) hP hD [0, 1, 2, 3, 4, 5, 6, 7, 8, 9, 10, 11, 12, 13, 14, 15, 16, 17, 18, 19, 20, 21, 22, 23, 24, 25] [] hCs (by decide) (by decide) hk1 hFc hP1 hD1 rfl
    clear hP1 hD1
    clear hPc hDc hFc hCs hz hz1 hk1 ht hvm
    clear hP hD hS
    have hS := hS1
    obtain ⟨hP, hD⟩ := hjn
    clear hS1
    refine wk_narrow (k := u_26 4 - cp) (n := 6 * (u_26 4 - cp)) (by first | assumption | omega) (by first | assumption | omega) ?_
    clear hk8 hk9 hg8 hg9
    have hK_48 : ∀ i, i < z9 → tsn x_37 x_38 x_39 i = tsn fo fl fr i := fun i hi => hx_42 i hi
    rw [← hQe]
    refine wk_know (fun hk8 hk9 => ?_)
    refine W.widen (k := MX - cp) (n := 6 * (MX - cp)) (by first | assumption | omega) (by first | assumption | omega) ?_
    obtain ⟨hP9, hD9⟩ := xw_sub2 (wc := (fun (u : Nat → Nat) (xsd : Nat → Int32) (xfo : Nat → Int32) (xfl : Nat → Int32) (xfr : Nat → Int32) => [(c0, .inr (3, [.ref n0, .ref c1, .ref g0, .ref a0, .int s_made])), (c1, .inl (ax 0, 16, .inl xsd)), (n0, .inr (4, [.ref (u 0), .ref (u 1), .ref (u 2), .int (nI (u 3))])), (u 0, .inl (ax 1, u 4, .inl xfo)), (u 1, .inl (ax 0, u 4, .inl xfl)), (u 2, .inl (ax 0, u 4, .inl xfr)), (h0, .inr (4, [.ref h1, .ref h2, .ref h3, .int (nI zs)])), (h1, .inl (ax 1, cs, .inl so)), (h2, .inl (ax 0, cs, .inl sl)), (h3, .inl (ax 0, cs, .inl sr)), (a0, .inr (4, [.ref a1, .ref a2, .ref a3, .int (nI za)])), (a1, .inl (ax 1, ca, .inl ao)), (a2, .inl (ax 0, ca, .inl al)), (a3, .inl (ax 0, ca, .inl ar)), (g0, .inr (2, [.ref h0, .ref g1, .ref g2, .ref g3, .ref g4, .ref g5, .ref g6, .ref g7, .ref g8, .ref g9, .ref ga, .ref gb, .int (nI cl), .int (nI ln), .int (nI br), .int (nI lp), .int (nI va)])), (g1, .inl (ax 1, 20, .inl (fun j => nI (kd j)))), (g2, .inl (ax 1, 20, .inl (fun j => nI (ow j)))), (g3, .inl (ax 1, 20, .inl (fun j => nI (sb j)))), (g4, .inl (ax 1, 20, .inl (fun j => nI (f1 j)))), (g5, .inl (ax 1, 20, .inl (fun j => nI (f2 j)))), (g6, .inl (ax 2, 20, .inl (fun j => nI (te j)))), (g7, .inl (ax 2, 20, .inl (fun j => nI (kp j)))), (g8, .inl (ax 0, 20, .inl tm)), (g9, .inl (ax 1, 20, .inl (fun j => nI (nm j)))), (ga, .inl (ax 1, 29, .inl (fun j => nI (ck j)))), (gb, .inl (ax 1, 29, .inl (fun j => nI (co j))))]) (ixn [(u_26 0), (u_26 1), (u_26 2), (u_26 3), (u_26 4), (u_26 5)]) x_36 x_37 x_38 x_39) hP hD [0, 1, 2, 3, 4, 5, 6, 7, 8, 9, 10, 11, 12, 13, 14, 15, 16, 17, 18, 19, 20, 21, 22, 23, 24, 25] (by decide) rfl
    have hex0 : ndv x_37 x_38 x_39 ((u_26 3)) := hx_40
    have hex1 : bts x_37 ((u_26 4)) := (by assumption)
    have hex2 : ∀ i, i < z9 → tsn x_37 x_38 x_39 i = tsn fo fl fr i := hK_48
    have hex3 : tsn x_37 x_38 x_39 ((u_26 5)) + z9 ≤ (u_26 3) := (by first | assumption | omega)
    have hex4 : ∀ j, j ≤ 10 → trm (x_36 j) := hx_44
    have hex5 : ndl x_37 x_38 x_39 (l0 ++ coF po X Y f1 (IT s9) q9 s9) ∧ (l0 ++ coF po X Y f1 (IT s9) q9 s9).length = (u_26 3) := (by rw [c_1 (i := s9) hid (by first | assumption | omega)]; exact hx_45)
    have hex6 : ∃ d, cmpl d (coF po X Y f1 (IT s9) q9 s9) := (by rw [c_1 (i := s9) hid (by first | assumption | omega)]; exact hx_46)
    have hex7 : sdq x_36 h9 := hx_47
    have hg8 : H_27.size ≤ s.heap.size + ((u_26 4) - cp) := by omega
    have hg9 : tsl H_27 ≤ tsl s.heap + (6 * ((u_26 4) - cp)) := by omega
    have hsp0 : z9 ≤ (u_26 3) := (by first | assumption | omega)
    have hsp1 : (u_26 3) ≤ (u_26 4) := (by first | assumption | omega)
    have hsp2 : cp ≤ (u_26 4) := (by first | assumption | omega)
    have hsp3 : (u_26 4) ≤ MX := (by first | assumption | omega)
    have hsp4 : dbl cp ((u_26 4)) := hs_33
    have hsp5 : (u_26 5) + 1 = (u_26 3) := (by first | assumption | omega)
    have hsp6 : (u_26 3) ≤ z9 + wpw kd kc ln 460 0 := (by first | assumption | omega)
    exact W.iret (v := nI (u_26 5)) hx hb hr (fun t ht hW => ⟨⟨nI (u_26 5), ixn [(u_26 0), (u_26 1), (u_26 2), (u_26 3), (u_26 4), (u_26 5)], rfl, ⟨rfl, ⟨hsp0, hsp1, hsp2, hsp3, hsp4, hsp5, hsp6⟩⟩, ⟨x_36, x_37, x_38, x_39, by rw [ht]; exact hg8, by rw [ht]; exact hg9, hex0, hex1, hex2, hex3, hex4, hex5, hex6, hex7, by rw [ht]; exact hP9, hD9⟩⟩, hS.F ht⟩) hS.2.2 d_Maker_conclusion_51
  by_cases hw_49 : q9 = 2
  · refine W.eq (g2 := F0 m 1 ls [.int 2]) (by rw [hw_49]; rfl) ?_
    refine lv_tableIn (off := 71) (tgt := 72) hx hb d_Maker_conclusion_1 (by decide) (by decide) (by decide) (by decide) ?_
    obtain ⟨hs9, hq4⟩ := hcq.some2 (by first | assumption | omega)
    have hwM := wpw_mono (kd := kd) (kc := kc) (n := ln) (B := 460) (s := 0) (j := s9 + 1) (by first | assumption | omega)
    refine lv_aload_n hx hb d_Maker_conclusion_72 rfl (lv_at hl1 0 rfl) ?_
    refine lv_iload_n hx hb d_Maker_conclusion_73 rfl (lv_at hl1 2 rfl) ?_
    obtain ⟨hPc, hDc, hFc, hCs⟩ := xw_sub3 (wc := [(c0, .inr (3, [.ref n0, .ref c1, .ref g0, .ref a0, .int s_made])), (c1, .inl (ax 0, 16, .inl sd)), (n0, .inr (4, [.ref n1, .ref n2, .ref n3, .int (nI z9)])), (n1, .inl (ax 1, cp, .inl fo)), (n2, .inl (ax 0, cp, .inl fl)), (n3, .inl (ax 0, cp, .inl fr)), (h0, .inr (4, [.ref h1, .ref h2, .ref h3, .int (nI zs)])), (h1, .inl (ax 1, cs, .inl so)), (h2, .inl (ax 0, cs, .inl sl)), (h3, .inl (ax 0, cs, .inl sr)), (a0, .inr (4, [.ref a1, .ref a2, .ref a3, .int (nI za)])), (a1, .inl (ax 1, ca, .inl ao)), (a2, .inl (ax 0, ca, .inl al)), (a3, .inl (ax 0, ca, .inl ar)), (g0, .inr (2, [.ref h0, .ref g1, .ref g2, .ref g3, .ref g4, .ref g5, .ref g6, .ref g7, .ref g8, .ref g9, .ref ga, .ref gb, .int (nI cl), .int (nI ln), .int (nI br), .int (nI lp), .int (nI va)])), (g1, .inl (ax 1, 20, .inl (fun j => nI (kd j)))), (g2, .inl (ax 1, 20, .inl (fun j => nI (ow j)))), (g3, .inl (ax 1, 20, .inl (fun j => nI (sb j)))), (g4, .inl (ax 1, 20, .inl (fun j => nI (f1 j)))), (g5, .inl (ax 1, 20, .inl (fun j => nI (f2 j)))), (g6, .inl (ax 2, 20, .inl (fun j => nI (te j)))), (g7, .inl (ax 2, 20, .inl (fun j => nI (kp j)))), (g8, .inl (ax 0, 20, .inl tm)), (g9, .inl (ax 1, 20, .inl (fun j => nI (nm j)))), (ga, .inl (ax 1, 29, .inl (fun j => nI (ck j)))), (gb, .inl (ax 1, 29, .inl (fun j => nI (co j))))]) hP hD hS hA [0, 1, 2, 3, 4, 5, 6, 7, 8, 9, 10, 11, 12, 13, 14, 15, 16, 17, 18, 19, 20, 21, 22, 23, 24, 25] (by decide) rfl
    have hz := xz_of hN hS
    refine wk_know (fun hk8 hk9 => ?_)
    refine va_calli (va_runV (As := [.int (nI s9)]) (rest := []) ⟨hx, hb, hml, hown, hts⟩ (c_K_wpBehind l s9 (fun a _ _ => K_wp_all l 20 a (Nat.sub_le _ _)) D ax c0 c1 s_made sd n0 n1 n2 n3 cp z9 fo fl fr h0 h1 h2 h3 zs cs so sl sr a0 a1 a2 a3 za ca ao al ar g0 g1 g2 g3 g4 g5 g6 g7 g8 g9 ga gb cl ln br lp va kd ow sb f1 f2 te kp nm ck co tm MX en kc lz9 l0 po h9 IT X Y s.heap.size (tsl s.heap) (by first | assumption | omega) (by first | assumption | omega) (by first | assumption | omega) hMX (by assumption) (by assumption) (by assumption) hzs hcs hsv hza hca hz1 hz4 hav hat hlw hlg (by assumption) (by assumption) hs9 (by first | assumption | omega)) (xcV (n := 1) hts wd_801 wd_4 wd_798 wd_800 ps_29 rfl rfl (by decide +kernel) ⟨(show (1006 + 8 * (20 - s9)) + 1 ≤ (1180) by omega), (show 8 + (3 + 11) + (21100 + 300 * (20 - s9)) ≤ (27300) by omega)⟩) (xpV3 (ci := 3) (q0 := 0) (As := [.int (nI s9)]) hPc hK hz hDc rfl rfl) rfl rfl hl1.1 rfl (lv_room (Nat.le_of_ble_eq_true rfl)) d_Maker_conclusion_74 ⟨(show (0) + (MX - cp) ≤ (MX - cp) by omega), (show (0) + (6 * (MX - cp)) ≤ (6 * (MX - cp)) by omega)⟩) hS (fun q _ h => hFc q h) hFc (fun r_52 u_50 t H_51 locs ht hvm hw hB hz1 hk1 hS1 => ?_)
    try dsimp only at hw
    obtain ⟨hw, hs_53, hs_54, hs_55, hs_56, hs_57, hs_58, hs_59⟩ := hw
    subst hw
    obtain ⟨x_60, x_61, x_62, x_63, hg8, hg9, hx_64, hx_65, hx_66, hx_67, hx_68, hx_69, hx_70, hx_71, hP1, hD1⟩ := hB
    rw [ht] at hg8 hg9 hP1
    have hjn := xw_join3 (wl := [(c0, .inr (3, [.ref n0, .ref c1, .ref g0, .ref a0, .int s_made])), (c1, .inl (ax 0, 16, .inl x_60)), (n0, .inr (4, [.ref (u_50 0), .ref (u_50 1), .ref (u_50 2), .int (nI (u_50 3))])), ((u_50 0), .inl (ax 1, u_50 4, .inl x_61)), ((u_50 1), .inl (ax 0, u_50 4, .inl x_62)), ((u_50 2), .inl (ax 0, u_50 4, .inl x_63)), (h0, .inr (4, [.ref h1, .ref h2, .ref h3, .int (nI zs)])), (h1, .inl (ax 1, cs, .inl so)), (h2, .inl (ax 0, cs, .inl sl)), (h3, .inl (ax 0, cs, .inl sr)), (a0, .inr (4, [.ref a1, .ref a2, .ref a3, .int (nI za)])), (a1, .inl (ax 1, ca, .inl ao)), (a2, .inl (ax 0, ca, .inl al)), (a3, .inl (ax 0, ca, .inl ar)), (g0, .inr (2, [.ref h0, .ref g1, .ref g2, .ref g3, .ref g4, .ref g5, .ref g6, .ref g7, .ref g8, .ref g9, .ref ga, .ref gb, .int (nI cl), .int (nI ln), .int (nI br), .int (nI lp), .int (nI va)])), (g1, .inl (ax 1, 20, .inl (fun j => nI (kd j)))), (g2, .inl (ax 1, 20, .inl (fun j => nI (ow j)))), (g3, .inl (ax 1, 20, .inl (fun j => nI (sb j)))), (g4, .inl (ax 1, 20, .inl (fun j => nI (f1 j)))), (g5, .inl (ax 1, 20, .inl (fun j => nI (f2 j)))), (g6, .inl (ax 2, 20, .inl (fun j => nI (te j)))), (g7, .inl (ax 2, 20, .inl (fun j => nI (kp j)))), (g8, .inl (ax 0, 20, .inl tm)), (g9, .inl (ax 1, 20, .inl (fun j => nI (nm j)))), (ga, .inl (ax 1, 29, .inl (fun j => nI (ck j)))), (gb, .inl (ax 1, 29, .inl (fun j => nI (co j))))]) hP hD [0, 1, 2, 3, 4, 5, 6, 7, 8, 9, 10, 11, 12, 13, 14, 15, 16, 17, 18, 19, 20, 21, 22, 23, 24, 25] [] hCs (by decide) (by decide) hk1 hFc hP1 hD1 rfl
    clear hP1 hD1
    clear hPc hDc hFc hCs hz hz1 hk1 ht hvm
    clear hP hD hS
    have hS := hS1
    obtain ⟨hP, hD⟩ := hjn
    clear hS1
    refine wk_narrow (k := u_50 4 - cp) (n := 6 * (u_50 4 - cp)) (by first | assumption | omega) (by first | assumption | omega) ?_
    clear hk8 hk9 hg8 hg9
    have hK_72 : ∀ i, i < z9 → tsn x_61 x_62 x_63 i = tsn fo fl fr i := fun i hi => hx_66 i hi
    rw [← hQe]
    refine wk_know (fun hk8 hk9 => ?_)
    refine W.widen (k := MX - cp) (n := 6 * (MX - cp)) (by first | assumption | omega) (by first | assumption | omega) ?_
    obtain ⟨hP9, hD9⟩ := xw_sub2 (wc := (fun (u : Nat → Nat) (xsd : Nat → Int32) (xfo : Nat → Int32) (xfl : Nat → Int32) (xfr : Nat → Int32) => [(c0, .inr (3, [.ref n0, .ref c1, .ref g0, .ref a0, .int s_made])), (c1, .inl (ax 0, 16, .inl xsd)), (n0, .inr (4, [.ref (u 0), .ref (u 1), .ref (u 2), .int (nI (u 3))])), (u 0, .inl (ax 1, u 4, .inl xfo)), (u 1, .inl (ax 0, u 4, .inl xfl)), (u 2, .inl (ax 0, u 4, .inl xfr)), (h0, .inr (4, [.ref h1, .ref h2, .ref h3, .int (nI zs)])), (h1, .inl (ax 1, cs, .inl so)), (h2, .inl (ax 0, cs, .inl sl)), (h3, .inl (ax 0, cs, .inl sr)), (a0, .inr (4, [.ref a1, .ref a2, .ref a3, .int (nI za)])), (a1, .inl (ax 1, ca, .inl ao)), (a2, .inl (ax 0, ca, .inl al)), (a3, .inl (ax 0, ca, .inl ar)), (g0, .inr (2, [.ref h0, .ref g1, .ref g2, .ref g3, .ref g4, .ref g5, .ref g6, .ref g7, .ref g8, .ref g9, .ref ga, .ref gb, .int (nI cl), .int (nI ln), .int (nI br), .int (nI lp), .int (nI va)])), (g1, .inl (ax 1, 20, .inl (fun j => nI (kd j)))), (g2, .inl (ax 1, 20, .inl (fun j => nI (ow j)))), (g3, .inl (ax 1, 20, .inl (fun j => nI (sb j)))), (g4, .inl (ax 1, 20, .inl (fun j => nI (f1 j)))), (g5, .inl (ax 1, 20, .inl (fun j => nI (f2 j)))), (g6, .inl (ax 2, 20, .inl (fun j => nI (te j)))), (g7, .inl (ax 2, 20, .inl (fun j => nI (kp j)))), (g8, .inl (ax 0, 20, .inl tm)), (g9, .inl (ax 1, 20, .inl (fun j => nI (nm j)))), (ga, .inl (ax 1, 29, .inl (fun j => nI (ck j)))), (gb, .inl (ax 1, 29, .inl (fun j => nI (co j))))]) (ixn [(u_50 0), (u_50 1), (u_50 2), (u_50 3), (u_50 4), (u_50 5)]) x_60 x_61 x_62 x_63) hP hD [0, 1, 2, 3, 4, 5, 6, 7, 8, 9, 10, 11, 12, 13, 14, 15, 16, 17, 18, 19, 20, 21, 22, 23, 24, 25] (by decide) rfl
    have hex0 : ndv x_61 x_62 x_63 ((u_50 3)) := hx_64
    have hex1 : bts x_61 ((u_50 4)) := (by assumption)
    have hex2 : ∀ i, i < z9 → tsn x_61 x_62 x_63 i = tsn fo fl fr i := hK_72
    have hex3 : tsn x_61 x_62 x_63 ((u_50 5)) + z9 ≤ (u_50 3) := (by first | assumption | omega)
    have hex4 : ∀ j, j ≤ 10 → trm (x_60 j) := hx_68
    have hex5 : ndl x_61 x_62 x_63 (l0 ++ coF po X Y f1 (IT s9) q9 s9) ∧ (l0 ++ coF po X Y f1 (IT s9) q9 s9).length = (u_50 3) := (by rw [c_2 (i := s9) hid (by first | assumption | omega)]; exact hx_69)
    have hex6 : ∃ d, cmpl d (coF po X Y f1 (IT s9) q9 s9) := (by rw [c_2 (i := s9) hid (by first | assumption | omega)]; exact hx_70)
    have hex7 : sdq x_60 h9 := hx_71
    have hg8 : H_51.size ≤ s.heap.size + ((u_50 4) - cp) := by omega
    have hg9 : tsl H_51 ≤ tsl s.heap + (6 * ((u_50 4) - cp)) := by omega
    have hsp0 : z9 ≤ (u_50 3) := (by first | assumption | omega)
    have hsp1 : (u_50 3) ≤ (u_50 4) := (by first | assumption | omega)
    have hsp2 : cp ≤ (u_50 4) := (by first | assumption | omega)
    have hsp3 : (u_50 4) ≤ MX := (by first | assumption | omega)
    have hsp4 : dbl cp ((u_50 4)) := hs_57
    have hsp5 : (u_50 5) + 1 = (u_50 3) := (by first | assumption | omega)
    have hsp6 : (u_50 3) ≤ z9 + wpw kd kc ln 460 0 := (by first | assumption | omega)
    exact W.iret (v := nI (u_50 5)) hx hb hr (fun t ht hW => ⟨⟨nI (u_50 5), ixn [(u_50 0), (u_50 1), (u_50 2), (u_50 3), (u_50 4), (u_50 5)], rfl, ⟨rfl, ⟨hsp0, hsp1, hsp2, hsp3, hsp4, hsp5, hsp6⟩⟩, ⟨x_60, x_61, x_62, x_63, by rw [ht]; exact hg8, by rw [ht]; exact hg9, hex0, hex1, hex2, hex3, hex4, hex5, hex6, hex7, by rw [ht]; exact hP9, hD9⟩⟩, hS.F ht⟩) hS.2.2 d_Maker_conclusion_77
  by_cases hw_73 : q9 = 3
  · refine W.eq (g2 := F0 m 1 ls [.int 3]) (by rw [hw_73]; rfl) ?_
    refine lv_tableIn (off := 51) (tgt := 52) hx hb d_Maker_conclusion_1 (by decide) (by decide) (by decide) (by decide) ?_
    obtain ⟨hs9, hq4⟩ := hcq.some2 (by first | assumption | omega)
    obtain ⟨hte, hkp, htk, hf1a, hf1b, hnm⟩ := hlw.wh hs9 (hcq.loop (by first | assumption | omega) (by first | assumption | omega))
    obtain ⟨hn10, htm⟩ := hnm.resolve_left (by have h9 := hcq.vari (by first | assumption | omega); omega)
    have hit := ((hlg.2.2.2 s9 hs9).2.2.2.2.2 (hcq.loop (by first | assumption | omega) (by first | assumption | omega))).2.2.2.2.resolve_left (fun q => by have h9_ := hcq.vari (by first | assumption | omega); have := q.1; omega)
    refine lv_aload_n hx hb d_Maker_conclusion_52 rfl (lv_at hl1 0 rfl) ?_
    refine va_get (D := D) (ci := 3) (v := .ref n0) (C := R_Maker) (T := F_Maker) (N := 5) hx hb hts i_Maker hown hK.1 hP 0 rfl rfl 0 (by decide) (hts _ wd_129) (fun _ h9 => h9) rfl d_Maker_conclusion_53 ?_
    refine lv_iconst (v := 1) hx hb d_Maker_conclusion_56 (by decide) ?_
    refine lv_aload_n hx hb d_Maker_conclusion_57 rfl (lv_at hl1 0 rfl) ?_
    refine va_get (D := D) (ci := 3) (v := .ref g0) (C := R_Maker) (T := F_Maker) (N := 5) hx hb hts i_Maker hown hK.1 hP 0 rfl rfl 2 (by decide) (hts _ wd_132) (fun _ h9 => h9) rfl d_Maker_conclusion_58 ?_
    refine va_get (D := D) (ci := 2) (v := .ref g8) (C := R_Listing) (T := F_Listing) (N := 17) hx hb hts i_Listing hown hK.1 hP 14 rfl rfl 8 (by decide) (hts _ wd_294) (fun _ h9 => h9) rfl d_Maker_conclusion_61 ?_
    refine lv_iload_n hx hb d_Maker_conclusion_64 rfl (lv_at hl1 2 rfl) ?_
    refine va_iald hx hb hK.1 hP 22 0 rfl rfl (vp_in_nI (by first | assumption | omega) (by decide)) d_Maker_conclusion_65 ?_
    refine W.eq (g2 := F0 m 66 ls [.int (tm s9), .int 1, .ref n0]) (by rw [nI_clamp (by first | exact Nat.lt_of_lt_of_le (by assumption) (by decide) | exact Nat.lt_of_le_of_lt (by assumption) (by decide) | omega)]) ?_
    refine lv_bipush (v := 10) hx hb d_Maker_conclusion_66 (by decide) ?_
    obtain ⟨hPc, hDc, hFc, hCs⟩ := xw_sub3 (wc := [(n0, .inr (4, [.ref n1, .ref n2, .ref n3, .int (nI z9)])), (n1, .inl (ax 1, cp, .inl fo)), (n2, .inl (ax 0, cp, .inl fl)), (n3, .inl (ax 0, cp, .inl fr))]) hP hD hS hA [2, 3, 4, 5] (by decide) rfl
    have hz := xz_of hN hS
    refine wk_know (fun hk8 hk9 => ?_)
    refine va_calli (va_runV (As := [.int 1, .int (tm s9), .int 10]) (rest := []) ⟨hx, hb, hml, hown, hts⟩ (c_Nodes_add l D ax n0 n1 n2 n3 cp z9 fo fl fr MX 1 (tm s9) 10 s.heap.size (tsl s.heap) (by first | assumption | omega) (by first | assumption | omega) (by first | assumption | omega) (by first | assumption | omega) (by first | assumption | omega) (by assumption)) (xcV (n := 3) hts wd_350 wd_5 wd_781 wd_348 wd_349 rfl rfl (by decide +kernel) ⟨(show (30) + 1 ≤ (1180) by omega), (show 8 + (4 + 11) + (1200) ≤ (27300) by omega)⟩) (xpV3 (ci := 4) (q0 := 0) (As := [.int 1, .int (tm s9), .int 10]) hPc hK hz hDc rfl rfl) rfl rfl hl1.1 rfl (lv_room (Nat.le_of_ble_eq_true rfl)) d_Maker_conclusion_68 ⟨(show (0) + (MX - cp) ≤ (MX - cp) by omega), (show (0) + (6 * (MX - cp)) ≤ (6 * (MX - cp)) by omega)⟩) hS (fun q _ h => hFc q h) hFc (fun r_76 u_74 t H_75 locs ht hvm hw hB hz1 hk1 hS1 => ?_)
    try dsimp only at hw
    obtain ⟨hw, hs_77, hs_78, hs_79, hs_80⟩ := hw
    subst hw
    obtain ⟨x_81, x_82, x_83, hg8, hg9, hx_84, hx_85, hP1, hD1⟩ := hB
    rw [ht] at hg8 hg9 hP1
    have hjn := xw_join3 (wl := [(c0, .inr (3, [.ref n0, .ref c1, .ref g0, .ref a0, .int s_made])), (c1, .inl (ax 0, 16, .inl sd)), (h0, .inr (4, [.ref h1, .ref h2, .ref h3, .int (nI zs)])), (h1, .inl (ax 1, cs, .inl so)), (h2, .inl (ax 0, cs, .inl sl)), (h3, .inl (ax 0, cs, .inl sr)), (a0, .inr (4, [.ref a1, .ref a2, .ref a3, .int (nI za)])), (a1, .inl (ax 1, ca, .inl ao)), (a2, .inl (ax 0, ca, .inl al)), (a3, .inl (ax 0, ca, .inl ar)), (g0, .inr (2, [.ref h0, .ref g1, .ref g2, .ref g3, .ref g4, .ref g5, .ref g6, .ref g7, .ref g8, .ref g9, .ref ga, .ref gb, .int (nI cl), .int (nI ln), .int (nI br), .int (nI lp), .int (nI va)])), (g1, .inl (ax 1, 20, .inl (fun j => nI (kd j)))), (g2, .inl (ax 1, 20, .inl (fun j => nI (ow j)))), (g3, .inl (ax 1, 20, .inl (fun j => nI (sb j)))), (g4, .inl (ax 1, 20, .inl (fun j => nI (f1 j)))), (g5, .inl (ax 1, 20, .inl (fun j => nI (f2 j)))), (g6, .inl (ax 2, 20, .inl (fun j => nI (te j)))), (g7, .inl (ax 2, 20, .inl (fun j => nI (kp j)))), (g8, .inl (ax 0, 20, .inl tm)), (g9, .inl (ax 1, 20, .inl (fun j => nI (nm j)))), (ga, .inl (ax 1, 29, .inl (fun j => nI (ck j)))), (gb, .inl (ax 1, 29, .inl (fun j => nI (co j)))), (n0, .inr (4, [.ref (u_74 0), .ref (u_74 1), .ref (u_74 2), .int (nI (z9 + 1))])), ((u_74 0), .inl (ax 1, u_74 3, .inl x_81)), ((u_74 1), .inl (ax 0, u_74 3, .inl x_82)), ((u_74 2), .inl (ax 0, u_74 3, .inl x_83))]) hP hD [2, 3, 4, 5] [0, 1, 6, 7, 8, 9, 10, 11, 12, 13, 14, 15, 16, 17, 18, 19, 20, 21, 22, 23, 24, 25] hCs (by decide) (by decide) hk1 hFc hP1 hD1 rfl
    clear hP1 hD1
    clear hPc hDc hFc hCs hz hz1 hk1 ht hvm
    clear hP hD hS
    have hS := hS1
    obtain ⟨hP, hD⟩ := hjn
    clear hS1
    refine wk_narrow (k := u_74 3 - cp) (n := 6 * (u_74 3 - cp)) (by first | assumption | omega) (by first | assumption | omega) ?_
    clear hk8 hk9 hg8 hg9
    have hZ_86 : ndl x_81 x_82 x_83 (l0 ++ [(1, (IT s9).2.2.2.1, (10, 0))]) ∧ (l0 ++ [(1, (IT s9).2.2.2.1, (10, 0))]).length = z9 + 1 := atm_q (s := (1, (IT s9).2.2.2.1, (10, 0))) hL9 (show (1 : Nat) < 6 by decide) hx_84 hit.2.2.2.1 tmI_z.symm
    have hY_87 : ∃ d, cmpl d ([(1, (IT s9).2.2.2.1, (10, 0))]) := cmx_a (s := (1, (IT s9).2.2.2.1, (10, 0))) (show (1 : Nat) < 6 by decide)
    have hV_88 : ndv x_81 x_82 x_83 (z9 + 1) := hnv.add hx_84 (nd_atom (o := 1) (by decide) htm (trm_nm (b := 10) (by decide)))
    have hT_89 : tsn x_81 x_82 x_83 z9 = 1 := nad.atom (o := 1) (by decide) hx_84
    have hG_90 : ∀ i, i < z9 → tsn x_81 x_82 x_83 i = tsn fo fl fr i := fun i hi => nad.keep (by first | assumption | omega) hnv hx_84 hi
    have hB_91 : tsn x_81 x_82 x_83 z9 + z9 ≤ (z9 + 1) := by omega
    have hK_92 : ∀ i, i < z9 → tsn x_81 x_82 x_83 i = tsn fo fl fr i := fun i hi => hG_90 i hi
    rw [← hQe]
    refine wk_know (fun hk8 hk9 => ?_)
    refine W.widen (k := MX - cp) (n := 6 * (MX - cp)) (by first | assumption | omega) (by first | assumption | omega) ?_
    obtain ⟨hP9, hD9⟩ := xw_sub2 (wc := (fun (u : Nat → Nat) (xsd : Nat → Int32) (xfo : Nat → Int32) (xfl : Nat → Int32) (xfr : Nat → Int32) => [(c0, .inr (3, [.ref n0, .ref c1, .ref g0, .ref a0, .int s_made])), (c1, .inl (ax 0, 16, .inl xsd)), (n0, .inr (4, [.ref (u 0), .ref (u 1), .ref (u 2), .int (nI (u 3))])), (u 0, .inl (ax 1, u 4, .inl xfo)), (u 1, .inl (ax 0, u 4, .inl xfl)), (u 2, .inl (ax 0, u 4, .inl xfr)), (h0, .inr (4, [.ref h1, .ref h2, .ref h3, .int (nI zs)])), (h1, .inl (ax 1, cs, .inl so)), (h2, .inl (ax 0, cs, .inl sl)), (h3, .inl (ax 0, cs, .inl sr)), (a0, .inr (4, [.ref a1, .ref a2, .ref a3, .int (nI za)])), (a1, .inl (ax 1, ca, .inl ao)), (a2, .inl (ax 0, ca, .inl al)), (a3, .inl (ax 0, ca, .inl ar)), (g0, .inr (2, [.ref h0, .ref g1, .ref g2, .ref g3, .ref g4, .ref g5, .ref g6, .ref g7, .ref g8, .ref g9, .ref ga, .ref gb, .int (nI cl), .int (nI ln), .int (nI br), .int (nI lp), .int (nI va)])), (g1, .inl (ax 1, 20, .inl (fun j => nI (kd j)))), (g2, .inl (ax 1, 20, .inl (fun j => nI (ow j)))), (g3, .inl (ax 1, 20, .inl (fun j => nI (sb j)))), (g4, .inl (ax 1, 20, .inl (fun j => nI (f1 j)))), (g5, .inl (ax 1, 20, .inl (fun j => nI (f2 j)))), (g6, .inl (ax 2, 20, .inl (fun j => nI (te j)))), (g7, .inl (ax 2, 20, .inl (fun j => nI (kp j)))), (g8, .inl (ax 0, 20, .inl tm)), (g9, .inl (ax 1, 20, .inl (fun j => nI (nm j)))), (ga, .inl (ax 1, 29, .inl (fun j => nI (ck j)))), (gb, .inl (ax 1, 29, .inl (fun j => nI (co j))))]) (ixn [(u_74 0), (u_74 1), (u_74 2), (z9 + 1), (u_74 3), z9]) sd x_81 x_82 x_83) hP hD [0, 1, 22, 23, 24, 25, 2, 3, 4, 5, 6, 7, 8, 9, 10, 11, 12, 13, 14, 15, 16, 17, 18, 19, 20, 21] (by decide) rfl
    have hex0 : ndv x_81 x_82 x_83 ((z9 + 1)) := hV_88
    have hex1 : bts x_81 ((u_74 3)) := (by assumption)
    have hex2 : ∀ i, i < z9 → tsn x_81 x_82 x_83 i = tsn fo fl fr i := hK_92
    have hex3 : tsn x_81 x_82 x_83 (z9) + z9 ≤ (z9 + 1) := (by first | assumption | omega)
    have hex4 : ∀ j, j ≤ 10 → trm (sd j) := hsd
    have hex5 : ndl x_81 x_82 x_83 (l0 ++ coF po X Y f1 (IT s9) q9 s9) ∧ (l0 ++ coF po X Y f1 (IT s9) q9 s9).length = (z9 + 1) := (by rw [c_3 (i := s9) (by first | assumption | omega)]; exact hZ_86)
    have hex6 : ∃ d, cmpl d (coF po X Y f1 (IT s9) q9 s9) := (by rw [c_3 (i := s9) (by first | assumption | omega)]; exact hY_87)
    have hex7 : sdq sd h9 := hsq
    have hg8 : H_75.size ≤ s.heap.size + ((u_74 3) - cp) := by omega
    have hg9 : tsl H_75 ≤ tsl s.heap + (6 * ((u_74 3) - cp)) := by omega
    have hsp0 : z9 ≤ (z9 + 1) := (by first | assumption | omega)
    have hsp1 : (z9 + 1) ≤ (u_74 3) := (by first | assumption | omega)
    have hsp2 : cp ≤ (u_74 3) := (by first | assumption | omega)
    have hsp3 : (u_74 3) ≤ MX := (by first | assumption | omega)
    have hsp4 : dbl cp ((u_74 3)) := hs_80
    have hsp5 : z9 + 1 = (z9 + 1) := (by first | assumption | omega)
    have hsp6 : (z9 + 1) ≤ z9 + wpw kd kc ln 460 0 := (by first | assumption | omega)
    exact W.iret (v := nI z9) hx hb hr (fun t ht hW => ⟨⟨nI z9, ixn [(u_74 0), (u_74 1), (u_74 2), (z9 + 1), (u_74 3), z9], rfl, ⟨rfl, ⟨hsp0, hsp1, hsp2, hsp3, hsp4, hsp5, hsp6⟩⟩, ⟨sd, x_81, x_82, x_83, by rw [ht]; exact hg8, by rw [ht]; exact hg9, hex0, hex1, hex2, hex3, hex4, hex5, hex6, hex7, by rw [ht]; exact hP9, hD9⟩⟩, hS.F ht⟩) hS.2.2 d_Maker_conclusion_71
  refine lv_tableOut (tgt := 72) hx hb d_Maker_conclusion_1 (by rw [nI_toInt (by first | assumption | omega)]; omega) (by decide) ?_
  obtain ⟨hs9, hq4⟩ := hcq.some2 (by first | assumption | omega)
  have hwM := wpw_mono (kd := kd) (kc := kc) (n := ln) (B := 460) (s := 0) (j := s9 + 1) (by first | assumption | omega)
  refine lv_aload_n hx hb d_Maker_conclusion_72 rfl (lv_at hl1 0 rfl) ?_
  refine lv_iload_n hx hb d_Maker_conclusion_73 rfl (lv_at hl1 2 rfl) ?_
  obtain ⟨hPc, hDc, hFc, hCs⟩ := xw_sub3 (wc := [(c0, .inr (3, [.ref n0, .ref c1, .ref g0, .ref a0, .int s_made])), (c1, .inl (ax 0, 16, .inl sd)), (n0, .inr (4, [.ref n1, .ref n2, .ref n3, .int (nI z9)])), (n1, .inl (ax 1, cp, .inl fo)), (n2, .inl (ax 0, cp, .inl fl)), (n3, .inl (ax 0, cp, .inl fr)), (h0, .inr (4, [.ref h1, .ref h2, .ref h3, .int (nI zs)])), (h1, .inl (ax 1, cs, .inl so)), (h2, .inl (ax 0, cs, .inl sl)), (h3, .inl (ax 0, cs, .inl sr)), (a0, .inr (4, [.ref a1, .ref a2, .ref a3, .int (nI za)])), (a1, .inl (ax 1, ca, .inl ao)), (a2, .inl (ax 0, ca, .inl al)), (a3, .inl (ax 0, ca, .inl ar)), (g0, .inr (2, [.ref h0, .ref g1, .ref g2, .ref g3, .ref g4, .ref g5, .ref g6, .ref g7, .ref g8, .ref g9, .ref ga, .ref gb, .int (nI cl), .int (nI ln), .int (nI br), .int (nI lp), .int (nI va)])), (g1, .inl (ax 1, 20, .inl (fun j => nI (kd j)))), (g2, .inl (ax 1, 20, .inl (fun j => nI (ow j)))), (g3, .inl (ax 1, 20, .inl (fun j => nI (sb j)))), (g4, .inl (ax 1, 20, .inl (fun j => nI (f1 j)))), (g5, .inl (ax 1, 20, .inl (fun j => nI (f2 j)))), (g6, .inl (ax 2, 20, .inl (fun j => nI (te j)))), (g7, .inl (ax 2, 20, .inl (fun j => nI (kp j)))), (g8, .inl (ax 0, 20, .inl tm)), (g9, .inl (ax 1, 20, .inl (fun j => nI (nm j)))), (ga, .inl (ax 1, 29, .inl (fun j => nI (ck j)))), (gb, .inl (ax 1, 29, .inl (fun j => nI (co j))))]) hP hD hS hA [0, 1, 2, 3, 4, 5, 6, 7, 8, 9, 10, 11, 12, 13, 14, 15, 16, 17, 18, 19, 20, 21, 22, 23, 24, 25] (by decide) rfl
  have hz := xz_of hN hS
  refine wk_know (fun hk8 hk9 => ?_)
  refine va_calli (va_runV (As := [.int (nI s9)]) (rest := []) ⟨hx, hb, hml, hown, hts⟩ (c_K_wpBehind l s9 (fun a _ _ => K_wp_all l 20 a (Nat.sub_le _ _)) D ax c0 c1 s_made sd n0 n1 n2 n3 cp z9 fo fl fr h0 h1 h2 h3 zs cs so sl sr a0 a1 a2 a3 za ca ao al ar g0 g1 g2 g3 g4 g5 g6 g7 g8 g9 ga gb cl ln br lp va kd ow sb f1 f2 te kp nm ck co tm MX en kc lz9 l0 po h9 IT X Y s.heap.size (tsl s.heap) (by first | assumption | omega) (by first | assumption | omega) (by first | assumption | omega) hMX (by assumption) (by assumption) (by assumption) hzs hcs hsv hza hca hz1 hz4 hav hat hlw hlg (by assumption) (by assumption) hs9 (by first | assumption | omega)) (xcV (n := 1) hts wd_801 wd_4 wd_798 wd_800 ps_29 rfl rfl (by decide +kernel) ⟨(show (1006 + 8 * (20 - s9)) + 1 ≤ (1180) by omega), (show 8 + (3 + 11) + (21100 + 300 * (20 - s9)) ≤ (27300) by omega)⟩) (xpV3 (ci := 3) (q0 := 0) (As := [.int (nI s9)]) hPc hK hz hDc rfl rfl) rfl rfl hl1.1 rfl (lv_room (Nat.le_of_ble_eq_true rfl)) d_Maker_conclusion_74 ⟨(show (0) + (MX - cp) ≤ (MX - cp) by omega), (show (0) + (6 * (MX - cp)) ≤ (6 * (MX - cp)) by omega)⟩) hS (fun q _ h => hFc q h) hFc (fun r_95 u_93 t H_94 locs ht hvm hw hB hz1 hk1 hS1 => ?_)
  try dsimp only at hw
  obtain ⟨hw, hs_96, hs_97, hs_98, hs_99, hs_100, hs_101, hs_102⟩ := hw
  subst hw
  obtain ⟨x_103, x_104, x_105, x_106, hg8, hg9, hx_107, hx_108, hx_109, hx_110, hx_111, hx_112, hx_113, hx_114, hP1, hD1⟩ := hB
  rw [ht] at hg8 hg9 hP1
  have hjn := xw_join3 (wl := [(c0, .inr (3, [.ref n0, .ref c1, .ref g0, .ref a0, .int s_made])), (c1, .inl (ax 0, 16, .inl x_103)), (n0, .inr (4, [.ref (u_93 0), .ref (u_93 1), .ref (u_93 2), .int (nI (u_93 3))])), ((u_93 0), .inl (ax 1, u_93 4, .inl x_104)), ((u_93 1), .inl (ax 0, u_93 4, .inl x_105)), ((u_93 2), .inl (ax 0, u_93 4, .inl x_106)), (h0, .inr (4, [.ref h1, .ref h2, .ref h3, .int (nI zs)])), (h1, .inl (ax 1, cs, .inl so)), (h2, .inl (ax 0, cs, .inl sl)), (h3, .inl (ax 0, cs, .inl sr)), (a0, .inr (4, [.ref a1, .ref a2, .ref a3, .int (nI za)])), (a1, .inl (ax 1, ca, .inl ao)), (a2, .inl (ax 0, ca, .inl al)), (a3, .inl (ax 0, ca, .inl ar)), (g0, .inr (2, [.ref h0, .ref g1, .ref g2, .ref g3, .ref g4, .ref g5, .ref g6, .ref g7, .ref g8, .ref g9, .ref ga, .ref gb, .int (nI cl), .int (nI ln), .int (nI br), .int (nI lp), .int (nI va)])), (g1, .inl (ax 1, 20, .inl (fun j => nI (kd j)))), (g2, .inl (ax 1, 20, .inl (fun j => nI (ow j)))), (g3, .inl (ax 1, 20, .inl (fun j => nI (sb j)))), (g4, .inl (ax 1, 20, .inl (fun j => nI (f1 j)))), (g5, .inl (ax 1, 20, .inl (fun j => nI (f2 j)))), (g6, .inl (ax 2, 20, .inl (fun j => nI (te j)))), (g7, .inl (ax 2, 20, .inl (fun j => nI (kp j)))), (g8, .inl (ax 0, 20, .inl tm)), (g9, .inl (ax 1, 20, .inl (fun j => nI (nm j)))), (ga, .inl (ax 1, 29, .inl (fun j => nI (ck j)))), (gb, .inl (ax 1, 29, .inl (fun j => nI (co j))))]) hP hD [0, 1, 2, 3, 4, 5, 6, 7, 8, 9, 10, 11, 12, 13, 14, 15, 16, 17, 18, 19, 20, 21, 22, 23, 24, 25] [] hCs (by decide) (by decide) hk1 hFc hP1 hD1 rfl
  clear hP1 hD1
  clear hPc hDc hFc hCs hz hz1 hk1 ht hvm
  clear hP hD hS
  have hS := hS1
  obtain ⟨hP, hD⟩ := hjn
  clear hS1
  refine wk_narrow (k := u_93 4 - cp) (n := 6 * (u_93 4 - cp)) (by first | assumption | omega) (by first | assumption | omega) ?_
  clear hk8 hk9 hg8 hg9
  have hK_115 : ∀ i, i < z9 → tsn x_104 x_105 x_106 i = tsn fo fl fr i := fun i hi => hx_109 i hi
  rw [← hQe]
  refine wk_know (fun hk8 hk9 => ?_)
  refine W.widen (k := MX - cp) (n := 6 * (MX - cp)) (by first | assumption | omega) (by first | assumption | omega) ?_
  obtain ⟨hP9, hD9⟩ := xw_sub2 (wc := (fun (u : Nat → Nat) (xsd : Nat → Int32) (xfo : Nat → Int32) (xfl : Nat → Int32) (xfr : Nat → Int32) => [(c0, .inr (3, [.ref n0, .ref c1, .ref g0, .ref a0, .int s_made])), (c1, .inl (ax 0, 16, .inl xsd)), (n0, .inr (4, [.ref (u 0), .ref (u 1), .ref (u 2), .int (nI (u 3))])), (u 0, .inl (ax 1, u 4, .inl xfo)), (u 1, .inl (ax 0, u 4, .inl xfl)), (u 2, .inl (ax 0, u 4, .inl xfr)), (h0, .inr (4, [.ref h1, .ref h2, .ref h3, .int (nI zs)])), (h1, .inl (ax 1, cs, .inl so)), (h2, .inl (ax 0, cs, .inl sl)), (h3, .inl (ax 0, cs, .inl sr)), (a0, .inr (4, [.ref a1, .ref a2, .ref a3, .int (nI za)])), (a1, .inl (ax 1, ca, .inl ao)), (a2, .inl (ax 0, ca, .inl al)), (a3, .inl (ax 0, ca, .inl ar)), (g0, .inr (2, [.ref h0, .ref g1, .ref g2, .ref g3, .ref g4, .ref g5, .ref g6, .ref g7, .ref g8, .ref g9, .ref ga, .ref gb, .int (nI cl), .int (nI ln), .int (nI br), .int (nI lp), .int (nI va)])), (g1, .inl (ax 1, 20, .inl (fun j => nI (kd j)))), (g2, .inl (ax 1, 20, .inl (fun j => nI (ow j)))), (g3, .inl (ax 1, 20, .inl (fun j => nI (sb j)))), (g4, .inl (ax 1, 20, .inl (fun j => nI (f1 j)))), (g5, .inl (ax 1, 20, .inl (fun j => nI (f2 j)))), (g6, .inl (ax 2, 20, .inl (fun j => nI (te j)))), (g7, .inl (ax 2, 20, .inl (fun j => nI (kp j)))), (g8, .inl (ax 0, 20, .inl tm)), (g9, .inl (ax 1, 20, .inl (fun j => nI (nm j)))), (ga, .inl (ax 1, 29, .inl (fun j => nI (ck j)))), (gb, .inl (ax 1, 29, .inl (fun j => nI (co j))))]) (ixn [(u_93 0), (u_93 1), (u_93 2), (u_93 3), (u_93 4), (u_93 5)]) x_103 x_104 x_105 x_106) hP hD [0, 1, 2, 3, 4, 5, 6, 7, 8, 9, 10, 11, 12, 13, 14, 15, 16, 17, 18, 19, 20, 21, 22, 23, 24, 25] (by decide) rfl
  have hex0 : ndv x_104 x_105 x_106 ((u_93 3)) := hx_107
  have hex1 : bts x_104 ((u_93 4)) := (by assumption)
  have hex2 : ∀ i, i < z9 → tsn x_104 x_105 x_106 i = tsn fo fl fr i := hK_115
  have hex3 : tsn x_104 x_105 x_106 ((u_93 5)) + z9 ≤ (u_93 3) := (by first | assumption | omega)
  have hex4 : ∀ j, j ≤ 10 → trm (x_103 j) := hx_111
  have hex5 : ndl x_104 x_105 x_106 (l0 ++ coF po X Y f1 (IT s9) q9 s9) ∧ (l0 ++ coF po X Y f1 (IT s9) q9 s9).length = (u_93 3) := (by rw [c_2 (i := s9) hid (by first | assumption | omega)]; exact hx_112)
  have hex6 : ∃ d, cmpl d (coF po X Y f1 (IT s9) q9 s9) := (by rw [c_2 (i := s9) hid (by first | assumption | omega)]; exact hx_113)
  have hex7 : sdq x_103 h9 := hx_114
  have hg8 : H_94.size ≤ s.heap.size + ((u_93 4) - cp) := by omega
  have hg9 : tsl H_94 ≤ tsl s.heap + (6 * ((u_93 4) - cp)) := by omega
  have hsp0 : z9 ≤ (u_93 3) := (by first | assumption | omega)
  have hsp1 : (u_93 3) ≤ (u_93 4) := (by first | assumption | omega)
  have hsp2 : cp ≤ (u_93 4) := (by first | assumption | omega)
  have hsp3 : (u_93 4) ≤ MX := (by first | assumption | omega)
  have hsp4 : dbl cp ((u_93 4)) := hs_100
  have hsp5 : (u_93 5) + 1 = (u_93 3) := (by first | assumption | omega)
  have hsp6 : (u_93 3) ≤ z9 + wpw kd kc ln 460 0 := (by first | assumption | omega)
  exact W.iret (v := nI (u_93 5)) hx hb hr (fun t ht hW => ⟨⟨nI (u_93 5), ixn [(u_93 0), (u_93 1), (u_93 2), (u_93 3), (u_93 4), (u_93 5)], rfl, ⟨rfl, ⟨hsp0, hsp1, hsp2, hsp3, hsp4, hsp5, hsp6⟩⟩, ⟨x_103, x_104, x_105, x_106, by rw [ht]; exact hg8, by rw [ht]; exact hg9, hex0, hex1, hex2, hex3, hex4, hex5, hex6, hex7, by rw [ht]; exact hP9, hD9⟩⟩, hS.F ht⟩) hS.2.2 d_Maker_conclusion_77
