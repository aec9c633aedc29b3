theorem ps_41 : Cond.selects "TripleDesk$Paper" ⟨"TripleDesk$Paper", "writeNode", "(LTripleDesk$Nodes;II)V"⟩ ⟨"TripleDesk$Paper", "writeNode", "(LTripleDesk$Nodes;II)V"⟩ ∈ lw_gd := ps_in (q := (⟨"TripleDesk$Paper", "writeNode", "(LTripleDesk$Nodes;II)V"⟩, 2)) (i := 41) (by decide +kernel)
theorem ps_42 : Cond.selects "TripleDesk$Paper" ⟨"TripleDesk$Paper", "writeTerm", "(I)V"⟩ ⟨"TripleDesk$Paper", "writeTerm", "(I)V"⟩ ∈ lw_gd := ps_in (q := (⟨"TripleDesk$Paper", "writeTerm", "(I)V"⟩, 2)) (i := 42) (by decide +kernel)
theorem ps_45 : Cond.selects "TripleDesk$Paper" ⟨"TripleDesk$Paper", "writeComparison", "(I)V"⟩ ⟨"TripleDesk$Paper", "writeComparison", "(I)V"⟩ ∈ lw_gd := ps_in (q := (⟨"TripleDesk$Paper", "writeComparison", "(I)V"⟩, 2)) (i := 45) (by decide +kernel)
theorem wd_105 : ((Jvm.Cond.fieldLink "TripleDesk$Paper" (29 : Nat) "TripleDesk$Nodes" "op" "[B")) ∈ lw_gd := lw_gd_in (i := 105) (by decide +kernel) rfl
theorem wd_109 : ((Jvm.Cond.fieldLink "TripleDesk$Paper" (32 : Nat) "TripleDesk$Nodes" "left" "[I")) ∈ lw_gd := lw_gd_in (i := 109) (by decide +kernel) rfl
theorem wd_114 : ((Jvm.Cond.fieldLink "TripleDesk$Paper" (43 : Nat) "TripleDesk$Nodes" "right" "[I")) ∈ lw_gd := lw_gd_in (i := 114) (by decide +kernel) rfl
theorem wd_922 : ((Jvm.Cond.methodLink "TripleDesk$Paper" (19 : Nat) ({ cls := "TripleDesk$Nodes", name := "root", desc := "()I" } : Jvm.MethodName))) ∈ lw_gd := lw_gd_in (i := 922) (by decide +kernel) rfl
theorem wd_923 : ((Jvm.Cond.methodLink "TripleDesk$Paper" (25 : Nat) ({ cls := "TripleDesk$Paper", name := "writeNode", desc := "(LTripleDesk$Nodes;II)V" } : Jvm.MethodName))) ∈ lw_gd := lw_gd_in (i := 923) (by decide +kernel) rfl
theorem wd_925 : ((Jvm.Cond.instanceMethod ({ cls := "TripleDesk$Paper", name := "writeNode", desc := "(LTripleDesk$Nodes;II)V" } : Jvm.MethodName))) ∈ lw_gd := lw_gd_in (i := 925) (by decide +kernel) rfl
theorem wd_926 : ((Jvm.Cond.code ({ cls := "TripleDesk$Paper", name := "writeNode", desc := "(LTripleDesk$Nodes;II)V" } : Jvm.MethodName) prog_7_method_3_code (5 : Nat) (Option.none : Option Jvm.ClassFile.FieldType))) ∈ lw_gd := lw_gd_in (i := 926) (by decide +kernel) rfl
theorem wd_927 : ((Jvm.Cond.methodLink "TripleDesk$Paper" (36 : Nat) ({ cls := "TripleDesk$Paper", name := "writeTerm", desc := "(I)V" } : Jvm.MethodName))) ∈ lw_gd := lw_gd_in (i := 927) (by decide +kernel) rfl
theorem wd_929 : ((Jvm.Cond.instanceMethod ({ cls := "TripleDesk$Paper", name := "writeTerm", desc := "(I)V" } : Jvm.MethodName))) ∈ lw_gd := lw_gd_in (i := 929) (by decide +kernel) rfl
theorem wd_930 : ((Jvm.Cond.code ({ cls := "TripleDesk$Paper", name := "writeTerm", desc := "(I)V" } : Jvm.MethodName) prog_7_method_5_code (4 : Nat) (Option.none : Option Jvm.ClassFile.FieldType))) ∈ lw_gd := lw_gd_in (i := 930) (by decide +kernel) rfl
theorem wd_944 : ((Jvm.Cond.methodLink "TripleDesk$Paper" (40 : Nat) ({ cls := "TripleDesk$Paper", name := "writeComparison", desc := "(I)V" } : Jvm.MethodName))) ∈ lw_gd := lw_gd_in (i := 944) (by decide +kernel) rfl
theorem wd_946 : ((Jvm.Cond.instanceMethod ({ cls := "TripleDesk$Paper", name := "writeComparison", desc := "(I)V" } : Jvm.MethodName))) ∈ lw_gd := lw_gd_in (i := 946) (by decide +kernel) rfl
theorem wd_947 : ((Jvm.Cond.code ({ cls := "TripleDesk$Paper", name := "writeComparison", desc := "(I)V" } : Jvm.MethodName) prog_7_method_4_code (2 : Nat) (Option.none : Option Jvm.ClassFile.FieldType))) ∈ lw_gd := lw_gd_in (i := 947) (by decide +kernel) rfl
abbrev b_Paper_writeNode : ByteArray := prog_7_method_3_code
def y_Paper_writeNode : MethodName := ⟨R_Paper, "writeNode", "(LTripleDesk$Nodes;II)V"⟩
def CWn (l : Launch) (dp9 : Nat) : Prop := ∀ (D : va_G) (ax : Nat → ClassId) (w0 w1 zs bc MB : Nat) (by9 : Nat → Int32) (n0 n1 n2 n3 cp z9 : Nat) (fo fl fr : Nat → Int32) (ls9 : List sgT) (nd : Nat) (sz tz : Nat) (hbc : 8 ≤ bc) (hzs : zs ≤ bc) (hmb : bc ≤ MB) (hmz : 2 * zs + (25 * tsn fo fl fr nd + 21) ≤ MB) (hMB : MB ≤ 4000000) (hby : bts by9 bc) (hz9 : z9 ≤ cp) (hcp : cp ≤ 100000) (hnd : nd < z9) (hnv : ndv fo fl fr z9) (hnl : ndl fo fl fr ls9) (hll : ls9.length = z9) (hnb9 : nbl 9999999 ls9) (hdp9 : dpl ls9 nd + dp9 ≤ 64), Met l y_Paper_writeNode (xws (.code y_Paper_writeNode b_Paper_writeNode 5 none)) ({ frames := 60 + 2 * (66 - dp9), cells := MB / 8 - bc / 8, slots := 2 * (MB - bc), locals := 2400 + 100 * (66 - dp9) }) (va_Pc [.ref w0, .ref n0, .int (nI nd), .int (nI dp9)] (xo3 D ax [(w0, .inr (5, [.ref w1, .int (nI zs)])), (w1, .inl (ax 1, bc, .inl by9)), (n0, .inr (4, [.ref n1, .ref n2, .ref n3, .int (nI z9)])), (n1, .inl (ax 1, cp, .inl fo)), (n2, .inl (ax 0, cp, .inl fl)), (n3, .inl (ax 0, cp, .inl fr))] sz tz)) ((va_Qv (fun (u : Nat → Nat) => (2 * u 2 ≤ 2 * zs + (25 * tsn fo fl fr nd + 19) ∧ zs ≤ u 2 ∧ u 2 ≤ u 1 ∧ bc ≤ u 1 ∧ u 1 ≤ MB)) (fun (u : Nat → Nat) (t9 : State) => ∃ xby : Nat → Int32, (t9.heap.size ≤ sz + (u 1 / 8 - bc / 8)) ∧ (tsl t9.heap ≤ tz + (2 * (u 1 - bc))) ∧ (bts xby (u 1)) ∧ (lsi xby (u 2) = lsi by9 zs ++ ftx ls9 nd) ∧ va_P D classes [(w0, .inr (5, [.ref (u 0), .int (nI (u 2))])), (u 0, .inl (ax 1, u 1, .inl xby)), (n0, .inr (4, [.ref n1, .ref n2, .ref n3, .int (nI z9)])), (n1, .inl (ax 1, cp, .inl fo)), (n2, .inl (ax 0, cp, .inl fl)), (n3, .inl (ax 0, cp, .inl fr))] t9.heap ∧ va_D (va_A [(w0, .inr (5, [.ref w1, .int (nI zs)])), (w1, .inl (ax 1, bc, .inl by9)), (n0, .inr (4, [.ref n1, .ref n2, .ref n3, .int (nI z9)])), (n1, .inl (ax 1, cp, .inl fo)), (n2, .inl (ax 0, cp, .inl fl)), (n3, .inl (ax 0, cp, .inl fr))] sz) [(w0, .inr (5, [.ref (u 0), .int (nI (u 2))])), (u 0, .inl (ax 1, u 1, .inl xby)), (n0, .inr (4, [.ref n1, .ref n2, .ref n3, .int (nI z9)])), (n1, .inl (ax 1, cp, .inl fo)), (n2, .inl (ax 0, cp, .inl fl)), (n3, .inl (ax 0, cp, .inl fr))]) (va_A [(w0, .inr (5, [.ref w1, .int (nI zs)])), (w1, .inl (ax 1, bc, .inl by9)), (n0, .inr (4, [.ref n1, .ref n2, .ref n3, .int (nI z9)])), (n1, .inl (ax 1, cp, .inl fo)), (n2, .inl (ax 0, cp, .inl fl)), (n3, .inl (ax 0, cp, .inl fr))] sz))) (MB / 8 - bc / 8) (2 * (MB - bc)) (va_A [(w0, .inr (5, [.ref w1, .int (nI zs)])), (w1, .inl (ax 1, bc, .inl by9)), (n0, .inr (4, [.ref n1, .ref n2, .ref n3, .int (nI z9)])), (n1, .inl (ax 1, cp, .inl fo)), (n2, .inl (ax 0, cp, .inl fl)), (n3, .inl (ax 0, cp, .inl fr))] sz)
theorem tsn_one {fo fl fr : Nat → Int32} {n i o : Nat} (hv : ndv fo fl fr n) (hi : i < n) (hn : n < 2 ^ 31) (e : fo i = nI o) (ho : o < 6) : tsn fo fl fr i = 1 := tsn_atom e ho
theorem d_Paper_writeNode_0 : decode b_Paper_writeNode 0 = .ok (.iload_n 3, 1) := by decide +kernel
theorem d_Paper_writeNode_1 : decode b_Paper_writeNode 1 = .ok (.bipush 64, 2) := by decide +kernel
theorem d_Paper_writeNode_3 : decode b_Paper_writeNode 3 = .ok (.if_icmp .le 4, 3) := by decide +kernel
theorem d_Paper_writeNode_7 : decode b_Paper_writeNode 7 = .ok (.aload_n 1, 1) := by decide +kernel
theorem d_Paper_writeNode_8 : decode b_Paper_writeNode 8 = .ok (.getfield 29, 3) := by decide +kernel
theorem d_Paper_writeNode_11 : decode b_Paper_writeNode 11 = .ok (.iload_n 2, 1) := by decide +kernel
theorem d_Paper_writeNode_12 : decode b_Paper_writeNode 12 = .ok (.baload, 1) := by decide +kernel
theorem d_Paper_writeNode_13 : decode b_Paper_writeNode 13 = .ok (.istore 4, 2) := by decide +kernel
theorem d_Paper_writeNode_15 : decode b_Paper_writeNode 15 = .ok (.iload 4, 2) := by decide +kernel
theorem d_Paper_writeNode_17 : decode b_Paper_writeNode 17 = .ok (.bipush 6, 2) := by decide +kernel
theorem d_Paper_writeNode_19 : decode b_Paper_writeNode 19 = .ok (.if_icmp .ge 32, 3) := by decide +kernel
theorem d_Paper_writeNode_22 : decode b_Paper_writeNode 22 = .ok (.aload_n 0, 1) := by decide +kernel
theorem d_Paper_writeNode_23 : decode b_Paper_writeNode 23 = .ok (.aload_n 1, 1) := by decide +kernel
theorem d_Paper_writeNode_24 : decode b_Paper_writeNode 24 = .ok (.getfield 32, 3) := by decide +kernel
theorem d_Paper_writeNode_27 : decode b_Paper_writeNode 27 = .ok (.iload_n 2, 1) := by decide +kernel
theorem d_Paper_writeNode_28 : decode b_Paper_writeNode 28 = .ok (.iaload, 1) := by decide +kernel
theorem d_Paper_writeNode_29 : decode b_Paper_writeNode 29 = .ok (.invokevirtual 36, 3) := by decide +kernel
theorem d_Paper_writeNode_32 : decode b_Paper_writeNode 32 = .ok (.aload_n 0, 1) := by decide +kernel
theorem d_Paper_writeNode_33 : decode b_Paper_writeNode 33 = .ok (.iload 4, 2) := by decide +kernel
theorem d_Paper_writeNode_35 : decode b_Paper_writeNode 35 = .ok (.invokevirtual 40, 3) := by decide +kernel
theorem d_Paper_writeNode_38 : decode b_Paper_writeNode 38 = .ok (.aload_n 0, 1) := by decide +kernel
theorem d_Paper_writeNode_39 : decode b_Paper_writeNode 39 = .ok (.aload_n 1, 1) := by decide +kernel
theorem d_Paper_writeNode_40 : decode b_Paper_writeNode 40 = .ok (.getfield 43, 3) := by decide +kernel
theorem d_Paper_writeNode_43 : decode b_Paper_writeNode 43 = .ok (.iload_n 2, 1) := by decide +kernel
theorem d_Paper_writeNode_44 : decode b_Paper_writeNode 44 = .ok (.iaload, 1) := by decide +kernel
theorem d_Paper_writeNode_45 : decode b_Paper_writeNode 45 = .ok (.invokevirtual 36, 3) := by decide +kernel
theorem d_Paper_writeNode_48 : decode b_Paper_writeNode 48 = .ok (.goto 91, 3) := by decide +kernel
theorem d_Paper_writeNode_51 : decode b_Paper_writeNode 51 = .ok (.iload 4, 2) := by decide +kernel
theorem d_Paper_writeNode_53 : decode b_Paper_writeNode 53 = .ok (.bipush 6, 2) := by decide +kernel
theorem d_Paper_writeNode_55 : decode b_Paper_writeNode 55 = .ok (.if_icmp .ne 26, 3) := by decide +kernel
theorem d_Paper_writeNode_58 : decode b_Paper_writeNode 58 = .ok (.aload_n 0, 1) := by decide +kernel
theorem d_Paper_writeNode_59 : decode b_Paper_writeNode 59 = .ok (.bipush 33, 2) := by decide +kernel
theorem d_Paper_writeNode_61 : decode b_Paper_writeNode 61 = .ok (.invokevirtual 46, 3) := by decide +kernel
theorem d_Paper_writeNode_64 : decode b_Paper_writeNode 64 = .ok (.aload_n 0, 1) := by decide +kernel
theorem d_Paper_writeNode_65 : decode b_Paper_writeNode 65 = .ok (.aload_n 1, 1) := by decide +kernel
theorem d_Paper_writeNode_66 : decode b_Paper_writeNode 66 = .ok (.aload_n 1, 1) := by decide +kernel
theorem d_Paper_writeNode_67 : decode b_Paper_writeNode 67 = .ok (.getfield 32, 3) := by decide +kernel
theorem d_Paper_writeNode_70 : decode b_Paper_writeNode 70 = .ok (.iload_n 2, 1) := by decide +kernel
theorem d_Paper_writeNode_71 : decode b_Paper_writeNode 71 = .ok (.iaload, 1) := by decide +kernel
theorem d_Paper_writeNode_72 : decode b_Paper_writeNode 72 = .ok (.iload_n 3, 1) := by decide +kernel
theorem d_Paper_writeNode_73 : decode b_Paper_writeNode 73 = .ok (.iconst 1, 1) := by decide +kernel
theorem d_Paper_writeNode_74 : decode b_Paper_writeNode 74 = .ok (.iadd, 1) := by decide +kernel
theorem d_Paper_writeNode_75 : decode b_Paper_writeNode 75 = .ok (.invokevirtual 25, 3) := by decide +kernel
theorem d_Paper_writeNode_78 : decode b_Paper_writeNode 78 = .ok (.goto 61, 3) := by decide +kernel
theorem d_Paper_writeNode_81 : decode b_Paper_writeNode 81 = .ok (.aload_n 0, 1) := by decide +kernel
theorem d_Paper_writeNode_82 : decode b_Paper_writeNode 82 = .ok (.bipush 40, 2) := by decide +kernel
theorem d_Paper_writeNode_84 : decode b_Paper_writeNode 84 = .ok (.invokevirtual 46, 3) := by decide +kernel
theorem d_Paper_writeNode_87 : decode b_Paper_writeNode 87 = .ok (.aload_n 0, 1) := by decide +kernel
theorem d_Paper_writeNode_88 : decode b_Paper_writeNode 88 = .ok (.aload_n 1, 1) := by decide +kernel
theorem d_Paper_writeNode_89 : decode b_Paper_writeNode 89 = .ok (.aload_n 1, 1) := by decide +kernel
theorem d_Paper_writeNode_90 : decode b_Paper_writeNode 90 = .ok (.getfield 32, 3) := by decide +kernel
theorem d_Paper_writeNode_93 : decode b_Paper_writeNode 93 = .ok (.iload_n 2, 1) := by decide +kernel
theorem d_Paper_writeNode_94 : decode b_Paper_writeNode 94 = .ok (.iaload, 1) := by decide +kernel
theorem d_Paper_writeNode_95 : decode b_Paper_writeNode 95 = .ok (.iload_n 3, 1) := by decide +kernel
theorem d_Paper_writeNode_96 : decode b_Paper_writeNode 96 = .ok (.iconst 1, 1) := by decide +kernel
theorem d_Paper_writeNode_97 : decode b_Paper_writeNode 97 = .ok (.iadd, 1) := by decide +kernel
theorem d_Paper_writeNode_98 : decode b_Paper_writeNode 98 = .ok (.invokevirtual 25, 3) := by decide +kernel
theorem d_Paper_writeNode_101 : decode b_Paper_writeNode 101 = .ok (.aload_n 0, 1) := by decide +kernel
theorem d_Paper_writeNode_102 : decode b_Paper_writeNode 102 = .ok (.iload 4, 2) := by decide +kernel
theorem d_Paper_writeNode_104 : decode b_Paper_writeNode 104 = .ok (.bipush 7, 2) := by decide +kernel
theorem d_Paper_writeNode_106 : decode b_Paper_writeNode 106 = .ok (.if_icmp .ne 8, 3) := by decide +kernel
theorem d_Paper_writeNode_109 : decode b_Paper_writeNode 109 = .ok (.bipush 38, 2) := by decide +kernel
theorem d_Paper_writeNode_111 : decode b_Paper_writeNode 111 = .ok (.goto 5, 3) := by decide +kernel
theorem d_Paper_writeNode_114 : decode b_Paper_writeNode 114 = .ok (.bipush 124, 2) := by decide +kernel
theorem d_Paper_writeNode_116 : decode b_Paper_writeNode 116 = .ok (.invokevirtual 46, 3) := by decide +kernel
theorem d_Paper_writeNode_119 : decode b_Paper_writeNode 119 = .ok (.aload_n 0, 1) := by decide +kernel
theorem d_Paper_writeNode_120 : decode b_Paper_writeNode 120 = .ok (.aload_n 1, 1) := by decide +kernel
theorem d_Paper_writeNode_121 : decode b_Paper_writeNode 121 = .ok (.aload_n 1, 1) := by decide +kernel
theorem d_Paper_writeNode_122 : decode b_Paper_writeNode 122 = .ok (.getfield 43, 3) := by decide +kernel
theorem d_Paper_writeNode_125 : decode b_Paper_writeNode 125 = .ok (.iload_n 2, 1) := by decide +kernel
theorem d_Paper_writeNode_126 : decode b_Paper_writeNode 126 = .ok (.iaload, 1) := by decide +kernel
theorem d_Paper_writeNode_127 : decode b_Paper_writeNode 127 = .ok (.iload_n 3, 1) := by decide +kernel
theorem d_Paper_writeNode_128 : decode b_Paper_writeNode 128 = .ok (.iconst 1, 1) := by decide +kernel
theorem d_Paper_writeNode_129 : decode b_Paper_writeNode 129 = .ok (.iadd, 1) := by decide +kernel
theorem d_Paper_writeNode_130 : decode b_Paper_writeNode 130 = .ok (.invokevirtual 25, 3) := by decide +kernel
theorem d_Paper_writeNode_133 : decode b_Paper_writeNode 133 = .ok (.aload_n 0, 1) := by decide +kernel
theorem d_Paper_writeNode_134 : decode b_Paper_writeNode 134 = .ok (.bipush 41, 2) := by decide +kernel
theorem d_Paper_writeNode_136 : decode b_Paper_writeNode 136 = .ok (.invokevirtual 46, 3) := by decide +kernel
theorem d_Paper_writeNode_139 : decode b_Paper_writeNode 139 = .ok (.return_, 1) := by decide +kernel
set_option maxHeartbeats 40000000 in
set_option maxRecDepth 100000 in
theorem c_W_node (l : Launch) (dp9 : Nat) (hdp : dp9 ≤ 65) (hrec : dp9 < 65 → CWn l (dp9 + 1)) (D : va_G) (ax : Nat → ClassId) (w0 w1 zs bc MB : Nat) (by9 : Nat → Int32) (n0 n1 n2 n3 cp z9 : Nat) (fo fl fr : Nat → Int32) (ls9 : List sgT) (nd : Nat) (sz tz : Nat) (hbc : 8 ≤ bc) (hzs : zs ≤ bc) (hmb : bc ≤ MB) (hmz : 2 * zs + (25 * tsn fo fl fr nd + 21) ≤ MB) (hMB : MB ≤ 4000000) (hby : bts by9 bc) (hz9 : z9 ≤ cp) (hcp : cp ≤ 100000) (hnd : nd < z9) (hnv : ndv fo fl fr z9) (hnl : ndl fo fl fr ls9) (hll : ls9.length = z9) (hnb9 : nbl 9999999 ls9) (hdp9 : dpl ls9 nd + dp9 ≤ 64) : Met l y_Paper_writeNode (xws (.code y_Paper_writeNode b_Paper_writeNode 5 none)) ({ frames := 60 + 2 * (66 - dp9), cells := MB / 8 - bc / 8, slots := 2 * (MB - bc), locals := 2400 + 100 * (66 - dp9) }) (va_Pc [.ref w0, .ref n0, .int (nI nd), .int (nI dp9)] (xo3 D ax [(w0, .inr (5, [.ref w1, .int (nI zs)])), (w1, .inl (ax 1, bc, .inl by9)), (n0, .inr (4, [.ref n1, .ref n2, .ref n3, .int (nI z9)])), (n1, .inl (ax 1, cp, .inl fo)), (n2, .inl (ax 0, cp, .inl fl)), (n3, .inl (ax 0, cp, .inl fr))] sz tz)) ((va_Qv (fun (u : Nat → Nat) => (2 * u 2 ≤ 2 * zs + (25 * tsn fo fl fr nd + 19) ∧ zs ≤ u 2 ∧ u 2 ≤ u 1 ∧ bc ≤ u 1 ∧ u 1 ≤ MB)) (fun (u : Nat → Nat) (t9 : State) => ∃ xby : Nat → Int32, (t9.heap.size ≤ sz + (u 1 / 8 - bc / 8)) ∧ (tsl t9.heap ≤ tz + (2 * (u 1 - bc))) ∧ (bts xby (u 1)) ∧ (lsi xby (u 2) = lsi by9 zs ++ ftx ls9 nd) ∧ va_P D classes [(w0, .inr (5, [.ref (u 0), .int (nI (u 2))])), (u 0, .inl (ax 1, u 1, .inl xby)), (n0, .inr (4, [.ref n1, .ref n2, .ref n3, .int (nI z9)])), (n1, .inl (ax 1, cp, .inl fo)), (n2, .inl (ax 0, cp, .inl fl)), (n3, .inl (ax 0, cp, .inl fr))] t9.heap ∧ va_D (va_A [(w0, .inr (5, [.ref w1, .int (nI zs)])), (w1, .inl (ax 1, bc, .inl by9)), (n0, .inr (4, [.ref n1, .ref n2, .ref n3, .int (nI z9)])), (n1, .inl (ax 1, cp, .inl fo)), (n2, .inl (ax 0, cp, .inl fl)), (n3, .inl (ax 0, cp, .inl fr))] sz) [(w0, .inr (5, [.ref (u 0), .int (nI (u 2))])), (u 0, .inl (ax 1, u 1, .inl xby)), (n0, .inr (4, [.ref n1, .ref n2, .ref n3, .int (nI z9)])), (n1, .inl (ax 1, cp, .inl fo)), (n2, .inl (ax 0, cp, .inl fl)), (n3, .inl (ax 0, cp, .inl fr))]) (va_A [(w0, .inr (5, [.ref w1, .int (nI zs)])), (w1, .inl (ax 1, bc, .inl by9)), (n0, .inr (4, [.ref n1, .ref n2, .ref n3, .int (nI z9)])), (n1, .inl (ax 1, cp, .inl fo)), (n2, .inl (ax 0, cp, .inl fl)), (n3, .inl (ax 0, cp, .inl fr))] sz))) (MB / 8 - bc / 8) (2 * (MB - bc)) (va_A [(w0, .inr (5, [.ref w1, .int (nI zs)])), (w1, .inl (ax 1, bc, .inl by9)), (n0, .inr (4, [.ref n1, .ref n2, .ref n3, .int (nI z9)])), (n1, .inl (ax 1, cp, .inl fo)), (n2, .inl (ax 0, cp, .inl fl)), (n3, .inl (ax 0, cp, .inl fr))] sz) := by
  refine Met.ofW (cc := b_Paper_writeNode) (maxL := 5) (ret := none) (by decide) rfl ?_
  intro p e s m args below meth c s₁ B hml hv
  obtain ⟨rfl, ⟨hsz, hP, hK, hD0⟩, htz⟩ := hv
  have hx := B.exec
  have hb := B.bytes
  have hr := B.returns
  have hts := xw_hts B.pre
  have hown : s.vm.findClass R_Paper = some m.cls := findClass_of_methodNamed B.named
  have hlocks := B.notSynchronized
  subst hsz
  subst htz
  have hD := hD0.self (sz := s.heap.size)
  have hN := xz_entry hP
  generalize hAe : va_A [(w0, .inr (5, [.ref w1, .int (nI zs)])), (w1, .inl (ax 1, bc, .inl by9)), (n0, .inr (4, [.ref n1, .ref n2, .ref n3, .int (nI z9)])), (n1, .inl (ax 1, cp, .inl fo)), (n2, .inl (ax 0, cp, .inl fl)), (n3, .inl (ax 0, cp, .inl fr))] s.heap.size = A at hD hN ⊢
  have hA : ∀ q : Nat, s.heap.size ≤ q → A q := fun q h => by rw [← hAe]; exact Or.inr h
  have hS : va_S A s.heap s.heap [] := va_S.rf
  have hl0 := lv_entry ([.ref w0, .ref n0, .int (nI nd), .int (nI dp9)]) (n := 5) (Nat.le_of_ble_eq_true rfl)
  rw [lg_entry_eq]
  generalize (lg_sl ([.ref w0, .ref n0, .int (nI nd), .int (nI dp9)]) ++ List.replicate (5 - (lg_sl ([.ref w0, .ref n0, .int (nI nd), .int (nI dp9)])).length) Slot.unset).toArray = ls at hl0 ⊢
  have hl1 : lv_has ls 5 [(0, .ref w0), (1, .ref n0), (2, .int (nI nd)), (3, .int (nI dp9))] := hl0
  refine xw_gen (fun Z9 hQe => ?_)
  have hdq := dpl_pos (l := ls9) (k := nd)
  refine lv_iload_n hx hb d_Paper_writeNode_0 rfl (lv_at hl1 3 rfl) ?_
  refine lv_bipush (v := 64) hx hb d_Paper_writeNode_1 (by decide) ?_
  refine lv_icmp_le (tgt := 7) hx hb d_Paper_writeNode_3 (by decide) (fun c_1 => ?_) (fun c_1 => ?_)
  rotate_left
  · exfalso
    replace c_1 : ¬ dp9 ≤ 64 := fun hq9 => c_1 ((nI_leI (a := dp9) (b := 64) (by first | exact Nat.lt_of_lt_of_le (by assumption) (by decide) | exact Nat.lt_of_le_of_lt (by assumption) (by decide) | omega) (by decide)).mpr hq9)
    omega
  replace c_1 : dp9 ≤ 64 := (nI_leI (a := dp9) (b := 64) (by first | exact Nat.lt_of_lt_of_le (by assumption) (by decide) | exact Nat.lt_of_le_of_lt (by assumption) (by decide) | omega) (by decide)).mp c_1
  obtain ⟨o9, ho1, ho2, hnp⟩ := nd_p (hnv nd hnd)
  have hop9 := opn9 hnl hnb9 (by first | assumption | omega) (by first | assumption | omega) ho2
  refine lv_aload_n hx hb d_Paper_writeNode_7 rfl (lv_at hl1 1 rfl) ?_
  refine va_get (D := D) (ci := 4) (v := .ref n1) (C := R_Nodes) (T := F_Nodes) (N := 4) hx hb hts i_Nodes hown hK.1 hP 2 rfl rfl 0 (by decide) (hts _ wd_105) (fun _ h9 => h9) rfl d_Paper_writeNode_8 ?_
  refine lv_iload_n hx hb d_Paper_writeNode_11 rfl (lv_at hl1 2 rfl) ?_
  refine va_bald hx hb hK.1 hP 3 1 rfl rfl (vp_in_nI (by first | assumption | omega) (by first | exact Nat.lt_of_lt_of_le (by assumption) (by decide) | exact Nat.lt_of_le_of_lt (by assumption) (by decide) | omega)) d_Paper_writeNode_12 ?_
  refine W.eq (g2 := F0 m 13 ls [.int (fo nd)]) (by rw [nI_clamp (by first | exact Nat.lt_of_lt_of_le (by assumption) (by decide) | exact Nat.lt_of_le_of_lt (by assumption) (by decide) | omega)]) ?_
  refine W.eq (g2 := F0 m 13 ls [.int (nI o9)]) (by rw [ho2]) ?_
  refine lv_istore (lv' := [(4, .int (nI o9)), (0, .ref w0), (1, .ref n0), (2, .int (nI nd)), (3, .int (nI dp9))]) hx hb d_Paper_writeNode_13 hl1 (by decide) rfl (fun ls hl2 => ?_)
  clear hl1; have hl1 := hl2; clear hl2
  refine lv_iload hx hb d_Paper_writeNode_15 (lv_at hl1 0 rfl) ?_
  refine lv_bipush (v := 6) hx hb d_Paper_writeNode_17 (by decide) ?_
  refine lv_icmp_ge (tgt := 51) hx hb d_Paper_writeNode_19 (by decide) (fun c_2 => ?_) (fun c_2 => ?_)
  · replace c_2 : 6 ≤ o9 := (nI_leI (a := 6) (b := o9) (by decide) (by first | exact Nat.lt_of_lt_of_le (by assumption) (by decide) | exact Nat.lt_of_le_of_lt (by assumption) (by decide) | omega)).mp c_2
    refine lv_iload hx hb d_Paper_writeNode_51 (lv_at hl1 0 rfl) ?_
    refine lv_bipush (v := 6) hx hb d_Paper_writeNode_53 (by decide) ?_
    refine lv_icmp_ne (tgt := 81) hx hb d_Paper_writeNode_55 (by decide) (fun c_3 => ?_) (fun c_3 => ?_)
    · replace c_3 : ¬ o9 = 6 := fun hq9 => c_3 ((nI_eq (a := o9) (b := 6) (by first | exact Nat.lt_of_lt_of_le (by assumption) (by decide) | exact Nat.lt_of_le_of_lt (by assumption) (by decide) | omega) (by decide)).mpr hq9)
      obtain ⟨a9, ha1, ha2⟩ := hnp.2.1 (by first | assumption | omega)
      obtain ⟨c9, hc1, hc2⟩ := hnp.2.2 (by first | assumption | omega)
      have ht9 := tsn_bin (n := nd) (by first | assumption | omega) (hnv.old (by first | assumption | omega)) (o := o9) (by first | assumption | omega) ho2 ha1 ha2 hc1 hc2
      obtain ⟨ea9, ec9⟩ := pr_b hnl (by first | assumption | omega) hop9 (by first | assumption | omega) ha1 hc1 (by first | assumption | omega) ha2 hc2
      obtain ⟨hda, hdc⟩ := dp_b hop9 (by first | assumption | omega) (by first | assumption | omega) ea9 ec9 hdp9
      refine lv_aload_n hx hb d_Paper_writeNode_81 rfl (lv_at hl1 1 rfl) ?_
      refine lv_bipush (v := 40) hx hb d_Paper_writeNode_82 (by decide) ?_
      obtain ⟨hPc, hDc, hFc, hCs⟩ := xw_sub3 (wc := [(w0, .inr (5, [.ref w1, .int (nI zs)])), (w1, .inl (ax 1, bc, .inl by9))]) hP hD hS hA [0, 1] (by decide) rfl
      have hz := xz_of hN hS
      refine wk_know (fun hk8 hk9 => ?_)
      refine va_callv (va_runV (As := [.int 40]) (rest := []) ⟨hx, hb, hml, hown, hts⟩ (c_W_byte l D ax w0 w1 zs bc MB by9 40 s.heap.size (tsl s.heap) (by first | assumption | omega) (by first | assumption | omega) (by first | assumption | omega) (by first | assumption | omega) (by first | assumption | omega) (by assumption)) (xcV (n := 1) hts wd_938 wd_10 wd_935 wd_937 ps_44 rfl rfl (by decide +kernel) ⟨(show (30) + 1 ≤ (60 + 2 * (66 - dp9)) by omega), (show 8 + (2 + 11) + (1200) ≤ (2400 + 100 * (66 - dp9)) by omega)⟩) (xpV3 (ci := 5) (q0 := 0) (As := [.int 40]) hPc hK hz hDc rfl rfl) rfl rfl hl1.1 rfl (lv_room (Nat.le_of_ble_eq_true rfl)) d_Paper_writeNode_84 ⟨(show (0) + (MB / 8 - bc / 8) ≤ (MB / 8 - bc / 8) by omega), (show (0) + (2 * (MB - bc)) ≤ (2 * (MB - bc)) by omega)⟩) hS (fun q _ h => hFc q h) hFc (fun u_4 t H_5 locs ht hvm hw hB hz1 hk1 hS1 => ?_)
      try dsimp only at hw
      obtain ⟨hs_7, hs_8, hs_9, hs_10⟩ := hw
      obtain ⟨x_11, hg8, hg9, hx_12, hx_13, hP1, hD1⟩ := hB
      rw [ht] at hg8 hg9 hP1
      have hjn := xw_join3 (wl := [(n0, .inr (4, [.ref n1, .ref n2, .ref n3, .int (nI z9)])), (n1, .inl (ax 1, cp, .inl fo)), (n2, .inl (ax 0, cp, .inl fl)), (n3, .inl (ax 0, cp, .inl fr)), (w0, .inr (5, [.ref (u_4 0), .int (nI (u_4 2))])), ((u_4 0), .inl (ax 1, u_4 1, .inl x_11))]) hP hD [0, 1] [2, 3, 4, 5] hCs (by decide) (by decide) hk1 hFc hP1 hD1 rfl
      clear hP1 hD1
      clear hPc hDc hFc hCs hz hz1 hk1 ht hvm
      clear hP hD hS
      have hS := hS1
      obtain ⟨hP, hD⟩ := hjn
      clear hS1
      refine wk_narrow (k := u_4 1 / 8 - bc / 8) (n := 2 * (u_4 1 - bc)) (by first | assumption | omega) (by first | assumption | omega) ?_
      clear hk8 hk9 hg8 hg9
      refine lv_aload_n hx hb d_Paper_writeNode_87 rfl (lv_at hl1 1 rfl) ?_
      refine lv_aload_n hx hb d_Paper_writeNode_88 rfl (lv_at hl1 2 rfl) ?_
      refine lv_aload_n hx hb d_Paper_writeNode_89 rfl (lv_at hl1 2 rfl) ?_
      refine va_get (D := D) (ci := 4) (v := .ref n2) (C := R_Nodes) (T := F_Nodes) (N := 4) hx hb hts i_Nodes hown hK.1 hP 0 rfl rfl 1 (by decide) (hts _ wd_109) (fun _ h9 => h9) rfl d_Paper_writeNode_90 ?_
      refine lv_iload_n hx hb d_Paper_writeNode_93 rfl (lv_at hl1 3 rfl) ?_
      refine va_iald hx hb hK.1 hP 2 0 rfl rfl (vp_in_nI (by first | assumption | omega) (by first | exact Nat.lt_of_lt_of_le (by assumption) (by decide) | exact Nat.lt_of_le_of_lt (by assumption) (by decide) | omega)) d_Paper_writeNode_94 ?_
      refine W.eq (g2 := F0 m 95 ls [.int (fl nd), .ref n0, .ref w0]) (by rw [nI_clamp (by first | exact Nat.lt_of_lt_of_le (by assumption) (by decide) | exact Nat.lt_of_le_of_lt (by assumption) (by decide) | omega)]) ?_
      refine W.eq (g2 := F0 m 95 ls [.int (nI a9), .ref n0, .ref w0]) (by rw [ha2]) ?_
      refine lv_iload_n hx hb d_Paper_writeNode_95 rfl (lv_at hl1 4 rfl) ?_
      refine lv_iconst (v := 1) hx hb d_Paper_writeNode_96 (by decide) ?_
      refine lv_iadd hx hb d_Paper_writeNode_97 ?_
      refine lv_topi (fun z_14 ez_14 => ?_)
      have ez_14 : z_14 = nI (dp9 + 1) := ez_14.trans (nI_add dp9 1)
      subst ez_14
      obtain ⟨hPc, hDc, hFc, hCs⟩ := xw_sub3 (wc := [(w0, .inr (5, [.ref (u_4 0), .int (nI (u_4 2))])), ((u_4 0), .inl (ax 1, u_4 1, .inl x_11)), (n0, .inr (4, [.ref n1, .ref n2, .ref n3, .int (nI z9)])), (n1, .inl (ax 1, cp, .inl fo)), (n2, .inl (ax 0, cp, .inl fl)), (n3, .inl (ax 0, cp, .inl fr))]) hP hD hS hA [4, 5, 0, 1, 2, 3] (by decide) rfl
      have hz := xz_of hN hS
      refine wk_know (fun hk8 hk9 => ?_)
      refine va_callv (va_runV (As := [.ref n0, .int (nI a9), .int (nI (dp9 + 1))]) (rest := []) ⟨hx, hb, hml, hown, hts⟩ ((hrec (by first | assumption | omega)) D ax w0 (u_4 0) (u_4 2) (u_4 1) MB x_11 n0 n1 n2 n3 cp z9 fo fl fr ls9 a9 H_5.size (tsl H_5) (by first | assumption | omega) (by first | assumption | omega) (by first | assumption | omega) (by first | assumption | omega) (by first | assumption | omega) (by assumption) (by first | assumption | omega) (by first | assumption | omega) (by first | assumption | omega) hnv hnl hll hnb9 (by assumption)) (xcV (n := 3) hts wd_926 wd_10 wd_923 wd_925 ps_41 rfl rfl (by decide +kernel) ⟨(show (60 + 2 * (66 - (dp9 + 1))) + 1 ≤ (60 + 2 * (66 - dp9)) by omega), (show 8 + (5 + 11) + (2400 + 100 * (66 - (dp9 + 1))) ≤ (2400 + 100 * (66 - dp9)) by omega)⟩) (xpV3 (ci := 5) (q0 := 0) (As := [.ref n0, .int (nI a9), .int (nI (dp9 + 1))]) hPc hK hz hDc rfl rfl) rfl rfl hl1.1 rfl (lv_room (Nat.le_of_ble_eq_true rfl)) d_Paper_writeNode_98 ⟨(show (u_4 1 / 8 - bc / 8) + (MB / 8 - (u_4 1) / 8) ≤ (MB / 8 - bc / 8) by omega), (show (2 * (u_4 1 - bc)) + (2 * (MB - (u_4 1))) ≤ (2 * (MB - bc)) by omega)⟩) hS (fun q _ h => hFc q h) hFc (fun u_15 t H_16 locs ht hvm hw hB hz1 hk1 hS1 => ?_)
      try dsimp only at hw
      obtain ⟨hs_18, hs_19, hs_20, hs_21, hs_22⟩ := hw
      obtain ⟨x_23, hg8, hg9, hx_24, hx_25, hP1, hD1⟩ := hB
      rw [ht] at hg8 hg9 hP1
      have hjn := xw_join3 (wl := [(w0, .inr (5, [.ref (u_15 0), .int (nI (u_15 2))])), ((u_15 0), .inl (ax 1, u_15 1, .inl x_23)), (n0, .inr (4, [.ref n1, .ref n2, .ref n3, .int (nI z9)])), (n1, .inl (ax 1, cp, .inl fo)), (n2, .inl (ax 0, cp, .inl fl)), (n3, .inl (ax 0, cp, .inl fr))]) hP hD [4, 5, 0, 1, 2, 3] [] hCs (by decide) (by decide) hk1 hFc hP1 hD1 rfl
      clear hP1 hD1
      clear hPc hDc hFc hCs hz hz1 hk1 ht hvm
      clear hP hD hS
      have hS := hS1
      obtain ⟨hP, hD⟩ := hjn
      clear hS1
      refine wk_narrow (k := u_4 1 / 8 - bc / 8 + (u_15 1 / 8 - (u_4 1) / 8)) (n := 2 * (u_4 1 - bc) + (2 * (u_15 1 - (u_4 1)))) (by first | assumption | omega) (by first | assumption | omega) ?_
      clear hk8 hk9 hg8 hg9
      refine lv_aload_n hx hb d_Paper_writeNode_101 rfl (lv_at hl1 1 rfl) ?_
      refine lv_iload hx hb d_Paper_writeNode_102 (lv_at hl1 0 rfl) ?_
      refine lv_bipush (v := 7) hx hb d_Paper_writeNode_104 (by decide) ?_
      refine lv_icmp_ne (tgt := 114) hx hb d_Paper_writeNode_106 (by decide) (fun c_26 => ?_) (fun c_26 => ?_)
      · replace c_26 : ¬ o9 = 7 := fun hq9 => c_26 ((nI_eq (a := o9) (b := 7) (by first | exact Nat.lt_of_lt_of_le (by assumption) (by decide) | exact Nat.lt_of_le_of_lt (by assumption) (by decide) | omega) (by decide)).mpr hq9)
        refine lv_bipush (v := 124) hx hb d_Paper_writeNode_114 (by decide) ?_
        obtain ⟨hPc, hDc, hFc, hCs⟩ := xw_sub3 (wc := [(w0, .inr (5, [.ref (u_15 0), .int (nI (u_15 2))])), ((u_15 0), .inl (ax 1, u_15 1, .inl x_23))]) hP hD hS hA [0, 1] (by decide) rfl
        have hz := xz_of hN hS
        refine wk_know (fun hk8 hk9 => ?_)
        refine va_callv (va_runV (As := [.int 124]) (rest := []) ⟨hx, hb, hml, hown, hts⟩ (c_W_byte l D ax w0 (u_15 0) (u_15 2) (u_15 1) MB x_23 124 H_16.size (tsl H_16) (by first | assumption | omega) (by first | assumption | omega) (by first | assumption | omega) (by first | assumption | omega) (by first | assumption | omega) (by assumption)) (xcV (n := 1) hts wd_938 wd_10 wd_935 wd_937 ps_44 rfl rfl (by decide +kernel) ⟨(show (30) + 1 ≤ (60 + 2 * (66 - dp9)) by omega), (show 8 + (2 + 11) + (1200) ≤ (2400 + 100 * (66 - dp9)) by omega)⟩) (xpV3 (ci := 5) (q0 := 0) (As := [.int 124]) hPc hK hz hDc rfl rfl) rfl rfl hl1.1 rfl (lv_room (Nat.le_of_ble_eq_true rfl)) d_Paper_writeNode_116 ⟨(show (u_4 1 / 8 - bc / 8 + (u_15 1 / 8 - (u_4 1) / 8)) + (MB / 8 - (u_15 1) / 8) ≤ (MB / 8 - bc / 8) by omega), (show (2 * (u_4 1 - bc) + (2 * (u_15 1 - (u_4 1)))) + (2 * (MB - (u_15 1))) ≤ (2 * (MB - bc)) by omega)⟩) hS (fun q _ h => hFc q h) hFc (fun u_27 t H_28 locs ht hvm hw hB hz1 hk1 hS1 => ?_)
        try dsimp only at hw
        obtain ⟨hs_30, hs_31, hs_32, hs_33⟩ := hw
        obtain ⟨x_34, hg8, hg9, hx_35, hx_36, hP1, hD1⟩ := hB
        rw [ht] at hg8 hg9 hP1
        have hjn := xw_join3 (wl := [(n0, .inr (4, [.ref n1, .ref n2, .ref n3, .int (nI z9)])), (n1, .inl (ax 1, cp, .inl fo)), (n2, .inl (ax 0, cp, .inl fl)), (n3, .inl (ax 0, cp, .inl fr)), (w0, .inr (5, [.ref (u_27 0), .int (nI (u_27 2))])), ((u_27 0), .inl (ax 1, u_27 1, .inl x_34))]) hP hD [0, 1] [2, 3, 4, 5] hCs (by decide) (by decide) hk1 hFc hP1 hD1 rfl
        clear hP1 hD1
        clear hPc hDc hFc hCs hz hz1 hk1 ht hvm
        clear hP hD hS
        have hS := hS1
        obtain ⟨hP, hD⟩ := hjn
        clear hS1
        refine wk_narrow (k := u_4 1 / 8 - bc / 8 + (u_15 1 / 8 - (u_4 1) / 8) + (u_27 1 / 8 - (u_15 1) / 8)) (n := 2 * (u_4 1 - bc) + (2 * (u_15 1 - (u_4 1))) + (2 * (u_27 1 - (u_15 1)))) (by first | assumption | omega) (by first | assumption | omega) ?_
        clear hk8 hk9 hg8 hg9
        refine lv_aload_n hx hb d_Paper_writeNode_119 rfl (lv_at hl1 1 rfl) ?_
        refine lv_aload_n hx hb d_Paper_writeNode_120 rfl (lv_at hl1 2 rfl) ?_
        refine lv_aload_n hx hb d_Paper_writeNode_121 rfl (lv_at hl1 2 rfl) ?_
        refine va_get (D := D) (ci := 4) (v := .ref n3) (C := R_Nodes) (T := F_Nodes) (N := 4) hx hb hts i_Nodes hown hK.1 hP 0 rfl rfl 2 (by decide) (hts _ wd_114) (fun _ h9 => h9) rfl d_Paper_writeNode_122 ?_
        refine lv_iload_n hx hb d_Paper_writeNode_125 rfl (lv_at hl1 3 rfl) ?_
        refine va_iald hx hb hK.1 hP 3 0 rfl rfl (vp_in_nI (by first | assumption | omega) (by first | exact Nat.lt_of_lt_of_le (by assumption) (by decide) | exact Nat.lt_of_le_of_lt (by assumption) (by decide) | omega)) d_Paper_writeNode_126 ?_
        refine W.eq (g2 := F0 m 127 ls [.int (fr nd), .ref n0, .ref w0]) (by rw [nI_clamp (by first | exact Nat.lt_of_lt_of_le (by assumption) (by decide) | exact Nat.lt_of_le_of_lt (by assumption) (by decide) | omega)]) ?_
        refine W.eq (g2 := F0 m 127 ls [.int (nI c9), .ref n0, .ref w0]) (by rw [hc2]) ?_
        refine lv_iload_n hx hb d_Paper_writeNode_127 rfl (lv_at hl1 4 rfl) ?_
        refine lv_iconst (v := 1) hx hb d_Paper_writeNode_128 (by decide) ?_
        refine lv_iadd hx hb d_Paper_writeNode_129 ?_
        refine lv_topi (fun z_37 ez_37 => ?_)
        have ez_37 : z_37 = nI (dp9 + 1) := ez_37.trans (nI_add dp9 1)
        subst ez_37
        obtain ⟨hPc, hDc, hFc, hCs⟩ := xw_sub3 (wc := [(w0, .inr (5, [.ref (u_27 0), .int (nI (u_27 2))])), ((u_27 0), .inl (ax 1, u_27 1, .inl x_34)), (n0, .inr (4, [.ref n1, .ref n2, .ref n3, .int (nI z9)])), (n1, .inl (ax 1, cp, .inl fo)), (n2, .inl (ax 0, cp, .inl fl)), (n3, .inl (ax 0, cp, .inl fr))]) hP hD hS hA [4, 5, 0, 1, 2, 3] (by decide) rfl
        have hz := xz_of hN hS
        refine wk_know (fun hk8 hk9 => ?_)
        refine va_callv (va_runV (As := [.ref n0, .int (nI c9), .int (nI (dp9 + 1))]) (rest := []) ⟨hx, hb, hml, hown, hts⟩ ((hrec (by first | assumption | omega)) D ax w0 (u_27 0) (u_27 2) (u_27 1) MB x_34 n0 n1 n2 n3 cp z9 fo fl fr ls9 c9 H_28.size (tsl H_28) (by first | assumption | omega) (by first | assumption | omega) (by first | assumption | omega) (by first | assumption | omega) (by first | assumption | omega) (by assumption) (by first | assumption | omega) (by first | assumption | omega) (by first | assumption | omega) hnv hnl hll hnb9 (by assumption)) (xcV (n := 3) hts wd_926 wd_10 wd_923 wd_925 ps_41 rfl rfl (by decide +kernel) ⟨(show (60 + 2 * (66 - (dp9 + 1))) + 1 ≤ (60 + 2 * (66 - dp9)) by omega), (show 8 + (5 + 11) + (2400 + 100 * (66 - (dp9 + 1))) ≤ (2400 + 100 * (66 - dp9)) by omega)⟩) (xpV3 (ci := 5) (q0 := 0) (As := [.ref n0, .int (nI c9), .int (nI (dp9 + 1))]) hPc hK hz hDc rfl rfl) rfl rfl hl1.1 rfl (lv_room (Nat.le_of_ble_eq_true rfl)) d_Paper_writeNode_130 ⟨(show (u_4 1 / 8 - bc / 8 + (u_15 1 / 8 - (u_4 1) / 8) + (u_27 1 / 8 - (u_15 1) / 8)) + (MB / 8 - (u_27 1) / 8) ≤ (MB / 8 - bc / 8) by omega), (show (2 * (u_4 1 - bc) + (2 * (u_15 1 - (u_4 1))) + (2 * (u_27 1 - (u_15 1)))) + (2 * (MB - (u_27 1))) ≤ (2 * (MB - bc)) by omega)⟩) hS (fun q _ h => hFc q h) hFc (fun u_38 t H_39 locs ht hvm hw hB hz1 hk1 hS1 => ?_)
        try dsimp only at hw
        obtain ⟨hs_41, hs_42, hs_43, hs_44, hs_45⟩ := hw
        obtain ⟨x_46, hg8, hg9, hx_47, hx_48, hP1, hD1⟩ := hB
        rw [ht] at hg8 hg9 hP1
        have hjn := xw_join3 (wl := [(w0, .inr (5, [.ref (u_38 0), .int (nI (u_38 2))])), ((u_38 0), .inl (ax 1, u_38 1, .inl x_46)), (n0, .inr (4, [.ref n1, .ref n2, .ref n3, .int (nI z9)])), (n1, .inl (ax 1, cp, .inl fo)), (n2, .inl (ax 0, cp, .inl fl)), (n3, .inl (ax 0, cp, .inl fr))]) hP hD [4, 5, 0, 1, 2, 3] [] hCs (by decide) (by decide) hk1 hFc hP1 hD1 rfl
        clear hP1 hD1
        clear hPc hDc hFc hCs hz hz1 hk1 ht hvm
        clear hP hD hS
        have hS := hS1
        obtain ⟨hP, hD⟩ := hjn
        clear hS1
        refine wk_narrow (k := u_4 1 / 8 - bc / 8 + (u_15 1 / 8 - (u_4 1) / 8) + (u_27 1 / 8 - (u_15 1) / 8) + (u_38 1 / 8 - (u_27 1) / 8)) (n := 2 * (u_4 1 - bc) + (2 * (u_15 1 - (u_4 1))) + (2 * (u_27 1 - (u_15 1))) + (2 * (u_38 1 - (u_27 1)))) (by first | assumption | omega) (by first | assumption | omega) ?_
        clear hk8 hk9 hg8 hg9
        refine lv_aload_n hx hb d_Paper_writeNode_133 rfl (lv_at hl1 1 rfl) ?_
        refine lv_bipush (v := 41) hx hb d_Paper_writeNode_134 (by decide) ?_
        obtain ⟨hPc, hDc, hFc, hCs⟩ := xw_sub3 (wc := [(w0, .inr (5, [.ref (u_38 0), .int (nI (u_38 2))])), ((u_38 0), .inl (ax 1, u_38 1, .inl x_46))]) hP hD hS hA [0, 1] (by decide) rfl
        have hz := xz_of hN hS
        refine wk_know (fun hk8 hk9 => ?_)
        refine va_callv (va_runV (As := [.int 41]) (rest := []) ⟨hx, hb, hml, hown, hts⟩ (c_W_byte l D ax w0 (u_38 0) (u_38 2) (u_38 1) MB x_46 41 H_39.size (tsl H_39) (by first | assumption | omega) (by first | assumption | omega) (by first | assumption | omega) (by first | assumption | omega) (by first | assumption | omega) (by assumption)) (xcV (n := 1) hts wd_938 wd_10 wd_935 wd_937 ps_44 rfl rfl (by decide +kernel) ⟨(show (30) + 1 ≤ (60 + 2 * (66 - dp9)) by omega), (show 8 + (2 + 11) + (1200) ≤ (2400 + 100 * (66 - dp9)) by omega)⟩) (xpV3 (ci := 5) (q0 := 0) (As := [.int 41]) hPc hK hz hDc rfl rfl) rfl rfl hl1.1 rfl (lv_room (Nat.le_of_ble_eq_true rfl)) d_Paper_writeNode_136 ⟨(show (u_4 1 / 8 - bc / 8 + (u_15 1 / 8 - (u_4 1) / 8) + (u_27 1 / 8 - (u_15 1) / 8) + (u_38 1 / 8 - (u_27 1) / 8)) + (MB / 8 - (u_38 1) / 8) ≤ (MB / 8 - bc / 8) by omega), (show (2 * (u_4 1 - bc) + (2 * (u_15 1 - (u_4 1))) + (2 * (u_27 1 - (u_15 1))) + (2 * (u_38 1 - (u_27 1)))) + (2 * (MB - (u_38 1))) ≤ (2 * (MB - bc)) by omega)⟩) hS (fun q _ h => hFc q h) hFc (fun u_49 t H_50 locs ht hvm hw hB hz1 hk1 hS1 => ?_)
        try dsimp only at hw
        obtain ⟨hs_52, hs_53, hs_54, hs_55⟩ := hw
        obtain ⟨x_56, hg8, hg9, hx_57, hx_58, hP1, hD1⟩ := hB
        rw [ht] at hg8 hg9 hP1
        have hjn := xw_join3 (wl := [(n0, .inr (4, [.ref n1, .ref n2, .ref n3, .int (nI z9)])), (n1, .inl (ax 1, cp, .inl fo)), (n2, .inl (ax 0, cp, .inl fl)), (n3, .inl (ax 0, cp, .inl fr)), (w0, .inr (5, [.ref (u_49 0), .int (nI (u_49 2))])), ((u_49 0), .inl (ax 1, u_49 1, .inl x_56))]) hP hD [0, 1] [2, 3, 4, 5] hCs (by decide) (by decide) hk1 hFc hP1 hD1 rfl
        clear hP1 hD1
        clear hPc hDc hFc hCs hz hz1 hk1 ht hvm
        clear hP hD hS
        have hS := hS1
        obtain ⟨hP, hD⟩ := hjn
        clear hS1
        refine wk_narrow (k := u_4 1 / 8 - bc / 8 + (u_15 1 / 8 - (u_4 1) / 8) + (u_27 1 / 8 - (u_15 1) / 8) + (u_38 1 / 8 - (u_27 1) / 8) + (u_49 1 / 8 - (u_38 1) / 8)) (n := 2 * (u_4 1 - bc) + (2 * (u_15 1 - (u_4 1))) + (2 * (u_27 1 - (u_15 1))) + (2 * (u_38 1 - (u_27 1))) + (2 * (u_49 1 - (u_38 1)))) (by first | assumption | omega) (by first | assumption | omega) ?_
        clear hk8 hk9 hg8 hg9
        rw [← hQe]
        refine wk_know (fun hk8 hk9 => ?_)
        refine W.widen (k := MB / 8 - bc / 8) (n := 2 * (MB - bc)) (by first | assumption | omega) (by first | assumption | omega) ?_
        obtain ⟨hP9, hD9⟩ := xw_sub2 (wc := (fun (u : Nat → Nat) (xby : Nat → Int32) => [(w0, .inr (5, [.ref (u 0), .int (nI (u 2))])), (u 0, .inl (ax 1, u 1, .inl xby)), (n0, .inr (4, [.ref n1, .ref n2, .ref n3, .int (nI z9)])), (n1, .inl (ax 1, cp, .inl fo)), (n2, .inl (ax 0, cp, .inl fl)), (n3, .inl (ax 0, cp, .inl fr))]) (ixn [(u_49 0), (u_49 1), (u_49 2)]) x_56) hP hD [4, 5, 0, 1, 2, 3] (by decide) rfl
        have hex0 : bts x_56 ((u_49 1)) := (by assumption)
        have hex1 : lsi x_56 ((u_49 2)) = lsi by9 zs ++ ftx ls9 nd := (wn_b hop9 (by first | assumption | omega) (by first | assumption | omega) ea9 ec9 (by first | exact by38 (by first | assumption | omega) | exact by124 (by first | assumption | omega)) hx_13 hx_25 hx_36 hx_48 hx_58)
        have hg8 : H_50.size ≤ s.heap.size + ((u_49 1) / 8 - bc / 8) := by omega
        have hg9 : tsl H_50 ≤ tsl s.heap + (2 * ((u_49 1) - bc)) := by omega
        have hsp0 : 2 * (u_49 2) ≤ 2 * zs + (25 * tsn fo fl fr nd + 19) := (by first | assumption | omega)
        have hsp1 : zs ≤ (u_49 2) := (by first | assumption | omega)
        have hsp2 : (u_49 2) ≤ (u_49 1) := (by first | assumption | omega)
        have hsp3 : bc ≤ (u_49 1) := (by first | assumption | omega)
        have hsp4 : (u_49 1) ≤ MB := (by first | assumption | omega)
        exact W.vret hx hb hr (fun t ht hW => ⟨⟨ixn [(u_49 0), (u_49 1), (u_49 2)], rfl, ⟨hsp0, hsp1, hsp2, hsp3, hsp4⟩, ⟨x_56, by rw [ht]; exact hg8, by rw [ht]; exact hg9, hex0, hex1, by rw [ht]; exact hP9, hD9⟩⟩, hS.F ht⟩) hS.2.2 d_Paper_writeNode_139
      · replace c_26 : o9 = 7 := (nI_eq (a := o9) (b := 7) (by first | exact Nat.lt_of_lt_of_le (by assumption) (by decide) | exact Nat.lt_of_le_of_lt (by assumption) (by decide) | omega) (by decide)).mp c_26
        refine lv_bipush (v := 38) hx hb d_Paper_writeNode_109 (by decide) ?_
        refine lv_goto (tgt := 116) hx hb d_Paper_writeNode_111 (by decide) ?_
        obtain ⟨hPc, hDc, hFc, hCs⟩ := xw_sub3 (wc := [(w0, .inr (5, [.ref (u_15 0), .int (nI (u_15 2))])), ((u_15 0), .inl (ax 1, u_15 1, .inl x_23))]) hP hD hS hA [0, 1] (by decide) rfl
        have hz := xz_of hN hS
        refine wk_know (fun hk8 hk9 => ?_)
        refine va_callv (va_runV (As := [.int 38]) (rest := []) ⟨hx, hb, hml, hown, hts⟩ (c_W_byte l D ax w0 (u_15 0) (u_15 2) (u_15 1) MB x_23 38 H_16.size (tsl H_16) (by first | assumption | omega) (by first | assumption | omega) (by first | assumption | omega) (by first | assumption | omega) (by first | assumption | omega) (by assumption)) (xcV (n := 1) hts wd_938 wd_10 wd_935 wd_937 ps_44 rfl rfl (by decide +kernel) ⟨(show (30) + 1 ≤ (60 + 2 * (66 - dp9)) by omega), (show 8 + (2 + 11) + (1200) ≤ (2400 + 100 * (66 - dp9)) by omega)⟩) (xpV3 (ci := 5) (q0 := 0) (As := [.int 38]) hPc hK hz hDc rfl rfl) rfl rfl hl1.1 rfl (lv_room (Nat.le_of_ble_eq_true rfl)) d_Paper_writeNode_116 ⟨(show (u_4 1 / 8 - bc / 8 + (u_15 1 / 8 - (u_4 1) / 8)) + (MB / 8 - (u_15 1) / 8) ≤ (MB / 8 - bc / 8) by omega), (show (2 * (u_4 1 - bc) + (2 * (u_15 1 - (u_4 1)))) + (2 * (MB - (u_15 1))) ≤ (2 * (MB - bc)) by omega)⟩) hS (fun q _ h => hFc q h) hFc (fun u_59 t H_60 locs ht hvm hw hB hz1 hk1 hS1 => ?_)
        try dsimp only at hw
        obtain ⟨hs_62, hs_63, hs_64, hs_65⟩ := hw
        obtain ⟨x_66, hg8, hg9, hx_67, hx_68, hP1, hD1⟩ := hB
        rw [ht] at hg8 hg9 hP1
        have hjn := xw_join3 (wl := [(n0, .inr (4, [.ref n1, .ref n2, .ref n3, .int (nI z9)])), (n1, .inl (ax 1, cp, .inl fo)), (n2, .inl (ax 0, cp, .inl fl)), (n3, .inl (ax 0, cp, .inl fr)), (w0, .inr (5, [.ref (u_59 0), .int (nI (u_59 2))])), ((u_59 0), .inl (ax 1, u_59 1, .inl x_66))]) hP hD [0, 1] [2, 3, 4, 5] hCs (by decide) (by decide) hk1 hFc hP1 hD1 rfl
        clear hP1 hD1
        clear hPc hDc hFc hCs hz hz1 hk1 ht hvm
        clear hP hD hS
        have hS := hS1
        obtain ⟨hP, hD⟩ := hjn
        clear hS1
        refine wk_narrow (k := u_4 1 / 8 - bc / 8 + (u_15 1 / 8 - (u_4 1) / 8) + (u_59 1 / 8 - (u_15 1) / 8)) (n := 2 * (u_4 1 - bc) + (2 * (u_15 1 - (u_4 1))) + (2 * (u_59 1 - (u_15 1)))) (by first | assumption | omega) (by first | assumption | omega) ?_
        clear hk8 hk9 hg8 hg9
        refine lv_aload_n hx hb d_Paper_writeNode_119 rfl (lv_at hl1 1 rfl) ?_
        refine lv_aload_n hx hb d_Paper_writeNode_120 rfl (lv_at hl1 2 rfl) ?_
        refine lv_aload_n hx hb d_Paper_writeNode_121 rfl (lv_at hl1 2 rfl) ?_
        refine va_get (D := D) (ci := 4) (v := .ref n3) (C := R_Nodes) (T := F_Nodes) (N := 4) hx hb hts i_Nodes hown hK.1 hP 0 rfl rfl 2 (by decide) (hts _ wd_114) (fun _ h9 => h9) rfl d_Paper_writeNode_122 ?_
        refine lv_iload_n hx hb d_Paper_writeNode_125 rfl (lv_at hl1 3 rfl) ?_
        refine va_iald hx hb hK.1 hP 3 0 rfl rfl (vp_in_nI (by first | assumption | omega) (by first | exact Nat.lt_of_lt_of_le (by assumption) (by decide) | exact Nat.lt_of_le_of_lt (by assumption) (by decide) | omega)) d_Paper_writeNode_126 ?_
        refine W.eq (g2 := F0 m 127 ls [.int (fr nd), .ref n0, .ref w0]) (by rw [nI_clamp (by first | exact Nat.lt_of_lt_of_le (by assumption) (by decide) | exact Nat.lt_of_le_of_lt (by assumption) (by decide) | omega)]) ?_
        refine W.eq (g2 := F0 m 127 ls [.int (nI c9), .ref n0, .ref w0]) (by rw [hc2]) ?_
        refine lv_iload_n hx hb d_Paper_writeNode_127 rfl (lv_at hl1 4 rfl) ?_
        refine lv_iconst (v := 1) hx hb d_Paper_writeNode_128 (by decide) ?_
        refine lv_iadd hx hb d_Paper_writeNode_129 ?_
        refine lv_topi (fun z_69 ez_69 => ?_)
        have ez_69 : z_69 = nI (dp9 + 1) := ez_69.trans (nI_add dp9 1)
        subst ez_69
        obtain ⟨hPc, hDc, hFc, hCs⟩ := xw_sub3 (wc := [(w0, .inr (5, [.ref (u_59 0), .int (nI (u_59 2))])), ((u_59 0), .inl (ax 1, u_59 1, .inl x_66)), (n0, .inr (4, [.ref n1, .ref n2, .ref n3, .int (nI z9)])), (n1, .inl (ax 1, cp, .inl fo)), (n2, .inl (ax 0, cp, .inl fl)), (n3, .inl (ax 0, cp, .inl fr))]) hP hD hS hA [4, 5, 0, 1, 2, 3] (by decide) rfl
        have hz := xz_of hN hS
        refine wk_know (fun hk8 hk9 => ?_)
        refine va_callv (va_runV (As := [.ref n0, .int (nI c9), .int (nI (dp9 + 1))]) (rest := []) ⟨hx, hb, hml, hown, hts⟩ ((hrec (by first | assumption | omega)) D ax w0 (u_59 0) (u_59 2) (u_59 1) MB x_66 n0 n1 n2 n3 cp z9 fo fl fr ls9 c9 H_60.size (tsl H_60) (by first | assumption | omega) (by first | assumption | omega) (by first | assumption | omega) (by first | assumption | omega) (by first | assumption | omega) (by assumption) (by first | assumption | omega) (by first | assumption | omega) (by first | assumption | omega) hnv hnl hll hnb9 (by assumption)) (xcV (n := 3) hts wd_926 wd_10 wd_923 wd_925 ps_41 rfl rfl (by decide +kernel) ⟨(show (60 + 2 * (66 - (dp9 + 1))) + 1 ≤ (60 + 2 * (66 - dp9)) by omega), (show 8 + (5 + 11) + (2400 + 100 * (66 - (dp9 + 1))) ≤ (2400 + 100 * (66 - dp9)) by omega)⟩) (xpV3 (ci := 5) (q0 := 0) (As := [.ref n0, .int (nI c9), .int (nI (dp9 + 1))]) hPc hK hz hDc rfl rfl) rfl rfl hl1.1 rfl (lv_room (Nat.le_of_ble_eq_true rfl)) d_Paper_writeNode_130 ⟨(show (u_4 1 / 8 - bc / 8 + (u_15 1 / 8 - (u_4 1) / 8) + (u_59 1 / 8 - (u_15 1) / 8)) + (MB / 8 - (u_59 1) / 8) ≤ (MB / 8 - bc / 8) by omega), (show (2 * (u_4 1 - bc) + (2 * (u_15 1 - (u_4 1))) + (2 * (u_59 1 - (u_15 1)))) + (2 * (MB - (u_59 1))) ≤ (2 * (MB - bc)) by omega)⟩) hS (fun q _ h => hFc q h) hFc (fun u_70 t H_71 locs ht hvm hw hB hz1 hk1 hS1 => ?_)
        try dsimp only at hw
        obtain ⟨hs_73, hs_74, hs_75, hs_76, hs_77⟩ := hw
        obtain ⟨x_78, hg8, hg9, hx_79, hx_80, hP1, hD1⟩ := hB
        rw [ht] at hg8 hg9 hP1
        have hjn := xw_join3 (wl := [(w0, .inr (5, [.ref (u_70 0), .int (nI (u_70 2))])), ((u_70 0), .inl (ax 1, u_70 1, .inl x_78)), (n0, .inr (4, [.ref n1, .ref n2, .ref n3, .int (nI z9)])), (n1, .inl (ax 1, cp, .inl fo)), (n2, .inl (ax 0, cp, .inl fl)), (n3, .inl (ax 0, cp, .inl fr))]) hP hD [4, 5, 0, 1, 2, 3] [] hCs (by decide) (by decide) hk1 hFc hP1 hD1 rfl
        clear hP1 hD1
        clear hPc hDc hFc hCs hz hz1 hk1 ht hvm
        clear hP hD hS
        have hS := hS1
        obtain ⟨hP, hD⟩ := hjn
        clear hS1
        refine wk_narrow (k := u_4 1 / 8 - bc / 8 + (u_15 1 / 8 - (u_4 1) / 8) + (u_59 1 / 8 - (u_15 1) / 8) + (u_70 1 / 8 - (u_59 1) / 8)) (n := 2 * (u_4 1 - bc) + (2 * (u_15 1 - (u_4 1))) + (2 * (u_59 1 - (u_15 1))) + (2 * (u_70 1 - (u_59 1)))) (by first | assumption | omega) (by first | assumption | omega) ?_
        clear hk8 hk9 hg8 hg9
        refine lv_aload_n hx hb d_Paper_writeNode_133 rfl (lv_at hl1 1 rfl) ?_
        refine lv_bipush (v := 41) hx hb d_Paper_writeNode_134 (by decide) ?_
        obtain ⟨hPc, hDc, hFc, hCs⟩ := xw_sub3 (wc := [(w0, .inr (5, [.ref (u_70 0), .int (nI (u_70 2))])), ((u_70 0), .inl (ax 1, u_70 1, .inl x_78))]) hP hD hS hA [0, 1] (by decide) rfl
        have hz := xz_of hN hS
        refine wk_know (fun hk8 hk9 => ?_)
        refine va_callv (va_runV (As := [.int 41]) (rest := []) ⟨hx, hb, hml, hown, hts⟩ (c_W_byte l D ax w0 (u_70 0) (u_70 2) (u_70 1) MB x_78 41 H_71.size (tsl H_71) (by first | assumption | omega) (by first | assumption | omega) (by first | assumption | omega) (by first | assumption | omega) (by first | assumption | omega) (by assumption)) (xcV (n := 1) hts wd_938 wd_10 wd_935 wd_937 ps_44 rfl rfl (by decide +kernel) ⟨(show (30) + 1 ≤ (60 + 2 * (66 - dp9)) by omega), (show 8 + (2 + 11) + (1200) ≤ (2400 + 100 * (66 - dp9)) by omega)⟩) (xpV3 (ci := 5) (q0 := 0) (As := [.int 41]) hPc hK hz hDc rfl rfl) rfl rfl hl1.1 rfl (lv_room (Nat.le_of_ble_eq_true rfl)) d_Paper_writeNode_136 ⟨(show (u_4 1 / 8 - bc / 8 + (u_15 1 / 8 - (u_4 1) / 8) + (u_59 1 / 8 - (u_15 1) / 8) + (u_70 1 / 8 - (u_59 1) / 8)) + (MB / 8 - (u_70 1) / 8) ≤ (MB / 8 - bc / 8) by omega), (show (2 * (u_4 1 - bc) + (2 * (u_15 1 - (u_4 1))) + (2 * (u_59 1 - (u_15 1))) + (2 * (u_70 1 - (u_59 1)))) + (2 * (MB - (u_70 1))) ≤ (2 * (MB - bc)) by omega)⟩) hS (fun q _ h => hFc q h) hFc (fun u_81 t H_82 locs ht hvm hw hB hz1 hk1 hS1 => ?_)
        try dsimp only at hw
        obtain ⟨hs_84, hs_85, hs_86, hs_87⟩ := hw
        obtain ⟨x_88, hg8, hg9, hx_89, hx_90, hP1, hD1⟩ := hB
        rw [ht] at hg8 hg9 hP1
        have hjn := xw_join3 (wl := [(n0, .inr (4, [.ref n1, .ref n2, .ref n3, .int (nI z9)])), (n1, .inl (ax 1, cp, .inl fo)), (n2, .inl (ax 0, cp, .inl fl)), (n3, .inl (ax 0, cp, .inl fr)), (w0, .inr (5, [.ref (u_81 0), .int (nI (u_81 2))])), ((u_81 0), .inl (ax 1, u_81 1, .inl x_88))]) hP hD [0, 1] [2, 3, 4, 5] hCs (by decide) (by decide) hk1 hFc hP1 hD1 rfl
        clear hP1 hD1
        clear hPc hDc hFc hCs hz hz1 hk1 ht hvm
        clear hP hD hS
        have hS := hS1
        obtain ⟨hP, hD⟩ := hjn
        clear hS1
        refine wk_narrow (k := u_4 1 / 8 - bc / 8 + (u_15 1 / 8 - (u_4 1) / 8) + (u_59 1 / 8 - (u_15 1) / 8) + (u_70 1 / 8 - (u_59 1) / 8) + (u_81 1 / 8 - (u_70 1) / 8)) (n := 2 * (u_4 1 - bc) + (2 * (u_15 1 - (u_4 1))) + (2 * (u_59 1 - (u_15 1))) + (2 * (u_70 1 - (u_59 1))) + (2 * (u_81 1 - (u_70 1)))) (by first | assumption | omega) (by first | assumption | omega) ?_
        clear hk8 hk9 hg8 hg9
        rw [← hQe]
        refine wk_know (fun hk8 hk9 => ?_)
        refine W.widen (k := MB / 8 - bc / 8) (n := 2 * (MB - bc)) (by first | assumption | omega) (by first | assumption | omega) ?_
        obtain ⟨hP9, hD9⟩ := xw_sub2 (wc := (fun (u : Nat → Nat) (xby : Nat → Int32) => [(w0, .inr (5, [.ref (u 0), .int (nI (u 2))])), (u 0, .inl (ax 1, u 1, .inl xby)), (n0, .inr (4, [.ref n1, .ref n2, .ref n3, .int (nI z9)])), (n1, .inl (ax 1, cp, .inl fo)), (n2, .inl (ax 0, cp, .inl fl)), (n3, .inl (ax 0, cp, .inl fr))]) (ixn [(u_81 0), (u_81 1), (u_81 2)]) x_88) hP hD [4, 5, 0, 1, 2, 3] (by decide) rfl
        have hex0 : bts x_88 ((u_81 1)) := (by assumption)
        have hex1 : lsi x_88 ((u_81 2)) = lsi by9 zs ++ ftx ls9 nd := (wn_b hop9 (by first | assumption | omega) (by first | assumption | omega) ea9 ec9 (by first | exact by38 (by first | assumption | omega) | exact by124 (by first | assumption | omega)) hx_13 hx_25 hx_68 hx_80 hx_90)
        have hg8 : H_82.size ≤ s.heap.size + ((u_81 1) / 8 - bc / 8) := by omega
        have hg9 : tsl H_82 ≤ tsl s.heap + (2 * ((u_81 1) - bc)) := by omega
        have hsp0 : 2 * (u_81 2) ≤ 2 * zs + (25 * tsn fo fl fr nd + 19) := (by first | assumption | omega)
        have hsp1 : zs ≤ (u_81 2) := (by first | assumption | omega)
        have hsp2 : (u_81 2) ≤ (u_81 1) := (by first | assumption | omega)
        have hsp3 : bc ≤ (u_81 1) := (by first | assumption | omega)
        have hsp4 : (u_81 1) ≤ MB := (by first | assumption | omega)
        exact W.vret hx hb hr (fun t ht hW => ⟨⟨ixn [(u_81 0), (u_81 1), (u_81 2)], rfl, ⟨hsp0, hsp1, hsp2, hsp3, hsp4⟩, ⟨x_88, by rw [ht]; exact hg8, by rw [ht]; exact hg9, hex0, hex1, by rw [ht]; exact hP9, hD9⟩⟩, hS.F ht⟩) hS.2.2 d_Paper_writeNode_139
    · replace c_3 : o9 = 6 := (nI_eq (a := o9) (b := 6) (by first | exact Nat.lt_of_lt_of_le (by assumption) (by decide) | exact Nat.lt_of_le_of_lt (by assumption) (by decide) | omega) (by decide)).mp c_3
      obtain ⟨a9, ha1, ha2⟩ := hnp.2.1 (by first | assumption | omega)
      have ht9 := tsn_not (n := nd) (by first | assumption | omega) (hnv.old (by first | assumption | omega)) (show fo nd = nI 6 by rw [ho2, show o9 = 6 by omega]) ha1 ha2
      have ea9 := pr_n hnl (by first | assumption | omega) hop9 (by first | assumption | omega) ha1 (by first | assumption | omega) ha2
      have hda := dp_n hop9 (by first | assumption | omega) (by first | assumption | omega) ea9 hdp9
      refine lv_aload_n hx hb d_Paper_writeNode_58 rfl (lv_at hl1 1 rfl) ?_
      refine lv_bipush (v := 33) hx hb d_Paper_writeNode_59 (by decide) ?_
      obtain ⟨hPc, hDc, hFc, hCs⟩ := xw_sub3 (wc := [(w0, .inr (5, [.ref w1, .int (nI zs)])), (w1, .inl (ax 1, bc, .inl by9))]) hP hD hS hA [0, 1] (by decide) rfl
      have hz := xz_of hN hS
      refine wk_know (fun hk8 hk9 => ?_)
      refine va_callv (va_runV (As := [.int 33]) (rest := []) ⟨hx, hb, hml, hown, hts⟩ (c_W_byte l D ax w0 w1 zs bc MB by9 33 s.heap.size (tsl s.heap) (by first | assumption | omega) (by first | assumption | omega) (by first | assumption | omega) (by first | assumption | omega) (by first | assumption | omega) (by assumption)) (xcV (n := 1) hts wd_938 wd_10 wd_935 wd_937 ps_44 rfl rfl (by decide +kernel) ⟨(show (30) + 1 ≤ (60 + 2 * (66 - dp9)) by omega), (show 8 + (2 + 11) + (1200) ≤ (2400 + 100 * (66 - dp9)) by omega)⟩) (xpV3 (ci := 5) (q0 := 0) (As := [.int 33]) hPc hK hz hDc rfl rfl) rfl rfl hl1.1 rfl (lv_room (Nat.le_of_ble_eq_true rfl)) d_Paper_writeNode_61 ⟨(show (0) + (MB / 8 - bc / 8) ≤ (MB / 8 - bc / 8) by omega), (show (0) + (2 * (MB - bc)) ≤ (2 * (MB - bc)) by omega)⟩) hS (fun q _ h => hFc q h) hFc (fun u_91 t H_92 locs ht hvm hw hB hz1 hk1 hS1 => ?_)
      try dsimp only at hw
      obtain ⟨hs_94, hs_95, hs_96, hs_97⟩ := hw
      obtain ⟨x_98, hg8, hg9, hx_99, hx_100, hP1, hD1⟩ := hB
      rw [ht] at hg8 hg9 hP1
      have hjn := xw_join3 (wl := [(n0, .inr (4, [.ref n1, .ref n2, .ref n3, .int (nI z9)])), (n1, .inl (ax 1, cp, .inl fo)), (n2, .inl (ax 0, cp, .inl fl)), (n3, .inl (ax 0, cp, .inl fr)), (w0, .inr (5, [.ref (u_91 0), .int (nI (u_91 2))])), ((u_91 0), .inl (ax 1, u_91 1, .inl x_98))]) hP hD [0, 1] [2, 3, 4, 5] hCs (by decide) (by decide) hk1 hFc hP1 hD1 rfl
      clear hP1 hD1
      clear hPc hDc hFc hCs hz hz1 hk1 ht hvm
      clear hP hD hS
      have hS := hS1
      obtain ⟨hP, hD⟩ := hjn
      clear hS1
      refine wk_narrow (k := u_91 1 / 8 - bc / 8) (n := 2 * (u_91 1 - bc)) (by first | assumption | omega) (by first | assumption | omega) ?_
      clear hk8 hk9 hg8 hg9
      refine lv_aload_n hx hb d_Paper_writeNode_64 rfl (lv_at hl1 1 rfl) ?_
      refine lv_aload_n hx hb d_Paper_writeNode_65 rfl (lv_at hl1 2 rfl) ?_
      refine lv_aload_n hx hb d_Paper_writeNode_66 rfl (lv_at hl1 2 rfl) ?_
      refine va_get (D := D) (ci := 4) (v := .ref n2) (C := R_Nodes) (T := F_Nodes) (N := 4) hx hb hts i_Nodes hown hK.1 hP 0 rfl rfl 1 (by decide) (hts _ wd_109) (fun _ h9 => h9) rfl d_Paper_writeNode_67 ?_
      refine lv_iload_n hx hb d_Paper_writeNode_70 rfl (lv_at hl1 3 rfl) ?_
      refine va_iald hx hb hK.1 hP 2 0 rfl rfl (vp_in_nI (by first | assumption | omega) (by first | exact Nat.lt_of_lt_of_le (by assumption) (by decide) | exact Nat.lt_of_le_of_lt (by assumption) (by decide) | omega)) d_Paper_writeNode_71 ?_
      refine W.eq (g2 := F0 m 72 ls [.int (fl nd), .ref n0, .ref w0]) (by rw [nI_clamp (by first | exact Nat.lt_of_lt_of_le (by assumption) (by decide) | exact Nat.lt_of_le_of_lt (by assumption) (by decide) | omega)]) ?_
      refine W.eq (g2 := F0 m 72 ls [.int (nI a9), .ref n0, .ref w0]) (by rw [ha2]) ?_
      refine lv_iload_n hx hb d_Paper_writeNode_72 rfl (lv_at hl1 4 rfl) ?_
      refine lv_iconst (v := 1) hx hb d_Paper_writeNode_73 (by decide) ?_
      refine lv_iadd hx hb d_Paper_writeNode_74 ?_
      refine lv_topi (fun z_101 ez_101 => ?_)
      have ez_101 : z_101 = nI (dp9 + 1) := ez_101.trans (nI_add dp9 1)
      subst ez_101
      obtain ⟨hPc, hDc, hFc, hCs⟩ := xw_sub3 (wc := [(w0, .inr (5, [.ref (u_91 0), .int (nI (u_91 2))])), ((u_91 0), .inl (ax 1, u_91 1, .inl x_98)), (n0, .inr (4, [.ref n1, .ref n2, .ref n3, .int (nI z9)])), (n1, .inl (ax 1, cp, .inl fo)), (n2, .inl (ax 0, cp, .inl fl)), (n3, .inl (ax 0, cp, .inl fr))]) hP hD hS hA [4, 5, 0, 1, 2, 3] (by decide) rfl
      have hz := xz_of hN hS
      refine wk_know (fun hk8 hk9 => ?_)
      refine va_callv (va_runV (As := [.ref n0, .int (nI a9), .int (nI (dp9 + 1))]) (rest := []) ⟨hx, hb, hml, hown, hts⟩ ((hrec (by first | assumption | omega)) D ax w0 (u_91 0) (u_91 2) (u_91 1) MB x_98 n0 n1 n2 n3 cp z9 fo fl fr ls9 a9 H_92.size (tsl H_92) (by first | assumption | omega) (by first | assumption | omega) (by first | assumption | omega) (by first | assumption | omega) (by first | assumption | omega) (by assumption) (by first | assumption | omega) (by first | assumption | omega) (by first | assumption | omega) hnv hnl hll hnb9 (by assumption)) (xcV (n := 3) hts wd_926 wd_10 wd_923 wd_925 ps_41 rfl rfl (by decide +kernel) ⟨(show (60 + 2 * (66 - (dp9 + 1))) + 1 ≤ (60 + 2 * (66 - dp9)) by omega), (show 8 + (5 + 11) + (2400 + 100 * (66 - (dp9 + 1))) ≤ (2400 + 100 * (66 - dp9)) by omega)⟩) (xpV3 (ci := 5) (q0 := 0) (As := [.ref n0, .int (nI a9), .int (nI (dp9 + 1))]) hPc hK hz hDc rfl rfl) rfl rfl hl1.1 rfl (lv_room (Nat.le_of_ble_eq_true rfl)) d_Paper_writeNode_75 ⟨(show (u_91 1 / 8 - bc / 8) + (MB / 8 - (u_91 1) / 8) ≤ (MB / 8 - bc / 8) by omega), (show (2 * (u_91 1 - bc)) + (2 * (MB - (u_91 1))) ≤ (2 * (MB - bc)) by omega)⟩) hS (fun q _ h => hFc q h) hFc (fun u_102 t H_103 locs ht hvm hw hB hz1 hk1 hS1 => ?_)
      try dsimp only at hw
      obtain ⟨hs_105, hs_106, hs_107, hs_108, hs_109⟩ := hw
      obtain ⟨x_110, hg8, hg9, hx_111, hx_112, hP1, hD1⟩ := hB
      rw [ht] at hg8 hg9 hP1
      have hjn := xw_join3 (wl := [(w0, .inr (5, [.ref (u_102 0), .int (nI (u_102 2))])), ((u_102 0), .inl (ax 1, u_102 1, .inl x_110)), (n0, .inr (4, [.ref n1, .ref n2, .ref n3, .int (nI z9)])), (n1, .inl (ax 1, cp, .inl fo)), (n2, .inl (ax 0, cp, .inl fl)), (n3, .inl (ax 0, cp, .inl fr))]) hP hD [4, 5, 0, 1, 2, 3] [] hCs (by decide) (by decide) hk1 hFc hP1 hD1 rfl
      clear hP1 hD1
      clear hPc hDc hFc hCs hz hz1 hk1 ht hvm
      clear hP hD hS
      have hS := hS1
      obtain ⟨hP, hD⟩ := hjn
      clear hS1
      refine wk_narrow (k := u_91 1 / 8 - bc / 8 + (u_102 1 / 8 - (u_91 1) / 8)) (n := 2 * (u_91 1 - bc) + (2 * (u_102 1 - (u_91 1)))) (by first | assumption | omega) (by first | assumption | omega) ?_
      clear hk8 hk9 hg8 hg9
      refine lv_goto (tgt := 139) hx hb d_Paper_writeNode_78 (by decide) ?_
      rw [← hQe]
      refine wk_know (fun hk8 hk9 => ?_)
      refine W.widen (k := MB / 8 - bc / 8) (n := 2 * (MB - bc)) (by first | assumption | omega) (by first | assumption | omega) ?_
      obtain ⟨hP9, hD9⟩ := xw_sub2 (wc := (fun (u : Nat → Nat) (xby : Nat → Int32) => [(w0, .inr (5, [.ref (u 0), .int (nI (u 2))])), (u 0, .inl (ax 1, u 1, .inl xby)), (n0, .inr (4, [.ref n1, .ref n2, .ref n3, .int (nI z9)])), (n1, .inl (ax 1, cp, .inl fo)), (n2, .inl (ax 0, cp, .inl fl)), (n3, .inl (ax 0, cp, .inl fr))]) (ixn [(u_102 0), (u_102 1), (u_102 2)]) x_110) hP hD [0, 1, 2, 3, 4, 5] (by decide) rfl
      have hex0 : bts x_110 ((u_102 1)) := (by assumption)
      have hex1 : lsi x_110 ((u_102 2)) = lsi by9 zs ++ ftx ls9 nd := (wn_n hop9 (by first | assumption | omega) (by first | assumption | omega) ea9 hx_100 hx_112)
      have hg8 : H_103.size ≤ s.heap.size + ((u_102 1) / 8 - bc / 8) := by omega
      have hg9 : tsl H_103 ≤ tsl s.heap + (2 * ((u_102 1) - bc)) := by omega
      have hsp0 : 2 * (u_102 2) ≤ 2 * zs + (25 * tsn fo fl fr nd + 19) := (by first | assumption | omega)
      have hsp1 : zs ≤ (u_102 2) := (by first | assumption | omega)
      have hsp2 : (u_102 2) ≤ (u_102 1) := (by first | assumption | omega)
      have hsp3 : bc ≤ (u_102 1) := (by first | assumption | omega)
      have hsp4 : (u_102 1) ≤ MB := (by first | assumption | omega)
      exact W.vret hx hb hr (fun t ht hW => ⟨⟨ixn [(u_102 0), (u_102 1), (u_102 2)], rfl, ⟨hsp0, hsp1, hsp2, hsp3, hsp4⟩, ⟨x_110, by rw [ht]; exact hg8, by rw [ht]; exact hg9, hex0, hex1, by rw [ht]; exact hP9, hD9⟩⟩, hS.F ht⟩) hS.2.2 d_Paper_writeNode_139
  · replace c_2 : ¬ 6 ≤ o9 := fun hq9 => c_2 ((nI_leI (a := 6) (b := o9) (by decide) (by first | exact Nat.lt_of_lt_of_le (by assumption) (by decide) | exact Nat.lt_of_le_of_lt (by assumption) (by decide) | omega)).mpr hq9)
    have ht9 : tsn fo fl fr nd = 1 := tsn_atom ho2 (by first | assumption | omega)
    refine lv_aload_n hx hb d_Paper_writeNode_22 rfl (lv_at hl1 1 rfl) ?_
    refine lv_aload_n hx hb d_Paper_writeNode_23 rfl (lv_at hl1 2 rfl) ?_
    refine va_get (D := D) (ci := 4) (v := .ref n2) (C := R_Nodes) (T := F_Nodes) (N := 4) hx hb hts i_Nodes hown hK.1 hP 2 rfl rfl 1 (by decide) (hts _ wd_109) (fun _ h9 => h9) rfl d_Paper_writeNode_24 ?_
    refine lv_iload_n hx hb d_Paper_writeNode_27 rfl (lv_at hl1 3 rfl) ?_
    refine va_iald hx hb hK.1 hP 4 0 rfl rfl (vp_in_nI (by first | assumption | omega) (by first | exact Nat.lt_of_lt_of_le (by assumption) (by decide) | exact Nat.lt_of_le_of_lt (by assumption) (by decide) | omega)) d_Paper_writeNode_28 ?_
    refine W.eq (g2 := F0 m 29 ls [.int (fl nd), .ref w0]) (by rw [nI_clamp (by first | exact Nat.lt_of_lt_of_le (by assumption) (by decide) | exact Nat.lt_of_le_of_lt (by assumption) (by decide) | omega)]) ?_
    obtain ⟨hPc, hDc, hFc, hCs⟩ := xw_sub3 (wc := [(w0, .inr (5, [.ref w1, .int (nI zs)])), (w1, .inl (ax 1, bc, .inl by9))]) hP hD hS hA [0, 1] (by decide) rfl
    have hz := xz_of hN hS
    refine wk_know (fun hk8 hk9 => ?_)
    refine va_callv (va_runV (As := [.int (fl nd)]) (rest := []) ⟨hx, hb, hml, hown, hts⟩ (c_W_term l D ax w0 w1 zs bc MB by9 (fl nd) s.heap.size (tsl s.heap) (by first | assumption | omega) (by first | assumption | omega) (by first | assumption | omega) (by first | assumption | omega) (by first | assumption | omega) (by assumption)) (xcV (n := 1) hts wd_930 wd_10 wd_927 wd_929 ps_42 rfl rfl (by decide +kernel) ⟨(show (50) + 1 ≤ (60 + 2 * (66 - dp9)) by omega), (show 8 + (4 + 11) + (2000) ≤ (2400 + 100 * (66 - dp9)) by omega)⟩) (xpV3 (ci := 5) (q0 := 0) (As := [.int (fl nd)]) hPc hK hz hDc rfl rfl) rfl rfl hl1.1 rfl (lv_room (Nat.le_of_ble_eq_true rfl)) d_Paper_writeNode_29 ⟨(show (0) + (MB / 8 - bc / 8) ≤ (MB / 8 - bc / 8) by omega), (show (0) + (2 * (MB - bc)) ≤ (2 * (MB - bc)) by omega)⟩) hS (fun q _ h => hFc q h) hFc (fun u_113 t H_114 locs ht hvm hw hB hz1 hk1 hS1 => ?_)
    try dsimp only at hw
    obtain ⟨hs_116, hs_117, hs_118, hs_119, hs_120⟩ := hw
    obtain ⟨x_121, hg8, hg9, hx_122, hx_123, hP1, hD1⟩ := hB
    rw [ht] at hg8 hg9 hP1
    have hjn := xw_join3 (wl := [(n0, .inr (4, [.ref n1, .ref n2, .ref n3, .int (nI z9)])), (n1, .inl (ax 1, cp, .inl fo)), (n2, .inl (ax 0, cp, .inl fl)), (n3, .inl (ax 0, cp, .inl fr)), (w0, .inr (5, [.ref (u_113 0), .int (nI (u_113 2))])), ((u_113 0), .inl (ax 1, u_113 1, .inl x_121))]) hP hD [0, 1] [2, 3, 4, 5] hCs (by decide) (by decide) hk1 hFc hP1 hD1 rfl
    clear hP1 hD1
    clear hPc hDc hFc hCs hz hz1 hk1 ht hvm
    clear hP hD hS
    have hS := hS1
    obtain ⟨hP, hD⟩ := hjn
    clear hS1
    refine wk_narrow (k := u_113 1 / 8 - bc / 8) (n := 2 * (u_113 1 - bc)) (by first | assumption | omega) (by first | assumption | omega) ?_
    clear hk8 hk9 hg8 hg9
    refine lv_aload_n hx hb d_Paper_writeNode_32 rfl (lv_at hl1 1 rfl) ?_
    refine lv_iload hx hb d_Paper_writeNode_33 (lv_at hl1 0 rfl) ?_
    obtain ⟨hPc, hDc, hFc, hCs⟩ := xw_sub3 (wc := [(w0, .inr (5, [.ref (u_113 0), .int (nI (u_113 2))])), ((u_113 0), .inl (ax 1, u_113 1, .inl x_121))]) hP hD hS hA [4, 5] (by decide) rfl
    have hz := xz_of hN hS
    refine wk_know (fun hk8 hk9 => ?_)
    refine va_callv (va_runV (As := [.int (nI o9)]) (rest := []) ⟨hx, hb, hml, hown, hts⟩ (c_W_comparison l D ax w0 (u_113 0) (u_113 2) (u_113 1) MB x_121 o9 H_114.size (tsl H_114) (by first | assumption | omega) (by first | assumption | omega) (by first | assumption | omega) (by first | assumption | omega) (by first | assumption | omega) (by assumption) (by first | assumption | omega)) (xcV (n := 1) hts wd_947 wd_10 wd_944 wd_946 ps_45 rfl rfl (by decide +kernel) ⟨(show (40) + 1 ≤ (60 + 2 * (66 - dp9)) by omega), (show 8 + (2 + 11) + (1600) ≤ (2400 + 100 * (66 - dp9)) by omega)⟩) (xpV3 (ci := 5) (q0 := 0) (As := [.int (nI o9)]) hPc hK hz hDc rfl rfl) rfl rfl hl1.1 rfl (lv_room (Nat.le_of_ble_eq_true rfl)) d_Paper_writeNode_35 ⟨(show (u_113 1 / 8 - bc / 8) + (MB / 8 - (u_113 1) / 8) ≤ (MB / 8 - bc / 8) by omega), (show (2 * (u_113 1 - bc)) + (2 * (MB - (u_113 1))) ≤ (2 * (MB - bc)) by omega)⟩) hS (fun q _ h => hFc q h) hFc (fun u_124 t H_125 locs ht hvm hw hB hz1 hk1 hS1 => ?_)
    try dsimp only at hw
    obtain ⟨hs_127, hs_128, hs_129, hs_130, hs_131⟩ := hw
    obtain ⟨x_132, hg8, hg9, hx_133, hx_134, hP1, hD1⟩ := hB
    rw [ht] at hg8 hg9 hP1
    have hjn := xw_join3 (wl := [(n0, .inr (4, [.ref n1, .ref n2, .ref n3, .int (nI z9)])), (n1, .inl (ax 1, cp, .inl fo)), (n2, .inl (ax 0, cp, .inl fl)), (n3, .inl (ax 0, cp, .inl fr)), (w0, .inr (5, [.ref (u_124 0), .int (nI (u_124 2))])), ((u_124 0), .inl (ax 1, u_124 1, .inl x_132))]) hP hD [4, 5] [0, 1, 2, 3] hCs (by decide) (by decide) hk1 hFc hP1 hD1 rfl
    clear hP1 hD1
    clear hPc hDc hFc hCs hz hz1 hk1 ht hvm
    clear hP hD hS
    have hS := hS1
    obtain ⟨hP, hD⟩ := hjn
    clear hS1
    refine wk_narrow (k := u_113 1 / 8 - bc / 8 + (u_124 1 / 8 - (u_113 1) / 8)) (n := 2 * (u_113 1 - bc) + (2 * (u_124 1 - (u_113 1)))) (by first | assumption | omega) (by first | assumption | omega) ?_
    clear hk8 hk9 hg8 hg9
    refine lv_aload_n hx hb d_Paper_writeNode_38 rfl (lv_at hl1 1 rfl) ?_
    refine lv_aload_n hx hb d_Paper_writeNode_39 rfl (lv_at hl1 2 rfl) ?_
    refine va_get (D := D) (ci := 4) (v := .ref n3) (C := R_Nodes) (T := F_Nodes) (N := 4) hx hb hts i_Nodes hown hK.1 hP 0 rfl rfl 2 (by decide) (hts _ wd_114) (fun _ h9 => h9) rfl d_Paper_writeNode_40 ?_
    refine lv_iload_n hx hb d_Paper_writeNode_43 rfl (lv_at hl1 3 rfl) ?_
    refine va_iald hx hb hK.1 hP 3 0 rfl rfl (vp_in_nI (by first | assumption | omega) (by first | exact Nat.lt_of_lt_of_le (by assumption) (by decide) | exact Nat.lt_of_le_of_lt (by assumption) (by decide) | omega)) d_Paper_writeNode_44 ?_
    refine W.eq (g2 := F0 m 45 ls [.int (fr nd), .ref w0]) (by rw [nI_clamp (by first | exact Nat.lt_of_lt_of_le (by assumption) (by decide) | exact Nat.lt_of_le_of_lt (by assumption) (by decide) | omega)]) ?_
    obtain ⟨hPc, hDc, hFc, hCs⟩ := xw_sub3 (wc := [(w0, .inr (5, [.ref (u_124 0), .int (nI (u_124 2))])), ((u_124 0), .inl (ax 1, u_124 1, .inl x_132))]) hP hD hS hA [4, 5] (by decide) rfl
    have hz := xz_of hN hS
    refine wk_know (fun hk8 hk9 => ?_)
    refine va_callv (va_runV (As := [.int (fr nd)]) (rest := []) ⟨hx, hb, hml, hown, hts⟩ (c_W_term l D ax w0 (u_124 0) (u_124 2) (u_124 1) MB x_132 (fr nd) H_125.size (tsl H_125) (by first | assumption | omega) (by first | assumption | omega) (by first | assumption | omega) (by first | assumption | omega) (by first | assumption | omega) (by assumption)) (xcV (n := 1) hts wd_930 wd_10 wd_927 wd_929 ps_42 rfl rfl (by decide +kernel) ⟨(show (50) + 1 ≤ (60 + 2 * (66 - dp9)) by omega), (show 8 + (4 + 11) + (2000) ≤ (2400 + 100 * (66 - dp9)) by omega)⟩) (xpV3 (ci := 5) (q0 := 0) (As := [.int (fr nd)]) hPc hK hz hDc rfl rfl) rfl rfl hl1.1 rfl (lv_room (Nat.le_of_ble_eq_true rfl)) d_Paper_writeNode_45 ⟨(show (u_113 1 / 8 - bc / 8 + (u_124 1 / 8 - (u_113 1) / 8)) + (MB / 8 - (u_124 1) / 8) ≤ (MB / 8 - bc / 8) by omega), (show (2 * (u_113 1 - bc) + (2 * (u_124 1 - (u_113 1)))) + (2 * (MB - (u_124 1))) ≤ (2 * (MB - bc)) by omega)⟩) hS (fun q _ h => hFc q h) hFc (fun u_135 t H_136 locs ht hvm hw hB hz1 hk1 hS1 => ?_)
    try dsimp only at hw
    obtain ⟨hs_138, hs_139, hs_140, hs_141, hs_142⟩ := hw
    obtain ⟨x_143, hg8, hg9, hx_144, hx_145, hP1, hD1⟩ := hB
    rw [ht] at hg8 hg9 hP1
    have hjn := xw_join3 (wl := [(n0, .inr (4, [.ref n1, .ref n2, .ref n3, .int (nI z9)])), (n1, .inl (ax 1, cp, .inl fo)), (n2, .inl (ax 0, cp, .inl fl)), (n3, .inl (ax 0, cp, .inl fr)), (w0, .inr (5, [.ref (u_135 0), .int (nI (u_135 2))])), ((u_135 0), .inl (ax 1, u_135 1, .inl x_143))]) hP hD [4, 5] [0, 1, 2, 3] hCs (by decide) (by decide) hk1 hFc hP1 hD1 rfl
    clear hP1 hD1
    clear hPc hDc hFc hCs hz hz1 hk1 ht hvm
    clear hP hD hS
    have hS := hS1
    obtain ⟨hP, hD⟩ := hjn
    clear hS1
    refine wk_narrow (k := u_113 1 / 8 - bc / 8 + (u_124 1 / 8 - (u_113 1) / 8) + (u_135 1 / 8 - (u_124 1) / 8)) (n := 2 * (u_113 1 - bc) + (2 * (u_124 1 - (u_113 1))) + (2 * (u_135 1 - (u_124 1)))) (by first | assumption | omega) (by first | assumption | omega) ?_
    clear hk8 hk9 hg8 hg9
    refine lv_goto (tgt := 139) hx hb d_Paper_writeNode_48 (by decide) ?_
    rw [← hQe]
    refine wk_know (fun hk8 hk9 => ?_)
    refine W.widen (k := MB / 8 - bc / 8) (n := 2 * (MB - bc)) (by first | assumption | omega) (by first | assumption | omega) ?_
    obtain ⟨hP9, hD9⟩ := xw_sub2 (wc := (fun (u : Nat → Nat) (xby : Nat → Int32) => [(w0, .inr (5, [.ref (u 0), .int (nI (u 2))])), (u 0, .inl (ax 1, u 1, .inl xby)), (n0, .inr (4, [.ref n1, .ref n2, .ref n3, .int (nI z9)])), (n1, .inl (ax 1, cp, .inl fo)), (n2, .inl (ax 0, cp, .inl fl)), (n3, .inl (ax 0, cp, .inl fr))]) (ixn [(u_135 0), (u_135 1), (u_135 2)]) x_143) hP hD [4, 5, 0, 1, 2, 3] (by decide) rfl
    have hex0 : bts x_143 ((u_135 1)) := (by assumption)
    have hex1 : lsi x_143 ((u_135 2)) = lsi by9 zs ++ ftx ls9 nd := (wn_a hnl hnb9 (by first | assumption | omega) hop9 (by first | assumption | omega) hx_123 hx_134 hx_145)
    have hg8 : H_136.size ≤ s.heap.size + ((u_135 1) / 8 - bc / 8) := by omega
    have hg9 : tsl H_136 ≤ tsl s.heap + (2 * ((u_135 1) - bc)) := by omega
    have hsp0 : 2 * (u_135 2) ≤ 2 * zs + (25 * tsn fo fl fr nd + 19) := (by first | assumption | omega)
    have hsp1 : zs ≤ (u_135 2) := (by first | assumption | omega)
    have hsp2 : (u_135 2) ≤ (u_135 1) := (by first | assumption | omega)
    have hsp3 : bc ≤ (u_135 1) := (by first | assumption | omega)
    have hsp4 : (u_135 1) ≤ MB := (by first | assumption | omega)
    exact W.vret hx hb hr (fun t ht hW => ⟨⟨ixn [(u_135 0), (u_135 1), (u_135 2)], rfl, ⟨hsp0, hsp1, hsp2, hsp3, hsp4⟩, ⟨x_143, by rw [ht]; exact hg8, by rw [ht]; exact hg9, hex0, hex1, by rw [ht]; exact hP9, hD9⟩⟩, hS.F ht⟩) hS.2.2 d_Paper_writeNode_139
theorem W_node_all (l : Launch) : ∀ (k dp9 : Nat), dp9 + k = 65 → CWn l dp9
  | 0, dp9, h => fun D ax => c_W_node l dp9 (by first | assumption | omega) (fun q => by omega) D ax
  | k + 1, dp9, h => fun D ax => c_W_node l dp9 (by first | assumption | omega) (fun _ => W_node_all l k (dp9 + 1) (by first | assumption | omega)) D ax
abbrev b_Paper_write : ByteArray := prog_7_method_2_code
def y_Paper_write : MethodName := ⟨R_Paper, "write", "(LTripleDesk$Nodes;)I"⟩
theorem d_Paper_write_0 : decode b_Paper_write 0 = .ok (.aload_n 0, 1) := by decide +kernel
theorem d_Paper_write_1 : decode b_Paper_write 1 = .ok (.iconst 0, 1) := by decide +kernel
theorem d_Paper_write_2 : decode b_Paper_write 2 = .ok (.putfield 15, 3) := by decide +kernel
theorem d_Paper_write_5 : decode b_Paper_write 5 = .ok (.aload_n 0, 1) := by decide +kernel
theorem d_Paper_write_6 : decode b_Paper_write 6 = .ok (.aload_n 1, 1) := by decide +kernel
theorem d_Paper_write_7 : decode b_Paper_write 7 = .ok (.aload_n 1, 1) := by decide +kernel
theorem d_Paper_write_8 : decode b_Paper_write 8 = .ok (.invokevirtual 19, 3) := by decide +kernel
theorem d_Paper_write_11 : decode b_Paper_write 11 = .ok (.iconst 0, 1) := by decide +kernel
theorem d_Paper_write_12 : decode b_Paper_write 12 = .ok (.invokevirtual 25, 3) := by decide +kernel
theorem d_Paper_write_15 : decode b_Paper_write 15 = .ok (.aload_n 0, 1) := by decide +kernel
theorem d_Paper_write_16 : decode b_Paper_write 16 = .ok (.getfield 15, 3) := by decide +kernel
theorem d_Paper_write_19 : decode b_Paper_write 19 = .ok (.ireturn, 1) := by decide +kernel
set_option maxHeartbeats 40000000 in
set_option maxRecDepth 100000 in
theorem c_W_write (l : Launch) (D : va_G) (ax : Nat → ClassId) (w0 w1 zs bc MB : Nat) (by9 : Nat → Int32) (n0 n1 n2 n3 cp z9 : Nat) (fo fl fr : Nat → Int32) (ls9 : List sgT) (sz tz : Nat) (hbc : 8 ≤ bc) (hmb : bc ≤ MB) (hmz : 25 * tsn fo fl fr (z9 - 1) + 21 ≤ MB) (hMB : MB ≤ 4000000) (hby : bts by9 bc) (hz1 : 1 ≤ z9) (hz9 : z9 ≤ cp) (hcp : cp ≤ 100000) (hnv : ndv fo fl fr z9) (hnl : ndl fo fl fr ls9) (hll : ls9.length = z9) (hnb9 : nbl 9999999 ls9) (hdp9 : dpl ls9 (z9 - 1) ≤ 64) : Met l y_Paper_write (xws (.code y_Paper_write b_Paper_write 2 (some .int))) ({ frames := 260, cells := (MB - bc) / 8 + 1, slots := 2 * (MB - bc), locals := 10400 }) (va_Pc [.ref w0, .ref n0] (xo3 D ax [(w0, .inr (5, [.ref w1, .int (nI zs)])), (w1, .inl (ax 1, bc, .inl by9)), (n0, .inr (4, [.ref n1, .ref n2, .ref n3, .int (nI z9)])), (n1, .inl (ax 1, cp, .inl fo)), (n2, .inl (ax 0, cp, .inl fl)), (n3, .inl (ax 0, cp, .inl fr))] sz tz)) ((va_Qi (fun (r : Int32) (u : Nat → Nat) => r = nI (u 2) ∧ (2 * u 2 ≤ 25 * tsn fo fl fr (z9 - 1) + 19 ∧ u 2 ≤ u 1 ∧ bc ≤ u 1 ∧ u 1 ≤ MB)) (fun (u : Nat → Nat) (t9 : State) => ∃ xby : Nat → Int32, (t9.heap.size ≤ sz + ((u 1 - bc) / 8 + 1)) ∧ (tsl t9.heap ≤ tz + (2 * (u 1 - bc))) ∧ (bts xby (u 1)) ∧ (lsi xby (u 2) = ftx ls9 (z9 - 1)) ∧ va_P D classes [(w0, .inr (5, [.ref (u 0), .int (nI (u 2))])), (u 0, .inl (ax 1, u 1, .inl xby)), (n0, .inr (4, [.ref n1, .ref n2, .ref n3, .int (nI z9)])), (n1, .inl (ax 1, cp, .inl fo)), (n2, .inl (ax 0, cp, .inl fl)), (n3, .inl (ax 0, cp, .inl fr))] t9.heap ∧ va_D (va_A [(w0, .inr (5, [.ref w1, .int (nI zs)])), (w1, .inl (ax 1, bc, .inl by9)), (n0, .inr (4, [.ref n1, .ref n2, .ref n3, .int (nI z9)])), (n1, .inl (ax 1, cp, .inl fo)), (n2, .inl (ax 0, cp, .inl fl)), (n3, .inl (ax 0, cp, .inl fr))] sz) [(w0, .inr (5, [.ref (u 0), .int (nI (u 2))])), (u 0, .inl (ax 1, u 1, .inl xby)), (n0, .inr (4, [.ref n1, .ref n2, .ref n3, .int (nI z9)])), (n1, .inl (ax 1, cp, .inl fo)), (n2, .inl (ax 0, cp, .inl fl)), (n3, .inl (ax 0, cp, .inl fr))]) (va_A [(w0, .inr (5, [.ref w1, .int (nI zs)])), (w1, .inl (ax 1, bc, .inl by9)), (n0, .inr (4, [.ref n1, .ref n2, .ref n3, .int (nI z9)])), (n1, .inl (ax 1, cp, .inl fo)), (n2, .inl (ax 0, cp, .inl fl)), (n3, .inl (ax 0, cp, .inl fr))] sz))) ((MB - bc) / 8 + 1) (2 * (MB - bc)) (va_A [(w0, .inr (5, [.ref w1, .int (nI zs)])), (w1, .inl (ax 1, bc, .inl by9)), (n0, .inr (4, [.ref n1, .ref n2, .ref n3, .int (nI z9)])), (n1, .inl (ax 1, cp, .inl fo)), (n2, .inl (ax 0, cp, .inl fl)), (n3, .inl (ax 0, cp, .inl fr))] sz) := by
  refine Met.ofW (cc := b_Paper_write) (maxL := 2) (ret := (some .int)) (by decide) rfl ?_
  intro p e s m args below meth c s₁ B hml hv
  obtain ⟨rfl, ⟨hsz, hP, hK, hD0⟩, htz⟩ := hv
  have hx := B.exec
  have hb := B.bytes
  have hr := B.returns
  have hts := xw_hts B.pre
  have hown : s.vm.findClass R_Paper = some m.cls := findClass_of_methodNamed B.named
  have hlocks := B.notSynchronized
  subst hsz
  subst htz
  have hD := hD0.self (sz := s.heap.size)
  have hN := xz_entry hP
  generalize hAe : va_A [(w0, .inr (5, [.ref w1, .int (nI zs)])), (w1, .inl (ax 1, bc, .inl by9)), (n0, .inr (4, [.ref n1, .ref n2, .ref n3, .int (nI z9)])), (n1, .inl (ax 1, cp, .inl fo)), (n2, .inl (ax 0, cp, .inl fl)), (n3, .inl (ax 0, cp, .inl fr))] s.heap.size = A at hD hN ⊢
  have hA : ∀ q : Nat, s.heap.size ≤ q → A q := fun q h => by rw [← hAe]; exact Or.inr h
  have hS : va_S A s.heap s.heap [] := va_S.rf
  have hl0 := lv_entry ([.ref w0, .ref n0]) (n := 2) (Nat.le_of_ble_eq_true rfl)
  rw [lg_entry_eq]
  generalize (lg_sl ([.ref w0, .ref n0]) ++ List.replicate (2 - (lg_sl ([.ref w0, .ref n0])).length) Slot.unset).toArray = ls at hl0 ⊢
  have hl1 : lv_has ls 2 [(0, .ref w0), (1, .ref n0)] := hl0
  refine xw_gen (fun Z9 hQe => ?_)
  refine lv_aload_n hx hb d_Paper_write_0 rfl (lv_at hl1 0 rfl) ?_
  refine lv_iconst (v := 0) hx hb d_Paper_write_1 (by decide) ?_
  refine va_put (D := D) (ci := 5) (v := .int 0) (ty := .int) (C := R_Paper) (T := F_Paper) (N := 2) hx hb hts i_Paper t_Paper t_Paper_ok n_Paper hown hK.1 hP hD hS 0 rfl rfl 1 (by decide) (hts _ wd_238) (fun _ h9 => h9) rfl (by decide +kernel) rfl rfl (Nat.le_of_ble_eq_true rfl) d_Paper_write_2 (fun H_1 locs hP1 hD1 hS1 => ?_)
  clear hP hD hS
  have hS := hS1
  have hW7 : (fun w9 : va_W => va_P D classes w9 H_1 ∧ va_D A w9) [(w0, .inr (5, [.ref w1, .int 0])), (w1, .inl (ax 1, bc, .inl by9)), (n0, .inr (4, [.ref n1, .ref n2, .ref n3, .int (nI z9)])), (n1, .inl (ax 1, cp, .inl fo)), (n2, .inl (ax 0, cp, .inl fl)), (n3, .inl (ax 0, cp, .inl fr))] := ⟨hP1, hD1⟩
  obtain ⟨hP, hD⟩ := hW7
  clear hP1 hD1 hS1
  refine lv_aload_n hx hb d_Paper_write_5 rfl (lv_at hl1 0 rfl) ?_
  refine lv_aload_n hx hb d_Paper_write_6 rfl (lv_at hl1 1 rfl) ?_
  refine lv_aload_n hx hb d_Paper_write_7 rfl (lv_at hl1 1 rfl) ?_
  obtain ⟨hPc, hDc, hFc, hCs⟩ := xw_sub3 (wc := [(n0, .inr (4, [.ref n1, .ref n2, .ref n3, .int (nI z9)])), (n1, .inl (ax 1, cp, .inl fo)), (n2, .inl (ax 0, cp, .inl fl)), (n3, .inl (ax 0, cp, .inl fr))]) hP hD hS hA [2, 3, 4, 5] (by decide) rfl
  have hz := xz_of hN hS
  refine va_calli (va_runV (As := []) (rest := [.ref n0, .ref w0]) ⟨hx, hb, hml, hown, hts⟩ (c_Nodes_root l D ax n0 n1 n2 n3 cp z9 fo fl fr H_1.size (by first | assumption | omega)) (xcV (n := 0) hts wd_772 wd_5 wd_922 wd_770 wd_771 rfl rfl (by decide +kernel) ⟨Nat.le_of_ble_eq_true rfl, Nat.le_of_ble_eq_true rfl⟩) (xpV (ci := 4) (q0 := 0) (As := []) hPc hK hz hDc rfl rfl) rfl rfl hl1.1 rfl (lv_room (Nat.le_of_ble_eq_true rfl)) d_Paper_write_8 ⟨(show (0) + (0) ≤ ((MB - bc) / 8 + 1) by omega), (show (0) + (0) ≤ (2 * (MB - bc)) by omega)⟩) hS (fun q _ h => hFc q h) hFc (fun r_4 u_2 t H_3 locs ht hvm hw hB hz1 hk1 hS1 => ?_)
  try dsimp only at hw
  subst hw
  obtain ⟨hP1, hD1⟩ := hB
  rw [ht] at hP1
  have hjn := xw_join3 (wl := [(w0, .inr (5, [.ref w1, .int 0])), (w1, .inl (ax 1, bc, .inl by9)), (n0, .inr (4, [.ref n1, .ref n2, .ref n3, .int (nI z9)])), (n1, .inl (ax 1, cp, .inl fo)), (n2, .inl (ax 0, cp, .inl fl)), (n3, .inl (ax 0, cp, .inl fr))]) hP hD [2, 3, 4, 5] [0, 1] hCs (by decide) (by decide) hk1 hFc hP1 hD1 rfl
  clear hP1 hD1
  clear hPc hDc hFc hCs hz hz1 hk1 ht hvm
  clear hP hD hS
  have hS := hS1
  obtain ⟨hP, hD⟩ := hjn
  clear hS1
  refine lv_iconst (v := 0) hx hb d_Paper_write_11 (by decide) ?_
  obtain ⟨hPc, hDc, hFc, hCs⟩ := xw_sub3 (wc := [(w0, .inr (5, [.ref w1, .int (nI 0)])), (w1, .inl (ax 1, bc, .inl by9)), (n0, .inr (4, [.ref n1, .ref n2, .ref n3, .int (nI z9)])), (n1, .inl (ax 1, cp, .inl fo)), (n2, .inl (ax 0, cp, .inl fl)), (n3, .inl (ax 0, cp, .inl fr))]) hP hD hS hA [0, 1, 2, 3, 4, 5] (by decide) rfl
  have hz := xz_of hN hS
  refine wk_know (fun hk8 hk9 => ?_)
  refine va_callv (va_runV (As := [.ref n0, .int (nI (z9 - 1)), .int 0]) (rest := []) ⟨hx, hb, hml, hown, hts⟩ ((W_node_all l 65 0 rfl) D ax w0 w1 0 bc MB by9 n0 n1 n2 n3 cp z9 fo fl fr ls9 (z9 - 1) H_3.size (tsl H_3) (by first | assumption | omega) (by first | assumption | omega) (by first | assumption | omega) (by first | assumption | omega) (by first | assumption | omega) (by assumption) (by first | assumption | omega) (by first | assumption | omega) (by first | assumption | omega) hnv hnl hll hnb9 (by first | assumption | omega)) (xcV (n := 3) hts wd_926 wd_10 wd_923 wd_925 ps_41 rfl rfl (by decide +kernel) ⟨(show (60 + 2 * 66) + 1 ≤ (260) by omega), (show 8 + (5 + 11) + (2400 + 100 * 66) ≤ (10400) by omega)⟩) (xpV3 (ci := 5) (q0 := 0) (As := [.ref n0, .int (nI (z9 - 1)), .int 0]) hPc hK hz hDc rfl rfl) rfl rfl hl1.1 rfl (lv_room (Nat.le_of_ble_eq_true rfl)) d_Paper_write_12 ⟨(show (0) + (MB / 8 - bc / 8) ≤ ((MB - bc) / 8 + 1) by omega), (show (0) + (2 * (MB - bc)) ≤ (2 * (MB - bc)) by omega)⟩) hS (fun q _ h => hFc q h) hFc (fun u_5 t H_6 locs ht hvm hw hB hz1 hk1 hS1 => ?_)
  try dsimp only at hw
  obtain ⟨hs_8, hs_9, hs_10, hs_11, hs_12⟩ := hw
  obtain ⟨x_13, hg8, hg9, hx_14, hx_15, hP1, hD1⟩ := hB
  rw [ht] at hg8 hg9 hP1
  have hjn := xw_join3 (wl := [(w0, .inr (5, [.ref (u_5 0), .int (nI (u_5 2))])), ((u_5 0), .inl (ax 1, u_5 1, .inl x_13)), (n0, .inr (4, [.ref n1, .ref n2, .ref n3, .int (nI z9)])), (n1, .inl (ax 1, cp, .inl fo)), (n2, .inl (ax 0, cp, .inl fl)), (n3, .inl (ax 0, cp, .inl fr))]) hP hD [0, 1, 2, 3, 4, 5] [] hCs (by decide) (by decide) hk1 hFc hP1 hD1 rfl
  clear hP1 hD1
  clear hPc hDc hFc hCs hz hz1 hk1 ht hvm
  clear hP hD hS
  have hS := hS1
  obtain ⟨hP, hD⟩ := hjn
  clear hS1
  refine wk_narrow (k := u_5 1 / 8 - bc / 8) (n := 2 * (u_5 1 - bc)) (by first | assumption | omega) (by first | assumption | omega) ?_
  clear hk8 hk9 hg8 hg9
  refine lv_aload_n hx hb d_Paper_write_15 rfl (lv_at hl1 0 rfl) ?_
  refine va_get (D := D) (ci := 5) (v := .int (nI (u_5 2))) (C := R_Paper) (T := F_Paper) (N := 2) hx hb hts i_Paper hown hK.1 hP 0 rfl rfl 1 (by decide) (hts _ wd_238) (fun _ h9 => h9) rfl d_Paper_write_16 ?_
  rw [← hQe]
  refine wk_know (fun hk8 hk9 => ?_)
  refine W.widen (k := (MB - bc) / 8 + 1) (n := 2 * (MB - bc)) (by first | assumption | omega) (by first | assumption | omega) ?_
  obtain ⟨hP9, hD9⟩ := xw_sub2 (wc := (fun (u : Nat → Nat) (xby : Nat → Int32) => [(w0, .inr (5, [.ref (u 0), .int (nI (u 2))])), (u 0, .inl (ax 1, u 1, .inl xby)), (n0, .inr (4, [.ref n1, .ref n2, .ref n3, .int (nI z9)])), (n1, .inl (ax 1, cp, .inl fo)), (n2, .inl (ax 0, cp, .inl fl)), (n3, .inl (ax 0, cp, .inl fr))]) (ixn [(u_5 0), (u_5 1), (u_5 2)]) x_13) hP hD [0, 1, 2, 3, 4, 5] (by decide) rfl
  have hex0 : bts x_13 ((u_5 1)) := (by assumption)
  have hex1 : lsi x_13 ((u_5 2)) = ftx ls9 (z9 - 1) := hx_15
  have hg8 : H_6.size ≤ s.heap.size + (((u_5 1) - bc) / 8 + 1) := by omega
  have hg9 : tsl H_6 ≤ tsl s.heap + (2 * ((u_5 1) - bc)) := by omega
  have hsp0 : 2 * (u_5 2) ≤ 25 * tsn fo fl fr (z9 - 1) + 19 := (by first | assumption | omega)
  have hsp1 : (u_5 2) ≤ (u_5 1) := (by first | assumption | omega)
  have hsp2 : bc ≤ (u_5 1) := (by first | assumption | omega)
  have hsp3 : (u_5 1) ≤ MB := (by first | assumption | omega)
  exact W.iret (v := nI (u_5 2)) hx hb hr (fun t ht hW => ⟨⟨nI (u_5 2), ixn [(u_5 0), (u_5 1), (u_5 2)], rfl, ⟨rfl, ⟨hsp0, hsp1, hsp2, hsp3⟩⟩, ⟨x_13, by rw [ht]; exact hg8, by rw [ht]; exact hg9, hex0, hex1, by rw [ht]; exact hP9, hD9⟩⟩, hS.F ht⟩) hS.2.2 d_Paper_write_19
