theorem ps_25 : Cond.selects "TripleDesk$Maker" ⟨"TripleDesk$Maker", "premise", "(II)I"⟩ ⟨"TripleDesk$Maker", "premise", "(II)I"⟩ ∈ lw_gd := ps_in (q := (⟨"TripleDesk$Maker", "premise", "(II)I"⟩, 5)) (i := 25) (by decide +kernel)
theorem ps_26 : Cond.selects "TripleDesk$Maker" ⟨"TripleDesk$Maker", "conclusion", "(II)I"⟩ ⟨"TripleDesk$Maker", "conclusion", "(II)I"⟩ ∈ lw_gd := ps_in (q := (⟨"TripleDesk$Maker", "conclusion", "(II)I"⟩, 5)) (i := 26) (by decide +kernel)
theorem wd_134 : ((Jvm.Cond.fieldLink "TripleDesk$Maker" (22 : Nat) "TripleDesk$Maker" "made" "I")) ∈ lw_gd := lw_gd_in (i := 134) (by decide +kernel) rfl
theorem wd_301 : ((Jvm.Cond.fieldLink "TripleDesk$Maker" (50 : Nat) "TripleDesk$Listing" "claimKind" "[B")) ∈ lw_gd := lw_gd_in (i := 301) (by decide +kernel) rfl
theorem wd_304 : ((Jvm.Cond.fieldLink "TripleDesk$Maker" (36 : Nat) "TripleDesk$Listing" "claimOf" "[B")) ∈ lw_gd := lw_gd_in (i := 304) (by decide +kernel) rfl
theorem wd_768 : ((Jvm.Cond.methodLink "TripleDesk$Maker" (26 : Nat) ({ cls := "TripleDesk$Nodes", name := "clear", desc := "()V" } : Jvm.MethodName))) ∈ lw_gd := lw_gd_in (i := 768) (by decide +kernel) rfl
theorem wd_782 : ((Jvm.Cond.methodLink "TripleDesk$Maker" (53 : Nat) ({ cls := "TripleDesk$Maker", name := "premise", desc := "(II)I" } : Jvm.MethodName))) ∈ lw_gd := lw_gd_in (i := 782) (by decide +kernel) rfl
theorem wd_784 : ((Jvm.Cond.instanceMethod ({ cls := "TripleDesk$Maker", name := "premise", desc := "(II)I" } : Jvm.MethodName))) ∈ lw_gd := lw_gd_in (i := 784) (by decide +kernel) rfl
theorem wd_785 : ((Jvm.Cond.code ({ cls := "TripleDesk$Maker", name := "premise", desc := "(II)I" } : Jvm.MethodName) prog_5_method_4_code (6 : Nat) (Option.some Jvm.ClassFile.FieldType.int))) ∈ lw_gd := lw_gd_in (i := 785) (by decide +kernel) rfl
theorem wd_786 : ((Jvm.Cond.methodLink "TripleDesk$Maker" (61 : Nat) ({ cls := "TripleDesk$Maker", name := "conclusion", desc := "(II)I" } : Jvm.MethodName))) ∈ lw_gd := lw_gd_in (i := 786) (by decide +kernel) rfl
theorem wd_788 : ((Jvm.Cond.instanceMethod ({ cls := "TripleDesk$Maker", name := "conclusion", desc := "(II)I" } : Jvm.MethodName))) ∈ lw_gd := lw_gd_in (i := 788) (by decide +kernel) rfl
theorem wd_789 : ((Jvm.Cond.code ({ cls := "TripleDesk$Maker", name := "conclusion", desc := "(II)I" } : Jvm.MethodName) prog_5_method_5_code (3 : Nat) (Option.some Jvm.ClassFile.FieldType.int))) ∈ lw_gd := lw_gd_in (i := 789) (by decide +kernel) rfl
abbrev b_Maker_forget : ByteArray := prog_5_method_2_code
def y_Maker_forget : MethodName := ⟨R_Maker, "forget", "()V"⟩
theorem d_Maker_forget_0 : decode b_Maker_forget 0 = .ok (.aload_n 0, 1) := by decide +kernel
theorem d_Maker_forget_1 : decode b_Maker_forget 1 = .ok (.iconst (-1), 1) := by decide +kernel
theorem d_Maker_forget_2 : decode b_Maker_forget 2 = .ok (.putfield 22, 3) := by decide +kernel
theorem d_Maker_forget_5 : decode b_Maker_forget 5 = .ok (.return_, 1) := by decide +kernel
set_option maxHeartbeats 40000000 in
set_option maxRecDepth 100000 in
theorem c_K_forget (l : Launch) (D : va_G) (ax : Nat → ClassId) (c0 c1 : Nat) (vl va9 : Value) (s_made : Int32) (sd : Nat → Int32) (n0 : Nat) (sz : Nat) : Met l y_Maker_forget (xws (.code y_Maker_forget b_Maker_forget 1 none)) ({ frames := 10, cells := 0, slots := 0, locals := 400 }) (va_Pc [.ref c0] (xo D ax [(c0, .inr (3, [.ref n0, .ref c1, vl, va9, .int s_made])), (c1, .inl (ax 0, 16, .inl sd))] sz)) ((va_Qv (fun (u : Nat → Nat) => True) (xb D (va_A [(c0, .inr (3, [.ref n0, .ref c1, vl, va9, .int s_made])), (c1, .inl (ax 0, 16, .inl sd))] sz) (fun u => [(c0, .inr (3, [.ref n0, .ref c1, vl, va9, .int (-1)])), (c1, .inl (ax 0, 16, .inl sd))])) (va_A [(c0, .inr (3, [.ref n0, .ref c1, vl, va9, .int s_made])), (c1, .inl (ax 0, 16, .inl sd))] sz))) 0 0 (va_A [(c0, .inr (3, [.ref n0, .ref c1, vl, va9, .int s_made])), (c1, .inl (ax 0, 16, .inl sd))] sz) := by
  refine Met.ofW (cc := b_Maker_forget) (maxL := 1) (ret := none) (by decide) rfl ?_
  intro p e s m args below meth c s₁ B hml hv
  obtain ⟨rfl, hsz, hP, hK, hD0⟩ := hv
  have hx := B.exec
  have hb := B.bytes
  have hr := B.returns
  have hts := xw_hts B.pre
  have hown : s.vm.findClass R_Maker = some m.cls := findClass_of_methodNamed B.named
  have hlocks := B.notSynchronized
  subst hsz
  have hD := hD0.self (sz := s.heap.size)
  have hN := xz_entry hP
  generalize hAe : va_A [(c0, .inr (3, [.ref n0, .ref c1, vl, va9, .int s_made])), (c1, .inl (ax 0, 16, .inl sd))] s.heap.size = A at hD hN ⊢
  have hA : ∀ q : Nat, s.heap.size ≤ q → A q := fun q h => by rw [← hAe]; exact Or.inr h
  have hS : va_S A s.heap s.heap [] := va_S.rf
  have hl0 := lv_entry ([.ref c0]) (n := 1) (Nat.le_of_ble_eq_true rfl)
  rw [lg_entry_eq]
  generalize (lg_sl ([.ref c0]) ++ List.replicate (1 - (lg_sl ([.ref c0])).length) Slot.unset).toArray = ls at hl0 ⊢
  have hl1 : lv_has ls 1 [(0, .ref c0)] := hl0
  refine xw_gen (fun Z9 hQe => ?_)
  refine lv_aload_n hx hb d_Maker_forget_0 rfl (lv_at hl1 0 rfl) ?_
  refine lv_iconst (v := (-1)) hx hb d_Maker_forget_1 (by decide) ?_
  refine va_put (D := D) (ci := 3) (v := .int (-1)) (ty := .int) (C := R_Maker) (T := F_Maker) (N := 5) hx hb hts i_Maker t_Maker t_Maker_ok n_Maker hown hK.1 hP hD hS 0 rfl rfl 4 (by decide) (hts _ wd_134) (fun _ h9 => h9) rfl (by decide +kernel) rfl rfl (Nat.le_of_ble_eq_true rfl) d_Maker_forget_2 (fun H_1 locs hP1 hD1 hS1 => ?_)
  clear hP hD hS
  have hS := hS1
  have hW7 : (fun w9 : va_W => va_P D classes w9 H_1 ∧ va_D A w9) [(c0, .inr (3, [.ref n0, .ref c1, vl, va9, .int (-1)])), (c1, .inl (ax 0, 16, .inl sd))] := ⟨hP1, hD1⟩
  obtain ⟨hP, hD⟩ := hW7
  clear hP1 hD1 hS1
  rw [← hQe]
  obtain ⟨hP9, hD9⟩ := xw_sub2 (wc := (fun u : Nat → Nat => [(c0, .inr (3, [.ref n0, .ref c1, vl, va9, .int (-1)])), (c1, .inl (ax 0, 16, .inl sd))]) (ixn [])) hP hD [0, 1] (by decide) rfl
  exact W.vret hx hb hr (fun t ht hW => ⟨⟨ixn [], rfl, trivial, ⟨by rw [ht]; exact hP9, hD9⟩⟩, hS.F ht⟩) hS.2.2 d_Maker_forget_5
abbrev b_Maker_make : ByteArray := prog_5_method_3_code
def y_Maker_make : MethodName := ⟨R_Maker, "make", "(LTripleDesk$Listing;LTripleDesk$Nodes;LTripleDesk$Nodes;I)V"⟩
theorem d_Maker_make_0 : decode b_Maker_make 0 = .ok (.aload_n 0, 1) := by decide +kernel
theorem d_Maker_make_1 : decode b_Maker_make 1 = .ok (.getfield 22, 3) := by decide +kernel
theorem d_Maker_make_4 : decode b_Maker_make 4 = .ok (.iload 4, 2) := by decide +kernel
theorem d_Maker_make_6 : decode b_Maker_make 6 = .ok (.if_icmp .ne 4, 3) := by decide +kernel
theorem d_Maker_make_9 : decode b_Maker_make 9 = .ok (.return_, 1) := by decide +kernel
theorem d_Maker_make_10 : decode b_Maker_make 10 = .ok (.aload_n 0, 1) := by decide +kernel
theorem d_Maker_make_11 : decode b_Maker_make 11 = .ok (.iload 4, 2) := by decide +kernel
theorem d_Maker_make_13 : decode b_Maker_make 13 = .ok (.putfield 22, 3) := by decide +kernel
theorem d_Maker_make_16 : decode b_Maker_make 16 = .ok (.aload_n 0, 1) := by decide +kernel
theorem d_Maker_make_17 : decode b_Maker_make 17 = .ok (.getfield 12, 3) := by decide +kernel
theorem d_Maker_make_20 : decode b_Maker_make 20 = .ok (.invokevirtual 26, 3) := by decide +kernel
theorem d_Maker_make_23 : decode b_Maker_make 23 = .ok (.aload_n 0, 1) := by decide +kernel
theorem d_Maker_make_24 : decode b_Maker_make 24 = .ok (.aload_n 1, 1) := by decide +kernel
theorem d_Maker_make_25 : decode b_Maker_make 25 = .ok (.putfield 29, 3) := by decide +kernel
theorem d_Maker_make_28 : decode b_Maker_make 28 = .ok (.aload_n 0, 1) := by decide +kernel
theorem d_Maker_make_29 : decode b_Maker_make 29 = .ok (.aload_n 3, 1) := by decide +kernel
theorem d_Maker_make_30 : decode b_Maker_make 30 = .ok (.putfield 33, 3) := by decide +kernel
theorem d_Maker_make_33 : decode b_Maker_make 33 = .ok (.iconst 0, 1) := by decide +kernel
theorem d_Maker_make_34 : decode b_Maker_make 34 = .ok (.istore 5, 2) := by decide +kernel
theorem d_Maker_make_36 : decode b_Maker_make 36 = .ok (.iload 5, 2) := by decide +kernel
theorem d_Maker_make_38 : decode b_Maker_make 38 = .ok (.aload_n 0, 1) := by decide +kernel
theorem d_Maker_make_39 : decode b_Maker_make 39 = .ok (.getfield 18, 3) := by decide +kernel
theorem d_Maker_make_42 : decode b_Maker_make 42 = .ok (.arraylength, 1) := by decide +kernel
theorem d_Maker_make_43 : decode b_Maker_make 43 = .ok (.if_icmp .ge 18, 3) := by decide +kernel
theorem d_Maker_make_46 : decode b_Maker_make 46 = .ok (.aload_n 0, 1) := by decide +kernel
theorem d_Maker_make_47 : decode b_Maker_make 47 = .ok (.getfield 18, 3) := by decide +kernel
theorem d_Maker_make_50 : decode b_Maker_make 50 = .ok (.iload 5, 2) := by decide +kernel
theorem d_Maker_make_52 : decode b_Maker_make 52 = .ok (.iload 5, 2) := by decide +kernel
theorem d_Maker_make_54 : decode b_Maker_make 54 = .ok (.iastore, 1) := by decide +kernel
theorem d_Maker_make_55 : decode b_Maker_make 55 = .ok (.iinc 5 1, 3) := by decide +kernel
theorem d_Maker_make_58 : decode b_Maker_make 58 = .ok (.goto (-22), 3) := by decide +kernel
theorem d_Maker_make_61 : decode b_Maker_make 61 = .ok (.aload_n 0, 1) := by decide +kernel
theorem d_Maker_make_62 : decode b_Maker_make 62 = .ok (.getfield 29, 3) := by decide +kernel
theorem d_Maker_make_65 : decode b_Maker_make 65 = .ok (.getfield 36, 3) := by decide +kernel
theorem d_Maker_make_68 : decode b_Maker_make 68 = .ok (.iload 4, 2) := by decide +kernel
theorem d_Maker_make_70 : decode b_Maker_make 70 = .ok (.baload, 1) := by decide +kernel
theorem d_Maker_make_71 : decode b_Maker_make 71 = .ok (.istore 5, 2) := by decide +kernel
theorem d_Maker_make_73 : decode b_Maker_make 73 = .ok (.iload 5, 2) := by decide +kernel
theorem d_Maker_make_75 : decode b_Maker_make 75 = .ok (.iconst (-1), 1) := by decide +kernel
theorem d_Maker_make_76 : decode b_Maker_make 76 = .ok (.if_icmp .ne 15, 3) := by decide +kernel
theorem d_Maker_make_79 : decode b_Maker_make 79 = .ok (.aload_n 0, 1) := by decide +kernel
theorem d_Maker_make_80 : decode b_Maker_make 80 = .ok (.aload_n 2, 1) := by decide +kernel
theorem d_Maker_make_81 : decode b_Maker_make 81 = .ok (.aload_n 2, 1) := by decide +kernel
theorem d_Maker_make_82 : decode b_Maker_make 82 = .ok (.invokevirtual 42, 3) := by decide +kernel
theorem d_Maker_make_85 : decode b_Maker_make 85 = .ok (.invokevirtual 46, 3) := by decide +kernel
theorem d_Maker_make_88 : decode b_Maker_make 88 = .ok (.goto 19, 3) := by decide +kernel
theorem d_Maker_make_91 : decode b_Maker_make 91 = .ok (.aload_n 0, 1) := by decide +kernel
theorem d_Maker_make_92 : decode b_Maker_make 92 = .ok (.aload_n 0, 1) := by decide +kernel
theorem d_Maker_make_93 : decode b_Maker_make 93 = .ok (.getfield 29, 3) := by decide +kernel
theorem d_Maker_make_96 : decode b_Maker_make 96 = .ok (.getfield 50, 3) := by decide +kernel
theorem d_Maker_make_99 : decode b_Maker_make 99 = .ok (.iload 4, 2) := by decide +kernel
theorem d_Maker_make_101 : decode b_Maker_make 101 = .ok (.baload, 1) := by decide +kernel
theorem d_Maker_make_102 : decode b_Maker_make 102 = .ok (.iload 5, 2) := by decide +kernel
theorem d_Maker_make_104 : decode b_Maker_make 104 = .ok (.invokevirtual 53, 3) := by decide +kernel
theorem d_Maker_make_107 : decode b_Maker_make 107 = .ok (.istore 6, 2) := by decide +kernel
theorem d_Maker_make_109 : decode b_Maker_make 109 = .ok (.aload_n 0, 1) := by decide +kernel
theorem d_Maker_make_110 : decode b_Maker_make 110 = .ok (.getfield 12, 3) := by decide +kernel
theorem d_Maker_make_113 : decode b_Maker_make 113 = .ok (.bipush 6, 2) := by decide +kernel
theorem d_Maker_make_115 : decode b_Maker_make 115 = .ok (.iload 6, 2) := by decide +kernel
theorem d_Maker_make_117 : decode b_Maker_make 117 = .ok (.iconst (-1), 1) := by decide +kernel
theorem d_Maker_make_118 : decode b_Maker_make 118 = .ok (.invokevirtual 57, 3) := by decide +kernel
theorem d_Maker_make_121 : decode b_Maker_make 121 = .ok (.istore 7, 2) := by decide +kernel
theorem d_Maker_make_123 : decode b_Maker_make 123 = .ok (.aload_n 0, 1) := by decide +kernel
theorem d_Maker_make_124 : decode b_Maker_make 124 = .ok (.getfield 12, 3) := by decide +kernel
theorem d_Maker_make_127 : decode b_Maker_make 127 = .ok (.bipush 8, 2) := by decide +kernel
theorem d_Maker_make_129 : decode b_Maker_make 129 = .ok (.iload 7, 2) := by decide +kernel
theorem d_Maker_make_131 : decode b_Maker_make 131 = .ok (.aload_n 0, 1) := by decide +kernel
theorem d_Maker_make_132 : decode b_Maker_make 132 = .ok (.aload_n 0, 1) := by decide +kernel
theorem d_Maker_make_133 : decode b_Maker_make 133 = .ok (.getfield 29, 3) := by decide +kernel
theorem d_Maker_make_136 : decode b_Maker_make 136 = .ok (.getfield 50, 3) := by decide +kernel
theorem d_Maker_make_139 : decode b_Maker_make 139 = .ok (.iload 4, 2) := by decide +kernel
theorem d_Maker_make_141 : decode b_Maker_make 141 = .ok (.baload, 1) := by decide +kernel
theorem d_Maker_make_142 : decode b_Maker_make 142 = .ok (.iload 5, 2) := by decide +kernel
theorem d_Maker_make_144 : decode b_Maker_make 144 = .ok (.invokevirtual 61, 3) := by decide +kernel
theorem d_Maker_make_147 : decode b_Maker_make 147 = .ok (.invokevirtual 57, 3) := by decide +kernel
theorem d_Maker_make_150 : decode b_Maker_make 150 = .ok (.pop, 1) := by decide +kernel
theorem d_Maker_make_151 : decode b_Maker_make 151 = .ok (.return_, 1) := by decide +kernel
set_option maxHeartbeats 40000000 in
set_option maxRecDepth 100000 in
theorem c_K_make (l : Launch) (D : va_G) (ax : Nat → ClassId) (c0 c1 : Nat) (vl va9 : Value) (s_made : Int32) (sd : Nat → Int32) (n0 n1 n2 n3 cp z9 : Nat) (fo fl fr : Nat → Int32) (h0 h1 h2 h3 zs cs : Nat) (so sl sr : Nat → Int32) (a0 a1 a2 a3 za ca : Nat) (ao al ar : Nat → Int32) (b0 b1 b2 b3 zb cb : Nat) (bo bl bq : Nat → Int32) (g0 g1 g2 g3 g4 g5 g6 g7 g8 g9 ga gb cl ln br lp va : Nat) (kd ow sb f1 f2 te kp nm ck co : Nat → Nat) (tm : Nat → Int32) (MX : Nat) (en kc : Nat → Nat) (k1 : Nat) (lz9 po pr : List sgT) (IT : Nat → itT) (X Y : Nat → List itT) (sz tz : Nat) (hcp : 8 ≤ cp) (hz9 : z9 ≤ cp) (hmx : cp ≤ MX) (hMX : MX ≤ 100000) (hMX2 : 65536 ≤ MX) (hfo : bts fo cp) (hsd : ∀ j, j ≤ 10 → trm (sd j)) (hfm : fmk s_made z9 fo fl fr) (hzs : zs ≤ cs) (hcs : cs ≤ 100000) (hsv : ndv so sl sr zs) (hza : za ≤ ca) (hca : ca ≤ 100000) (hz1 : 1 ≤ za) (hz4 : za ≤ 450) (hav : ndv ao al ar za) (hat : tsn ao al ar (za - 1) ≤ 450) (hzb : zb ≤ cb) (hcb : cb ≤ 100000) (hb1 : 1 ≤ zb) (hb4 : zb ≤ 450) (hbv : ndv bo bl bq zb) (hbt : tsn bo bl bq (zb - 1) ≤ 450) (hlw : lsw ln zs kd ow sb f1 f2 te kp nm en kc tm so sl sr) (hcm : clm br cl ck co ln kd nm) (hbr : br ≤ 4) (hcl : cl ≤ 29) (hln1 : 1 ≤ ln) (hk1 : k1 < cl) (hlg : lgQ so sl sr ao al ar zs za ln kd ow sb f1 f2 te kp nm tm lz9 po IT X Y) (hbg : srk bo bl bq zb 1023 pr) (hbc : cmpl 18 pr) (hf7 : fm7 s_made cl z9 fo fl fr ck co pr po X Y f1 IT)  : Met l y_Maker_make (xws (.code y_Maker_make b_Maker_make 8 none)) ({ frames := 1190, cells := MX - cp, slots := 6 * (MX - cp), locals := 27400 }) (va_Pc [.ref c0, .ref g0, .ref b0, .ref a0, .int (nI k1)] (xo3 D ax [(c0, .inr (3, [.ref n0, .ref c1, vl, va9, .int s_made])), (c1, .inl (ax 0, 16, .inl sd)), (n0, .inr (4, [.ref n1, .ref n2, .ref n3, .int (nI z9)])), (n1, .inl (ax 1, cp, .inl fo)), (n2, .inl (ax 0, cp, .inl fl)), (n3, .inl (ax 0, cp, .inl fr)), (h0, .inr (4, [.ref h1, .ref h2, .ref h3, .int (nI zs)])), (h1, .inl (ax 1, cs, .inl so)), (h2, .inl (ax 0, cs, .inl sl)), (h3, .inl (ax 0, cs, .inl sr)), (a0, .inr (4, [.ref a1, .ref a2, .ref a3, .int (nI za)])), (a1, .inl (ax 1, ca, .inl ao)), (a2, .inl (ax 0, ca, .inl al)), (a3, .inl (ax 0, ca, .inl ar)), (b0, .inr (4, [.ref b1, .ref b2, .ref b3, .int (nI zb)])), (b1, .inl (ax 1, cb, .inl bo)), (b2, .inl (ax 0, cb, .inl bl)), (b3, .inl (ax 0, cb, .inl bq)), (g0, .inr (2, [.ref h0, .ref g1, .ref g2, .ref g3, .ref g4, .ref g5, .ref g6, .ref g7, .ref g8, .ref g9, .ref ga, .ref gb, .int (nI cl), .int (nI ln), .int (nI br), .int (nI lp), .int (nI va)])), (g1, .inl (ax 1, 20, .inl (fun j => nI (kd j)))), (g2, .inl (ax 1, 20, .inl (fun j => nI (ow j)))), (g3, .inl (ax 1, 20, .inl (fun j => nI (sb j)))), (g4, .inl (ax 1, 20, .inl (fun j => nI (f1 j)))), (g5, .inl (ax 1, 20, .inl (fun j => nI (f2 j)))), (g6, .inl (ax 2, 20, .inl (fun j => nI (te j)))), (g7, .inl (ax 2, 20, .inl (fun j => nI (kp j)))), (g8, .inl (ax 0, 20, .inl tm)), (g9, .inl (ax 1, 20, .inl (fun j => nI (nm j)))), (ga, .inl (ax 1, 29, .inl (fun j => nI (ck j)))), (gb, .inl (ax 1, 29, .inl (fun j => nI (co j))))] sz tz)) ((va_Qv (fun (u : Nat → Nat) => (1 ≤ u 3 ∧ u 3 ≤ 32768 ∧ u 3 ≤ u 4 ∧ cp ≤ u 4 ∧ u 4 ≤ MX ∧ dbl cp (u 4))) (fun (u : Nat → Nat) (t9 : State) => ∃ xsd : Nat → Int32, ∃ xmd : Int32, ∃ xvl : Value, ∃ xva : Value, ∃ xfo : Nat → Int32, ∃ xfl : Nat → Int32, ∃ xfr : Nat → Int32, (t9.heap.size ≤ sz + (u 4 - cp)) ∧ (tsl t9.heap ≤ tz + (6 * (u 4 - cp))) ∧ (ndv xfo xfl xfr (u 3)) ∧ (bts xfo (u 4)) ∧ (tsn xfo xfl xfr (u 3 - 1) ≤ 32768) ∧ (∀ j, j ≤ 10 → trm (xsd j)) ∧ (xmd = nI k1) ∧ ((ndl xfo xfl xfr (mkF pr po X Y f1 IT (ck k1) (co k1)) ∧ (mkF pr po X Y f1 IT (ck k1) (co k1)).length = u 3) ∧ ∃ d, cmpl d (mkF pr po X Y f1 IT (ck k1) (co k1))) ∧ va_P D classes [(c0, .inr (3, [.ref n0, .ref c1, xvl, xva, .int xmd])), (c1, .inl (ax 0, 16, .inl xsd)), (n0, .inr (4, [.ref (u 0), .ref (u 1), .ref (u 2), .int (nI (u 3))])), (u 0, .inl (ax 1, u 4, .inl xfo)), (u 1, .inl (ax 0, u 4, .inl xfl)), (u 2, .inl (ax 0, u 4, .inl xfr)), (h0, .inr (4, [.ref h1, .ref h2, .ref h3, .int (nI zs)])), (h1, .inl (ax 1, cs, .inl so)), (h2, .inl (ax 0, cs, .inl sl)), (h3, .inl (ax 0, cs, .inl sr)), (a0, .inr (4, [.ref a1, .ref a2, .ref a3, .int (nI za)])), (a1, .inl (ax 1, ca, .inl ao)), (a2, .inl (ax 0, ca, .inl al)), (a3, .inl (ax 0, ca, .inl ar)), (b0, .inr (4, [.ref b1, .ref b2, .ref b3, .int (nI zb)])), (b1, .inl (ax 1, cb, .inl bo)), (b2, .inl (ax 0, cb, .inl bl)), (b3, .inl (ax 0, cb, .inl bq)), (g0, .inr (2, [.ref h0, .ref g1, .ref g2, .ref g3, .ref g4, .ref g5, .ref g6, .ref g7, .ref g8, .ref g9, .ref ga, .ref gb, .int (nI cl), .int (nI ln), .int (nI br), .int (nI lp), .int (nI va)])), (g1, .inl (ax 1, 20, .inl (fun j => nI (kd j)))), (g2, .inl (ax 1, 20, .inl (fun j => nI (ow j)))), (g3, .inl (ax 1, 20, .inl (fun j => nI (sb j)))), (g4, .inl (ax 1, 20, .inl (fun j => nI (f1 j)))), (g5, .inl (ax 1, 20, .inl (fun j => nI (f2 j)))), (g6, .inl (ax 2, 20, .inl (fun j => nI (te j)))), (g7, .inl (ax 2, 20, .inl (fun j => nI (kp j)))), (g8, .inl (ax 0, 20, .inl tm)), (g9, .inl (ax 1, 20, .inl (fun j => nI (nm j)))), (ga, .inl (ax 1, 29, .inl (fun j => nI (ck j)))), (gb, .inl (ax 1, 29, .inl (fun j => nI (co j))))] t9.heap ∧ va_D (va_A [(c0, .inr (3, [.ref n0, .ref c1, vl, va9, .int s_made])), (c1, .inl (ax 0, 16, .inl sd)), (n0, .inr (4, [.ref n1, .ref n2, .ref n3, .int (nI z9)])), (n1, .inl (ax 1, cp, .inl fo)), (n2, .inl (ax 0, cp, .inl fl)), (n3, .inl (ax 0, cp, .inl fr)), (h0, .inr (4, [.ref h1, .ref h2, .ref h3, .int (nI zs)])), (h1, .inl (ax 1, cs, .inl so)), (h2, .inl (ax 0, cs, .inl sl)), (h3, .inl (ax 0, cs, .inl sr)), (a0, .inr (4, [.ref a1, .ref a2, .ref a3, .int (nI za)])), (a1, .inl (ax 1, ca, .inl ao)), (a2, .inl (ax 0, ca, .inl al)), (a3, .inl (ax 0, ca, .inl ar)), (b0, .inr (4, [.ref b1, .ref b2, .ref b3, .int (nI zb)])), (b1, .inl (ax 1, cb, .inl bo)), (b2, .inl (ax 0, cb, .inl bl)), (b3, .inl (ax 0, cb, .inl bq)), (g0, .inr (2, [.ref h0, .ref g1, .ref g2, .ref g3, .ref g4, .ref g5, .ref g6, .ref g7, .ref g8, .ref g9, .ref ga, .ref gb, .int (nI cl), .int (nI ln), .int (nI br), .int (nI lp), .int (nI va)])), (g1, .inl (ax 1, 20, .inl (fun j => nI (kd j)))), (g2, .inl (ax 1, 20, .inl (fun j => nI (ow j)))), (g3, .inl (ax 1, 20, .inl (fun j => nI (sb j)))), (g4, .inl (ax 1, 20, .inl (fun j => nI (f1 j)))), (g5, .inl (ax 1, 20, .inl (fun j => nI (f2 j)))), (g6, .inl (ax 2, 20, .inl (fun j => nI (te j)))), (g7, .inl (ax 2, 20, .inl (fun j => nI (kp j)))), (g8, .inl (ax 0, 20, .inl tm)), (g9, .inl (ax 1, 20, .inl (fun j => nI (nm j)))), (ga, .inl (ax 1, 29, .inl (fun j => nI (ck j)))), (gb, .inl (ax 1, 29, .inl (fun j => nI (co j))))] sz) [(c0, .inr (3, [.ref n0, .ref c1, xvl, xva, .int xmd])), (c1, .inl (ax 0, 16, .inl xsd)), (n0, .inr (4, [.ref (u 0), .ref (u 1), .ref (u 2), .int (nI (u 3))])), (u 0, .inl (ax 1, u 4, .inl xfo)), (u 1, .inl (ax 0, u 4, .inl xfl)), (u 2, .inl (ax 0, u 4, .inl xfr)), (h0, .inr (4, [.ref h1, .ref h2, .ref h3, .int (nI zs)])), (h1, .inl (ax 1, cs, .inl so)), (h2, .inl (ax 0, cs, .inl sl)), (h3, .inl (ax 0, cs, .inl sr)), (a0, .inr (4, [.ref a1, .ref a2, .ref a3, .int (nI za)])), (a1, .inl (ax 1, ca, .inl ao)), (a2, .inl (ax 0, ca, .inl al)), (a3, .inl (ax 0, ca, .inl ar)), (b0, .inr (4, [.ref b1, .ref b2, .ref b3, .int (nI zb)])), (b1, .inl (ax 1, cb, .inl bo)), (b2, .inl (ax 0, cb, .inl bl)), (b3, .inl (ax 0, cb, .inl bq)), (g0, .inr (2, [.ref h0, .ref g1, .ref g2, .ref g3, .ref g4, .ref g5, .ref g6, .ref g7, .ref g8, .ref g9, .ref ga, .ref gb, .int (nI cl), .int (nI ln), .int (nI br), .int (nI lp), .int (nI va)])), (g1, .inl (ax 1, 20, .inl (fun j => nI (kd j)))), (g2, .inl (ax 1, 20, .inl (fun j => nI (ow j)))), (g3, .inl (ax 1, 20, .inl (fun j => nI (sb j)))), (g4, .inl (ax 1, 20, .inl (fun j => nI (f1 j)))), (g5, .inl (ax 1, 20, .inl (fun j => nI (f2 j)))), (g6, .inl (ax 2, 20, .inl (fun j => nI (te j)))), (g7, .inl (ax 2, 20, .inl (fun j => nI (kp j)))), (g8, .inl (ax 0, 20, .inl tm)), (g9, .inl (ax 1, 20, .inl (fun j => nI (nm j)))), (ga, .inl (ax 1, 29, .inl (fun j => nI (ck j)))), (gb, .inl (ax 1, 29, .inl (fun j => nI (co j))))]) (va_A [(c0, .inr (3, [.ref n0, .ref c1, vl, va9, .int s_made])), (c1, .inl (ax 0, 16, .inl sd)), (n0, .inr (4, [.ref n1, .ref n2, .ref n3, .int (nI z9)])), (n1, .inl (ax 1, cp, .inl fo)), (n2, .inl (ax 0, cp, .inl fl)), (n3, .inl (ax 0, cp, .inl fr)), (h0, .inr (4, [.ref h1, .ref h2, .ref h3, .int (nI zs)])), (h1, .inl (ax 1, cs, .inl so)), (h2, .inl (ax 0, cs, .inl sl)), (h3, .inl (ax 0, cs, .inl sr)), (a0, .inr (4, [.ref a1, .ref a2, .ref a3, .int (nI za)])), (a1, .inl (ax 1, ca, .inl ao)), (a2, .inl (ax 0, ca, .inl al)), (a3, .inl (ax 0, ca, .inl ar)), (b0, .inr (4, [.ref b1, .ref b2, .ref b3, .int (nI zb)])), (b1, .inl (ax 1, cb, .inl bo)), (b2, .inl (ax 0, cb, .inl bl)), (b3, .inl (ax 0, cb, .inl bq)), (g0, .inr (2, [.ref h0, .ref g1, .ref g2, .ref g3, .ref g4, .ref g5, .ref g6, .ref g7, .ref g8, .ref g9, .ref ga, .ref gb, .int (nI cl), .int (nI ln), .int (nI br), .int (nI lp), .int (nI va)])), (g1, .inl (ax 1, 20, .inl (fun j => nI (kd j)))), (g2, .inl (ax 1, 20, .inl (fun j => nI (ow j)))), (g3, .inl (ax 1, 20, .inl (fun j => nI (sb j)))), (g4, .inl (ax 1, 20, .inl (fun j => nI (f1 j)))), (g5, .inl (ax 1, 20, .inl (fun j => nI (f2 j)))), (g6, .inl (ax 2, 20, .inl (fun j => nI (te j)))), (g7, .inl (ax 2, 20, .inl (fun j => nI (kp j)))), (g8, .inl (ax 0, 20, .inl tm)), (g9, .inl (ax 1, 20, .inl (fun j => nI (nm j)))), (ga, .inl (ax 1, 29, .inl (fun j => nI (ck j)))), (gb, .inl (ax 1, 29, .inl (fun j => nI (co j))))] sz))) (MX - cp) (6 * (MX - cp)) (va_A [(c0, .inr (3, [.ref n0, .ref c1, vl, va9, .int s_made])), (c1, .inl (ax 0, 16, .inl sd)), (n0, .inr (4, [.ref n1, .ref n2, .ref n3, .int (nI z9)])), (n1, .inl (ax 1, cp, .inl fo)), (n2, .inl (ax 0, cp, .inl fl)), (n3, .inl (ax 0, cp, .inl fr)), (h0, .inr (4, [.ref h1, .ref h2, .ref h3, .int (nI zs)])), (h1, .inl (ax 1, cs, .inl so)), (h2, .inl (ax 0, cs, .inl sl)), (h3, .inl (ax 0, cs, .inl sr)), (a0, .inr (4, [.ref a1, .ref a2, .ref a3, .int (nI za)])), (a1, .inl (ax 1, ca, .inl ao)), (a2, .inl (ax 0, ca, .inl al)), (a3, .inl (ax 0, ca, .inl ar)), (b0, .inr (4, [.ref b1, .ref b2, .ref b3, .int (nI zb)])), (b1, .inl (ax 1, cb, .inl bo)), (b2, .inl (ax 0, cb, .inl bl)), (b3, .inl (ax 0, cb, .inl bq)), (g0, .inr (2, [.ref h0, .ref g1, .ref g2, .ref g3, .ref g4, .ref g5, .ref g6, .ref g7, .ref g8, .ref g9, .ref ga, .ref gb, .int (nI cl), .int (nI ln), .int (nI br), .int (nI lp), .int (nI va)])), (g1, .inl (ax 1, 20, .inl (fun j => nI (kd j)))), (g2, .inl (ax 1, 20, .inl (fun j => nI (ow j)))), (g3, .inl (ax 1, 20, .inl (fun j => nI (sb j)))), (g4, .inl (ax 1, 20, .inl (fun j => nI (f1 j)))), (g5, .inl (ax 1, 20, .inl (fun j => nI (f2 j)))), (g6, .inl (ax 2, 20, .inl (fun j => nI (te j)))), (g7, .inl (ax 2, 20, .inl (fun j => nI (kp j)))), (g8, .inl (ax 0, 20, .inl tm)), (g9, .inl (ax 1, 20, .inl (fun j => nI (nm j)))), (ga, .inl (ax 1, 29, .inl (fun j => nI (ck j)))), (gb, .inl (ax 1, 29, .inl (fun j => nI (co j))))] sz) := by
  refine Met.ofW (cc := b_Maker_make) (maxL := 8) (ret := none) (by decide) rfl ?_
  intro p e s m args below meth c s₁ B hml hv
  obtain ⟨rfl, ⟨hsz, hP, hK, hD0⟩, htz⟩ := hv
  have hx := B.exec
  have hb := B.bytes
  have hr := B.returns
  have hts := xw_hts B.pre
  have hown : s.vm.findClass R_Maker = some m.cls := findClass_of_methodNamed B.named
  have hlocks := B.notSynchronized
  subst hsz
  subst htz
  have hD := hD0.self (sz := s.heap.size)
  have hN := xz_entry hP
  generalize hAe : va_A [(c0, .inr (3, [.ref n0, .ref c1, vl, va9, .int s_made])), (c1, .inl (ax 0, 16, .inl sd)), (n0, .inr (4, [.ref n1, .ref n2, .ref n3, .int (nI z9)])), (n1, .inl (ax 1, cp, .inl fo)), (n2, .inl (ax 0, cp, .inl fl)), (n3, .inl (ax 0, cp, .inl fr)), (h0, .inr (4, [.ref h1, .ref h2, .ref h3, .int (nI zs)])), (h1, .inl (ax 1, cs, .inl so)), (h2, .inl (ax 0, cs, .inl sl)), (h3, .inl (ax 0, cs, .inl sr)), (a0, .inr (4, [.ref a1, .ref a2, .ref a3, .int (nI za)])), (a1, .inl (ax 1, ca, .inl ao)), (a2, .inl (ax 0, ca, .inl al)), (a3, .inl (ax 0, ca, .inl ar)), (b0, .inr (4, [.ref b1, .ref b2, .ref b3, .int (nI zb)])), (b1, .inl (ax 1, cb, .inl bo)), (b2, .inl (ax 0, cb, .inl bl)), (b3, .inl (ax 0, cb, .inl bq)), (g0, .inr (2, [.ref h0, .ref g1, .ref g2, .ref g3, .ref g4, .ref g5, .ref g6, .ref g7, .ref g8, .ref g9, .ref ga, .ref gb, .int (nI cl), .int (nI ln), .int (nI br), .int (nI lp), .int (nI va)])), (g1, .inl (ax 1, 20, .inl (fun j => nI (kd j)))), (g2, .inl (ax 1, 20, .inl (fun j => nI (ow j)))), (g3, .inl (ax 1, 20, .inl (fun j => nI (sb j)))), (g4, .inl (ax 1, 20, .inl (fun j => nI (f1 j)))), (g5, .inl (ax 1, 20, .inl (fun j => nI (f2 j)))), (g6, .inl (ax 2, 20, .inl (fun j => nI (te j)))), (g7, .inl (ax 2, 20, .inl (fun j => nI (kp j)))), (g8, .inl (ax 0, 20, .inl tm)), (g9, .inl (ax 1, 20, .inl (fun j => nI (nm j)))), (ga, .inl (ax 1, 29, .inl (fun j => nI (ck j)))), (gb, .inl (ax 1, 29, .inl (fun j => nI (co j))))] s.heap.size = A at hD hN ⊢
  have hA : ∀ q : Nat, s.heap.size ≤ q → A q := fun q h => by rw [← hAe]; exact Or.inr h
  have hS : va_S A s.heap s.heap [] := va_S.rf
  have hl0 := lv_entry ([.ref c0, .ref g0, .ref b0, .ref a0, .int (nI k1)]) (n := 8) (Nat.le_of_ble_eq_true rfl)
  rw [lg_entry_eq]
  generalize (lg_sl ([.ref c0, .ref g0, .ref b0, .ref a0, .int (nI k1)]) ++ List.replicate (8 - (lg_sl ([.ref c0, .ref g0, .ref b0, .ref a0, .int (nI k1)])).length) Slot.unset).toArray = ls at hl0 ⊢
  have hl1 : lv_has ls 8 [(0, .ref c0), (1, .ref g0), (2, .ref b0), (3, .ref a0), (4, .int (nI k1))] := hl0
  refine xw_gen (fun Z9 hQe => ?_)
  refine lv_aload_n hx hb d_Maker_make_0 rfl (lv_at hl1 0 rfl) ?_
  refine va_get (D := D) (ci := 3) (v := .int s_made) (C := R_Maker) (T := F_Maker) (N := 5) hx hb hts i_Maker hown hK.1 hP 0 rfl rfl 4 (by decide) (hts _ wd_134) (fun _ h9 => h9) rfl d_Maker_make_1 ?_
  refine lv_iload hx hb d_Maker_make_4 (lv_at hl1 4 rfl) ?_
  refine lv_icmp_ne (tgt := 10) hx hb d_Maker_make_6 (by decide) (fun c_1 => ?_) (fun c_1 => ?_)
  · refine lv_aload_n hx hb d_Maker_make_10 rfl (lv_at hl1 0 rfl) ?_
    refine lv_iload hx hb d_Maker_make_11 (lv_at hl1 4 rfl) ?_
    refine va_put (D := D) (ci := 3) (v := .int (nI k1)) (ty := .int) (C := R_Maker) (T := F_Maker) (N := 5) hx hb hts i_Maker t_Maker t_Maker_ok n_Maker hown hK.1 hP hD hS 0 rfl rfl 4 (by decide) (hts _ wd_134) (fun _ h9 => h9) rfl (by decide +kernel) rfl rfl (Nat.le_of_ble_eq_true rfl) d_Maker_make_13 (fun H_2 locs hP1 hD1 hS1 => ?_)
    clear hP hD hS
    have hS := hS1
    have hW7 : (fun w9 : va_W => va_P D classes w9 H_2 ∧ va_D A w9) [(c0, .inr (3, [.ref n0, .ref c1, vl, va9, .int (nI k1)])), (c1, .inl (ax 0, 16, .inl sd)), (n0, .inr (4, [.ref n1, .ref n2, .ref n3, .int (nI z9)])), (n1, .inl (ax 1, cp, .inl fo)), (n2, .inl (ax 0, cp, .inl fl)), (n3, .inl (ax 0, cp, .inl fr)), (h0, .inr (4, [.ref h1, .ref h2, .ref h3, .int (nI zs)])), (h1, .inl (ax 1, cs, .inl so)), (h2, .inl (ax 0, cs, .inl sl)), (h3, .inl (ax 0, cs, .inl sr)), (a0, .inr (4, [.ref a1, .ref a2, .ref a3, .int (nI za)])), (a1, .inl (ax 1, ca, .inl ao)), (a2, .inl (ax 0, ca, .inl al)), (a3, .inl (ax 0, ca, .inl ar)), (b0, .inr (4, [.ref b1, .ref b2, .ref b3, .int (nI zb)])), (b1, .inl (ax 1, cb, .inl bo)), (b2, .inl (ax 0, cb, .inl bl)), (b3, .inl (ax 0, cb, .inl bq)), (g0, .inr (2, [.ref h0, .ref g1, .ref g2, .ref g3, .ref g4, .ref g5, .ref g6, .ref g7, .ref g8, .ref g9, .ref ga, .ref gb, .int (nI cl), .int (nI ln), .int (nI br), .int (nI lp), .int (nI va)])), (g1, .inl (ax 1, 20, .inl (fun j => nI (kd j)))), (g2, .inl (ax 1, 20, .inl (fun j => nI (ow j)))), (g3, .inl (ax 1, 20, .inl (fun j => nI (sb j)))), (g4, .inl (ax 1, 20, .inl (fun j => nI (f1 j)))), (g5, .inl (ax 1, 20, .inl (fun j => nI (f2 j)))), (g6, .inl (ax 2, 20, .inl (fun j => nI (te j)))), (g7, .inl (ax 2, 20, .inl (fun j => nI (kp j)))), (g8, .inl (ax 0, 20, .inl tm)), (g9, .inl (ax 1, 20, .inl (fun j => nI (nm j)))), (ga, .inl (ax 1, 29, .inl (fun j => nI (ck j)))), (gb, .inl (ax 1, 29, .inl (fun j => nI (co j))))] := ⟨hP1, hD1⟩
    obtain ⟨hP, hD⟩ := hW7
    clear hP1 hD1 hS1
    refine lv_aload_n hx hb d_Maker_make_16 rfl (lv_at hl1 0 rfl) ?_
    refine va_get (D := D) (ci := 3) (v := .ref n0) (C := R_Maker) (T := F_Maker) (N := 5) hx hb hts i_Maker hown hK.1 hP 0 rfl rfl 0 (by decide) (hts _ wd_129) (fun _ h9 => h9) rfl d_Maker_make_17 ?_
    obtain ⟨hPc, hDc, hFc, hCs⟩ := xw_sub3 (wc := [(n0, .inr (4, [.ref n1, .ref n2, .ref n3, .int (nI z9)])), (n1, .inl (ax 1, cp, .inl fo)), (n2, .inl (ax 0, cp, .inl fl)), (n3, .inl (ax 0, cp, .inl fr))]) hP hD hS hA [2, 3, 4, 5] (by decide) rfl
    have hz := xz_of hN hS
    refine va_callv (va_runV (As := []) (rest := []) ⟨hx, hb, hml, hown, hts⟩ (c_Nodes_clear l D ax n0 n1 n2 n3 cp z9 fo fl fr H_2.size) (xcV (n := 0) hts wd_535 wd_5 wd_768 wd_533 wd_534 rfl rfl (by decide +kernel) ⟨(show (10) + 1 ≤ (1190) by omega), (show 8 + (1 + 11) + (400) ≤ (27400) by omega)⟩) (xpV (ci := 4) (q0 := 0) (As := []) hPc hK hz hDc rfl rfl) rfl rfl hl1.1 rfl (lv_room (Nat.le_of_ble_eq_true rfl)) d_Maker_make_20 ⟨(show (0) + (0) ≤ (MX - cp) by omega), (show (0) + (0) ≤ (6 * (MX - cp)) by omega)⟩) hS (fun q _ h => hFc q h) hFc (fun u_3 t H_4 locs ht hvm hw hB hz1 hk1 hS1 => ?_)
    try dsimp only at hw
    obtain ⟨hP1, hD1⟩ := hB
    rw [ht] at hP1
    have hjn := xw_join3 (wl := [(c0, .inr (3, [.ref n0, .ref c1, vl, va9, .int (nI k1)])), (c1, .inl (ax 0, 16, .inl sd)), (h0, .inr (4, [.ref h1, .ref h2, .ref h3, .int (nI zs)])), (h1, .inl (ax 1, cs, .inl so)), (h2, .inl (ax 0, cs, .inl sl)), (h3, .inl (ax 0, cs, .inl sr)), (a0, .inr (4, [.ref a1, .ref a2, .ref a3, .int (nI za)])), (a1, .inl (ax 1, ca, .inl ao)), (a2, .inl (ax 0, ca, .inl al)), (a3, .inl (ax 0, ca, .inl ar)), (b0, .inr (4, [.ref b1, .ref b2, .ref b3, .int (nI zb)])), (b1, .inl (ax 1, cb, .inl bo)), (b2, .inl (ax 0, cb, .inl bl)), (b3, .inl (ax 0, cb, .inl bq)), (g0, .inr (2, [.ref h0, .ref g1, .ref g2, .ref g3, .ref g4, .ref g5, .ref g6, .ref g7, .ref g8, .ref g9, .ref ga, .ref gb, .int (nI cl), .int (nI ln), .int (nI br), .int (nI lp), .int (nI va)])), (g1, .inl (ax 1, 20, .inl (fun j => nI (kd j)))), (g2, .inl (ax 1, 20, .inl (fun j => nI (ow j)))), (g3, .inl (ax 1, 20, .inl (fun j => nI (sb j)))), (g4, .inl (ax 1, 20, .inl (fun j => nI (f1 j)))), (g5, .inl (ax 1, 20, .inl (fun j => nI (f2 j)))), (g6, .inl (ax 2, 20, .inl (fun j => nI (te j)))), (g7, .inl (ax 2, 20, .inl (fun j => nI (kp j)))), (g8, .inl (ax 0, 20, .inl tm)), (g9, .inl (ax 1, 20, .inl (fun j => nI (nm j)))), (ga, .inl (ax 1, 29, .inl (fun j => nI (ck j)))), (gb, .inl (ax 1, 29, .inl (fun j => nI (co j)))), (n0, .inr (4, [.ref n1, .ref n2, .ref n3, .int 0])), (n1, .inl (ax 1, cp, .inl fo)), (n2, .inl (ax 0, cp, .inl fl)), (n3, .inl (ax 0, cp, .inl fr))]) hP hD [2, 3, 4, 5] [0, 1, 6, 7, 8, 9, 10, 11, 12, 13, 14, 15, 16, 17, 18, 19, 20, 21, 22, 23, 24, 25, 26, 27, 28, 29] hCs (by decide) (by decide) hk1 hFc hP1 hD1 rfl
    clear hP1 hD1
    clear hPc hDc hFc hCs hz hz1 hk1 ht hvm
    clear hP hD hS
    have hS := hS1
    obtain ⟨hP, hD⟩ := hjn
    clear hS1
    refine lv_aload_n hx hb d_Maker_make_23 rfl (lv_at hl1 0 rfl) ?_
    refine lv_aload_n hx hb d_Maker_make_24 rfl (lv_at hl1 1 rfl) ?_
    refine va_put (D := D) (ci := 3) (v := .ref g0) (ty := .object "TripleDesk$Listing") (C := R_Maker) (T := F_Maker) (N := 5) hx hb hts i_Maker t_Maker t_Maker_ok n_Maker hown hK.1 hP hD hS 0 rfl rfl 2 (by decide) (hts _ wd_132) (fun _ h9 => h9) rfl (by decide +kernel) rfl rfl (Nat.le_of_ble_eq_true rfl) d_Maker_make_25 (fun H_6 locs hP1 hD1 hS1 => ?_)
    clear hP hD hS
    have hS := hS1
    have hW7 : (fun w9 : va_W => va_P D classes w9 H_6 ∧ va_D A w9) [(c0, .inr (3, [.ref n0, .ref c1, .ref g0, va9, .int (nI k1)])), (c1, .inl (ax 0, 16, .inl sd)), (h0, .inr (4, [.ref h1, .ref h2, .ref h3, .int (nI zs)])), (h1, .inl (ax 1, cs, .inl so)), (h2, .inl (ax 0, cs, .inl sl)), (h3, .inl (ax 0, cs, .inl sr)), (a0, .inr (4, [.ref a1, .ref a2, .ref a3, .int (nI za)])), (a1, .inl (ax 1, ca, .inl ao)), (a2, .inl (ax 0, ca, .inl al)), (a3, .inl (ax 0, ca, .inl ar)), (b0, .inr (4, [.ref b1, .ref b2, .ref b3, .int (nI zb)])), (b1, .inl (ax 1, cb, .inl bo)), (b2, .inl (ax 0, cb, .inl bl)), (b3, .inl (ax 0, cb, .inl bq)), (g0, .inr (2, [.ref h0, .ref g1, .ref g2, .ref g3, .ref g4, .ref g5, .ref g6, .ref g7, .ref g8, .ref g9, .ref ga, .ref gb, .int (nI cl), .int (nI ln), .int (nI br), .int (nI lp), .int (nI va)])), (g1, .inl (ax 1, 20, .inl (fun j => nI (kd j)))), (g2, .inl (ax 1, 20, .inl (fun j => nI (ow j)))), (g3, .inl (ax 1, 20, .inl (fun j => nI (sb j)))), (g4, .inl (ax 1, 20, .inl (fun j => nI (f1 j)))), (g5, .inl (ax 1, 20, .inl (fun j => nI (f2 j)))), (g6, .inl (ax 2, 20, .inl (fun j => nI (te j)))), (g7, .inl (ax 2, 20, .inl (fun j => nI (kp j)))), (g8, .inl (ax 0, 20, .inl tm)), (g9, .inl (ax 1, 20, .inl (fun j => nI (nm j)))), (ga, .inl (ax 1, 29, .inl (fun j => nI (ck j)))), (gb, .inl (ax 1, 29, .inl (fun j => nI (co j)))), (n0, .inr (4, [.ref n1, .ref n2, .ref n3, .int 0])), (n1, .inl (ax 1, cp, .inl fo)), (n2, .inl (ax 0, cp, .inl fl)), (n3, .inl (ax 0, cp, .inl fr))] := ⟨hP1, hD1⟩
    obtain ⟨hP, hD⟩ := hW7
    clear hP1 hD1 hS1
    refine lv_aload_n hx hb d_Maker_make_28 rfl (lv_at hl1 0 rfl) ?_
    refine lv_aload_n hx hb d_Maker_make_29 rfl (lv_at hl1 3 rfl) ?_
    refine va_put (D := D) (ci := 3) (v := .ref a0) (ty := .object "TripleDesk$Nodes") (C := R_Maker) (T := F_Maker) (N := 5) hx hb hts i_Maker t_Maker t_Maker_ok n_Maker hown hK.1 hP hD hS 0 rfl rfl 3 (by decide) (hts _ wd_133) (fun _ h9 => h9) rfl (by decide +kernel) rfl rfl (Nat.le_of_ble_eq_true rfl) d_Maker_make_30 (fun H_7 locs hP1 hD1 hS1 => ?_)
    clear hP hD hS
    have hS := hS1
    have hW7 : (fun w9 : va_W => va_P D classes w9 H_7 ∧ va_D A w9) [(c0, .inr (3, [.ref n0, .ref c1, .ref g0, .ref a0, .int (nI k1)])), (c1, .inl (ax 0, 16, .inl sd)), (h0, .inr (4, [.ref h1, .ref h2, .ref h3, .int (nI zs)])), (h1, .inl (ax 1, cs, .inl so)), (h2, .inl (ax 0, cs, .inl sl)), (h3, .inl (ax 0, cs, .inl sr)), (a0, .inr (4, [.ref a1, .ref a2, .ref a3, .int (nI za)])), (a1, .inl (ax 1, ca, .inl ao)), (a2, .inl (ax 0, ca, .inl al)), (a3, .inl (ax 0, ca, .inl ar)), (b0, .inr (4, [.ref b1, .ref b2, .ref b3, .int (nI zb)])), (b1, .inl (ax 1, cb, .inl bo)), (b2, .inl (ax 0, cb, .inl bl)), (b3, .inl (ax 0, cb, .inl bq)), (g0, .inr (2, [.ref h0, .ref g1, .ref g2, .ref g3, .ref g4, .ref g5, .ref g6, .ref g7, .ref g8, .ref g9, .ref ga, .ref gb, .int (nI cl), .int (nI ln), .int (nI br), .int (nI lp), .int (nI va)])), (g1, .inl (ax 1, 20, .inl (fun j => nI (kd j)))), (g2, .inl (ax 1, 20, .inl (fun j => nI (ow j)))), (g3, .inl (ax 1, 20, .inl (fun j => nI (sb j)))), (g4, .inl (ax 1, 20, .inl (fun j => nI (f1 j)))), (g5, .inl (ax 1, 20, .inl (fun j => nI (f2 j)))), (g6, .inl (ax 2, 20, .inl (fun j => nI (te j)))), (g7, .inl (ax 2, 20, .inl (fun j => nI (kp j)))), (g8, .inl (ax 0, 20, .inl tm)), (g9, .inl (ax 1, 20, .inl (fun j => nI (nm j)))), (ga, .inl (ax 1, 29, .inl (fun j => nI (ck j)))), (gb, .inl (ax 1, 29, .inl (fun j => nI (co j)))), (n0, .inr (4, [.ref n1, .ref n2, .ref n3, .int 0])), (n1, .inl (ax 1, cp, .inl fo)), (n2, .inl (ax 0, cp, .inl fl)), (n3, .inl (ax 0, cp, .inl fr))] := ⟨hP1, hD1⟩
    obtain ⟨hP, hD⟩ := hW7
    clear hP1 hD1 hS1
    refine lv_iconst (v := 0) hx hb d_Maker_make_33 (by decide) ?_
    refine lv_istore (lv' := [(5, .int 0), (0, .ref c0), (1, .ref g0), (2, .ref b0), (3, .ref a0), (4, .int (nI k1))]) hx hb d_Maker_make_34 hl1 (by decide) rfl (fun ls hl2 => ?_)
    clear hl1; have hl1 := hl2; clear hl2
    suffices key_8 : ∀ (k : Nat) (i1 : Nat) (sd1 : Nat → Int32), 16 - i1 < k → i1 ≤ 16 → (∀ j, j ≤ 10 → trm (sd1 j)) → (∀ j, j < i1 → sd1 j = nI j) → ∀ (H : Heap) (locs : List Loc) (ls : Array Slot), va_P D classes [(c0, .inr (3, [.ref n0, .ref c1, .ref g0, .ref a0, .int (nI k1)])), (c1, .inl (ax 0, 16, .inl sd1)), (n0, .inr (4, [.ref n1, .ref n2, .ref n3, .int 0])), (n1, .inl (ax 1, cp, .inl fo)), (n2, .inl (ax 0, cp, .inl fl)), (n3, .inl (ax 0, cp, .inl fr)), (h0, .inr (4, [.ref h1, .ref h2, .ref h3, .int (nI zs)])), (h1, .inl (ax 1, cs, .inl so)), (h2, .inl (ax 0, cs, .inl sl)), (h3, .inl (ax 0, cs, .inl sr)), (a0, .inr (4, [.ref a1, .ref a2, .ref a3, .int (nI za)])), (a1, .inl (ax 1, ca, .inl ao)), (a2, .inl (ax 0, ca, .inl al)), (a3, .inl (ax 0, ca, .inl ar)), (b0, .inr (4, [.ref b1, .ref b2, .ref b3, .int (nI zb)])), (b1, .inl (ax 1, cb, .inl bo)), (b2, .inl (ax 0, cb, .inl bl)), (b3, .inl (ax 0, cb, .inl bq)), (g0, .inr (2, [.ref h0, .ref g1, .ref g2, .ref g3, .ref g4, .ref g5, .ref g6, .ref g7, .ref g8, .ref g9, .ref ga, .ref gb, .int (nI cl), .int (nI ln), .int (nI br), .int (nI lp), .int (nI va)])), (g1, .inl (ax 1, 20, .inl (fun j => nI (kd j)))), (g2, .inl (ax 1, 20, .inl (fun j => nI (ow j)))), (g3, .inl (ax 1, 20, .inl (fun j => nI (sb j)))), (g4, .inl (ax 1, 20, .inl (fun j => nI (f1 j)))), (g5, .inl (ax 1, 20, .inl (fun j => nI (f2 j)))), (g6, .inl (ax 2, 20, .inl (fun j => nI (te j)))), (g7, .inl (ax 2, 20, .inl (fun j => nI (kp j)))), (g8, .inl (ax 0, 20, .inl tm)), (g9, .inl (ax 1, 20, .inl (fun j => nI (nm j)))), (ga, .inl (ax 1, 29, .inl (fun j => nI (ck j)))), (gb, .inl (ax 1, 29, .inl (fun j => nI (co j))))] H → va_D A [(c0, .inr (3, [.ref n0, .ref c1, .ref g0, .ref a0, .int (nI k1)])), (c1, .inl (ax 0, 16, .inl sd1)), (n0, .inr (4, [.ref n1, .ref n2, .ref n3, .int 0])), (n1, .inl (ax 1, cp, .inl fo)), (n2, .inl (ax 0, cp, .inl fl)), (n3, .inl (ax 0, cp, .inl fr)), (h0, .inr (4, [.ref h1, .ref h2, .ref h3, .int (nI zs)])), (h1, .inl (ax 1, cs, .inl so)), (h2, .inl (ax 0, cs, .inl sl)), (h3, .inl (ax 0, cs, .inl sr)), (a0, .inr (4, [.ref a1, .ref a2, .ref a3, .int (nI za)])), (a1, .inl (ax 1, ca, .inl ao)), (a2, .inl (ax 0, ca, .inl al)), (a3, .inl (ax 0, ca, .inl ar)), (b0, .inr (4, [.ref b1, .ref b2, .ref b3, .int (nI zb)])), (b1, .inl (ax 1, cb, .inl bo)), (b2, .inl (ax 0, cb, .inl bl)), (b3, .inl (ax 0, cb, .inl bq)), (g0, .inr (2, [.ref h0, .ref g1, .ref g2, .ref g3, .ref g4, .ref g5, .ref g6, .ref g7, .ref g8, .ref g9, .ref ga, .ref gb, .int (nI cl), .int (nI ln), .int (nI br), .int (nI lp), .int (nI va)])), (g1, .inl (ax 1, 20, .inl (fun j => nI (kd j)))), (g2, .inl (ax 1, 20, .inl (fun j => nI (ow j)))), (g3, .inl (ax 1, 20, .inl (fun j => nI (sb j)))), (g4, .inl (ax 1, 20, .inl (fun j => nI (f1 j)))), (g5, .inl (ax 1, 20, .inl (fun j => nI (f2 j)))), (g6, .inl (ax 2, 20, .inl (fun j => nI (te j)))), (g7, .inl (ax 2, 20, .inl (fun j => nI (kp j)))), (g8, .inl (ax 0, 20, .inl tm)), (g9, .inl (ax 1, 20, .inl (fun j => nI (nm j)))), (ga, .inl (ax 1, 29, .inl (fun j => nI (ck j)))), (gb, .inl (ax 1, 29, .inl (fun j => nI (co j))))] → va_S A s.heap H locs → lv_has ls 8 [(0, .ref c0), (1, .ref g0), (2, .ref b0), (3, .ref a0), (4, .int (nI k1)), (5, .int (nI i1))] → W p l e (headSpec (xws (.code y_Maker_make b_Maker_make 8 none)) ({ frames := 1190, cells := MX - cp, slots := 6 * (MX - cp), locals := 27400 })).room s m ([.ref c0, .ref g0, .ref b0, .ref a0, .int (nI k1)] : List Value).toArray below meth c H locs 0 0 Z9 (F0 m 36 ls []) from key_8 (16 - 0 + 1) 0 sd (Nat.lt_succ_self _) (by first | assumption | omega) hsd (fun j hj => absurd hj (Nat.not_lt_zero _)) _ _ _ (hP.sub [0, 1, 26, 27, 28, 29, 2, 3, 4, 5, 6, 7, 8, 9, 10, 11, 12, 13, 14, 15, 16, 17, 18, 19, 20, 21, 22, 23, 24, 25] rfl) (hD.sub [0, 1, 26, 27, 28, 29, 2, 3, 4, 5, 6, 7, 8, 9, 10, 11, 12, 13, 14, 15, 16, 17, 18, 19, 20, 21, 22, 23, 24, 25] (by decide) rfl) hS (lv_sub hl1 [1, 2, 3, 4, 5, 0] rfl)
    intro k_9
    induction k_9 with
    | zero =>
      intro i1 sd1 hk_11
      exact absurd hk_11 (Nat.not_lt_zero _)
    | succ k_9 ih_10 =>
      clear hP hD hS hl1
      intro i1 sd1 hk_11 hi1 hs1 hs7 H locs ls hP hD hS hl1
      refine lv_iload hx hb d_Maker_make_36 (lv_at hl1 5 rfl) ?_
      refine lv_aload_n hx hb d_Maker_make_38 rfl (lv_at hl1 0 rfl) ?_
      refine va_get (D := D) (ci := 3) (v := .ref c1) (C := R_Maker) (T := F_Maker) (N := 5) hx hb hts i_Maker hown hK.1 hP 0 rfl rfl 1 (by decide) (hts _ wd_131) (fun _ h9 => h9) rfl d_Maker_make_39 ?_
      refine va_alen hx hb hK.1 hP 1 0 rfl rfl (v := 16) (by first | decide | rfl) d_Maker_make_42 ?_
      refine lv_icmp_ge (tgt := 61) hx hb d_Maker_make_43 (by decide) (fun c_12 => ?_) (fun c_12 => ?_)
      · replace c_12 : 16 ≤ i1 := (nI_leI (a := 16) (b := i1) (by decide) (by first | exact Nat.lt_of_lt_of_le (by assumption) (by decide) | exact Nat.lt_of_le_of_lt (by assumption) (by decide) | omega)).mp c_12
        have hln := hlw.1.1
        have hzz := hlw.2.2
        have hcq := hcm.clq hk1
        have hwT := wpw_top (kd := kd) (kc := kc) (B := 460) (s := 0) (Nat.le_trans hcm.1 hbr) hlw.1.2.2.2 hln
        have hnv0 : ndv fo fl fr 0 := ndv.z0
        have hnl0 : ndl fo fl fr [] ∧ ([] : List sgT).length = 0 := ⟨ndl_0, rfl⟩
        have hsq7 : sdq sd1 idT := sdq_id (fun j hj => hs7 j (by first | assumption | omega))
        refine lv_aload_n hx hb d_Maker_make_61 rfl (lv_at hl1 0 rfl) ?_
        refine va_get (D := D) (ci := 3) (v := .ref g0) (C := R_Maker) (T := F_Maker) (N := 5) hx hb hts i_Maker hown hK.1 hP 0 rfl rfl 2 (by decide) (hts _ wd_132) (fun _ h9 => h9) rfl d_Maker_make_62 ?_
        refine va_get (D := D) (ci := 2) (v := .ref gb) (C := R_Listing) (T := F_Listing) (N := 17) hx hb hts i_Listing hown hK.1 hP 18 rfl rfl 11 (by decide) (hts _ wd_304) (fun _ h9 => h9) rfl d_Maker_make_65 ?_
        refine lv_iload hx hb d_Maker_make_68 (lv_at hl1 4 rfl) ?_
        refine va_bald hx hb hK.1 hP 29 1 rfl rfl (vp_in_nI (by first | assumption | omega) (by decide)) d_Maker_make_70 ?_
        refine W.eq (g2 := F0 m 71 ls [.int (nI (co k1))]) (by rw [nI_clamp (by first | exact Nat.lt_of_lt_of_le (by assumption) (by decide) | exact Nat.lt_of_le_of_lt (by assumption) (by decide) | omega)]) ?_
        refine lv_istore (lv' := [(5, .int (nI (co k1))), (0, .ref c0), (1, .ref g0), (2, .ref b0), (3, .ref a0), (4, .int (nI k1))]) hx hb d_Maker_make_71 hl1 (by decide) rfl (fun ls hl2 => ?_)
        clear hl1; have hl1 := hl2; clear hl2
        refine lv_iload hx hb d_Maker_make_73 (lv_at hl1 0 rfl) ?_
        refine lv_iconst (v := (-1)) hx hb d_Maker_make_75 (by decide) ?_
        by_cases hn_13 : co k1 = 4294967295
        · refine W.eq (g2 := F0 m 76 ls [.int (-1), .int (-1)]) (by rw [hn_13, nIm]) ?_
          refine lv_icmp_ne (tgt := 91) hx hb d_Maker_make_76 (by decide) (fun c_14 => ?_) (fun c_14 => ?_)
          · first | exact absurd c_14 (by decide) | exact absurd (by decide) c_14
          refine lv_aload_n hx hb d_Maker_make_79 rfl (lv_at hl1 1 rfl) ?_
          refine lv_aload_n hx hb d_Maker_make_80 rfl (lv_at hl1 3 rfl) ?_
          refine lv_aload_n hx hb d_Maker_make_81 rfl (lv_at hl1 3 rfl) ?_
          obtain ⟨hPc, hDc, hFc, hCs⟩ := xw_sub3 (wc := [(b0, .inr (4, [.ref b1, .ref b2, .ref b3, .int (nI zb)])), (b1, .inl (ax 1, cb, .inl bo)), (b2, .inl (ax 0, cb, .inl bl)), (b3, .inl (ax 0, cb, .inl bq))]) hP hD hS hA [14, 15, 16, 17] (by decide) rfl
          have hz := xz_of hN hS
          refine va_calli (va_runV (As := []) (rest := [.ref b0, .ref c0]) ⟨hx, hb, hml, hown, hts⟩ (c_Nodes_root l D ax b0 b1 b2 b3 cb zb bo bl bq H.size (by first | assumption | omega)) (xcV (n := 0) hts wd_772 wd_5 wd_769 wd_770 wd_771 rfl rfl (by decide +kernel) ⟨(show (10) + 1 ≤ (1190) by omega), (show 8 + (1 + 11) + (400) ≤ (27400) by omega)⟩) (xpV (ci := 4) (q0 := 0) (As := []) hPc hK hz hDc rfl rfl) rfl rfl hl1.1 rfl (lv_room (Nat.le_of_ble_eq_true rfl)) d_Maker_make_82 ⟨(show (0) + (0) ≤ (MX - cp) by omega), (show (0) + (0) ≤ (6 * (MX - cp)) by omega)⟩) hS (fun q _ h => hFc q h) hFc (fun r_17 u_15 t H_16 locs ht hvm hw hB hz1 hk1 hS1 => ?_)
          try dsimp only at hw
          subst hw
          obtain ⟨hP1, hD1⟩ := hB
          rw [ht] at hP1
          have hjn := xw_join3 (wl := [(c0, .inr (3, [.ref n0, .ref c1, .ref g0, .ref a0, .int (nI k1)])), (c1, .inl (ax 0, 16, .inl sd1)), (n0, .inr (4, [.ref n1, .ref n2, .ref n3, .int 0])), (n1, .inl (ax 1, cp, .inl fo)), (n2, .inl (ax 0, cp, .inl fl)), (n3, .inl (ax 0, cp, .inl fr)), (h0, .inr (4, [.ref h1, .ref h2, .ref h3, .int (nI zs)])), (h1, .inl (ax 1, cs, .inl so)), (h2, .inl (ax 0, cs, .inl sl)), (h3, .inl (ax 0, cs, .inl sr)), (a0, .inr (4, [.ref a1, .ref a2, .ref a3, .int (nI za)])), (a1, .inl (ax 1, ca, .inl ao)), (a2, .inl (ax 0, ca, .inl al)), (a3, .inl (ax 0, ca, .inl ar)), (g0, .inr (2, [.ref h0, .ref g1, .ref g2, .ref g3, .ref g4, .ref g5, .ref g6, .ref g7, .ref g8, .ref g9, .ref ga, .ref gb, .int (nI cl), .int (nI ln), .int (nI br), .int (nI lp), .int (nI va)])), (g1, .inl (ax 1, 20, .inl (fun j => nI (kd j)))), (g2, .inl (ax 1, 20, .inl (fun j => nI (ow j)))), (g3, .inl (ax 1, 20, .inl (fun j => nI (sb j)))), (g4, .inl (ax 1, 20, .inl (fun j => nI (f1 j)))), (g5, .inl (ax 1, 20, .inl (fun j => nI (f2 j)))), (g6, .inl (ax 2, 20, .inl (fun j => nI (te j)))), (g7, .inl (ax 2, 20, .inl (fun j => nI (kp j)))), (g8, .inl (ax 0, 20, .inl tm)), (g9, .inl (ax 1, 20, .inl (fun j => nI (nm j)))), (ga, .inl (ax 1, 29, .inl (fun j => nI (ck j)))), (gb, .inl (ax 1, 29, .inl (fun j => nI (co j)))), (b0, .inr (4, [.ref b1, .ref b2, .ref b3, .int (nI zb)])), (b1, .inl (ax 1, cb, .inl bo)), (b2, .inl (ax 0, cb, .inl bl)), (b3, .inl (ax 0, cb, .inl bq))]) hP hD [14, 15, 16, 17] [0, 1, 2, 3, 4, 5, 6, 7, 8, 9, 10, 11, 12, 13, 18, 19, 20, 21, 22, 23, 24, 25, 26, 27, 28, 29] hCs (by decide) (by decide) hk1 hFc hP1 hD1 rfl
          clear hP1 hD1
          clear hPc hDc hFc hCs hz hz1 hk1 ht hvm
          clear hP hD hS
          have hS := hS1
          obtain ⟨hP, hD⟩ := hjn
          clear hS1
          obtain ⟨hPc, hDc, hFc, hCs⟩ := xw_sub3 (wc := [(c0, .inr (3, [.ref n0, .ref c1, (.ref g0), (.ref a0), .int (nI k1)])), (c1, .inl (ax 0, 16, .inl sd1)), (n0, .inr (4, [.ref n1, .ref n2, .ref n3, .int (nI 0)])), (n1, .inl (ax 1, cp, .inl fo)), (n2, .inl (ax 0, cp, .inl fl)), (n3, .inl (ax 0, cp, .inl fr)), (b0, .inr (4, [.ref b1, .ref b2, .ref b3, .int (nI zb)])), (b1, .inl (ax 1, cb, .inl bo)), (b2, .inl (ax 0, cb, .inl bl)), (b3, .inl (ax 0, cb, .inl bq))]) hP hD hS hA [0, 1, 2, 3, 4, 5, 26, 27, 28, 29] (by decide) rfl
          have hz := xz_of hN hS
          refine wk_know (fun hk8 hk9 => ?_)
          refine va_calli (va_runV (As := [.ref b0, .int (nI (zb - 1))]) (rest := []) ⟨hx, hb, hml, hown, hts⟩ ((K_copy_all l (zb - 1)) D ax c0 c1 (.ref g0) (.ref a0) (nI k1) sd1 n0 n1 n2 n3 cp 0 fo fl fr b0 b1 b2 b3 zb cb bo bl bq MX pr ([] : List sgT) idT 1023 H_16.size (tsl H_16) (by first | assumption | omega) (by first | assumption | omega) (by first | assumption | omega) (by first | assumption | omega) (by assumption) (by assumption) (by assumption) hzb hcb (by first | assumption | omega) hbv (by first | assumption | omega) hbg (by assumption) (sdq.s (by assumption))) (xcV (n := 2) hts wd_776 wd_4 wd_773 wd_775 ps_23 rfl rfl (by decide +kernel) ⟨(show (50 + 2 * (zb - 1)) + 1 ≤ (1190) by omega), (show 8 + (5 + 11) + (2000 + 40 * (zb - 1)) ≤ (27400) by omega)⟩) (xpV3 (ci := 3) (q0 := 0) (As := [.ref b0, .int (nI (zb - 1))]) hPc hK hz hDc rfl rfl) rfl rfl hl1.1 rfl (lv_room (Nat.le_of_ble_eq_true rfl)) d_Maker_make_85 ⟨(show (0) + (MX - cp) ≤ (MX - cp) by omega), (show (0) + (6 * (MX - cp)) ≤ (6 * (MX - cp)) by omega)⟩) hS (fun q _ h => hFc q h) hFc (fun r_20 u_18 t H_19 locs ht hvm hw hB hz1 hk1 hS1 => ?_)
          try dsimp only at hw
          obtain ⟨hw, hs_21, hs_22, hs_23, hs_24, hs_25, hs_26, hs_27⟩ := hw
          subst hw
          obtain ⟨x_28, x_29, x_30, hg8, hg9, hx_31, hx_32, hx_33, hx_34, hx_35, hx_36, hP1, hD1⟩ := hB
          rw [ht] at hg8 hg9 hP1
          have hjn := xw_join3 (wl := [(h0, .inr (4, [.ref h1, .ref h2, .ref h3, .int (nI zs)])), (h1, .inl (ax 1, cs, .inl so)), (h2, .inl (ax 0, cs, .inl sl)), (h3, .inl (ax 0, cs, .inl sr)), (a0, .inr (4, [.ref a1, .ref a2, .ref a3, .int (nI za)])), (a1, .inl (ax 1, ca, .inl ao)), (a2, .inl (ax 0, ca, .inl al)), (a3, .inl (ax 0, ca, .inl ar)), (g0, .inr (2, [.ref h0, .ref g1, .ref g2, .ref g3, .ref g4, .ref g5, .ref g6, .ref g7, .ref g8, .ref g9, .ref ga, .ref gb, .int (nI cl), .int (nI ln), .int (nI br), .int (nI lp), .int (nI va)])), (g1, .inl (ax 1, 20, .inl (fun j => nI (kd j)))), (g2, .inl (ax 1, 20, .inl (fun j => nI (ow j)))), (g3, .inl (ax 1, 20, .inl (fun j => nI (sb j)))), (g4, .inl (ax 1, 20, .inl (fun j => nI (f1 j)))), (g5, .inl (ax 1, 20, .inl (fun j => nI (f2 j)))), (g6, .inl (ax 2, 20, .inl (fun j => nI (te j)))), (g7, .inl (ax 2, 20, .inl (fun j => nI (kp j)))), (g8, .inl (ax 0, 20, .inl tm)), (g9, .inl (ax 1, 20, .inl (fun j => nI (nm j)))), (ga, .inl (ax 1, 29, .inl (fun j => nI (ck j)))), (gb, .inl (ax 1, 29, .inl (fun j => nI (co j)))), (c0, .inr (3, [.ref n0, .ref c1, .ref g0, .ref a0, .int (nI k1)])), (c1, .inl (ax 0, 16, .inl sd1)), (n0, .inr (4, [.ref (u_18 0), .ref (u_18 1), .ref (u_18 2), .int (nI (u_18 3))])), ((u_18 0), .inl (ax 1, u_18 4, .inl x_28)), ((u_18 1), .inl (ax 0, u_18 4, .inl x_29)), ((u_18 2), .inl (ax 0, u_18 4, .inl x_30)), (b0, .inr (4, [.ref b1, .ref b2, .ref b3, .int (nI zb)])), (b1, .inl (ax 1, cb, .inl bo)), (b2, .inl (ax 0, cb, .inl bl)), (b3, .inl (ax 0, cb, .inl bq))]) hP hD [0, 1, 2, 3, 4, 5, 26, 27, 28, 29] [6, 7, 8, 9, 10, 11, 12, 13, 14, 15, 16, 17, 18, 19, 20, 21, 22, 23, 24, 25] hCs (by decide) (by decide) hk1 hFc hP1 hD1 rfl
          clear hP1 hD1
          clear hPc hDc hFc hCs hz hz1 hk1 ht hvm
          clear hP hD hS
          have hS := hS1
          obtain ⟨hP, hD⟩ := hjn
          clear hS1
          refine wk_narrow (k := u_18 4 - cp) (n := 6 * (u_18 4 - cp)) (by first | assumption | omega) (by first | assumption | omega) ?_
          clear hk8 hk9 hg8 hg9
          have hck := hcq.none hn_13 hln
          have hK_37 : ∀ i, i < 0 → tsn x_28 x_29 x_30 i = tsn fo fl fr i := fun i hi => hx_33 i hi
          have hZ_38 : ndl x_28 x_29 x_30 (([]) ++ pr) ∧ (([]) ++ pr).length = u_18 3 := by have h9 := hx_35; rw [srk_root hbg hbc] at h9; exact h9
          refine lv_goto (tgt := 107) hx hb d_Maker_make_88 (by decide) ?_
          refine lv_istore (lv' := [(6, .int (nI (u_18 5))), (5, .int (nI (co k1))), (0, .ref c0), (1, .ref g0), (2, .ref b0), (3, .ref a0), (4, .int (nI k1))]) hx hb d_Maker_make_107 hl1 (by decide) rfl (fun ls hl2 => ?_)
          clear hl1; have hl1 := hl2; clear hl2
          refine lv_aload_n hx hb d_Maker_make_109 rfl (lv_at hl1 2 rfl) ?_
          refine va_get (D := D) (ci := 3) (v := .ref n0) (C := R_Maker) (T := F_Maker) (N := 5) hx hb hts i_Maker hown hK.1 hP 20 rfl rfl 0 (by decide) (hts _ wd_129) (fun _ h9 => h9) rfl d_Maker_make_110 ?_
          refine lv_bipush (v := 6) hx hb d_Maker_make_113 (by decide) ?_
          refine lv_iload hx hb d_Maker_make_115 (lv_at hl1 0 rfl) ?_
          refine lv_iconst (v := (-1)) hx hb d_Maker_make_117 (by decide) ?_
          obtain ⟨hPc, hDc, hFc, hCs⟩ := xw_sub3 (wc := [(n0, .inr (4, [.ref (u_18 0), .ref (u_18 1), .ref (u_18 2), .int (nI (u_18 3))])), ((u_18 0), .inl (ax 1, u_18 4, .inl x_28)), ((u_18 1), .inl (ax 0, u_18 4, .inl x_29)), ((u_18 2), .inl (ax 0, u_18 4, .inl x_30))]) hP hD hS hA [22, 23, 24, 25] (by decide) rfl
          have hz := xz_of hN hS
          refine wk_know (fun hk8 hk9 => ?_)
          refine va_calli (va_runV (As := [.int 6, .int (nI (u_18 5)), .int (-1)]) (rest := []) ⟨hx, hb, hml, hown, hts⟩ (c_Nodes_add l D ax n0 (u_18 0) (u_18 1) (u_18 2) (u_18 4) (u_18 3) x_28 x_29 x_30 MX 6 (nI (u_18 5)) (-1) H_19.size (tsl H_19) (by first | assumption | omega) (by first | assumption | omega) (by first | assumption | omega) (by first | assumption | omega) (by first | assumption | omega) (by assumption)) (xcV (n := 3) hts wd_350 wd_5 wd_781 wd_348 wd_349 rfl rfl (by decide +kernel) ⟨(show (30) + 1 ≤ (1190) by omega), (show 8 + (4 + 11) + (1200) ≤ (27400) by omega)⟩) (xpV3 (ci := 4) (q0 := 0) (As := [.int 6, .int (nI (u_18 5)), .int (-1)]) hPc hK hz hDc rfl rfl) rfl rfl hl1.1 rfl (lv_room (Nat.le_of_ble_eq_true rfl)) d_Maker_make_118 ⟨(show (u_18 4 - cp) + (MX - (u_18 4)) ≤ (MX - cp) by omega), (show (6 * (u_18 4 - cp)) + (6 * (MX - (u_18 4))) ≤ (6 * (MX - cp)) by omega)⟩) hS (fun q _ h => hFc q h) hFc (fun r_41 u_39 t H_40 locs ht hvm hw hB hz1 hk1 hS1 => ?_)
          try dsimp only at hw
          obtain ⟨hw, hs_42, hs_43, hs_44, hs_45⟩ := hw
          subst hw
          obtain ⟨x_46, x_47, x_48, hg8, hg9, hx_49, hx_50, hP1, hD1⟩ := hB
          rw [ht] at hg8 hg9 hP1
          have hjn := xw_join3 (wl := [(h0, .inr (4, [.ref h1, .ref h2, .ref h3, .int (nI zs)])), (h1, .inl (ax 1, cs, .inl so)), (h2, .inl (ax 0, cs, .inl sl)), (h3, .inl (ax 0, cs, .inl sr)), (a0, .inr (4, [.ref a1, .ref a2, .ref a3, .int (nI za)])), (a1, .inl (ax 1, ca, .inl ao)), (a2, .inl (ax 0, ca, .inl al)), (a3, .inl (ax 0, ca, .inl ar)), (g0, .inr (2, [.ref h0, .ref g1, .ref g2, .ref g3, .ref g4, .ref g5, .ref g6, .ref g7, .ref g8, .ref g9, .ref ga, .ref gb, .int (nI cl), .int (nI ln), .int (nI br), .int (nI lp), .int (nI va)])), (g1, .inl (ax 1, 20, .inl (fun j => nI (kd j)))), (g2, .inl (ax 1, 20, .inl (fun j => nI (ow j)))), (g3, .inl (ax 1, 20, .inl (fun j => nI (sb j)))), (g4, .inl (ax 1, 20, .inl (fun j => nI (f1 j)))), (g5, .inl (ax 1, 20, .inl (fun j => nI (f2 j)))), (g6, .inl (ax 2, 20, .inl (fun j => nI (te j)))), (g7, .inl (ax 2, 20, .inl (fun j => nI (kp j)))), (g8, .inl (ax 0, 20, .inl tm)), (g9, .inl (ax 1, 20, .inl (fun j => nI (nm j)))), (ga, .inl (ax 1, 29, .inl (fun j => nI (ck j)))), (gb, .inl (ax 1, 29, .inl (fun j => nI (co j)))), (c0, .inr (3, [.ref n0, .ref c1, .ref g0, .ref a0, .int (nI k1)])), (c1, .inl (ax 0, 16, .inl sd1)), (b0, .inr (4, [.ref b1, .ref b2, .ref b3, .int (nI zb)])), (b1, .inl (ax 1, cb, .inl bo)), (b2, .inl (ax 0, cb, .inl bl)), (b3, .inl (ax 0, cb, .inl bq)), (n0, .inr (4, [.ref (u_39 0), .ref (u_39 1), .ref (u_39 2), .int (nI ((u_18 3) + 1))])), ((u_39 0), .inl (ax 1, u_39 3, .inl x_46)), ((u_39 1), .inl (ax 0, u_39 3, .inl x_47)), ((u_39 2), .inl (ax 0, u_39 3, .inl x_48))]) hP hD [22, 23, 24, 25] [0, 1, 2, 3, 4, 5, 6, 7, 8, 9, 10, 11, 12, 13, 14, 15, 16, 17, 18, 19, 20, 21, 26, 27, 28, 29] hCs (by decide) (by decide) hk1 hFc hP1 hD1 rfl
          clear hP1 hD1
          clear hPc hDc hFc hCs hz hz1 hk1 ht hvm
          clear hP hD hS
          have hS := hS1
          obtain ⟨hP, hD⟩ := hjn
          clear hS1
          refine wk_narrow (k := u_18 4 - cp + (u_39 3 - (u_18 4))) (n := 6 * (u_18 4 - cp) + (6 * (u_39 3 - (u_18 4)))) (by first | assumption | omega) (by first | assumption | omega) ?_
          clear hk8 hk9 hg8 hg9
          have hZ_51 : ndl x_46 x_47 x_48 (([] : List sgT) ++ (pr ++ [opS 1])) ∧ (([] : List sgT) ++ (pr ++ [opS 1])).length = (u_18 3) + 1 := not_q hZ_38 (by first | assumption | omega) hx_49
          have hY_52 : ∃ d, cmpl d ((pr ++ [opS 1])) := cmx_n ⟨18, hbc⟩
          have hV_53 : ndv x_46 x_47 x_48 ((u_18 3) + 1) := hx_31.add hx_49 (nd_not (by first | assumption | omega))
          have hT_54 : tsn x_46 x_47 x_48 (u_18 3) = 1 + tsn x_28 x_29 x_30 (u_18 5) := nad.not (by first | assumption | omega) hx_31 (by first | assumption | omega) hx_49
          have hG_55 : ∀ i, i < u_18 3 → tsn x_46 x_47 x_48 i = tsn x_28 x_29 x_30 i := fun i hi => nad.keep (by first | assumption | omega) hx_31 hx_49 hi
          have hB_56 : tsn x_46 x_47 x_48 (u_18 3) + 0 ≤ ((u_18 3) + 1) := by omega
          have hK_57 : ∀ i, i < 0 → tsn x_46 x_47 x_48 i = tsn fo fl fr i := fun i hi => (hG_55 i (by first | assumption | omega)).trans (hK_37 i hi)
          refine lv_istore (lv' := [(7, .int (nI (u_18 3))), (6, .int (nI (u_18 5))), (5, .int (nI (co k1))), (0, .ref c0), (1, .ref g0), (2, .ref b0), (3, .ref a0), (4, .int (nI k1))]) hx hb d_Maker_make_121 hl1 (by decide) rfl (fun ls hl2 => ?_)
          clear hl1; have hl1 := hl2; clear hl2
          refine lv_aload_n hx hb d_Maker_make_123 rfl (lv_at hl1 3 rfl) ?_
          refine va_get (D := D) (ci := 3) (v := .ref n0) (C := R_Maker) (T := F_Maker) (N := 5) hx hb hts i_Maker hown hK.1 hP 20 rfl rfl 0 (by decide) (hts _ wd_129) (fun _ h9 => h9) rfl d_Maker_make_124 ?_
          refine lv_bipush (v := 8) hx hb d_Maker_make_127 (by decide) ?_
          refine lv_iload hx hb d_Maker_make_129 (lv_at hl1 0 rfl) ?_
          refine lv_aload_n hx hb d_Maker_make_131 rfl (lv_at hl1 3 rfl) ?_
          refine lv_aload_n hx hb d_Maker_make_132 rfl (lv_at hl1 3 rfl) ?_
          refine va_get (D := D) (ci := 3) (v := .ref g0) (C := R_Maker) (T := F_Maker) (N := 5) hx hb hts i_Maker hown hK.1 hP 20 rfl rfl 2 (by decide) (hts _ wd_132) (fun _ h9 => h9) rfl d_Maker_make_133 ?_
          refine va_get (D := D) (ci := 2) (v := .ref ga) (C := R_Listing) (T := F_Listing) (N := 17) hx hb hts i_Listing hown hK.1 hP 8 rfl rfl 10 (by decide) (hts _ wd_301) (fun _ h9 => h9) rfl d_Maker_make_136 ?_
          refine lv_iload hx hb d_Maker_make_139 (lv_at hl1 7 rfl) ?_
          refine va_bald hx hb hK.1 hP 18 1 rfl rfl (vp_in_nI (by first | assumption | omega) (by decide)) d_Maker_make_141 ?_
          refine W.eq (g2 := F0 m 142 ls [.int (nI (ck k1)), .ref c0, .int (nI (u_18 3)), .int 8, .ref n0]) (by rw [nI_clamp (by first | exact Nat.lt_of_lt_of_le (by assumption) (by decide) | exact Nat.lt_of_le_of_lt (by assumption) (by decide) | omega)]) ?_
          refine lv_iload hx hb d_Maker_make_142 (lv_at hl1 2 rfl) ?_
          obtain ⟨hPc, hDc, hFc, hCs⟩ := xw_sub3 (wc := [(c0, .inr (3, [.ref n0, .ref c1, .ref g0, .ref a0, .int (nI k1)])), (c1, .inl (ax 0, 16, .inl sd1)), (n0, .inr (4, [.ref (u_39 0), .ref (u_39 1), .ref (u_39 2), .int (nI ((u_18 3) + 1))])), ((u_39 0), .inl (ax 1, u_39 3, .inl x_46)), ((u_39 1), .inl (ax 0, u_39 3, .inl x_47)), ((u_39 2), .inl (ax 0, u_39 3, .inl x_48)), (h0, .inr (4, [.ref h1, .ref h2, .ref h3, .int (nI zs)])), (h1, .inl (ax 1, cs, .inl so)), (h2, .inl (ax 0, cs, .inl sl)), (h3, .inl (ax 0, cs, .inl sr)), (a0, .inr (4, [.ref a1, .ref a2, .ref a3, .int (nI za)])), (a1, .inl (ax 1, ca, .inl ao)), (a2, .inl (ax 0, ca, .inl al)), (a3, .inl (ax 0, ca, .inl ar)), (g0, .inr (2, [.ref h0, .ref g1, .ref g2, .ref g3, .ref g4, .ref g5, .ref g6, .ref g7, .ref g8, .ref g9, .ref ga, .ref gb, .int (nI cl), .int (nI ln), .int (nI br), .int (nI lp), .int (nI va)])), (g1, .inl (ax 1, 20, .inl (fun j => nI (kd j)))), (g2, .inl (ax 1, 20, .inl (fun j => nI (ow j)))), (g3, .inl (ax 1, 20, .inl (fun j => nI (sb j)))), (g4, .inl (ax 1, 20, .inl (fun j => nI (f1 j)))), (g5, .inl (ax 1, 20, .inl (fun j => nI (f2 j)))), (g6, .inl (ax 2, 20, .inl (fun j => nI (te j)))), (g7, .inl (ax 2, 20, .inl (fun j => nI (kp j)))), (g8, .inl (ax 0, 20, .inl tm)), (g9, .inl (ax 1, 20, .inl (fun j => nI (nm j)))), (ga, .inl (ax 1, 29, .inl (fun j => nI (ck j)))), (gb, .inl (ax 1, 29, .inl (fun j => nI (co j))))]) hP hD hS hA [20, 21, 26, 27, 28, 29, 0, 1, 2, 3, 4, 5, 6, 7, 8, 9, 10, 11, 12, 13, 14, 15, 16, 17, 18, 19] (by decide) rfl
          have hz := xz_of hN hS
          refine wk_know (fun hk8 hk9 => ?_)
          refine va_calli (va_runV (As := [.int (nI (ck k1)), .int (nI (co k1))]) (rest := [.int (nI (u_18 3)), .int 8, .ref n0]) ⟨hx, hb, hml, hown, hts⟩ (c_K_conclusion l D ax c0 c1 (nI k1) sd1 n0 (u_39 0) (u_39 1) (u_39 2) (u_39 3) ((u_18 3) + 1) x_46 x_47 x_48 h0 h1 h2 h3 zs cs so sl sr a0 a1 a2 a3 za ca ao al ar g0 g1 g2 g3 g4 g5 g6 g7 g8 g9 ga gb cl ln br lp va kd ow sb f1 f2 te kp nm ck co tm MX en kc lz9 (([] : List sgT) ++ (pr ++ [opS 1])) po idT IT X Y (ck k1) (co k1) H_40.size (tsl H_40) (by first | assumption | omega) (by first | assumption | omega) (by first | assumption | omega) hMX (by assumption) (by assumption) (by assumption) hzs hcs hsv hza hca hz1 hz4 hav hat hlw hlg (by assumption) (by assumption) hcq (by first | assumption | omega) hln1 (by first | assumption | omega) rfl) (xcV (n := 2) hts wd_789 wd_4 wd_786 wd_788 ps_26 rfl rfl (by decide +kernel) ⟨(show (1180) + 1 ≤ (1190) by omega), (show 8 + (3 + 11) + (27300) ≤ (27400) by omega)⟩) (xpV3 (ci := 3) (q0 := 0) (As := [.int (nI (ck k1)), .int (nI (co k1))]) hPc hK hz hDc rfl rfl) rfl rfl hl1.1 rfl (lv_room (Nat.le_of_ble_eq_true rfl)) d_Maker_make_144 ⟨(show (u_18 4 - cp + (u_39 3 - (u_18 4))) + (MX - (u_39 3)) ≤ (MX - cp) by omega), (show (6 * (u_18 4 - cp) + (6 * (u_39 3 - (u_18 4)))) + (6 * (MX - (u_39 3))) ≤ (6 * (MX - cp)) by omega)⟩) hS (fun q _ h => hFc q h) hFc (fun r_60 u_58 t H_59 locs ht hvm hw hB hz1 hk1 hS1 => ?_)
          try dsimp only at hw
          obtain ⟨hw, hs_61, hs_62, hs_63, hs_64, hs_65, hs_66, hs_67⟩ := hw
          subst hw
          obtain ⟨x_68, x_69, x_70, x_71, hg8, hg9, hx_72, hx_73, hx_74, hx_75, hx_76, hx_77, hx_78, hx_79, hP1, hD1⟩ := hB
          rw [ht] at hg8 hg9 hP1
          have hjn := xw_join3 (wl := [(b0, .inr (4, [.ref b1, .ref b2, .ref b3, .int (nI zb)])), (b1, .inl (ax 1, cb, .inl bo)), (b2, .inl (ax 0, cb, .inl bl)), (b3, .inl (ax 0, cb, .inl bq)), (c0, .inr (3, [.ref n0, .ref c1, .ref g0, .ref a0, .int (nI k1)])), (c1, .inl (ax 0, 16, .inl x_68)), (n0, .inr (4, [.ref (u_58 0), .ref (u_58 1), .ref (u_58 2), .int (nI (u_58 3))])), ((u_58 0), .inl (ax 1, u_58 4, .inl x_69)), ((u_58 1), .inl (ax 0, u_58 4, .inl x_70)), ((u_58 2), .inl (ax 0, u_58 4, .inl x_71)), (h0, .inr (4, [.ref h1, .ref h2, .ref h3, .int (nI zs)])), (h1, .inl (ax 1, cs, .inl so)), (h2, .inl (ax 0, cs, .inl sl)), (h3, .inl (ax 0, cs, .inl sr)), (a0, .inr (4, [.ref a1, .ref a2, .ref a3, .int (nI za)])), (a1, .inl (ax 1, ca, .inl ao)), (a2, .inl (ax 0, ca, .inl al)), (a3, .inl (ax 0, ca, .inl ar)), (g0, .inr (2, [.ref h0, .ref g1, .ref g2, .ref g3, .ref g4, .ref g5, .ref g6, .ref g7, .ref g8, .ref g9, .ref ga, .ref gb, .int (nI cl), .int (nI ln), .int (nI br), .int (nI lp), .int (nI va)])), (g1, .inl (ax 1, 20, .inl (fun j => nI (kd j)))), (g2, .inl (ax 1, 20, .inl (fun j => nI (ow j)))), (g3, .inl (ax 1, 20, .inl (fun j => nI (sb j)))), (g4, .inl (ax 1, 20, .inl (fun j => nI (f1 j)))), (g5, .inl (ax 1, 20, .inl (fun j => nI (f2 j)))), (g6, .inl (ax 2, 20, .inl (fun j => nI (te j)))), (g7, .inl (ax 2, 20, .inl (fun j => nI (kp j)))), (g8, .inl (ax 0, 20, .inl tm)), (g9, .inl (ax 1, 20, .inl (fun j => nI (nm j)))), (ga, .inl (ax 1, 29, .inl (fun j => nI (ck j)))), (gb, .inl (ax 1, 29, .inl (fun j => nI (co j))))]) hP hD [20, 21, 26, 27, 28, 29, 0, 1, 2, 3, 4, 5, 6, 7, 8, 9, 10, 11, 12, 13, 14, 15, 16, 17, 18, 19] [22, 23, 24, 25] hCs (by decide) (by decide) hk1 hFc hP1 hD1 rfl
          clear hP1 hD1
          clear hPc hDc hFc hCs hz hz1 hk1 ht hvm
          clear hP hD hS
          have hS := hS1
          obtain ⟨hP, hD⟩ := hjn
          clear hS1
          refine wk_narrow (k := u_18 4 - cp + (u_39 3 - (u_18 4)) + (u_58 4 - (u_39 3))) (n := 6 * (u_18 4 - cp) + (6 * (u_39 3 - (u_18 4))) + (6 * (u_58 4 - (u_39 3)))) (by first | assumption | omega) (by first | assumption | omega) ?_
          clear hk8 hk9 hg8 hg9
          have hK_80 : ∀ i, i < 0 → tsn x_69 x_70 x_71 i = tsn fo fl fr i := fun i hi => (hx_74 i (by first | assumption | omega)).trans (hK_57 i hi)
          have hS_81 : tsn x_69 x_70 x_71 (u_18 3) + 0 ≤ ((u_18 3) + 1) := by rw [hx_74 (u_18 3) (by first | assumption | omega)]; exact hB_56
          obtain ⟨hPc, hDc, hFc, hCs⟩ := xw_sub3 (wc := [(n0, .inr (4, [.ref (u_58 0), .ref (u_58 1), .ref (u_58 2), .int (nI (u_58 3))])), ((u_58 0), .inl (ax 1, u_58 4, .inl x_69)), ((u_58 1), .inl (ax 0, u_58 4, .inl x_70)), ((u_58 2), .inl (ax 0, u_58 4, .inl x_71))]) hP hD hS hA [6, 7, 8, 9] (by decide) rfl
          have hz := xz_of hN hS
          refine wk_know (fun hk8 hk9 => ?_)
          refine va_calli (va_runV (As := [.int 8, .int (nI (u_18 3)), .int (nI (u_58 5))]) (rest := []) ⟨hx, hb, hml, hown, hts⟩ (c_Nodes_add l D ax n0 (u_58 0) (u_58 1) (u_58 2) (u_58 4) (u_58 3) x_69 x_70 x_71 MX 8 (nI (u_18 3)) (nI (u_58 5)) H_59.size (tsl H_59) (by first | assumption | omega) (by first | assumption | omega) (by first | assumption | omega) (by first | assumption | omega) (by first | assumption | omega) (by assumption)) (xcV (n := 3) hts wd_350 wd_5 wd_781 wd_348 wd_349 rfl rfl (by decide +kernel) ⟨(show (30) + 1 ≤ (1190) by omega), (show 8 + (4 + 11) + (1200) ≤ (27400) by omega)⟩) (xpV3 (ci := 4) (q0 := 0) (As := [.int 8, .int (nI (u_18 3)), .int (nI (u_58 5))]) hPc hK hz hDc rfl rfl) rfl rfl hl1.1 rfl (lv_room (Nat.le_of_ble_eq_true rfl)) d_Maker_make_147 ⟨(show (u_18 4 - cp + (u_39 3 - (u_18 4)) + (u_58 4 - (u_39 3))) + (MX - (u_58 4)) ≤ (MX - cp) by omega), (show (6 * (u_18 4 - cp) + (6 * (u_39 3 - (u_18 4))) + (6 * (u_58 4 - (u_39 3)))) + (6 * (MX - (u_58 4))) ≤ (6 * (MX - cp)) by omega)⟩) hS (fun q _ h => hFc q h) hFc (fun r_84 u_82 t H_83 locs ht hvm hw hB hz1 hk1 hS1 => ?_)
          try dsimp only at hw
          obtain ⟨hw, hs_85, hs_86, hs_87, hs_88⟩ := hw
          subst hw
          obtain ⟨x_89, x_90, x_91, hg8, hg9, hx_92, hx_93, hP1, hD1⟩ := hB
          rw [ht] at hg8 hg9 hP1
          have hjn := xw_join3 (wl := [(b0, .inr (4, [.ref b1, .ref b2, .ref b3, .int (nI zb)])), (b1, .inl (ax 1, cb, .inl bo)), (b2, .inl (ax 0, cb, .inl bl)), (b3, .inl (ax 0, cb, .inl bq)), (c0, .inr (3, [.ref n0, .ref c1, .ref g0, .ref a0, .int (nI k1)])), (c1, .inl (ax 0, 16, .inl x_68)), (h0, .inr (4, [.ref h1, .ref h2, .ref h3, .int (nI zs)])), (h1, .inl (ax 1, cs, .inl so)), (h2, .inl (ax 0, cs, .inl sl)), (h3, .inl (ax 0, cs, .inl sr)), (a0, .inr (4, [.ref a1, .ref a2, .ref a3, .int (nI za)])), (a1, .inl (ax 1, ca, .inl ao)), (a2, .inl (ax 0, ca, .inl al)), (a3, .inl (ax 0, ca, .inl ar)), (g0, .inr (2, [.ref h0, .ref g1, .ref g2, .ref g3, .ref g4, .ref g5, .ref g6, .ref g7, .ref g8, .ref g9, .ref ga, .ref gb, .int (nI cl), .int (nI ln), .int (nI br), .int (nI lp), .int (nI va)])), (g1, .inl (ax 1, 20, .inl (fun j => nI (kd j)))), (g2, .inl (ax 1, 20, .inl (fun j => nI (ow j)))), (g3, .inl (ax 1, 20, .inl (fun j => nI (sb j)))), (g4, .inl (ax 1, 20, .inl (fun j => nI (f1 j)))), (g5, .inl (ax 1, 20, .inl (fun j => nI (f2 j)))), (g6, .inl (ax 2, 20, .inl (fun j => nI (te j)))), (g7, .inl (ax 2, 20, .inl (fun j => nI (kp j)))), (g8, .inl (ax 0, 20, .inl tm)), (g9, .inl (ax 1, 20, .inl (fun j => nI (nm j)))), (ga, .inl (ax 1, 29, .inl (fun j => nI (ck j)))), (gb, .inl (ax 1, 29, .inl (fun j => nI (co j)))), (n0, .inr (4, [.ref (u_82 0), .ref (u_82 1), .ref (u_82 2), .int (nI ((u_58 3) + 1))])), ((u_82 0), .inl (ax 1, u_82 3, .inl x_89)), ((u_82 1), .inl (ax 0, u_82 3, .inl x_90)), ((u_82 2), .inl (ax 0, u_82 3, .inl x_91))]) hP hD [6, 7, 8, 9] [0, 1, 2, 3, 4, 5, 10, 11, 12, 13, 14, 15, 16, 17, 18, 19, 20, 21, 22, 23, 24, 25, 26, 27, 28, 29] hCs (by decide) (by decide) hk1 hFc hP1 hD1 rfl
          clear hP1 hD1
          clear hPc hDc hFc hCs hz hz1 hk1 ht hvm
          clear hP hD hS
          have hS := hS1
          obtain ⟨hP, hD⟩ := hjn
          clear hS1
          refine wk_narrow (k := u_18 4 - cp + (u_39 3 - (u_18 4)) + (u_58 4 - (u_39 3)) + (u_82 3 - (u_58 4))) (n := 6 * (u_18 4 - cp) + (6 * (u_39 3 - (u_18 4))) + (6 * (u_58 4 - (u_39 3))) + (6 * (u_82 3 - (u_58 4)))) (by first | assumption | omega) (by first | assumption | omega) ?_
          clear hk8 hk9 hg8 hg9
          have hZ_94 : ndl x_89 x_90 x_91 (([] : List sgT) ++ ((pr ++ [opS 1]) ++ coF po X Y f1 (IT (co k1)) (ck k1) (co k1) ++ [opS 3])) ∧ (([] : List sgT) ++ ((pr ++ [opS 1]) ++ coF po X Y f1 (IT (co k1)) (ck k1) (co k1) ++ [opS 3])).length = (u_58 3) + 1 := bin_q (o := 3) (by decide) hZ_51.2 hx_77 hx_78 (by first | assumption | omega) (by first | assumption | omega) hx_92
          have hY_95 : ∃ d, cmpl d (((pr ++ [opS 1]) ++ coF po X Y f1 (IT (co k1)) (ck k1) (co k1) ++ [opS 3])) := cmx_b (by decide) hY_52 hx_78
          have hV_96 : ndv x_89 x_90 x_91 ((u_58 3) + 1) := hx_72.add hx_92 (nd_bin (o := 8) (by decide) (by first | assumption | omega) (by first | assumption | omega))
          have hT_97 : tsn x_89 x_90 x_91 (u_58 3) = 1 + tsn x_69 x_70 x_71 (u_18 3) + tsn x_69 x_70 x_71 (u_58 5) := nad.bin (o := 8) (by first | assumption | omega) hx_72 (by decide) (by first | assumption | omega) (by first | assumption | omega) hx_92
          have hG_98 : ∀ i, i < u_58 3 → tsn x_89 x_90 x_91 i = tsn x_69 x_70 x_71 i := fun i hi => nad.keep (by first | assumption | omega) hx_72 hx_92 hi
          have hB_99 : tsn x_89 x_90 x_91 (u_58 3) + 0 ≤ ((u_58 3) + 1) := by omega
          have hK_100 : ∀ i, i < 0 → tsn x_89 x_90 x_91 i = tsn fo fl fr i := fun i hi => (hG_98 i (by first | assumption | omega)).trans (hK_80 i hi)
          refine lv_pop hx hb d_Maker_make_150 rfl ?_
          rw [← hQe]
          refine wk_know (fun hk8 hk9 => ?_)
          refine W.widen (k := MX - cp) (n := 6 * (MX - cp)) (by first | assumption | omega) (by first | assumption | omega) ?_
          obtain ⟨hP9, hD9⟩ := xw_sub2 (wc := (fun (u : Nat → Nat) (xsd : Nat → Int32) (xmd : Int32) (xvl : Value) (xva : Value) (xfo : Nat → Int32) (xfl : Nat → Int32) (xfr : Nat → Int32) => [(c0, .inr (3, [.ref n0, .ref c1, xvl, xva, .int xmd])), (c1, .inl (ax 0, 16, .inl xsd)), (n0, .inr (4, [.ref (u 0), .ref (u 1), .ref (u 2), .int (nI (u 3))])), (u 0, .inl (ax 1, u 4, .inl xfo)), (u 1, .inl (ax 0, u 4, .inl xfl)), (u 2, .inl (ax 0, u 4, .inl xfr)), (h0, .inr (4, [.ref h1, .ref h2, .ref h3, .int (nI zs)])), (h1, .inl (ax 1, cs, .inl so)), (h2, .inl (ax 0, cs, .inl sl)), (h3, .inl (ax 0, cs, .inl sr)), (a0, .inr (4, [.ref a1, .ref a2, .ref a3, .int (nI za)])), (a1, .inl (ax 1, ca, .inl ao)), (a2, .inl (ax 0, ca, .inl al)), (a3, .inl (ax 0, ca, .inl ar)), (b0, .inr (4, [.ref b1, .ref b2, .ref b3, .int (nI zb)])), (b1, .inl (ax 1, cb, .inl bo)), (b2, .inl (ax 0, cb, .inl bl)), (b3, .inl (ax 0, cb, .inl bq)), (g0, .inr (2, [.ref h0, .ref g1, .ref g2, .ref g3, .ref g4, .ref g5, .ref g6, .ref g7, .ref g8, .ref g9, .ref ga, .ref gb, .int (nI cl), .int (nI ln), .int (nI br), .int (nI lp), .int (nI va)])), (g1, .inl (ax 1, 20, .inl (fun j => nI (kd j)))), (g2, .inl (ax 1, 20, .inl (fun j => nI (ow j)))), (g3, .inl (ax 1, 20, .inl (fun j => nI (sb j)))), (g4, .inl (ax 1, 20, .inl (fun j => nI (f1 j)))), (g5, .inl (ax 1, 20, .inl (fun j => nI (f2 j)))), (g6, .inl (ax 2, 20, .inl (fun j => nI (te j)))), (g7, .inl (ax 2, 20, .inl (fun j => nI (kp j)))), (g8, .inl (ax 0, 20, .inl tm)), (g9, .inl (ax 1, 20, .inl (fun j => nI (nm j)))), (ga, .inl (ax 1, 29, .inl (fun j => nI (ck j)))), (gb, .inl (ax 1, 29, .inl (fun j => nI (co j))))]) (ixn [(u_82 0), (u_82 1), (u_82 2), ((u_58 3) + 1), (u_82 3)]) x_68 (nI k1) (.ref g0) (.ref a0) x_89 x_90 x_91) hP hD [4, 5, 26, 27, 28, 29, 6, 7, 8, 9, 10, 11, 12, 13, 0, 1, 2, 3, 14, 15, 16, 17, 18, 19, 20, 21, 22, 23, 24, 25] (by decide) rfl
          have hex0 : ndv x_89 x_90 x_91 (((u_58 3) + 1)) := hV_96
          have hex1 : bts x_89 ((u_82 3)) := (by assumption)
          have hex2 : tsn x_89 x_90 x_91 (((u_58 3) + 1) - 1) ≤ 32768 := (by rw [Nat.add_sub_cancel]; omega)
          have hex3 : ∀ j, j ≤ 10 → trm (x_68 j) := hx_76
          have hex4 : (nI k1) = nI k1 := rfl
          have hex5 : (ndl x_89 x_90 x_91 (mkF pr po X Y f1 IT (ck k1) (co k1)) ∧ (mkF pr po X Y f1 IT (ck k1) (co k1)).length = ((u_58 3) + 1)) ∧ ∃ d, cmpl d (mkF pr po X Y f1 IT (ck k1) (co k1)) := (by rw [mk_n hn_13]; exact ⟨hZ_94, hY_95⟩)
          have hg8 : H_83.size ≤ s.heap.size + ((u_82 3) - cp) := by omega
          have hg9 : tsl H_83 ≤ tsl s.heap + (6 * ((u_82 3) - cp)) := by omega
          have hsp0 : 1 ≤ ((u_58 3) + 1) := (by first | assumption | omega)
          have hsp1 : ((u_58 3) + 1) ≤ 32768 := (by first | assumption | omega)
          have hsp2 : ((u_58 3) + 1) ≤ (u_82 3) := (by first | assumption | omega)
          have hsp3 : cp ≤ (u_82 3) := (by first | assumption | omega)
          have hsp4 : (u_82 3) ≤ MX := (by first | assumption | omega)
          have hsp5 : dbl cp ((u_82 3)) := (((hs_25.tr hs_45).tr hs_65).tr hs_88)
          exact W.vret hx hb hr (fun t ht hW => ⟨⟨ixn [(u_82 0), (u_82 1), (u_82 2), ((u_58 3) + 1), (u_82 3)], rfl, ⟨hsp0, hsp1, hsp2, hsp3, hsp4, hsp5⟩, ⟨x_68, nI k1, (.ref g0), (.ref a0), x_89, x_90, x_91, by rw [ht]; exact hg8, by rw [ht]; exact hg9, hex0, hex1, hex2, hex3, hex4, hex5, by rw [ht]; exact hP9, hD9⟩⟩, hS.F ht⟩) hS.2.2 d_Maker_make_151
        · have hn_13l : co k1 < 2 ^ 31 := by have h9 := (hcq.some hn_13).1; omega
          refine lv_icmp_ne (tgt := 91) hx hb d_Maker_make_76 (by decide) (fun c_101 => ?_) (fun c_101 => ?_)
          rotate_right
          · exact absurd c_101 (nIm1 (by first | assumption | omega))
          refine lv_aload_n hx hb d_Maker_make_91 rfl (lv_at hl1 1 rfl) ?_
          refine lv_aload_n hx hb d_Maker_make_92 rfl (lv_at hl1 1 rfl) ?_
          refine va_get (D := D) (ci := 3) (v := .ref g0) (C := R_Maker) (T := F_Maker) (N := 5) hx hb hts i_Maker hown hK.1 hP 0 rfl rfl 2 (by decide) (hts _ wd_132) (fun _ h9 => h9) rfl d_Maker_make_93 ?_
          refine va_get (D := D) (ci := 2) (v := .ref ga) (C := R_Listing) (T := F_Listing) (N := 17) hx hb hts i_Listing hown hK.1 hP 18 rfl rfl 10 (by decide) (hts _ wd_301) (fun _ h9 => h9) rfl d_Maker_make_96 ?_
          refine lv_iload hx hb d_Maker_make_99 (lv_at hl1 5 rfl) ?_
          refine va_bald hx hb hK.1 hP 28 1 rfl rfl (vp_in_nI (by first | assumption | omega) (by decide)) d_Maker_make_101 ?_
          refine W.eq (g2 := F0 m 102 ls [.int (nI (ck k1)), .ref c0]) (by rw [nI_clamp (by first | exact Nat.lt_of_lt_of_le (by assumption) (by decide) | exact Nat.lt_of_le_of_lt (by assumption) (by decide) | omega)]) ?_
          refine lv_iload hx hb d_Maker_make_102 (lv_at hl1 0 rfl) ?_
          obtain ⟨hPc, hDc, hFc, hCs⟩ := xw_sub3 (wc := [(c0, .inr (3, [.ref n0, .ref c1, .ref g0, .ref a0, .int (nI k1)])), (c1, .inl (ax 0, 16, .inl sd1)), (n0, .inr (4, [.ref n1, .ref n2, .ref n3, .int (nI 0)])), (n1, .inl (ax 1, cp, .inl fo)), (n2, .inl (ax 0, cp, .inl fl)), (n3, .inl (ax 0, cp, .inl fr)), (h0, .inr (4, [.ref h1, .ref h2, .ref h3, .int (nI zs)])), (h1, .inl (ax 1, cs, .inl so)), (h2, .inl (ax 0, cs, .inl sl)), (h3, .inl (ax 0, cs, .inl sr)), (a0, .inr (4, [.ref a1, .ref a2, .ref a3, .int (nI za)])), (a1, .inl (ax 1, ca, .inl ao)), (a2, .inl (ax 0, ca, .inl al)), (a3, .inl (ax 0, ca, .inl ar)), (g0, .inr (2, [.ref h0, .ref g1, .ref g2, .ref g3, .ref g4, .ref g5, .ref g6, .ref g7, .ref g8, .ref g9, .ref ga, .ref gb, .int (nI cl), .int (nI ln), .int (nI br), .int (nI lp), .int (nI va)])), (g1, .inl (ax 1, 20, .inl (fun j => nI (kd j)))), (g2, .inl (ax 1, 20, .inl (fun j => nI (ow j)))), (g3, .inl (ax 1, 20, .inl (fun j => nI (sb j)))), (g4, .inl (ax 1, 20, .inl (fun j => nI (f1 j)))), (g5, .inl (ax 1, 20, .inl (fun j => nI (f2 j)))), (g6, .inl (ax 2, 20, .inl (fun j => nI (te j)))), (g7, .inl (ax 2, 20, .inl (fun j => nI (kp j)))), (g8, .inl (ax 0, 20, .inl tm)), (g9, .inl (ax 1, 20, .inl (fun j => nI (nm j)))), (ga, .inl (ax 1, 29, .inl (fun j => nI (ck j)))), (gb, .inl (ax 1, 29, .inl (fun j => nI (co j))))]) hP hD hS hA [0, 1, 2, 3, 4, 5, 6, 7, 8, 9, 10, 11, 12, 13, 18, 19, 20, 21, 22, 23, 24, 25, 26, 27, 28, 29] (by decide) rfl
          have hz := xz_of hN hS
          refine wk_know (fun hk8 hk9 => ?_)
          refine va_calli (va_runV (As := [.int (nI (ck k1)), .int (nI (co k1))]) (rest := []) ⟨hx, hb, hml, hown, hts⟩ (c_K_premise l D ax c0 c1 (nI k1) sd1 n0 n1 n2 n3 cp 0 fo fl fr h0 h1 h2 h3 zs cs so sl sr a0 a1 a2 a3 za ca ao al ar g0 g1 g2 g3 g4 g5 g6 g7 g8 g9 ga gb cl ln br lp va kd ow sb f1 f2 te kp nm ck co tm MX en kc lz9 ([] : List sgT) po idT IT X Y (ck k1) (co k1) H.size (tsl H) (by first | assumption | omega) (by first | assumption | omega) (by first | assumption | omega) hMX (by assumption) (by assumption) (by assumption) hzs hcs hsv hza hca hz1 hz4 hav hat hlw hlg (by assumption) (by assumption) hcq hn_13 (by first | assumption | omega) rfl) (xcV (n := 2) hts wd_785 wd_4 wd_782 wd_784 ps_25 rfl rfl (by decide +kernel) ⟨(show (1000) + 1 ≤ (1190) by omega), (show 8 + (6 + 11) + (21000) ≤ (27400) by omega)⟩) (xpV3 (ci := 3) (q0 := 0) (As := [.int (nI (ck k1)), .int (nI (co k1))]) hPc hK hz hDc rfl rfl) rfl rfl hl1.1 rfl (lv_room (Nat.le_of_ble_eq_true rfl)) d_Maker_make_104 ⟨(show (0) + (MX - cp) ≤ (MX - cp) by omega), (show (0) + (6 * (MX - cp)) ≤ (6 * (MX - cp)) by omega)⟩) hS (fun q _ h => hFc q h) hFc (fun r_104 u_102 t H_103 locs ht hvm hw hB hz1 hk1 hS1 => ?_)
          try dsimp only at hw
          obtain ⟨hw, hs_105, hs_106, hs_107, hs_108, hs_109, hs_110, hs_111⟩ := hw
          subst hw
          obtain ⟨x_112, x_113, x_114, x_115, hg8, hg9, hx_116, hx_117, hx_118, hx_119, hx_120, hx_121, hx_122, hx_123, hP1, hD1⟩ := hB
          rw [ht] at hg8 hg9 hP1
          have hjn := xw_join3 (wl := [(b0, .inr (4, [.ref b1, .ref b2, .ref b3, .int (nI zb)])), (b1, .inl (ax 1, cb, .inl bo)), (b2, .inl (ax 0, cb, .inl bl)), (b3, .inl (ax 0, cb, .inl bq)), (c0, .inr (3, [.ref n0, .ref c1, .ref g0, .ref a0, .int (nI k1)])), (c1, .inl (ax 0, 16, .inl x_112)), (n0, .inr (4, [.ref (u_102 0), .ref (u_102 1), .ref (u_102 2), .int (nI (u_102 3))])), ((u_102 0), .inl (ax 1, u_102 4, .inl x_113)), ((u_102 1), .inl (ax 0, u_102 4, .inl x_114)), ((u_102 2), .inl (ax 0, u_102 4, .inl x_115)), (h0, .inr (4, [.ref h1, .ref h2, .ref h3, .int (nI zs)])), (h1, .inl (ax 1, cs, .inl so)), (h2, .inl (ax 0, cs, .inl sl)), (h3, .inl (ax 0, cs, .inl sr)), (a0, .inr (4, [.ref a1, .ref a2, .ref a3, .int (nI za)])), (a1, .inl (ax 1, ca, .inl ao)), (a2, .inl (ax 0, ca, .inl al)), (a3, .inl (ax 0, ca, .inl ar)), (g0, .inr (2, [.ref h0, .ref g1, .ref g2, .ref g3, .ref g4, .ref g5, .ref g6, .ref g7, .ref g8, .ref g9, .ref ga, .ref gb, .int (nI cl), .int (nI ln), .int (nI br), .int (nI lp), .int (nI va)])), (g1, .inl (ax 1, 20, .inl (fun j => nI (kd j)))), (g2, .inl (ax 1, 20, .inl (fun j => nI (ow j)))), (g3, .inl (ax 1, 20, .inl (fun j => nI (sb j)))), (g4, .inl (ax 1, 20, .inl (fun j => nI (f1 j)))), (g5, .inl (ax 1, 20, .inl (fun j => nI (f2 j)))), (g6, .inl (ax 2, 20, .inl (fun j => nI (te j)))), (g7, .inl (ax 2, 20, .inl (fun j => nI (kp j)))), (g8, .inl (ax 0, 20, .inl tm)), (g9, .inl (ax 1, 20, .inl (fun j => nI (nm j)))), (ga, .inl (ax 1, 29, .inl (fun j => nI (ck j)))), (gb, .inl (ax 1, 29, .inl (fun j => nI (co j))))]) hP hD [0, 1, 2, 3, 4, 5, 6, 7, 8, 9, 10, 11, 12, 13, 18, 19, 20, 21, 22, 23, 24, 25, 26, 27, 28, 29] [14, 15, 16, 17] hCs (by decide) (by decide) hk1 hFc hP1 hD1 rfl
          clear hP1 hD1
          clear hPc hDc hFc hCs hz hz1 hk1 ht hvm
          clear hP hD hS
          have hS := hS1
          obtain ⟨hP, hD⟩ := hjn
          clear hS1
          refine wk_narrow (k := u_102 4 - cp) (n := 6 * (u_102 4 - cp)) (by first | assumption | omega) (by first | assumption | omega) ?_
          clear hk8 hk9 hg8 hg9
          have hck4 := (hcq.some hn_13).2.2
          have hK_124 : ∀ i, i < 0 → tsn x_113 x_114 x_115 i = tsn fo fl fr i := fun i hi => hx_118 i hi
          refine lv_istore (lv' := [(6, .int (nI (u_102 5))), (5, .int (nI (co k1))), (0, .ref c0), (1, .ref g0), (2, .ref b0), (3, .ref a0), (4, .int (nI k1))]) hx hb d_Maker_make_107 hl1 (by decide) rfl (fun ls hl2 => ?_)
          clear hl1; have hl1 := hl2; clear hl2
          refine lv_aload_n hx hb d_Maker_make_109 rfl (lv_at hl1 2 rfl) ?_
          refine va_get (D := D) (ci := 3) (v := .ref n0) (C := R_Maker) (T := F_Maker) (N := 5) hx hb hts i_Maker hown hK.1 hP 4 rfl rfl 0 (by decide) (hts _ wd_129) (fun _ h9 => h9) rfl d_Maker_make_110 ?_
          refine lv_bipush (v := 6) hx hb d_Maker_make_113 (by decide) ?_
          refine lv_iload hx hb d_Maker_make_115 (lv_at hl1 0 rfl) ?_
          refine lv_iconst (v := (-1)) hx hb d_Maker_make_117 (by decide) ?_
          obtain ⟨hPc, hDc, hFc, hCs⟩ := xw_sub3 (wc := [(n0, .inr (4, [.ref (u_102 0), .ref (u_102 1), .ref (u_102 2), .int (nI (u_102 3))])), ((u_102 0), .inl (ax 1, u_102 4, .inl x_113)), ((u_102 1), .inl (ax 0, u_102 4, .inl x_114)), ((u_102 2), .inl (ax 0, u_102 4, .inl x_115))]) hP hD hS hA [6, 7, 8, 9] (by decide) rfl
          have hz := xz_of hN hS
          refine wk_know (fun hk8 hk9 => ?_)
          refine va_calli (va_runV (As := [.int 6, .int (nI (u_102 5)), .int (-1)]) (rest := []) ⟨hx, hb, hml, hown, hts⟩ (c_Nodes_add l D ax n0 (u_102 0) (u_102 1) (u_102 2) (u_102 4) (u_102 3) x_113 x_114 x_115 MX 6 (nI (u_102 5)) (-1) H_103.size (tsl H_103) (by first | assumption | omega) (by first | assumption | omega) (by first | assumption | omega) (by first | assumption | omega) (by first | assumption | omega) (by assumption)) (xcV (n := 3) hts wd_350 wd_5 wd_781 wd_348 wd_349 rfl rfl (by decide +kernel) ⟨(show (30) + 1 ≤ (1190) by omega), (show 8 + (4 + 11) + (1200) ≤ (27400) by omega)⟩) (xpV3 (ci := 4) (q0 := 0) (As := [.int 6, .int (nI (u_102 5)), .int (-1)]) hPc hK hz hDc rfl rfl) rfl rfl hl1.1 rfl (lv_room (Nat.le_of_ble_eq_true rfl)) d_Maker_make_118 ⟨(show (u_102 4 - cp) + (MX - (u_102 4)) ≤ (MX - cp) by omega), (show (6 * (u_102 4 - cp)) + (6 * (MX - (u_102 4))) ≤ (6 * (MX - cp)) by omega)⟩) hS (fun q _ h => hFc q h) hFc (fun r_127 u_125 t H_126 locs ht hvm hw hB hz1 hk1 hS1 => ?_)
          try dsimp only at hw
          obtain ⟨hw, hs_128, hs_129, hs_130, hs_131⟩ := hw
          subst hw
          obtain ⟨x_132, x_133, x_134, hg8, hg9, hx_135, hx_136, hP1, hD1⟩ := hB
          rw [ht] at hg8 hg9 hP1
          have hjn := xw_join3 (wl := [(b0, .inr (4, [.ref b1, .ref b2, .ref b3, .int (nI zb)])), (b1, .inl (ax 1, cb, .inl bo)), (b2, .inl (ax 0, cb, .inl bl)), (b3, .inl (ax 0, cb, .inl bq)), (c0, .inr (3, [.ref n0, .ref c1, .ref g0, .ref a0, .int (nI k1)])), (c1, .inl (ax 0, 16, .inl x_112)), (h0, .inr (4, [.ref h1, .ref h2, .ref h3, .int (nI zs)])), (h1, .inl (ax 1, cs, .inl so)), (h2, .inl (ax 0, cs, .inl sl)), (h3, .inl (ax 0, cs, .inl sr)), (a0, .inr (4, [.ref a1, .ref a2, .ref a3, .int (nI za)])), (a1, .inl (ax 1, ca, .inl ao)), (a2, .inl (ax 0, ca, .inl al)), (a3, .inl (ax 0, ca, .inl ar)), (g0, .inr (2, [.ref h0, .ref g1, .ref g2, .ref g3, .ref g4, .ref g5, .ref g6, .ref g7, .ref g8, .ref g9, .ref ga, .ref gb, .int (nI cl), .int (nI ln), .int (nI br), .int (nI lp), .int (nI va)])), (g1, .inl (ax 1, 20, .inl (fun j => nI (kd j)))), (g2, .inl (ax 1, 20, .inl (fun j => nI (ow j)))), (g3, .inl (ax 1, 20, .inl (fun j => nI (sb j)))), (g4, .inl (ax 1, 20, .inl (fun j => nI (f1 j)))), (g5, .inl (ax 1, 20, .inl (fun j => nI (f2 j)))), (g6, .inl (ax 2, 20, .inl (fun j => nI (te j)))), (g7, .inl (ax 2, 20, .inl (fun j => nI (kp j)))), (g8, .inl (ax 0, 20, .inl tm)), (g9, .inl (ax 1, 20, .inl (fun j => nI (nm j)))), (ga, .inl (ax 1, 29, .inl (fun j => nI (ck j)))), (gb, .inl (ax 1, 29, .inl (fun j => nI (co j)))), (n0, .inr (4, [.ref (u_125 0), .ref (u_125 1), .ref (u_125 2), .int (nI ((u_102 3) + 1))])), ((u_125 0), .inl (ax 1, u_125 3, .inl x_132)), ((u_125 1), .inl (ax 0, u_125 3, .inl x_133)), ((u_125 2), .inl (ax 0, u_125 3, .inl x_134))]) hP hD [6, 7, 8, 9] [0, 1, 2, 3, 4, 5, 10, 11, 12, 13, 14, 15, 16, 17, 18, 19, 20, 21, 22, 23, 24, 25, 26, 27, 28, 29] hCs (by decide) (by decide) hk1 hFc hP1 hD1 rfl
          clear hP1 hD1
          clear hPc hDc hFc hCs hz hz1 hk1 ht hvm
          clear hP hD hS
          have hS := hS1
          obtain ⟨hP, hD⟩ := hjn
          clear hS1
          refine wk_narrow (k := u_102 4 - cp + (u_125 3 - (u_102 4))) (n := 6 * (u_102 4 - cp) + (6 * (u_125 3 - (u_102 4)))) (by first | assumption | omega) (by first | assumption | omega) ?_
          clear hk8 hk9 hg8 hg9
          have hZ_137 : ndl x_132 x_133 x_134 (([] : List sgT) ++ (prF (IT (co k1)) (ck k1) ++ [opS 1])) ∧ (([] : List sgT) ++ (prF (IT (co k1)) (ck k1) ++ [opS 1])).length = (u_102 3) + 1 := not_q hx_121 (by first | assumption | omega) hx_135
          have hY_138 : ∃ d, cmpl d ((prF (IT (co k1)) (ck k1) ++ [opS 1])) := cmx_n hx_122
          have hV_139 : ndv x_132 x_133 x_134 ((u_102 3) + 1) := hx_116.add hx_135 (nd_not (by first | assumption | omega))
          have hT_140 : tsn x_132 x_133 x_134 (u_102 3) = 1 + tsn x_113 x_114 x_115 (u_102 5) := nad.not (by first | assumption | omega) hx_116 (by first | assumption | omega) hx_135
          have hG_141 : ∀ i, i < u_102 3 → tsn x_132 x_133 x_134 i = tsn x_113 x_114 x_115 i := fun i hi => nad.keep (by first | assumption | omega) hx_116 hx_135 hi
          have hB_142 : tsn x_132 x_133 x_134 (u_102 3) + 0 ≤ ((u_102 3) + 1) := by omega
          have hK_143 : ∀ i, i < 0 → tsn x_132 x_133 x_134 i = tsn fo fl fr i := fun i hi => (hG_141 i (by first | assumption | omega)).trans (hK_124 i hi)
          refine lv_istore (lv' := [(7, .int (nI (u_102 3))), (6, .int (nI (u_102 5))), (5, .int (nI (co k1))), (0, .ref c0), (1, .ref g0), (2, .ref b0), (3, .ref a0), (4, .int (nI k1))]) hx hb d_Maker_make_121 hl1 (by decide) rfl (fun ls hl2 => ?_)
          clear hl1; have hl1 := hl2; clear hl2
          refine lv_aload_n hx hb d_Maker_make_123 rfl (lv_at hl1 3 rfl) ?_
          refine va_get (D := D) (ci := 3) (v := .ref n0) (C := R_Maker) (T := F_Maker) (N := 5) hx hb hts i_Maker hown hK.1 hP 4 rfl rfl 0 (by decide) (hts _ wd_129) (fun _ h9 => h9) rfl d_Maker_make_124 ?_
          refine lv_bipush (v := 8) hx hb d_Maker_make_127 (by decide) ?_
          refine lv_iload hx hb d_Maker_make_129 (lv_at hl1 0 rfl) ?_
          refine lv_aload_n hx hb d_Maker_make_131 rfl (lv_at hl1 3 rfl) ?_
          refine lv_aload_n hx hb d_Maker_make_132 rfl (lv_at hl1 3 rfl) ?_
          refine va_get (D := D) (ci := 3) (v := .ref g0) (C := R_Maker) (T := F_Maker) (N := 5) hx hb hts i_Maker hown hK.1 hP 4 rfl rfl 2 (by decide) (hts _ wd_132) (fun _ h9 => h9) rfl d_Maker_make_133 ?_
          refine va_get (D := D) (ci := 2) (v := .ref ga) (C := R_Listing) (T := F_Listing) (N := 17) hx hb hts i_Listing hown hK.1 hP 14 rfl rfl 10 (by decide) (hts _ wd_301) (fun _ h9 => h9) rfl d_Maker_make_136 ?_
          refine lv_iload hx hb d_Maker_make_139 (lv_at hl1 7 rfl) ?_
          refine va_bald hx hb hK.1 hP 24 1 rfl rfl (vp_in_nI (by first | assumption | omega) (by decide)) d_Maker_make_141 ?_
          refine W.eq (g2 := F0 m 142 ls [.int (nI (ck k1)), .ref c0, .int (nI (u_102 3)), .int 8, .ref n0]) (by rw [nI_clamp (by first | exact Nat.lt_of_lt_of_le (by assumption) (by decide) | exact Nat.lt_of_le_of_lt (by assumption) (by decide) | omega)]) ?_
          refine lv_iload hx hb d_Maker_make_142 (lv_at hl1 2 rfl) ?_
          obtain ⟨hPc, hDc, hFc, hCs⟩ := xw_sub3 (wc := [(c0, .inr (3, [.ref n0, .ref c1, .ref g0, .ref a0, .int (nI k1)])), (c1, .inl (ax 0, 16, .inl x_112)), (n0, .inr (4, [.ref (u_125 0), .ref (u_125 1), .ref (u_125 2), .int (nI ((u_102 3) + 1))])), ((u_125 0), .inl (ax 1, u_125 3, .inl x_132)), ((u_125 1), .inl (ax 0, u_125 3, .inl x_133)), ((u_125 2), .inl (ax 0, u_125 3, .inl x_134)), (h0, .inr (4, [.ref h1, .ref h2, .ref h3, .int (nI zs)])), (h1, .inl (ax 1, cs, .inl so)), (h2, .inl (ax 0, cs, .inl sl)), (h3, .inl (ax 0, cs, .inl sr)), (a0, .inr (4, [.ref a1, .ref a2, .ref a3, .int (nI za)])), (a1, .inl (ax 1, ca, .inl ao)), (a2, .inl (ax 0, ca, .inl al)), (a3, .inl (ax 0, ca, .inl ar)), (g0, .inr (2, [.ref h0, .ref g1, .ref g2, .ref g3, .ref g4, .ref g5, .ref g6, .ref g7, .ref g8, .ref g9, .ref ga, .ref gb, .int (nI cl), .int (nI ln), .int (nI br), .int (nI lp), .int (nI va)])), (g1, .inl (ax 1, 20, .inl (fun j => nI (kd j)))), (g2, .inl (ax 1, 20, .inl (fun j => nI (ow j)))), (g3, .inl (ax 1, 20, .inl (fun j => nI (sb j)))), (g4, .inl (ax 1, 20, .inl (fun j => nI (f1 j)))), (g5, .inl (ax 1, 20, .inl (fun j => nI (f2 j)))), (g6, .inl (ax 2, 20, .inl (fun j => nI (te j)))), (g7, .inl (ax 2, 20, .inl (fun j => nI (kp j)))), (g8, .inl (ax 0, 20, .inl tm)), (g9, .inl (ax 1, 20, .inl (fun j => nI (nm j)))), (ga, .inl (ax 1, 29, .inl (fun j => nI (ck j)))), (gb, .inl (ax 1, 29, .inl (fun j => nI (co j))))]) hP hD hS hA [4, 5, 26, 27, 28, 29, 6, 7, 8, 9, 10, 11, 12, 13, 14, 15, 16, 17, 18, 19, 20, 21, 22, 23, 24, 25] (by decide) rfl
          have hz := xz_of hN hS
          refine wk_know (fun hk8 hk9 => ?_)
          refine va_calli (va_runV (As := [.int (nI (ck k1)), .int (nI (co k1))]) (rest := [.int (nI (u_102 3)), .int 8, .ref n0]) ⟨hx, hb, hml, hown, hts⟩ (c_K_conclusion l D ax c0 c1 (nI k1) x_112 n0 (u_125 0) (u_125 1) (u_125 2) (u_125 3) ((u_102 3) + 1) x_132 x_133 x_134 h0 h1 h2 h3 zs cs so sl sr a0 a1 a2 a3 za ca ao al ar g0 g1 g2 g3 g4 g5 g6 g7 g8 g9 ga gb cl ln br lp va kd ow sb f1 f2 te kp nm ck co tm MX en kc lz9 (([] : List sgT) ++ (prF (IT (co k1)) (ck k1) ++ [opS 1])) po idT IT X Y (ck k1) (co k1) H_126.size (tsl H_126) (by first | assumption | omega) (by first | assumption | omega) (by first | assumption | omega) hMX (by assumption) (by assumption) (by assumption) hzs hcs hsv hza hca hz1 hz4 hav hat hlw hlg (by assumption) (by assumption) hcq (by first | assumption | omega) hln1 (by first | assumption | omega) rfl) (xcV (n := 2) hts wd_789 wd_4 wd_786 wd_788 ps_26 rfl rfl (by decide +kernel) ⟨(show (1180) + 1 ≤ (1190) by omega), (show 8 + (3 + 11) + (27300) ≤ (27400) by omega)⟩) (xpV3 (ci := 3) (q0 := 0) (As := [.int (nI (ck k1)), .int (nI (co k1))]) hPc hK hz hDc rfl rfl) rfl rfl hl1.1 rfl (lv_room (Nat.le_of_ble_eq_true rfl)) d_Maker_make_144 ⟨(show (u_102 4 - cp + (u_125 3 - (u_102 4))) + (MX - (u_125 3)) ≤ (MX - cp) by omega), (show (6 * (u_102 4 - cp) + (6 * (u_125 3 - (u_102 4)))) + (6 * (MX - (u_125 3))) ≤ (6 * (MX - cp)) by omega)⟩) hS (fun q _ h => hFc q h) hFc (fun r_146 u_144 t H_145 locs ht hvm hw hB hz1 hk1 hS1 => ?_)
          try dsimp only at hw
          obtain ⟨hw, hs_147, hs_148, hs_149, hs_150, hs_151, hs_152, hs_153⟩ := hw
          subst hw
          obtain ⟨x_154, x_155, x_156, x_157, hg8, hg9, hx_158, hx_159, hx_160, hx_161, hx_162, hx_163, hx_164, hx_165, hP1, hD1⟩ := hB
          rw [ht] at hg8 hg9 hP1
          have hjn := xw_join3 (wl := [(b0, .inr (4, [.ref b1, .ref b2, .ref b3, .int (nI zb)])), (b1, .inl (ax 1, cb, .inl bo)), (b2, .inl (ax 0, cb, .inl bl)), (b3, .inl (ax 0, cb, .inl bq)), (c0, .inr (3, [.ref n0, .ref c1, .ref g0, .ref a0, .int (nI k1)])), (c1, .inl (ax 0, 16, .inl x_154)), (n0, .inr (4, [.ref (u_144 0), .ref (u_144 1), .ref (u_144 2), .int (nI (u_144 3))])), ((u_144 0), .inl (ax 1, u_144 4, .inl x_155)), ((u_144 1), .inl (ax 0, u_144 4, .inl x_156)), ((u_144 2), .inl (ax 0, u_144 4, .inl x_157)), (h0, .inr (4, [.ref h1, .ref h2, .ref h3, .int (nI zs)])), (h1, .inl (ax 1, cs, .inl so)), (h2, .inl (ax 0, cs, .inl sl)), (h3, .inl (ax 0, cs, .inl sr)), (a0, .inr (4, [.ref a1, .ref a2, .ref a3, .int (nI za)])), (a1, .inl (ax 1, ca, .inl ao)), (a2, .inl (ax 0, ca, .inl al)), (a3, .inl (ax 0, ca, .inl ar)), (g0, .inr (2, [.ref h0, .ref g1, .ref g2, .ref g3, .ref g4, .ref g5, .ref g6, .ref g7, .ref g8, .ref g9, .ref ga, .ref gb, .int (nI cl), .int (nI ln), .int (nI br), .int (nI lp), .int (nI va)])), (g1, .inl (ax 1, 20, .inl (fun j => nI (kd j)))), (g2, .inl (ax 1, 20, .inl (fun j => nI (ow j)))), (g3, .inl (ax 1, 20, .inl (fun j => nI (sb j)))), (g4, .inl (ax 1, 20, .inl (fun j => nI (f1 j)))), (g5, .inl (ax 1, 20, .inl (fun j => nI (f2 j)))), (g6, .inl (ax 2, 20, .inl (fun j => nI (te j)))), (g7, .inl (ax 2, 20, .inl (fun j => nI (kp j)))), (g8, .inl (ax 0, 20, .inl tm)), (g9, .inl (ax 1, 20, .inl (fun j => nI (nm j)))), (ga, .inl (ax 1, 29, .inl (fun j => nI (ck j)))), (gb, .inl (ax 1, 29, .inl (fun j => nI (co j))))]) hP hD [4, 5, 26, 27, 28, 29, 6, 7, 8, 9, 10, 11, 12, 13, 14, 15, 16, 17, 18, 19, 20, 21, 22, 23, 24, 25] [0, 1, 2, 3] hCs (by decide) (by decide) hk1 hFc hP1 hD1 rfl
          clear hP1 hD1
          clear hPc hDc hFc hCs hz hz1 hk1 ht hvm
          clear hP hD hS
          have hS := hS1
          obtain ⟨hP, hD⟩ := hjn
          clear hS1
          refine wk_narrow (k := u_102 4 - cp + (u_125 3 - (u_102 4)) + (u_144 4 - (u_125 3))) (n := 6 * (u_102 4 - cp) + (6 * (u_125 3 - (u_102 4))) + (6 * (u_144 4 - (u_125 3)))) (by first | assumption | omega) (by first | assumption | omega) ?_
          clear hk8 hk9 hg8 hg9
          have hK_166 : ∀ i, i < 0 → tsn x_155 x_156 x_157 i = tsn fo fl fr i := fun i hi => (hx_160 i (by first | assumption | omega)).trans (hK_143 i hi)
          have hS_167 : tsn x_155 x_156 x_157 (u_102 3) + 0 ≤ ((u_102 3) + 1) := by rw [hx_160 (u_102 3) (by first | assumption | omega)]; exact hB_142
          obtain ⟨hPc, hDc, hFc, hCs⟩ := xw_sub3 (wc := [(n0, .inr (4, [.ref (u_144 0), .ref (u_144 1), .ref (u_144 2), .int (nI (u_144 3))])), ((u_144 0), .inl (ax 1, u_144 4, .inl x_155)), ((u_144 1), .inl (ax 0, u_144 4, .inl x_156)), ((u_144 2), .inl (ax 0, u_144 4, .inl x_157))]) hP hD hS hA [6, 7, 8, 9] (by decide) rfl
          have hz := xz_of hN hS
          refine wk_know (fun hk8 hk9 => ?_)
          refine va_calli (va_runV (As := [.int 8, .int (nI (u_102 3)), .int (nI (u_144 5))]) (rest := []) ⟨hx, hb, hml, hown, hts⟩ (c_Nodes_add l D ax n0 (u_144 0) (u_144 1) (u_144 2) (u_144 4) (u_144 3) x_155 x_156 x_157 MX 8 (nI (u_102 3)) (nI (u_144 5)) H_145.size (tsl H_145) (by first | assumption | omega) (by first | assumption | omega) (by first | assumption | omega) (by first | assumption | omega) (by first | assumption | omega) (by assumption)) (xcV (n := 3) hts wd_350 wd_5 wd_781 wd_348 wd_349 rfl rfl (by decide +kernel) ⟨(show (30) + 1 ≤ (1190) by omega), (show 8 + (4 + 11) + (1200) ≤ (27400) by omega)⟩) (xpV3 (ci := 4) (q0 := 0) (As := [.int 8, .int (nI (u_102 3)), .int (nI (u_144 5))]) hPc hK hz hDc rfl rfl) rfl rfl hl1.1 rfl (lv_room (Nat.le_of_ble_eq_true rfl)) d_Maker_make_147 ⟨(show (u_102 4 - cp + (u_125 3 - (u_102 4)) + (u_144 4 - (u_125 3))) + (MX - (u_144 4)) ≤ (MX - cp) by omega), (show (6 * (u_102 4 - cp) + (6 * (u_125 3 - (u_102 4))) + (6 * (u_144 4 - (u_125 3)))) + (6 * (MX - (u_144 4))) ≤ (6 * (MX - cp)) by omega)⟩) hS (fun q _ h => hFc q h) hFc (fun r_170 u_168 t H_169 locs ht hvm hw hB hz1 hk1 hS1 => ?_)
          try dsimp only at hw
          obtain ⟨hw, hs_171, hs_172, hs_173, hs_174⟩ := hw
          subst hw
          obtain ⟨x_175, x_176, x_177, hg8, hg9, hx_178, hx_179, hP1, hD1⟩ := hB
          rw [ht] at hg8 hg9 hP1
          have hjn := xw_join3 (wl := [(b0, .inr (4, [.ref b1, .ref b2, .ref b3, .int (nI zb)])), (b1, .inl (ax 1, cb, .inl bo)), (b2, .inl (ax 0, cb, .inl bl)), (b3, .inl (ax 0, cb, .inl bq)), (c0, .inr (3, [.ref n0, .ref c1, .ref g0, .ref a0, .int (nI k1)])), (c1, .inl (ax 0, 16, .inl x_154)), (h0, .inr (4, [.ref h1, .ref h2, .ref h3, .int (nI zs)])), (h1, .inl (ax 1, cs, .inl so)), (h2, .inl (ax 0, cs, .inl sl)), (h3, .inl (ax 0, cs, .inl sr)), (a0, .inr (4, [.ref a1, .ref a2, .ref a3, .int (nI za)])), (a1, .inl (ax 1, ca, .inl ao)), (a2, .inl (ax 0, ca, .inl al)), (a3, .inl (ax 0, ca, .inl ar)), (g0, .inr (2, [.ref h0, .ref g1, .ref g2, .ref g3, .ref g4, .ref g5, .ref g6, .ref g7, .ref g8, .ref g9, .ref ga, .ref gb, .int (nI cl), .int (nI ln), .int (nI br), .int (nI lp), .int (nI va)])), (g1, .inl (ax 1, 20, .inl (fun j => nI (kd j)))), (g2, .inl (ax 1, 20, .inl (fun j => nI (ow j)))), (g3, .inl (ax 1, 20, .inl (fun j => nI (sb j)))), (g4, .inl (ax 1, 20, .inl (fun j => nI (f1 j)))), (g5, .inl (ax 1, 20, .inl (fun j => nI (f2 j)))), (g6, .inl (ax 2, 20, .inl (fun j => nI (te j)))), (g7, .inl (ax 2, 20, .inl (fun j => nI (kp j)))), (g8, .inl (ax 0, 20, .inl tm)), (g9, .inl (ax 1, 20, .inl (fun j => nI (nm j)))), (ga, .inl (ax 1, 29, .inl (fun j => nI (ck j)))), (gb, .inl (ax 1, 29, .inl (fun j => nI (co j)))), (n0, .inr (4, [.ref (u_168 0), .ref (u_168 1), .ref (u_168 2), .int (nI ((u_144 3) + 1))])), ((u_168 0), .inl (ax 1, u_168 3, .inl x_175)), ((u_168 1), .inl (ax 0, u_168 3, .inl x_176)), ((u_168 2), .inl (ax 0, u_168 3, .inl x_177))]) hP hD [6, 7, 8, 9] [0, 1, 2, 3, 4, 5, 10, 11, 12, 13, 14, 15, 16, 17, 18, 19, 20, 21, 22, 23, 24, 25, 26, 27, 28, 29] hCs (by decide) (by decide) hk1 hFc hP1 hD1 rfl
          clear hP1 hD1
          clear hPc hDc hFc hCs hz hz1 hk1 ht hvm
          clear hP hD hS
          have hS := hS1
          obtain ⟨hP, hD⟩ := hjn
          clear hS1
          refine wk_narrow (k := u_102 4 - cp + (u_125 3 - (u_102 4)) + (u_144 4 - (u_125 3)) + (u_168 3 - (u_144 4))) (n := 6 * (u_102 4 - cp) + (6 * (u_125 3 - (u_102 4))) + (6 * (u_144 4 - (u_125 3))) + (6 * (u_168 3 - (u_144 4)))) (by first | assumption | omega) (by first | assumption | omega) ?_
          clear hk8 hk9 hg8 hg9
          have hZ_180 : ndl x_175 x_176 x_177 (([] : List sgT) ++ ((prF (IT (co k1)) (ck k1) ++ [opS 1]) ++ coF po X Y f1 (IT (co k1)) (ck k1) (co k1) ++ [opS 3])) ∧ (([] : List sgT) ++ ((prF (IT (co k1)) (ck k1) ++ [opS 1]) ++ coF po X Y f1 (IT (co k1)) (ck k1) (co k1) ++ [opS 3])).length = (u_144 3) + 1 := bin_q (o := 3) (by decide) hZ_137.2 hx_163 hx_164 (by first | assumption | omega) (by first | assumption | omega) hx_178
          have hY_181 : ∃ d, cmpl d (((prF (IT (co k1)) (ck k1) ++ [opS 1]) ++ coF po X Y f1 (IT (co k1)) (ck k1) (co k1) ++ [opS 3])) := cmx_b (by decide) hY_138 hx_164
          have hV_182 : ndv x_175 x_176 x_177 ((u_144 3) + 1) := hx_158.add hx_178 (nd_bin (o := 8) (by decide) (by first | assumption | omega) (by first | assumption | omega))
          have hT_183 : tsn x_175 x_176 x_177 (u_144 3) = 1 + tsn x_155 x_156 x_157 (u_102 3) + tsn x_155 x_156 x_157 (u_144 5) := nad.bin (o := 8) (by first | assumption | omega) hx_158 (by decide) (by first | assumption | omega) (by first | assumption | omega) hx_178
          have hG_184 : ∀ i, i < u_144 3 → tsn x_175 x_176 x_177 i = tsn x_155 x_156 x_157 i := fun i hi => nad.keep (by first | assumption | omega) hx_158 hx_178 hi
          have hB_185 : tsn x_175 x_176 x_177 (u_144 3) + 0 ≤ ((u_144 3) + 1) := by omega
          have hK_186 : ∀ i, i < 0 → tsn x_175 x_176 x_177 i = tsn fo fl fr i := fun i hi => (hG_184 i (by first | assumption | omega)).trans (hK_166 i hi)
          refine lv_pop hx hb d_Maker_make_150 rfl ?_
          rw [← hQe]
          refine wk_know (fun hk8 hk9 => ?_)
          refine W.widen (k := MX - cp) (n := 6 * (MX - cp)) (by first | assumption | omega) (by first | assumption | omega) ?_
          obtain ⟨hP9, hD9⟩ := xw_sub2 (wc := (fun (u : Nat → Nat) (xsd : Nat → Int32) (xmd : Int32) (xvl : Value) (xva : Value) (xfo : Nat → Int32) (xfl : Nat → Int32) (xfr : Nat → Int32) => [(c0, .inr (3, [.ref n0, .ref c1, xvl, xva, .int xmd])), (c1, .inl (ax 0, 16, .inl xsd)), (n0, .inr (4, [.ref (u 0), .ref (u 1), .ref (u 2), .int (nI (u 3))])), (u 0, .inl (ax 1, u 4, .inl xfo)), (u 1, .inl (ax 0, u 4, .inl xfl)), (u 2, .inl (ax 0, u 4, .inl xfr)), (h0, .inr (4, [.ref h1, .ref h2, .ref h3, .int (nI zs)])), (h1, .inl (ax 1, cs, .inl so)), (h2, .inl (ax 0, cs, .inl sl)), (h3, .inl (ax 0, cs, .inl sr)), (a0, .inr (4, [.ref a1, .ref a2, .ref a3, .int (nI za)])), (a1, .inl (ax 1, ca, .inl ao)), (a2, .inl (ax 0, ca, .inl al)), (a3, .inl (ax 0, ca, .inl ar)), (b0, .inr (4, [.ref b1, .ref b2, .ref b3, .int (nI zb)])), (b1, .inl (ax 1, cb, .inl bo)), (b2, .inl (ax 0, cb, .inl bl)), (b3, .inl (ax 0, cb, .inl bq)), (g0, .inr (2, [.ref h0, .ref g1, .ref g2, .ref g3, .ref g4, .ref g5, .ref g6, .ref g7, .ref g8, .ref g9, .ref ga, .ref gb, .int (nI cl), .int (nI ln), .int (nI br), .int (nI lp), .int (nI va)])), (g1, .inl (ax 1, 20, .inl (fun j => nI (kd j)))), (g2, .inl (ax 1, 20, .inl (fun j => nI (ow j)))), (g3, .inl (ax 1, 20, .inl (fun j => nI (sb j)))), (g4, .inl (ax 1, 20, .inl (fun j => nI (f1 j)))), (g5, .inl (ax 1, 20, .inl (fun j => nI (f2 j)))), (g6, .inl (ax 2, 20, .inl (fun j => nI (te j)))), (g7, .inl (ax 2, 20, .inl (fun j => nI (kp j)))), (g8, .inl (ax 0, 20, .inl tm)), (g9, .inl (ax 1, 20, .inl (fun j => nI (nm j)))), (ga, .inl (ax 1, 29, .inl (fun j => nI (ck j)))), (gb, .inl (ax 1, 29, .inl (fun j => nI (co j))))]) (ixn [(u_168 0), (u_168 1), (u_168 2), ((u_144 3) + 1), (u_168 3)]) x_154 (nI k1) (.ref g0) (.ref a0) x_175 x_176 x_177) hP hD [4, 5, 26, 27, 28, 29, 6, 7, 8, 9, 10, 11, 12, 13, 0, 1, 2, 3, 14, 15, 16, 17, 18, 19, 20, 21, 22, 23, 24, 25] (by decide) rfl
          have hex0 : ndv x_175 x_176 x_177 (((u_144 3) + 1)) := hV_182
          have hex1 : bts x_175 ((u_168 3)) := (by assumption)
          have hex2 : tsn x_175 x_176 x_177 (((u_144 3) + 1) - 1) ≤ 32768 := (by rw [Nat.add_sub_cancel]; omega)
          have hex3 : ∀ j, j ≤ 10 → trm (x_154 j) := hx_162
          have hex4 : (nI k1) = nI k1 := rfl
          have hex5 : (ndl x_175 x_176 x_177 (mkF pr po X Y f1 IT (ck k1) (co k1)) ∧ (mkF pr po X Y f1 IT (ck k1) (co k1)).length = ((u_144 3) + 1)) ∧ ∃ d, cmpl d (mkF pr po X Y f1 IT (ck k1) (co k1)) := (by rw [mk_s hn_13]; exact ⟨hZ_180, hY_181⟩)
          have hg8 : H_169.size ≤ s.heap.size + ((u_168 3) - cp) := by omega
          have hg9 : tsl H_169 ≤ tsl s.heap + (6 * ((u_168 3) - cp)) := by omega
          have hsp0 : 1 ≤ ((u_144 3) + 1) := (by first | assumption | omega)
          have hsp1 : ((u_144 3) + 1) ≤ 32768 := (by first | assumption | omega)
          have hsp2 : ((u_144 3) + 1) ≤ (u_168 3) := (by first | assumption | omega)
          have hsp3 : cp ≤ (u_168 3) := (by first | assumption | omega)
          have hsp4 : (u_168 3) ≤ MX := (by first | assumption | omega)
          have hsp5 : dbl cp ((u_168 3)) := (((hs_109.tr hs_131).tr hs_151).tr hs_174)
          exact W.vret hx hb hr (fun t ht hW => ⟨⟨ixn [(u_168 0), (u_168 1), (u_168 2), ((u_144 3) + 1), (u_168 3)], rfl, ⟨hsp0, hsp1, hsp2, hsp3, hsp4, hsp5⟩, ⟨x_154, nI k1, (.ref g0), (.ref a0), x_175, x_176, x_177, by rw [ht]; exact hg8, by rw [ht]; exact hg9, hex0, hex1, hex2, hex3, hex4, hex5, by rw [ht]; exact hP9, hD9⟩⟩, hS.F ht⟩) hS.2.2 d_Maker_make_151
      · replace c_12 : ¬ 16 ≤ i1 := fun hq9 => c_12 ((nI_leI (a := 16) (b := i1) (by decide) (by first | exact Nat.lt_of_lt_of_le (by assumption) (by decide) | exact Nat.lt_of_le_of_lt (by assumption) (by decide) | omega)).mpr hq9)
        refine lv_aload_n hx hb d_Maker_make_46 rfl (lv_at hl1 0 rfl) ?_
        refine va_get (D := D) (ci := 3) (v := .ref c1) (C := R_Maker) (T := F_Maker) (N := 5) hx hb hts i_Maker hown hK.1 hP 0 rfl rfl 1 (by decide) (hts _ wd_131) (fun _ h9 => h9) rfl d_Maker_make_47 ?_
        refine lv_iload hx hb d_Maker_make_50 (lv_at hl1 5 rfl) ?_
        refine lv_iload hx hb d_Maker_make_52 (lv_at hl1 5 rfl) ?_
        refine va_iast hx hb hK.1 hP hD hS 1 0 rfl rfl (vp_in_nI (by first | assumption | omega) (by decide)) d_Maker_make_54 (fun H_187 locs hP1 hD1 hS1 => ?_)
        rw [nI_clamp (by first | exact Nat.lt_of_lt_of_le (by assumption) (by decide) | exact Nat.lt_of_le_of_lt (by assumption) (by decide) | omega)] at hP1 hD1
        clear hP hD hS
        have hS := hS1
        have hW7 : (fun w9 : va_W => va_P D classes w9 H_187 ∧ va_D A w9) [(c0, .inr (3, [.ref n0, .ref c1, .ref g0, .ref a0, .int (nI k1)])), (c1, .inl (ax 0, 16, .inl (upd sd1 i1 (nI i1)))), (n0, .inr (4, [.ref n1, .ref n2, .ref n3, .int 0])), (n1, .inl (ax 1, cp, .inl fo)), (n2, .inl (ax 0, cp, .inl fl)), (n3, .inl (ax 0, cp, .inl fr)), (h0, .inr (4, [.ref h1, .ref h2, .ref h3, .int (nI zs)])), (h1, .inl (ax 1, cs, .inl so)), (h2, .inl (ax 0, cs, .inl sl)), (h3, .inl (ax 0, cs, .inl sr)), (a0, .inr (4, [.ref a1, .ref a2, .ref a3, .int (nI za)])), (a1, .inl (ax 1, ca, .inl ao)), (a2, .inl (ax 0, ca, .inl al)), (a3, .inl (ax 0, ca, .inl ar)), (b0, .inr (4, [.ref b1, .ref b2, .ref b3, .int (nI zb)])), (b1, .inl (ax 1, cb, .inl bo)), (b2, .inl (ax 0, cb, .inl bl)), (b3, .inl (ax 0, cb, .inl bq)), (g0, .inr (2, [.ref h0, .ref g1, .ref g2, .ref g3, .ref g4, .ref g5, .ref g6, .ref g7, .ref g8, .ref g9, .ref ga, .ref gb, .int (nI cl), .int (nI ln), .int (nI br), .int (nI lp), .int (nI va)])), (g1, .inl (ax 1, 20, .inl (fun j => nI (kd j)))), (g2, .inl (ax 1, 20, .inl (fun j => nI (ow j)))), (g3, .inl (ax 1, 20, .inl (fun j => nI (sb j)))), (g4, .inl (ax 1, 20, .inl (fun j => nI (f1 j)))), (g5, .inl (ax 1, 20, .inl (fun j => nI (f2 j)))), (g6, .inl (ax 2, 20, .inl (fun j => nI (te j)))), (g7, .inl (ax 2, 20, .inl (fun j => nI (kp j)))), (g8, .inl (ax 0, 20, .inl tm)), (g9, .inl (ax 1, 20, .inl (fun j => nI (nm j)))), (ga, .inl (ax 1, 29, .inl (fun j => nI (ck j)))), (gb, .inl (ax 1, 29, .inl (fun j => nI (co j))))] := ⟨hP1, hD1⟩
        obtain ⟨hP, hD⟩ := hW7
        clear hP1 hD1 hS1
        refine lv_iinc (v := nI (i1 + 1)) (lv' := [(5, .int (nI (i1 + 1))), (0, .ref c0), (1, .ref g0), (2, .ref b0), (3, .ref a0), (4, .int (nI k1))]) hx hb d_Maker_make_55 hl1 (k := 5) rfl (nI_add i1 1) (by decide) rfl (fun ls hl2 => ?_)
        clear hl1; have hl1 := hl2; clear hl2
        refine lv_goto (tgt := 36) hx hb d_Maker_make_58 (by decide) ?_
        exact ih_10 (i1 + 1) (upd sd1 i1 (nI i1)) (by first | assumption | omega) (by first | assumption | omega) (fun j hj => by unfold upd; split; (exact trm_nm (by first | assumption | omega)); (exact hs1 j hj)) (fun j hj => by unfold upd; split; (next e => rw [e]); (next e => exact hs7 j (by first | assumption | omega))) _ _ _ (hP.sub [0, 1, 2, 3, 4, 5, 6, 7, 8, 9, 10, 11, 12, 13, 14, 15, 16, 17, 18, 19, 20, 21, 22, 23, 24, 25, 26, 27, 28, 29] rfl) (hD.sub [0, 1, 2, 3, 4, 5, 6, 7, 8, 9, 10, 11, 12, 13, 14, 15, 16, 17, 18, 19, 20, 21, 22, 23, 24, 25, 26, 27, 28, 29] (by decide) rfl) hS (lv_sub hl1 [1, 2, 3, 4, 5, 0] rfl)
  · have hmd : s_made = nI k1 := by assumption
    have hfz := hfm (by rw [hmd, ← nIm]; exact fun q => by have := nI_inj32 q (by first | assumption | omega) (by first | assumption | omega); omega)
    have hfz1 := hfz.2.1
    have hfz2 := hfz.2.2.1
    rw [← hQe]
    refine wk_know (fun hk8 hk9 => ?_)
    refine W.widen (k := MX - cp) (n := 6 * (MX - cp)) (by first | assumption | omega) (by first | assumption | omega) ?_
    obtain ⟨hP9, hD9⟩ := xw_sub2 (wc := (fun (u : Nat → Nat) (xsd : Nat → Int32) (xmd : Int32) (xvl : Value) (xva : Value) (xfo : Nat → Int32) (xfl : Nat → Int32) (xfr : Nat → Int32) => [(c0, .inr (3, [.ref n0, .ref c1, xvl, xva, .int xmd])), (c1, .inl (ax 0, 16, .inl xsd)), (n0, .inr (4, [.ref (u 0), .ref (u 1), .ref (u 2), .int (nI (u 3))])), (u 0, .inl (ax 1, u 4, .inl xfo)), (u 1, .inl (ax 0, u 4, .inl xfl)), (u 2, .inl (ax 0, u 4, .inl xfr)), (h0, .inr (4, [.ref h1, .ref h2, .ref h3, .int (nI zs)])), (h1, .inl (ax 1, cs, .inl so)), (h2, .inl (ax 0, cs, .inl sl)), (h3, .inl (ax 0, cs, .inl sr)), (a0, .inr (4, [.ref a1, .ref a2, .ref a3, .int (nI za)])), (a1, .inl (ax 1, ca, .inl ao)), (a2, .inl (ax 0, ca, .inl al)), (a3, .inl (ax 0, ca, .inl ar)), (b0, .inr (4, [.ref b1, .ref b2, .ref b3, .int (nI zb)])), (b1, .inl (ax 1, cb, .inl bo)), (b2, .inl (ax 0, cb, .inl bl)), (b3, .inl (ax 0, cb, .inl bq)), (g0, .inr (2, [.ref h0, .ref g1, .ref g2, .ref g3, .ref g4, .ref g5, .ref g6, .ref g7, .ref g8, .ref g9, .ref ga, .ref gb, .int (nI cl), .int (nI ln), .int (nI br), .int (nI lp), .int (nI va)])), (g1, .inl (ax 1, 20, .inl (fun j => nI (kd j)))), (g2, .inl (ax 1, 20, .inl (fun j => nI (ow j)))), (g3, .inl (ax 1, 20, .inl (fun j => nI (sb j)))), (g4, .inl (ax 1, 20, .inl (fun j => nI (f1 j)))), (g5, .inl (ax 1, 20, .inl (fun j => nI (f2 j)))), (g6, .inl (ax 2, 20, .inl (fun j => nI (te j)))), (g7, .inl (ax 2, 20, .inl (fun j => nI (kp j)))), (g8, .inl (ax 0, 20, .inl tm)), (g9, .inl (ax 1, 20, .inl (fun j => nI (nm j)))), (ga, .inl (ax 1, 29, .inl (fun j => nI (ck j)))), (gb, .inl (ax 1, 29, .inl (fun j => nI (co j))))]) (ixn [n1, n2, n3, z9, cp]) sd s_made vl va9 fo fl fr) hP hD [0, 1, 2, 3, 4, 5, 6, 7, 8, 9, 10, 11, 12, 13, 14, 15, 16, 17, 18, 19, 20, 21, 22, 23, 24, 25, 26, 27, 28, 29] (by decide) rfl
    have hex0 : ndv fo fl fr (z9) := (hfz.1)
    have hex1 : bts fo (cp) := hfo
    have hex2 : tsn fo fl fr (z9 - 1) ≤ 32768 := hfz.2.2.2
    have hex3 : ∀ j, j ≤ 10 → trm (sd j) := hsd
    have hex4 : s_made = nI k1 := hmd
    have hex5 : (ndl fo fl fr (mkF pr po X Y f1 IT (ck k1) (co k1)) ∧ (mkF pr po X Y f1 IT (ck k1) (co k1)).length = z9) ∧ ∃ d, cmpl d (mkF pr po X Y f1 IT (ck k1) (co k1)) := (hf7 k1 hk1 hmd)
    have hg8 : s.heap.size ≤ s.heap.size + (cp - cp) := by omega
    have hg9 : tsl s.heap ≤ tsl s.heap + (6 * (cp - cp)) := by omega
    have hsp0 : 1 ≤ z9 := (by first | assumption | omega)
    have hsp1 : z9 ≤ 32768 := (by first | assumption | omega)
    have hsp2 : z9 ≤ cp := (by first | assumption | omega)
    have hsp3 : cp ≤ cp := (by first | assumption | omega)
    have hsp4 : cp ≤ MX := (by first | assumption | omega)
    have hsp5 : dbl cp (cp) := dbl.rf
    exact W.vret hx hb hr (fun t ht hW => ⟨⟨ixn [n1, n2, n3, z9, cp], rfl, ⟨hsp0, hsp1, hsp2, hsp3, hsp4, hsp5⟩, ⟨sd, s_made, vl, va9, fo, fl, fr, by rw [ht]; exact hg8, by rw [ht]; exact hg9, hex0, hex1, hex2, hex3, hex4, hex5, by rw [ht]; exact hP9, hD9⟩⟩, hS.F ht⟩) hS.2.2 d_Maker_make_9
