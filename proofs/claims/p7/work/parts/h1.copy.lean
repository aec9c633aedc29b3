theorem ps_23 : Cond.selects "TripleDesk$Maker" ⟨"TripleDesk$Maker", "copy", "(LTripleDesk$Nodes;I)I"⟩ ⟨"TripleDesk$Maker", "copy", "(LTripleDesk$Nodes;I)I"⟩ ∈ lw_gd := ps_in (q := (⟨"TripleDesk$Maker", "copy", "(LTripleDesk$Nodes;I)I"⟩, 5)) (i := 23) (by decide +kernel)
theorem ps_24 : Cond.selects "TripleDesk$Maker" ⟨"TripleDesk$Maker", "put", "(I)I"⟩ ⟨"TripleDesk$Maker", "put", "(I)I"⟩ ∈ lw_gd := ps_in (q := (⟨"TripleDesk$Maker", "put", "(I)I"⟩, 5)) (i := 24) (by decide +kernel)
theorem wd_4 : ((Jvm.Cond.initialized "TripleDesk$Maker")) ∈ lw_gd := lw_gd_in (i := 4) (by decide +kernel) rfl
theorem wd_107 : ((Jvm.Cond.fieldLink "TripleDesk$Maker" (111 : Nat) "TripleDesk$Nodes" "op" "[B")) ∈ lw_gd := lw_gd_in (i := 107) (by decide +kernel) rfl
theorem wd_112 : ((Jvm.Cond.fieldLink "TripleDesk$Maker" (114 : Nat) "TripleDesk$Nodes" "left" "[I")) ∈ lw_gd := lw_gd_in (i := 112) (by decide +kernel) rfl
theorem wd_117 : ((Jvm.Cond.fieldLink "TripleDesk$Maker" (117 : Nat) "TripleDesk$Nodes" "right" "[I")) ∈ lw_gd := lw_gd_in (i := 117) (by decide +kernel) rfl
theorem wd_129 : ((Jvm.Cond.fieldLink "TripleDesk$Maker" (12 : Nat) "TripleDesk$Maker" "formula" "LTripleDesk$Nodes;")) ∈ lw_gd := lw_gd_in (i := 129) (by decide +kernel) rfl
theorem wd_131 : ((Jvm.Cond.fieldLink "TripleDesk$Maker" (18 : Nat) "TripleDesk$Maker" "stands" "[I")) ∈ lw_gd := lw_gd_in (i := 131) (by decide +kernel) rfl
theorem wd_773 : ((Jvm.Cond.methodLink "TripleDesk$Maker" (46 : Nat) ({ cls := "TripleDesk$Maker", name := "copy", desc := "(LTripleDesk$Nodes;I)I" } : Jvm.MethodName))) ∈ lw_gd := lw_gd_in (i := 773) (by decide +kernel) rfl
theorem wd_775 : ((Jvm.Cond.instanceMethod ({ cls := "TripleDesk$Maker", name := "copy", desc := "(LTripleDesk$Nodes;I)I" } : Jvm.MethodName))) ∈ lw_gd := lw_gd_in (i := 775) (by decide +kernel) rfl
theorem wd_776 : ((Jvm.Cond.code ({ cls := "TripleDesk$Maker", name := "copy", desc := "(LTripleDesk$Nodes;I)I" } : Jvm.MethodName) prog_5_method_11_code (5 : Nat) (Option.some Jvm.ClassFile.FieldType.int))) ∈ lw_gd := lw_gd_in (i := 776) (by decide +kernel) rfl
theorem wd_777 : ((Jvm.Cond.methodLink "TripleDesk$Maker" (99 : Nat) ({ cls := "TripleDesk$Maker", name := "put", desc := "(I)I" } : Jvm.MethodName))) ∈ lw_gd := lw_gd_in (i := 777) (by decide +kernel) rfl
theorem wd_779 : ((Jvm.Cond.instanceMethod ({ cls := "TripleDesk$Maker", name := "put", desc := "(I)I" } : Jvm.MethodName))) ∈ lw_gd := lw_gd_in (i := 779) (by decide +kernel) rfl
theorem wd_780 : ((Jvm.Cond.code ({ cls := "TripleDesk$Maker", name := "put", desc := "(I)I" } : Jvm.MethodName) prog_5_method_12_code (2 : Nat) (Option.some Jvm.ClassFile.FieldType.int))) ∈ lw_gd := lw_gd_in (i := 780) (by decide +kernel) rfl
theorem wd_781 : ((Jvm.Cond.methodLink "TripleDesk$Maker" (57 : Nat) ({ cls := "TripleDesk$Nodes", name := "add", desc := "(III)I" } : Jvm.MethodName))) ∈ lw_gd := lw_gd_in (i := 781) (by decide +kernel) rfl
abbrev b_Maker_copy : ByteArray := prog_5_method_11_code
def y_Maker_copy : MethodName := ⟨R_Maker, "copy", "(LTripleDesk$Nodes;I)I"⟩
def CCp (l : Launch) (nd : Nat) : Prop := ∀ (D : va_G) (ax : Nat → ClassId) (c0 c1 : Nat) (vl va9 : Value) (s_made : Int32) (sd : Nat → Int32) (n0 n1 n2 n3 cp z9 : Nat) (fo fl fr : Nat → Int32) (h0 h1 h2 h3 zs cs : Nat) (so sl sr : Nat → Int32) (MX : Nat) (lz9 l0 : List sgT) (h9 : Nat → Nat × Int32) (NN : Nat) (sz tz : Nat) (hcp : 8 ≤ cp) (hz9 : z9 ≤ cp) (hmx : cp ≤ MX) (hMX : MX ≤ 100000) (hfo : bts fo cp) (hnv : ndv fo fl fr z9) (hsd : ∀ j, j ≤ 10 → trm (sd j)) (hzs : zs ≤ cs) (hcs : cs ≤ 100000) (hnd : nd < zs) (hsv : ndv so sl sr zs) (hbd : 2 * (z9 + tsn so sl sr nd) ≤ MX) (hls : srk so sl sr zs NN lz9) (hL9 : ndl fo fl fr l0 ∧ l0.length = z9) (hst9 : ∀ j, j ≤ 10 → sd j = tmI (h9 j)), Met l y_Maker_copy (xws (.code y_Maker_copy b_Maker_copy 5 (some .int))) ({ frames := 50 + 2 * nd, cells := MX - cp, slots := 6 * (MX - cp), locals := 2000 + 40 * nd }) (va_Pc [.ref c0, .ref h0, .int (nI nd)] (xo3 D ax [(c0, .inr (3, [.ref n0, .ref c1, vl, va9, .int s_made])), (c1, .inl (ax 0, 16, .inl sd)), (n0, .inr (4, [.ref n1, .ref n2, .ref n3, .int (nI z9)])), (n1, .inl (ax 1, cp, .inl fo)), (n2, .inl (ax 0, cp, .inl fl)), (n3, .inl (ax 0, cp, .inl fr)), (h0, .inr (4, [.ref h1, .ref h2, .ref h3, .int (nI zs)])), (h1, .inl (ax 1, cs, .inl so)), (h2, .inl (ax 0, cs, .inl sl)), (h3, .inl (ax 0, cs, .inl sr))] sz tz)) ((va_Qi (fun (r : Int32) (u : Nat → Nat) => r = nI (u 5) ∧ (z9 ≤ u 3 ∧ u 3 ≤ u 4 ∧ cp ≤ u 4 ∧ u 4 ≤ MX ∧ dbl cp (u 4) ∧ u 5 + 1 = u 3 ∧ u 3 = z9 + tsn so sl sr nd)) (fun (u : Nat → Nat) (t9 : State) => ∃ xfo : Nat → Int32, ∃ xfl : Nat → Int32, ∃ xfr : Nat → Int32, (t9.heap.size ≤ sz + (u 4 - cp)) ∧ (tsl t9.heap ≤ tz + (6 * (u 4 - cp))) ∧ (ndv xfo xfl xfr (u 3)) ∧ (bts xfo (u 4)) ∧ (∀ i, i < z9 → tsn xfo xfl xfr i = tsn fo fl fr i) ∧ (tsn xfo xfl xfr (u 5) + z9 ≤ u 3) ∧ (ndl xfo xfl xfr (l0 ++ ptL h9 (sub9 lz9 nd)) ∧ (l0 ++ ptL h9 (sub9 lz9 nd)).length = u 3) ∧ (cmpl (dpl lz9 nd) (ptL h9 (sub9 lz9 nd))) ∧ va_P D classes [(c0, .inr (3, [.ref n0, .ref c1, vl, va9, .int s_made])), (c1, .inl (ax 0, 16, .inl sd)), (n0, .inr (4, [.ref (u 0), .ref (u 1), .ref (u 2), .int (nI (u 3))])), (u 0, .inl (ax 1, u 4, .inl xfo)), (u 1, .inl (ax 0, u 4, .inl xfl)), (u 2, .inl (ax 0, u 4, .inl xfr)), (h0, .inr (4, [.ref h1, .ref h2, .ref h3, .int (nI zs)])), (h1, .inl (ax 1, cs, .inl so)), (h2, .inl (ax 0, cs, .inl sl)), (h3, .inl (ax 0, cs, .inl sr))] t9.heap ∧ va_D (va_A [(c0, .inr (3, [.ref n0, .ref c1, vl, va9, .int s_made])), (c1, .inl (ax 0, 16, .inl sd)), (n0, .inr (4, [.ref n1, .ref n2, .ref n3, .int (nI z9)])), (n1, .inl (ax 1, cp, .inl fo)), (n2, .inl (ax 0, cp, .inl fl)), (n3, .inl (ax 0, cp, .inl fr)), (h0, .inr (4, [.ref h1, .ref h2, .ref h3, .int (nI zs)])), (h1, .inl (ax 1, cs, .inl so)), (h2, .inl (ax 0, cs, .inl sl)), (h3, .inl (ax 0, cs, .inl sr))] sz) [(c0, .inr (3, [.ref n0, .ref c1, vl, va9, .int s_made])), (c1, .inl (ax 0, 16, .inl sd)), (n0, .inr (4, [.ref (u 0), .ref (u 1), .ref (u 2), .int (nI (u 3))])), (u 0, .inl (ax 1, u 4, .inl xfo)), (u 1, .inl (ax 0, u 4, .inl xfl)), (u 2, .inl (ax 0, u 4, .inl xfr)), (h0, .inr (4, [.ref h1, .ref h2, .ref h3, .int (nI zs)])), (h1, .inl (ax 1, cs, .inl so)), (h2, .inl (ax 0, cs, .inl sl)), (h3, .inl (ax 0, cs, .inl sr))]) (va_A [(c0, .inr (3, [.ref n0, .ref c1, vl, va9, .int s_made])), (c1, .inl (ax 0, 16, .inl sd)), (n0, .inr (4, [.ref n1, .ref n2, .ref n3, .int (nI z9)])), (n1, .inl (ax 1, cp, .inl fo)), (n2, .inl (ax 0, cp, .inl fl)), (n3, .inl (ax 0, cp, .inl fr)), (h0, .inr (4, [.ref h1, .ref h2, .ref h3, .int (nI zs)])), (h1, .inl (ax 1, cs, .inl so)), (h2, .inl (ax 0, cs, .inl sl)), (h3, .inl (ax 0, cs, .inl sr))] sz))) (MX - cp) (6 * (MX - cp)) (va_A [(c0, .inr (3, [.ref n0, .ref c1, vl, va9, .int s_made])), (c1, .inl (ax 0, 16, .inl sd)), (n0, .inr (4, [.ref n1, .ref n2, .ref n3, .int (nI z9)])), (n1, .inl (ax 1, cp, .inl fo)), (n2, .inl (ax 0, cp, .inl fl)), (n3, .inl (ax 0, cp, .inl fr)), (h0, .inr (4, [.ref h1, .ref h2, .ref h3, .int (nI zs)])), (h1, .inl (ax 1, cs, .inl so)), (h2, .inl (ax 0, cs, .inl sl)), (h3, .inl (ax 0, cs, .inl sr))] sz)
theorem tsn_pos {fo fl fr : Nat → Int32} {i : Nat} : 1 ≤ tsn fo fl fr i := by
  show 1 ≤ (if i2n (fo i) < 6 then 1 else if i2n (fo i) = 6 then 1 + tsz fo fl fr i (i2n (fl i)) else 1 + tsz fo fl fr i (i2n (fl i)) + tsz fo fl fr i (i2n (fr i)))
  split
  · exact Nat.le_refl _
  · split <;> omega
theorem nad.not6 {fo fo' fl fl' fr fr' : Nat → Int32} {n a o : Nat} {x3 : Int32} (ho : o = 6) (hn : n < 2 ^ 31) (hv : ndv fo fl fr n) (ha : a < n) (w : nad fo fo' fl fl' fr fr' n (nI o) (nI a) x3) : tsn fo' fl' fr' n = 1 + tsn fo fl fr a := by
  subst ho; exact nad.not hn hv ha w
theorem nd_not6 {n o a : Nat} {x3 : Int32} (ho : o = 6) (h : a < n) : ∃ k, k ≤ 8 ∧ nI o = nI k ∧ (k < 6 → trm (nI a) ∧ trm x3) ∧ (6 ≤ k → ∃ a', a' < n ∧ nI a = nI a') ∧ (7 ≤ k → ∃ b, b < n ∧ x3 = nI b) := ⟨6, by omega, by rw [ho], fun q => by omega, fun _ => ⟨a, h, rfl⟩, fun q => by omega⟩
abbrev b_Maker_put : ByteArray := prog_5_method_12_code
def y_Maker_put : MethodName := ⟨R_Maker, "put", "(I)I"⟩
theorem d_Maker_put_0 : decode b_Maker_put 0 = .ok (.aload_n 0, 1) := by decide +kernel
theorem d_Maker_put_1 : decode b_Maker_put 1 = .ok (.getfield 18, 3) := by decide +kernel
theorem d_Maker_put_4 : decode b_Maker_put 4 = .ok (.iload_n 1, 1) := by decide +kernel
theorem d_Maker_put_5 : decode b_Maker_put 5 = .ok (.bipush 15, 2) := by decide +kernel
theorem d_Maker_put_7 : decode b_Maker_put 7 = .ok (.iand, 1) := by decide +kernel
theorem d_Maker_put_8 : decode b_Maker_put 8 = .ok (.iaload, 1) := by decide +kernel
theorem d_Maker_put_9 : decode b_Maker_put 9 = .ok (.iload_n 1, 1) := by decide +kernel
theorem d_Maker_put_10 : decode b_Maker_put 10 = .ok (.bipush (-16), 2) := by decide +kernel
theorem d_Maker_put_12 : decode b_Maker_put 12 = .ok (.iand, 1) := by decide +kernel
theorem d_Maker_put_13 : decode b_Maker_put 13 = .ok (.iadd, 1) := by decide +kernel
theorem d_Maker_put_14 : decode b_Maker_put 14 = .ok (.ireturn, 1) := by decide +kernel
set_option maxHeartbeats 40000000 in
set_option maxRecDepth 100000 in
theorem c_K_put (l : Launch) (D : va_G) (ax : Nat → ClassId) (c0 c1 : Nat) (vl va9 : Value) (s_made : Int32) (sd : Nat → Int32) (n0 : Nat) (x1 : Int32) (t9 : Nat × Int32) (h9 : Nat → Nat × Int32) (sz : Nat) (hsd : ∀ j, j ≤ 10 → trm (sd j)) (hx1 : trm x1) (hst9 : ∀ j, j ≤ 10 → sd j = tmI (h9 j)) (ht9 : t9.1 ≤ 10) (hx9 : x1 = tmI t9) : Met l y_Maker_put (xws (.code y_Maker_put b_Maker_put 2 (some .int))) ({ frames := 10, cells := 0, slots := 0, locals := 400 }) (va_Pc [.ref c0, .int x1] (xo D ax [(c0, .inr (3, [.ref n0, .ref c1, vl, va9, .int s_made])), (c1, .inl (ax 0, 16, .inl sd))] sz)) ((va_Qi (fun (r : Int32) (u : Nat → Nat) => r = nI (u 0) ∧ (trm (nI (u 0)) ∧ nI (u 0) = tmI (ptT h9 t9))) (xb D (va_A [(c0, .inr (3, [.ref n0, .ref c1, vl, va9, .int s_made])), (c1, .inl (ax 0, 16, .inl sd))] sz) (fun u => [(c0, .inr (3, [.ref n0, .ref c1, vl, va9, .int s_made])), (c1, .inl (ax 0, 16, .inl sd))])) (va_A [(c0, .inr (3, [.ref n0, .ref c1, vl, va9, .int s_made])), (c1, .inl (ax 0, 16, .inl sd))] sz))) 0 0 (va_A [(c0, .inr (3, [.ref n0, .ref c1, vl, va9, .int s_made])), (c1, .inl (ax 0, 16, .inl sd))] sz) := by
  refine Met.ofW (cc := b_Maker_put) (maxL := 2) (ret := (some .int)) (by decide) rfl ?_
  intro p e s m args below meth c s₁ B hml hv
  obtain ⟨rfl, hsz, hP, hK, hD0⟩ := hv
  have hx := B.exec
  have hb := B.bytes
  have hr := B.returns
  have hts := xw_hts B.pre
  have hown : s.vm.findClass R_Maker = some m.cls := findClass_of_methodNamed B.named
  have hlocks := B.notSynchronized
  subst hsz
  have hD := hD0.self (sz := s.heap.size)
  have hN := xz_entry hP
  generalize hAe : va_A [(c0, .inr (3, [.ref n0, .ref c1, vl, va9, .int s_made])), (c1, .inl (ax 0, 16, .inl sd))] s.heap.size = A at hD hN ⊢
  have hA : ∀ q : Nat, s.heap.size ≤ q → A q := fun q h => by rw [← hAe]; exact Or.inr h
  have hS : va_S A s.heap s.heap [] := va_S.rf
  have hl0 := lv_entry ([.ref c0, .int x1]) (n := 2) (Nat.le_of_ble_eq_true rfl)
  rw [lg_entry_eq]
  generalize (lg_sl ([.ref c0, .int x1]) ++ List.replicate (2 - (lg_sl ([.ref c0, .int x1])).length) Slot.unset).toArray = ls at hl0 ⊢
  have hl1 : lv_has ls 2 [(0, .ref c0), (1, .int x1)] := hl0
  refine xw_gen (fun Z9 hQe => ?_)
  refine lv_aload_n hx hb d_Maker_put_0 rfl (lv_at hl1 0 rfl) ?_
  refine va_get (D := D) (ci := 3) (v := .ref c1) (C := R_Maker) (T := F_Maker) (N := 5) hx hb hts i_Maker hown hK.1 hP 0 rfl rfl 1 (by decide) (hts _ wd_131) (fun _ h9 => h9) rfl d_Maker_put_1 ?_
  refine lv_iload_n hx hb d_Maker_put_4 rfl (lv_at hl1 1 rfl) ?_
  refine lv_bipush (v := 15) hx hb d_Maker_put_5 (by decide) ?_
  refine lv_iand hx hb d_Maker_put_7 ?_
  refine lv_topi (fun z_1 ez_1 => ?_)
  have ez_1 : z_1 = nI (i2n x1 % 16) := ez_1.trans (nb_andm 4 x1)
  subst ez_1
  refine va_iald hx hb hK.1 hP 1 0 rfl rfl (vp_in_nI (by first | assumption | omega) (by decide)) d_Maker_put_8 ?_
  refine W.eq (g2 := F0 m 9 ls [.int (sd (i2n x1 % 16))]) (by rw [nI_clamp (by first | exact Nat.lt_of_lt_of_le (by assumption) (by decide) | exact Nat.lt_of_le_of_lt (by assumption) (by decide) | omega)]) ?_
  refine lv_iload_n hx hb d_Maker_put_9 rfl (lv_at hl1 1 rfl) ?_
  refine lv_bipush (v := (-16)) hx hb d_Maker_put_10 (by decide) ?_
  refine lv_iand hx hb d_Maker_put_12 ?_
  refine lv_topi (fun z_2 ez_2 => ?_)
  refine lv_iadd hx hb d_Maker_put_13 ?_
  refine lv_topi (fun z_3 ez_3 => ?_)
  rw [← hQe]
  obtain ⟨hP9, hD9⟩ := xw_sub2 (wc := (fun u : Nat → Nat => [(c0, .inr (3, [.ref n0, .ref c1, vl, va9, .int s_made])), (c1, .inl (ax 0, 16, .inl sd))]) (ixn [(i2n z_3)])) hP hD [0, 1] (by decide) rfl
  have hsp0 : trm (nI ((i2n z_3))) := (by rw [nI_i2n, ez_3, ez_2]; exact trm_put (hsd _ hx1.le))
  have hsp1 : nI ((i2n z_3)) = tmI (ptT h9 t9) := (by rw [nI_i2n, ez_3]; exact put_v hst9 ht9 hx9 (by rw [hx9, i2n_tm]; omega) ez_2)
  exact W.iret (v := z_3) hx hb hr (fun t ht hW => ⟨⟨z_3, ixn [(i2n z_3)], rfl, ⟨(nI_i2n _).symm, ⟨hsp0, hsp1⟩⟩, ⟨by rw [ht]; exact hP9, hD9⟩⟩, hS.F ht⟩) hS.2.2 d_Maker_put_14
theorem d_Maker_copy_0 : decode b_Maker_copy 0 = .ok (.aload_n 1, 1) := by decide +kernel
theorem d_Maker_copy_1 : decode b_Maker_copy 1 = .ok (.getfield 111, 3) := by decide +kernel
theorem d_Maker_copy_4 : decode b_Maker_copy 4 = .ok (.iload_n 2, 1) := by decide +kernel
theorem d_Maker_copy_5 : decode b_Maker_copy 5 = .ok (.baload, 1) := by decide +kernel
theorem d_Maker_copy_6 : decode b_Maker_copy 6 = .ok (.istore_n 3, 1) := by decide +kernel
theorem d_Maker_copy_7 : decode b_Maker_copy 7 = .ok (.iload_n 3, 1) := by decide +kernel
theorem d_Maker_copy_8 : decode b_Maker_copy 8 = .ok (.bipush 6, 2) := by decide +kernel
theorem d_Maker_copy_10 : decode b_Maker_copy 10 = .ok (.if_icmp .ge 32, 3) := by decide +kernel
theorem d_Maker_copy_13 : decode b_Maker_copy 13 = .ok (.aload_n 0, 1) := by decide +kernel
theorem d_Maker_copy_14 : decode b_Maker_copy 14 = .ok (.getfield 12, 3) := by decide +kernel
theorem d_Maker_copy_17 : decode b_Maker_copy 17 = .ok (.iload_n 3, 1) := by decide +kernel
theorem d_Maker_copy_18 : decode b_Maker_copy 18 = .ok (.aload_n 0, 1) := by decide +kernel
theorem d_Maker_copy_19 : decode b_Maker_copy 19 = .ok (.aload_n 1, 1) := by decide +kernel
theorem d_Maker_copy_20 : decode b_Maker_copy 20 = .ok (.getfield 114, 3) := by decide +kernel
theorem d_Maker_copy_23 : decode b_Maker_copy 23 = .ok (.iload_n 2, 1) := by decide +kernel
theorem d_Maker_copy_24 : decode b_Maker_copy 24 = .ok (.iaload, 1) := by decide +kernel
theorem d_Maker_copy_25 : decode b_Maker_copy 25 = .ok (.invokevirtual 99, 3) := by decide +kernel
theorem d_Maker_copy_28 : decode b_Maker_copy 28 = .ok (.aload_n 0, 1) := by decide +kernel
theorem d_Maker_copy_29 : decode b_Maker_copy 29 = .ok (.aload_n 1, 1) := by decide +kernel
theorem d_Maker_copy_30 : decode b_Maker_copy 30 = .ok (.getfield 117, 3) := by decide +kernel
theorem d_Maker_copy_33 : decode b_Maker_copy 33 = .ok (.iload_n 2, 1) := by decide +kernel
theorem d_Maker_copy_34 : decode b_Maker_copy 34 = .ok (.iaload, 1) := by decide +kernel
theorem d_Maker_copy_35 : decode b_Maker_copy 35 = .ok (.invokevirtual 99, 3) := by decide +kernel
theorem d_Maker_copy_38 : decode b_Maker_copy 38 = .ok (.invokevirtual 57, 3) := by decide +kernel
theorem d_Maker_copy_41 : decode b_Maker_copy 41 = .ok (.ireturn, 1) := by decide +kernel
theorem d_Maker_copy_42 : decode b_Maker_copy 42 = .ok (.aload_n 0, 1) := by decide +kernel
theorem d_Maker_copy_43 : decode b_Maker_copy 43 = .ok (.aload_n 1, 1) := by decide +kernel
theorem d_Maker_copy_44 : decode b_Maker_copy 44 = .ok (.aload_n 1, 1) := by decide +kernel
theorem d_Maker_copy_45 : decode b_Maker_copy 45 = .ok (.getfield 114, 3) := by decide +kernel
theorem d_Maker_copy_48 : decode b_Maker_copy 48 = .ok (.iload_n 2, 1) := by decide +kernel
theorem d_Maker_copy_49 : decode b_Maker_copy 49 = .ok (.iaload, 1) := by decide +kernel
theorem d_Maker_copy_50 : decode b_Maker_copy 50 = .ok (.invokevirtual 46, 3) := by decide +kernel
theorem d_Maker_copy_53 : decode b_Maker_copy 53 = .ok (.istore 4, 2) := by decide +kernel
theorem d_Maker_copy_55 : decode b_Maker_copy 55 = .ok (.aload_n 0, 1) := by decide +kernel
theorem d_Maker_copy_56 : decode b_Maker_copy 56 = .ok (.getfield 12, 3) := by decide +kernel
theorem d_Maker_copy_59 : decode b_Maker_copy 59 = .ok (.iload_n 3, 1) := by decide +kernel
theorem d_Maker_copy_60 : decode b_Maker_copy 60 = .ok (.iload 4, 2) := by decide +kernel
theorem d_Maker_copy_62 : decode b_Maker_copy 62 = .ok (.iload_n 3, 1) := by decide +kernel
theorem d_Maker_copy_63 : decode b_Maker_copy 63 = .ok (.bipush 6, 2) := by decide +kernel
theorem d_Maker_copy_65 : decode b_Maker_copy 65 = .ok (.if_icmp .ne 7, 3) := by decide +kernel
theorem d_Maker_copy_68 : decode b_Maker_copy 68 = .ok (.iconst (-1), 1) := by decide +kernel
theorem d_Maker_copy_69 : decode b_Maker_copy 69 = .ok (.goto 14, 3) := by decide +kernel
theorem d_Maker_copy_72 : decode b_Maker_copy 72 = .ok (.aload_n 0, 1) := by decide +kernel
theorem d_Maker_copy_73 : decode b_Maker_copy 73 = .ok (.aload_n 1, 1) := by decide +kernel
theorem d_Maker_copy_74 : decode b_Maker_copy 74 = .ok (.aload_n 1, 1) := by decide +kernel
theorem d_Maker_copy_75 : decode b_Maker_copy 75 = .ok (.getfield 117, 3) := by decide +kernel
theorem d_Maker_copy_78 : decode b_Maker_copy 78 = .ok (.iload_n 2, 1) := by decide +kernel
theorem d_Maker_copy_79 : decode b_Maker_copy 79 = .ok (.iaload, 1) := by decide +kernel
theorem d_Maker_copy_80 : decode b_Maker_copy 80 = .ok (.invokevirtual 46, 3) := by decide +kernel
theorem d_Maker_copy_83 : decode b_Maker_copy 83 = .ok (.invokevirtual 57, 3) := by decide +kernel
theorem d_Maker_copy_86 : decode b_Maker_copy 86 = .ok (.ireturn, 1) := by decide +kernel
set_option maxHeartbeats 40000000 in
set_option maxRecDepth 100000 in
theorem c_K_copy (l : Launch) (nd : Nat) (hrec : ∀ a, a < nd → CCp l a) (D : va_G) (ax : Nat → ClassId) (c0 c1 : Nat) (vl va9 : Value) (s_made : Int32) (sd : Nat → Int32) (n0 n1 n2 n3 cp z9 : Nat) (fo fl fr : Nat → Int32) (h0 h1 h2 h3 zs cs : Nat) (so sl sr : Nat → Int32) (MX : Nat) (lz9 l0 : List sgT) (h9 : Nat → Nat × Int32) (NN : Nat) (sz tz : Nat) (hcp : 8 ≤ cp) (hz9 : z9 ≤ cp) (hmx : cp ≤ MX) (hMX : MX ≤ 100000) (hfo : bts fo cp) (hnv : ndv fo fl fr z9) (hsd : ∀ j, j ≤ 10 → trm (sd j)) (hzs : zs ≤ cs) (hcs : cs ≤ 100000) (hnd : nd < zs) (hsv : ndv so sl sr zs) (hbd : 2 * (z9 + tsn so sl sr nd) ≤ MX) (hls : srk so sl sr zs NN lz9) (hL9 : ndl fo fl fr l0 ∧ l0.length = z9) (hst9 : ∀ j, j ≤ 10 → sd j = tmI (h9 j)) : Met l y_Maker_copy (xws (.code y_Maker_copy b_Maker_copy 5 (some .int))) ({ frames := 50 + 2 * nd, cells := MX - cp, slots := 6 * (MX - cp), locals := 2000 + 40 * nd }) (va_Pc [.ref c0, .ref h0, .int (nI nd)] (xo3 D ax [(c0, .inr (3, [.ref n0, .ref c1, vl, va9, .int s_made])), (c1, .inl (ax 0, 16, .inl sd)), (n0, .inr (4, [.ref n1, .ref n2, .ref n3, .int (nI z9)])), (n1, .inl (ax 1, cp, .inl fo)), (n2, .inl (ax 0, cp, .inl fl)), (n3, .inl (ax 0, cp, .inl fr)), (h0, .inr (4, [.ref h1, .ref h2, .ref h3, .int (nI zs)])), (h1, .inl (ax 1, cs, .inl so)), (h2, .inl (ax 0, cs, .inl sl)), (h3, .inl (ax 0, cs, .inl sr))] sz tz)) ((va_Qi (fun (r : Int32) (u : Nat → Nat) => r = nI (u 5) ∧ (z9 ≤ u 3 ∧ u 3 ≤ u 4 ∧ cp ≤ u 4 ∧ u 4 ≤ MX ∧ dbl cp (u 4) ∧ u 5 + 1 = u 3 ∧ u 3 = z9 + tsn so sl sr nd)) (fun (u : Nat → Nat) (t9 : State) => ∃ xfo : Nat → Int32, ∃ xfl : Nat → Int32, ∃ xfr : Nat → Int32, (t9.heap.size ≤ sz + (u 4 - cp)) ∧ (tsl t9.heap ≤ tz + (6 * (u 4 - cp))) ∧ (ndv xfo xfl xfr (u 3)) ∧ (bts xfo (u 4)) ∧ (∀ i, i < z9 → tsn xfo xfl xfr i = tsn fo fl fr i) ∧ (tsn xfo xfl xfr (u 5) + z9 ≤ u 3) ∧ (ndl xfo xfl xfr (l0 ++ ptL h9 (sub9 lz9 nd)) ∧ (l0 ++ ptL h9 (sub9 lz9 nd)).length = u 3) ∧ (cmpl (dpl lz9 nd) (ptL h9 (sub9 lz9 nd))) ∧ va_P D classes [(c0, .inr (3, [.ref n0, .ref c1, vl, va9, .int s_made])), (c1, .inl (ax 0, 16, .inl sd)), (n0, .inr (4, [.ref (u 0), .ref (u 1), .ref (u 2), .int (nI (u 3))])), (u 0, .inl (ax 1, u 4, .inl xfo)), (u 1, .inl (ax 0, u 4, .inl xfl)), (u 2, .inl (ax 0, u 4, .inl xfr)), (h0, .inr (4, [.ref h1, .ref h2, .ref h3, .int (nI zs)])), (h1, .inl (ax 1, cs, .inl so)), (h2, .inl (ax 0, cs, .inl sl)), (h3, .inl (ax 0, cs, .inl sr))] t9.heap ∧ va_D (va_A [(c0, .inr (3, [.ref n0, .ref c1, vl, va9, .int s_made])), (c1, .inl (ax 0, 16, .inl sd)), (n0, .inr (4, [.ref n1, .ref n2, .ref n3, .int (nI z9)])), (n1, .inl (ax 1, cp, .inl fo)), (n2, .inl (ax 0, cp, .inl fl)), (n3, .inl (ax 0, cp, .inl fr)), (h0, .inr (4, [.ref h1, .ref h2, .ref h3, .int (nI zs)])), (h1, .inl (ax 1, cs, .inl so)), (h2, .inl (ax 0, cs, .inl sl)), (h3, .inl (ax 0, cs, .inl sr))] sz) [(c0, .inr (3, [.ref n0, .ref c1, vl, va9, .int s_made])), (c1, .inl (ax 0, 16, .inl sd)), (n0, .inr (4, [.ref (u 0), .ref (u 1), .ref (u 2), .int (nI (u 3))])), (u 0, .inl (ax 1, u 4, .inl xfo)), (u 1, .inl (ax 0, u 4, .inl xfl)), (u 2, .inl (ax 0, u 4, .inl xfr)), (h0, .inr (4, [.ref h1, .ref h2, .ref h3, .int (nI zs)])), (h1, .inl (ax 1, cs, .inl so)), (h2, .inl (ax 0, cs, .inl sl)), (h3, .inl (ax 0, cs, .inl sr))]) (va_A [(c0, .inr (3, [.ref n0, .ref c1, vl, va9, .int s_made])), (c1, .inl (ax 0, 16, .inl sd)), (n0, .inr (4, [.ref n1, .ref n2, .ref n3, .int (nI z9)])), (n1, .inl (ax 1, cp, .inl fo)), (n2, .inl (ax 0, cp, .inl fl)), (n3, .inl (ax 0, cp, .inl fr)), (h0, .inr (4, [.ref h1, .ref h2, .ref h3, .int (nI zs)])), (h1, .inl (ax 1, cs, .inl so)), (h2, .inl (ax 0, cs, .inl sl)), (h3, .inl (ax 0, cs, .inl sr))] sz))) (MX - cp) (6 * (MX - cp)) (va_A [(c0, .inr (3, [.ref n0, .ref c1, vl, va9, .int s_made])), (c1, .inl (ax 0, 16, .inl sd)), (n0, .inr (4, [.ref n1, .ref n2, .ref n3, .int (nI z9)])), (n1, .inl (ax 1, cp, .inl fo)), (n2, .inl (ax 0, cp, .inl fl)), (n3, .inl (ax 0, cp, .inl fr)), (h0, .inr (4, [.ref h1, .ref h2, .ref h3, .int (nI zs)])), (h1, .inl (ax 1, cs, .inl so)), (h2, .inl (ax 0, cs, .inl sl)), (h3, .inl (ax 0, cs, .inl sr))] sz) := by
  refine Met.ofW (cc := b_Maker_copy) (maxL := 5) (ret := (some .int)) (by decide) rfl ?_
  intro p e s m args below meth c s₁ B hml hv
  obtain ⟨rfl, ⟨hsz, hP, hK, hD0⟩, htz⟩ := hv
  have hx := B.exec
  have hb := B.bytes
  have hr := B.returns
  have hts := xw_hts B.pre
  have hown : s.vm.findClass R_Maker = some m.cls := findClass_of_methodNamed B.named
  have hlocks := B.notSynchronized
  subst hsz
  subst htz
  have hD := hD0.self (sz := s.heap.size)
  have hN := xz_entry hP
  generalize hAe : va_A [(c0, .inr (3, [.ref n0, .ref c1, vl, va9, .int s_made])), (c1, .inl (ax 0, 16, .inl sd)), (n0, .inr (4, [.ref n1, .ref n2, .ref n3, .int (nI z9)])), (n1, .inl (ax 1, cp, .inl fo)), (n2, .inl (ax 0, cp, .inl fl)), (n3, .inl (ax 0, cp, .inl fr)), (h0, .inr (4, [.ref h1, .ref h2, .ref h3, .int (nI zs)])), (h1, .inl (ax 1, cs, .inl so)), (h2, .inl (ax 0, cs, .inl sl)), (h3, .inl (ax 0, cs, .inl sr))] s.heap.size = A at hD hN ⊢
  have hA : ∀ q : Nat, s.heap.size ≤ q → A q := fun q h => by rw [← hAe]; exact Or.inr h
  have hS : va_S A s.heap s.heap [] := va_S.rf
  have hl0 := lv_entry ([.ref c0, .ref h0, .int (nI nd)]) (n := 5) (Nat.le_of_ble_eq_true rfl)
  rw [lg_entry_eq]
  generalize (lg_sl ([.ref c0, .ref h0, .int (nI nd)]) ++ List.replicate (5 - (lg_sl ([.ref c0, .ref h0, .int (nI nd)])).length) Slot.unset).toArray = ls at hl0 ⊢
  have hl1 : lv_has ls 5 [(0, .ref c0), (1, .ref h0), (2, .int (nI nd))] := hl0
  refine xw_gen (fun Z9 hQe => ?_)
  obtain ⟨o9, ho1, ho2, hnp⟩ := nd_p (hsv nd hnd)
  obtain ⟨hs1, hs2, hs3, hs4⟩ := id hls
  have hzn : nd < lz9.length := by omega
  have hop := hs1.op hs4 hzn ho2 (by first | assumption | omega)
  have htz : tsn so sl sr nd = szl lz9 nd := tsn_szl hs1 (by rw [hs2]; exact hsv) hs3 hs4 (by first | assumption | omega) nd hzn
  refine lv_aload_n hx hb d_Maker_copy_0 rfl (lv_at hl1 1 rfl) ?_
  refine va_get (D := D) (ci := 4) (v := .ref h1) (C := R_Nodes) (T := F_Nodes) (N := 4) hx hb hts i_Nodes hown hK.1 hP 6 rfl rfl 0 (by decide) (hts _ wd_107) (fun _ h9 => h9) rfl d_Maker_copy_1 ?_
  refine lv_iload_n hx hb d_Maker_copy_4 rfl (lv_at hl1 2 rfl) ?_
  refine va_bald hx hb hK.1 hP 7 1 rfl rfl (vp_in_nI (by first | assumption | omega) (by first | exact Nat.lt_of_lt_of_le (by assumption) (by decide) | exact Nat.lt_of_le_of_lt (by assumption) (by decide) | omega)) d_Maker_copy_5 ?_
  refine W.eq (g2 := F0 m 6 ls [.int (so nd)]) (by rw [nI_clamp (by first | exact Nat.lt_of_lt_of_le (by assumption) (by decide) | exact Nat.lt_of_le_of_lt (by assumption) (by decide) | omega)]) ?_
  refine W.eq (g2 := F0 m 6 ls [.int (nI o9)]) (by rw [ho2]) ?_
  refine lv_istore_n (lv' := [(3, .int (nI o9)), (0, .ref c0), (1, .ref h0), (2, .int (nI nd))]) hx hb d_Maker_copy_6 rfl hl1 (by decide) rfl (fun ls hl2 => ?_)
  clear hl1; have hl1 := hl2; clear hl2
  refine lv_iload_n hx hb d_Maker_copy_7 rfl (lv_at hl1 0 rfl) ?_
  refine lv_bipush (v := 6) hx hb d_Maker_copy_8 (by decide) ?_
  refine lv_icmp_ge (tgt := 42) hx hb d_Maker_copy_10 (by decide) (fun c_1 => ?_) (fun c_1 => ?_)
  · replace c_1 : 6 ≤ o9 := (nI_leI (a := 6) (b := o9) (by decide) (by first | exact Nat.lt_of_lt_of_le (by assumption) (by decide) | exact Nat.lt_of_le_of_lt (by assumption) (by decide) | omega)).mp c_1
    obtain ⟨a9, ha1, ha2⟩ := hnp.2.1 (by first | assumption | omega)
    have hpa := tsn_pos (fo := so) (fl := sl) (fr := sr) (i := a9)
    have hle9 : tsn so sl sr a9 + 1 ≤ tsn so sl sr nd := by
      by_cases h6 : o9 = 6
      · rw [tsn_not (n := nd) (by first | assumption | omega) (hsv.old (by first | assumption | omega)) (show so nd = nI 6 by rw [ho2, h6]) ha1 ha2]; omega
      · obtain ⟨d9, hc1, hc2⟩ := hnp.2.2 (by first | assumption | omega)
        rw [tsn_bin (n := nd) (by first | assumption | omega) (hsv.old (by first | assumption | omega)) (o := o9) (by first | assumption | omega) ho2 ha1 ha2 hc1 hc2]; omega
    refine lv_aload_n hx hb d_Maker_copy_42 rfl (lv_at hl1 1 rfl) ?_
    refine lv_aload_n hx hb d_Maker_copy_43 rfl (lv_at hl1 2 rfl) ?_
    refine lv_aload_n hx hb d_Maker_copy_44 rfl (lv_at hl1 2 rfl) ?_
    refine va_get (D := D) (ci := 4) (v := .ref h2) (C := R_Nodes) (T := F_Nodes) (N := 4) hx hb hts i_Nodes hown hK.1 hP 6 rfl rfl 1 (by decide) (hts _ wd_112) (fun _ h9 => h9) rfl d_Maker_copy_45 ?_
    refine lv_iload_n hx hb d_Maker_copy_48 rfl (lv_at hl1 3 rfl) ?_
    refine va_iald hx hb hK.1 hP 8 0 rfl rfl (vp_in_nI (by first | assumption | omega) (by first | exact Nat.lt_of_lt_of_le (by assumption) (by decide) | exact Nat.lt_of_le_of_lt (by assumption) (by decide) | omega)) d_Maker_copy_49 ?_
    refine W.eq (g2 := F0 m 50 ls [.int (sl nd), .ref h0, .ref c0]) (by rw [nI_clamp (by first | exact Nat.lt_of_lt_of_le (by assumption) (by decide) | exact Nat.lt_of_le_of_lt (by assumption) (by decide) | omega)]) ?_
    refine W.eq (g2 := F0 m 50 ls [.int (nI a9), .ref h0, .ref c0]) (by rw [ha2]) ?_
    obtain ⟨hPc, hDc, hFc, hCs⟩ := xw_sub3 (wc := [(c0, .inr (3, [.ref n0, .ref c1, vl, va9, .int s_made])), (c1, .inl (ax 0, 16, .inl sd)), (n0, .inr (4, [.ref n1, .ref n2, .ref n3, .int (nI z9)])), (n1, .inl (ax 1, cp, .inl fo)), (n2, .inl (ax 0, cp, .inl fl)), (n3, .inl (ax 0, cp, .inl fr)), (h0, .inr (4, [.ref h1, .ref h2, .ref h3, .int (nI zs)])), (h1, .inl (ax 1, cs, .inl so)), (h2, .inl (ax 0, cs, .inl sl)), (h3, .inl (ax 0, cs, .inl sr))]) hP hD hS hA [0, 1, 2, 3, 4, 5, 6, 7, 8, 9] (by decide) rfl
    have hz := xz_of hN hS
    refine wk_know (fun hk8 hk9 => ?_)
    refine va_calli (va_runV (As := [.ref h0, .int (nI a9)]) (rest := []) ⟨hx, hb, hml, hown, hts⟩ ((hrec a9 ha1) D ax c0 c1 vl va9 s_made sd n0 n1 n2 n3 cp z9 fo fl fr h0 h1 h2 h3 zs cs so sl sr MX lz9 l0 h9 NN s.heap.size (tsl s.heap) (by first | assumption | omega) (by first | assumption | omega) (by first | assumption | omega) (by first | assumption | omega) (by assumption) (by assumption) hsd hzs hcs (by first | assumption | omega) hsv (by first | assumption | omega) hls hL9 hst9) (xcV (n := 2) hts wd_776 wd_4 wd_773 wd_775 ps_23 rfl rfl (by decide +kernel) ⟨(show (50 + 2 * a9) + 1 ≤ (50 + 2 * nd) by omega), (show 8 + (5 + 11) + (2000 + 40 * a9) ≤ (2000 + 40 * nd) by omega)⟩) (xpV3 (ci := 3) (q0 := 0) (As := [.ref h0, .int (nI a9)]) hPc hK hz hDc rfl rfl) rfl rfl hl1.1 rfl (lv_room (Nat.le_of_ble_eq_true rfl)) d_Maker_copy_50 ⟨(show (0) + (MX - cp) ≤ (MX - cp) by omega), (show (0) + (6 * (MX - cp)) ≤ (6 * (MX - cp)) by omega)⟩) hS (fun q _ h => hFc q h) hFc (fun r_4 u_2 t H_3 locs ht hvm hw hB hz1 hk1 hS1 => ?_)
    try dsimp only at hw
    obtain ⟨hw, hs_5, hs_6, hs_7, hs_8, hs_9, hs_10, hs_11⟩ := hw
    subst hw
    obtain ⟨x_12, x_13, x_14, hg8, hg9, hx_15, hx_16, hx_17, hx_18, hx_19, hx_20, hP1, hD1⟩ := hB
    rw [ht] at hg8 hg9 hP1
    have hjn := xw_join3 (wl := [(c0, .inr (3, [.ref n0, .ref c1, vl, va9, .int s_made])), (c1, .inl (ax 0, 16, .inl sd)), (n0, .inr (4, [.ref (u_2 0), .ref (u_2 1), .ref (u_2 2), .int (nI (u_2 3))])), ((u_2 0), .inl (ax 1, u_2 4, .inl x_12)), ((u_2 1), .inl (ax 0, u_2 4, .inl x_13)), ((u_2 2), .inl (ax 0, u_2 4, .inl x_14)), (h0, .inr (4, [.ref h1, .ref h2, .ref h3, .int (nI zs)])), (h1, .inl (ax 1, cs, .inl so)), (h2, .inl (ax 0, cs, .inl sl)), (h3, .inl (ax 0, cs, .inl sr))]) hP hD [0, 1, 2, 3, 4, 5, 6, 7, 8, 9] [] hCs (by decide) (by decide) hk1 hFc hP1 hD1 rfl
    clear hP1 hD1
    clear hPc hDc hFc hCs hz hz1 hk1 ht hvm
    clear hP hD hS
    have hS := hS1
    obtain ⟨hP, hD⟩ := hjn
    clear hS1
    refine wk_narrow (k := u_2 4 - cp) (n := 6 * (u_2 4 - cp)) (by first | assumption | omega) (by first | assumption | omega) ?_
    clear hk8 hk9 hg8 hg9
    refine lv_istore (lv' := [(4, .int (nI (u_2 5))), (3, .int (nI o9)), (0, .ref c0), (1, .ref h0), (2, .int (nI nd))]) hx hb d_Maker_copy_53 hl1 (by decide) rfl (fun ls hl2 => ?_)
    clear hl1; have hl1 := hl2; clear hl2
    refine lv_aload_n hx hb d_Maker_copy_55 rfl (lv_at hl1 2 rfl) ?_
    refine va_get (D := D) (ci := 3) (v := .ref n0) (C := R_Maker) (T := F_Maker) (N := 5) hx hb hts i_Maker hown hK.1 hP 0 rfl rfl 0 (by decide) (hts _ wd_129) (fun _ h9 => h9) rfl d_Maker_copy_56 ?_
    refine lv_iload_n hx hb d_Maker_copy_59 rfl (lv_at hl1 1 rfl) ?_
    refine lv_iload hx hb d_Maker_copy_60 (lv_at hl1 0 rfl) ?_
    refine lv_iload_n hx hb d_Maker_copy_62 rfl (lv_at hl1 1 rfl) ?_
    refine lv_bipush (v := 6) hx hb d_Maker_copy_63 (by decide) ?_
    refine lv_icmp_ne (tgt := 72) hx hb d_Maker_copy_65 (by decide) (fun c_21 => ?_) (fun c_21 => ?_)
    · replace c_21 : ¬ o9 = 6 := fun hq9 => c_21 ((nI_eq (a := o9) (b := 6) (by first | exact Nat.lt_of_lt_of_le (by assumption) (by decide) | exact Nat.lt_of_le_of_lt (by assumption) (by decide) | omega) (by decide)).mpr hq9)
      obtain ⟨d9, hc1, hc2⟩ := hnp.2.2 (by first | assumption | omega)
      have ht9 := tsn_bin (n := nd) (by first | assumption | omega) (hsv.old (by first | assumption | omega)) (o := o9) (by first | assumption | omega) ho2 ha1 ha2 hc1 hc2
      refine lv_aload_n hx hb d_Maker_copy_72 rfl (lv_at hl1 2 rfl) ?_
      refine lv_aload_n hx hb d_Maker_copy_73 rfl (lv_at hl1 3 rfl) ?_
      refine lv_aload_n hx hb d_Maker_copy_74 rfl (lv_at hl1 3 rfl) ?_
      refine va_get (D := D) (ci := 4) (v := .ref h3) (C := R_Nodes) (T := F_Nodes) (N := 4) hx hb hts i_Nodes hown hK.1 hP 6 rfl rfl 2 (by decide) (hts _ wd_117) (fun _ h9 => h9) rfl d_Maker_copy_75 ?_
      refine lv_iload_n hx hb d_Maker_copy_78 rfl (lv_at hl1 4 rfl) ?_
      refine va_iald hx hb hK.1 hP 9 0 rfl rfl (vp_in_nI (by first | assumption | omega) (by first | exact Nat.lt_of_lt_of_le (by assumption) (by decide) | exact Nat.lt_of_le_of_lt (by assumption) (by decide) | omega)) d_Maker_copy_79 ?_
      refine W.eq (g2 := F0 m 80 ls [.int (sr nd), .ref h0, .ref c0, .int (nI (u_2 5)), .int (nI o9), .ref n0]) (by rw [nI_clamp (by first | exact Nat.lt_of_lt_of_le (by assumption) (by decide) | exact Nat.lt_of_le_of_lt (by assumption) (by decide) | omega)]) ?_
      refine W.eq (g2 := F0 m 80 ls [.int (nI d9), .ref h0, .ref c0, .int (nI (u_2 5)), .int (nI o9), .ref n0]) (by rw [hc2]) ?_
      obtain ⟨hPc, hDc, hFc, hCs⟩ := xw_sub3 (wc := [(c0, .inr (3, [.ref n0, .ref c1, vl, va9, .int s_made])), (c1, .inl (ax 0, 16, .inl sd)), (n0, .inr (4, [.ref (u_2 0), .ref (u_2 1), .ref (u_2 2), .int (nI (u_2 3))])), ((u_2 0), .inl (ax 1, u_2 4, .inl x_12)), ((u_2 1), .inl (ax 0, u_2 4, .inl x_13)), ((u_2 2), .inl (ax 0, u_2 4, .inl x_14)), (h0, .inr (4, [.ref h1, .ref h2, .ref h3, .int (nI zs)])), (h1, .inl (ax 1, cs, .inl so)), (h2, .inl (ax 0, cs, .inl sl)), (h3, .inl (ax 0, cs, .inl sr))]) hP hD hS hA [0, 1, 2, 3, 4, 5, 6, 7, 8, 9] (by decide) rfl
      have hz := xz_of hN hS
      refine wk_know (fun hk8 hk9 => ?_)
      refine va_calli (va_runV (As := [.ref h0, .int (nI d9)]) (rest := [.int (nI (u_2 5)), .int (nI o9), .ref n0]) ⟨hx, hb, hml, hown, hts⟩ ((hrec d9 hc1) D ax c0 c1 vl va9 s_made sd n0 (u_2 0) (u_2 1) (u_2 2) (u_2 4) (u_2 3) x_12 x_13 x_14 h0 h1 h2 h3 zs cs so sl sr MX lz9 (l0 ++ ptL h9 (sub9 lz9 a9)) h9 NN H_3.size (tsl H_3) (by first | assumption | omega) (by first | assumption | omega) (by first | assumption | omega) (by first | assumption | omega) (by assumption) (by assumption) hsd hzs hcs (by first | assumption | omega) hsv (by first | assumption | omega) hls hx_19 hst9) (xcV (n := 2) hts wd_776 wd_4 wd_773 wd_775 ps_23 rfl rfl (by decide +kernel) ⟨(show (50 + 2 * d9) + 1 ≤ (50 + 2 * nd) by omega), (show 8 + (5 + 11) + (2000 + 40 * d9) ≤ (2000 + 40 * nd) by omega)⟩) (xpV3 (ci := 3) (q0 := 0) (As := [.ref h0, .int (nI d9)]) hPc hK hz hDc rfl rfl) rfl rfl hl1.1 rfl (lv_room (Nat.le_of_ble_eq_true rfl)) d_Maker_copy_80 ⟨(show (u_2 4 - cp) + (MX - (u_2 4)) ≤ (MX - cp) by omega), (show (6 * (u_2 4 - cp)) + (6 * (MX - (u_2 4))) ≤ (6 * (MX - cp)) by omega)⟩) hS (fun q _ h => hFc q h) hFc (fun r_24 u_22 t H_23 locs ht hvm hw hB hz1 hk1 hS1 => ?_)
      try dsimp only at hw
      obtain ⟨hw, hs_25, hs_26, hs_27, hs_28, hs_29, hs_30, hs_31⟩ := hw
      subst hw
      obtain ⟨x_32, x_33, x_34, hg8, hg9, hx_35, hx_36, hx_37, hx_38, hx_39, hx_40, hP1, hD1⟩ := hB
      rw [ht] at hg8 hg9 hP1
      have hjn := xw_join3 (wl := [(c0, .inr (3, [.ref n0, .ref c1, vl, va9, .int s_made])), (c1, .inl (ax 0, 16, .inl sd)), (n0, .inr (4, [.ref (u_22 0), .ref (u_22 1), .ref (u_22 2), .int (nI (u_22 3))])), ((u_22 0), .inl (ax 1, u_22 4, .inl x_32)), ((u_22 1), .inl (ax 0, u_22 4, .inl x_33)), ((u_22 2), .inl (ax 0, u_22 4, .inl x_34)), (h0, .inr (4, [.ref h1, .ref h2, .ref h3, .int (nI zs)])), (h1, .inl (ax 1, cs, .inl so)), (h2, .inl (ax 0, cs, .inl sl)), (h3, .inl (ax 0, cs, .inl sr))]) hP hD [0, 1, 2, 3, 4, 5, 6, 7, 8, 9] [] hCs (by decide) (by decide) hk1 hFc hP1 hD1 rfl
      clear hP1 hD1
      clear hPc hDc hFc hCs hz hz1 hk1 ht hvm
      clear hP hD hS
      have hS := hS1
      obtain ⟨hP, hD⟩ := hjn
      clear hS1
      refine wk_narrow (k := u_2 4 - cp + (u_22 4 - (u_2 4))) (n := 6 * (u_2 4 - cp) + (6 * (u_22 4 - (u_2 4)))) (by first | assumption | omega) (by first | assumption | omega) ?_
      clear hk8 hk9 hg8 hg9
      obtain ⟨hPc, hDc, hFc, hCs⟩ := xw_sub3 (wc := [(n0, .inr (4, [.ref (u_22 0), .ref (u_22 1), .ref (u_22 2), .int (nI (u_22 3))])), ((u_22 0), .inl (ax 1, u_22 4, .inl x_32)), ((u_22 1), .inl (ax 0, u_22 4, .inl x_33)), ((u_22 2), .inl (ax 0, u_22 4, .inl x_34))]) hP hD hS hA [2, 3, 4, 5] (by decide) rfl
      have hz := xz_of hN hS
      refine wk_know (fun hk8 hk9 => ?_)
      refine va_calli (va_runV (As := [.int (nI o9), .int (nI (u_2 5)), .int (nI (u_22 5))]) (rest := []) ⟨hx, hb, hml, hown, hts⟩ (c_Nodes_add l D ax n0 (u_22 0) (u_22 1) (u_22 2) (u_22 4) (u_22 3) x_32 x_33 x_34 MX (nI o9) (nI (u_2 5)) (nI (u_22 5)) H_23.size (tsl H_23) (by first | assumption | omega) (by first | assumption | omega) (by first | assumption | omega) (by first | assumption | omega) (by first | assumption | omega) (by assumption)) (xcV (n := 3) hts wd_350 wd_5 wd_781 wd_348 wd_349 rfl rfl (by decide +kernel) ⟨(show (30) + 1 ≤ (50 + 2 * nd) by omega), (show 8 + (4 + 11) + (1200) ≤ (2000 + 40 * nd) by omega)⟩) (xpV3 (ci := 4) (q0 := 0) (As := [.int (nI o9), .int (nI (u_2 5)), .int (nI (u_22 5))]) hPc hK hz hDc rfl rfl) rfl rfl hl1.1 rfl (lv_room (Nat.le_of_ble_eq_true rfl)) d_Maker_copy_83 ⟨(show (u_2 4 - cp + (u_22 4 - (u_2 4))) + (MX - (u_22 4)) ≤ (MX - cp) by omega), (show (6 * (u_2 4 - cp) + (6 * (u_22 4 - (u_2 4)))) + (6 * (MX - (u_22 4))) ≤ (6 * (MX - cp)) by omega)⟩) hS (fun q _ h => hFc q h) hFc (fun r_43 u_41 t H_42 locs ht hvm hw hB hz1 hk1 hS1 => ?_)
      try dsimp only at hw
      obtain ⟨hw, hs_44, hs_45, hs_46, hs_47⟩ := hw
      subst hw
      obtain ⟨x_48, x_49, x_50, hg8, hg9, hx_51, hx_52, hP1, hD1⟩ := hB
      rw [ht] at hg8 hg9 hP1
      have hjn := xw_join3 (wl := [(c0, .inr (3, [.ref n0, .ref c1, vl, va9, .int s_made])), (c1, .inl (ax 0, 16, .inl sd)), (h0, .inr (4, [.ref h1, .ref h2, .ref h3, .int (nI zs)])), (h1, .inl (ax 1, cs, .inl so)), (h2, .inl (ax 0, cs, .inl sl)), (h3, .inl (ax 0, cs, .inl sr)), (n0, .inr (4, [.ref (u_41 0), .ref (u_41 1), .ref (u_41 2), .int (nI ((u_22 3) + 1))])), ((u_41 0), .inl (ax 1, u_41 3, .inl x_48)), ((u_41 1), .inl (ax 0, u_41 3, .inl x_49)), ((u_41 2), .inl (ax 0, u_41 3, .inl x_50))]) hP hD [2, 3, 4, 5] [0, 1, 6, 7, 8, 9] hCs (by decide) (by decide) hk1 hFc hP1 hD1 rfl
      clear hP1 hD1
      clear hPc hDc hFc hCs hz hz1 hk1 ht hvm
      clear hP hD hS
      have hS := hS1
      obtain ⟨hP, hD⟩ := hjn
      clear hS1
      refine wk_narrow (k := u_2 4 - cp + (u_22 4 - (u_2 4)) + (u_41 3 - (u_22 4))) (n := 6 * (u_2 4 - cp) + (6 * (u_22 4 - (u_2 4))) + (6 * (u_41 3 - (u_22 4)))) (by first | assumption | omega) (by first | assumption | omega) ?_
      clear hk8 hk9 hg8 hg9
      rw [← hQe]
      refine wk_know (fun hk8 hk9 => ?_)
      refine W.widen (k := MX - cp) (n := 6 * (MX - cp)) (by first | assumption | omega) (by first | assumption | omega) ?_
      obtain ⟨hP9, hD9⟩ := xw_sub2 (wc := (fun (u : Nat → Nat) (xfo : Nat → Int32) (xfl : Nat → Int32) (xfr : Nat → Int32) => [(c0, .inr (3, [.ref n0, .ref c1, vl, va9, .int s_made])), (c1, .inl (ax 0, 16, .inl sd)), (n0, .inr (4, [.ref (u 0), .ref (u 1), .ref (u 2), .int (nI (u 3))])), (u 0, .inl (ax 1, u 4, .inl xfo)), (u 1, .inl (ax 0, u 4, .inl xfl)), (u 2, .inl (ax 0, u 4, .inl xfr)), (h0, .inr (4, [.ref h1, .ref h2, .ref h3, .int (nI zs)])), (h1, .inl (ax 1, cs, .inl so)), (h2, .inl (ax 0, cs, .inl sl)), (h3, .inl (ax 0, cs, .inl sr))]) (ixn [(u_41 0), (u_41 1), (u_41 2), ((u_22 3) + 1), (u_41 3), (u_22 3)]) x_48 x_49 x_50) hP hD [0, 1, 6, 7, 8, 9, 2, 3, 4, 5] (by decide) rfl
      have hex0 : ndv x_48 x_49 x_50 (((u_22 3) + 1)) := (hx_35.add hx_51 (nd_bin (by first | assumption | omega) (by first | assumption | omega) (by first | assumption | omega)))
      have hex1 : bts x_48 ((u_41 3)) := (by assumption)
      have hex2 : ∀ i, i < z9 → tsn x_48 x_49 x_50 i = tsn fo fl fr i := (fun i hi => (nad.keep (by first | assumption | omega) hx_35 hx_51 (by first | assumption | omega)).trans ((hx_37 i (by first | assumption | omega)).trans (hx_17 i hi)))
      have hex3 : tsn x_48 x_49 x_50 ((u_22 3)) + z9 ≤ ((u_22 3) + 1) := (by have h9 := hx_18; have h8 := hx_38; rw [nad.bin (by first | assumption | omega) hx_35 (by first | assumption | omega) (by first | assumption | omega) (by first | assumption | omega) hx_51, hx_37 (u_2 5) (by first | assumption | omega)]; omega)
      have hex4 : ndl x_48 x_49 x_50 (l0 ++ ptL h9 (sub9 lz9 nd)) ∧ (l0 ++ ptL h9 (sub9 lz9 nd)).length = ((u_22 3) + 1) := (cpy_b hs3 hzn hop (by first | assumption | omega) (by first | assumption | omega) (by first | assumption | omega) (prt_b hs1 hzn hop (by first | assumption | omega) ha1 hc1 (by first | assumption | omega) ha2 hc2).1 (prt_b hs1 hzn hop (by first | assumption | omega) ha1 hc1 (by first | assumption | omega) ha2 hc2).2 hx_19.2 hx_20 hx_39 hx_40 hs_10 hs_30 hx_51).1
      have hex5 : cmpl (dpl lz9 nd) (ptL h9 (sub9 lz9 nd)) := (cpy_b hs3 hzn hop (by first | assumption | omega) (by first | assumption | omega) (by first | assumption | omega) (prt_b hs1 hzn hop (by first | assumption | omega) ha1 hc1 (by first | assumption | omega) ha2 hc2).1 (prt_b hs1 hzn hop (by first | assumption | omega) ha1 hc1 (by first | assumption | omega) ha2 hc2).2 hx_19.2 hx_20 hx_39 hx_40 hs_10 hs_30 hx_51).2
      have hg8 : H_42.size ≤ s.heap.size + ((u_41 3) - cp) := by omega
      have hg9 : tsl H_42 ≤ tsl s.heap + (6 * ((u_41 3) - cp)) := by omega
      have hsp0 : z9 ≤ ((u_22 3) + 1) := (by first | assumption | omega)
      have hsp1 : ((u_22 3) + 1) ≤ (u_41 3) := (by first | assumption | omega)
      have hsp2 : cp ≤ (u_41 3) := (by first | assumption | omega)
      have hsp3 : (u_41 3) ≤ MX := (by first | assumption | omega)
      have hsp4 : dbl cp ((u_41 3)) := ((hs_9.tr hs_29).tr hs_47)
      have hsp5 : (u_22 3) + 1 = ((u_22 3) + 1) := (by first | assumption | omega)
      have hsp6 : ((u_22 3) + 1) = z9 + tsn so sl sr nd := (by first | assumption | omega)
      exact W.iret (v := nI (u_22 3)) hx hb hr (fun t ht hW => ⟨⟨nI (u_22 3), ixn [(u_41 0), (u_41 1), (u_41 2), ((u_22 3) + 1), (u_41 3), (u_22 3)], rfl, ⟨rfl, ⟨hsp0, hsp1, hsp2, hsp3, hsp4, hsp5, hsp6⟩⟩, ⟨x_48, x_49, x_50, by rw [ht]; exact hg8, by rw [ht]; exact hg9, hex0, hex1, hex2, hex3, hex4, hex5, by rw [ht]; exact hP9, hD9⟩⟩, hS.F ht⟩) hS.2.2 d_Maker_copy_86
    · replace c_21 : o9 = 6 := (nI_eq (a := o9) (b := 6) (by first | exact Nat.lt_of_lt_of_le (by assumption) (by decide) | exact Nat.lt_of_le_of_lt (by assumption) (by decide) | omega) (by decide)).mp c_21
      have ht9 := tsn_not (n := nd) (by first | assumption | omega) (hsv.old (by first | assumption | omega)) (show so nd = nI 6 by rw [ho2, show o9 = 6 by omega]) ha1 ha2
      refine lv_iconst (v := (-1)) hx hb d_Maker_copy_68 (by decide) ?_
      refine lv_goto (tgt := 83) hx hb d_Maker_copy_69 (by decide) ?_
      refine W.eq (g2 := F0 m 83 ls [.int (nI 4294967295), .int (nI (u_2 5)), .int (nI o9), .ref n0]) (by rw [nIm]) ?_
      obtain ⟨hPc, hDc, hFc, hCs⟩ := xw_sub3 (wc := [(n0, .inr (4, [.ref (u_2 0), .ref (u_2 1), .ref (u_2 2), .int (nI (u_2 3))])), ((u_2 0), .inl (ax 1, u_2 4, .inl x_12)), ((u_2 1), .inl (ax 0, u_2 4, .inl x_13)), ((u_2 2), .inl (ax 0, u_2 4, .inl x_14))]) hP hD hS hA [2, 3, 4, 5] (by decide) rfl
      have hz := xz_of hN hS
      refine wk_know (fun hk8 hk9 => ?_)
      refine va_calli (va_runV (As := [.int (nI o9), .int (nI (u_2 5)), .int (nI 4294967295)]) (rest := []) ⟨hx, hb, hml, hown, hts⟩ (c_Nodes_add l D ax n0 (u_2 0) (u_2 1) (u_2 2) (u_2 4) (u_2 3) x_12 x_13 x_14 MX (nI o9) (nI (u_2 5)) (nI 4294967295) H_3.size (tsl H_3) (by first | assumption | omega) (by first | assumption | omega) (by first | assumption | omega) (by first | assumption | omega) (by first | assumption | omega) (by assumption)) (xcV (n := 3) hts wd_350 wd_5 wd_781 wd_348 wd_349 rfl rfl (by decide +kernel) ⟨(show (30) + 1 ≤ (50 + 2 * nd) by omega), (show 8 + (4 + 11) + (1200) ≤ (2000 + 40 * nd) by omega)⟩) (xpV3 (ci := 4) (q0 := 0) (As := [.int (nI o9), .int (nI (u_2 5)), .int (nI 4294967295)]) hPc hK hz hDc rfl rfl) rfl rfl hl1.1 rfl (lv_room (Nat.le_of_ble_eq_true rfl)) d_Maker_copy_83 ⟨(show (u_2 4 - cp) + (MX - (u_2 4)) ≤ (MX - cp) by omega), (show (6 * (u_2 4 - cp)) + (6 * (MX - (u_2 4))) ≤ (6 * (MX - cp)) by omega)⟩) hS (fun q _ h => hFc q h) hFc (fun r_55 u_53 t H_54 locs ht hvm hw hB hz1 hk1 hS1 => ?_)
      try dsimp only at hw
      obtain ⟨hw, hs_56, hs_57, hs_58, hs_59⟩ := hw
      subst hw
      obtain ⟨x_60, x_61, x_62, hg8, hg9, hx_63, hx_64, hP1, hD1⟩ := hB
      rw [ht] at hg8 hg9 hP1
      have hjn := xw_join3 (wl := [(c0, .inr (3, [.ref n0, .ref c1, vl, va9, .int s_made])), (c1, .inl (ax 0, 16, .inl sd)), (h0, .inr (4, [.ref h1, .ref h2, .ref h3, .int (nI zs)])), (h1, .inl (ax 1, cs, .inl so)), (h2, .inl (ax 0, cs, .inl sl)), (h3, .inl (ax 0, cs, .inl sr)), (n0, .inr (4, [.ref (u_53 0), .ref (u_53 1), .ref (u_53 2), .int (nI ((u_2 3) + 1))])), ((u_53 0), .inl (ax 1, u_53 3, .inl x_60)), ((u_53 1), .inl (ax 0, u_53 3, .inl x_61)), ((u_53 2), .inl (ax 0, u_53 3, .inl x_62))]) hP hD [2, 3, 4, 5] [0, 1, 6, 7, 8, 9] hCs (by decide) (by decide) hk1 hFc hP1 hD1 rfl
      clear hP1 hD1
      clear hPc hDc hFc hCs hz hz1 hk1 ht hvm
      clear hP hD hS
      have hS := hS1
      obtain ⟨hP, hD⟩ := hjn
      clear hS1
      refine wk_narrow (k := u_2 4 - cp + (u_53 3 - (u_2 4))) (n := 6 * (u_2 4 - cp) + (6 * (u_53 3 - (u_2 4)))) (by first | assumption | omega) (by first | assumption | omega) ?_
      clear hk8 hk9 hg8 hg9
      rw [← hQe]
      refine wk_know (fun hk8 hk9 => ?_)
      refine W.widen (k := MX - cp) (n := 6 * (MX - cp)) (by first | assumption | omega) (by first | assumption | omega) ?_
      obtain ⟨hP9, hD9⟩ := xw_sub2 (wc := (fun (u : Nat → Nat) (xfo : Nat → Int32) (xfl : Nat → Int32) (xfr : Nat → Int32) => [(c0, .inr (3, [.ref n0, .ref c1, vl, va9, .int s_made])), (c1, .inl (ax 0, 16, .inl sd)), (n0, .inr (4, [.ref (u 0), .ref (u 1), .ref (u 2), .int (nI (u 3))])), (u 0, .inl (ax 1, u 4, .inl xfo)), (u 1, .inl (ax 0, u 4, .inl xfl)), (u 2, .inl (ax 0, u 4, .inl xfr)), (h0, .inr (4, [.ref h1, .ref h2, .ref h3, .int (nI zs)])), (h1, .inl (ax 1, cs, .inl so)), (h2, .inl (ax 0, cs, .inl sl)), (h3, .inl (ax 0, cs, .inl sr))]) (ixn [(u_53 0), (u_53 1), (u_53 2), ((u_2 3) + 1), (u_53 3), (u_2 3)]) x_60 x_61 x_62) hP hD [0, 1, 6, 7, 8, 9, 2, 3, 4, 5] (by decide) rfl
      have hex0 : ndv x_60 x_61 x_62 (((u_2 3) + 1)) := (hx_15.add hx_63 (nd_not6 (by first | assumption | omega) (by first | assumption | omega)))
      have hex1 : bts x_60 ((u_53 3)) := (by assumption)
      have hex2 : ∀ i, i < z9 → tsn x_60 x_61 x_62 i = tsn fo fl fr i := (fun i hi => (nad.keep (by first | assumption | omega) hx_15 hx_63 (by first | assumption | omega)).trans (hx_17 i hi))
      have hex3 : tsn x_60 x_61 x_62 ((u_2 3)) + z9 ≤ ((u_2 3) + 1) := (by have h9 := hx_18; rw [nad.not6 (by first | assumption | omega) (by first | assumption | omega) hx_15 (by first | assumption | omega) hx_63]; omega)
      have hex4 : ndl x_60 x_61 x_62 (l0 ++ ptL h9 (sub9 lz9 nd)) ∧ (l0 ++ ptL h9 (sub9 lz9 nd)).length = ((u_2 3) + 1) := (cpy_n hs3 hzn hop (by first | assumption | omega) (by first | assumption | omega) (prt_n hs1 hzn hop (by first | assumption | omega) ha1 (by first | assumption | omega) ha2) hx_19 hx_20 hs_10 hx_63).1
      have hex5 : cmpl (dpl lz9 nd) (ptL h9 (sub9 lz9 nd)) := (cpy_n hs3 hzn hop (by first | assumption | omega) (by first | assumption | omega) (prt_n hs1 hzn hop (by first | assumption | omega) ha1 (by first | assumption | omega) ha2) hx_19 hx_20 hs_10 hx_63).2
      have hg8 : H_54.size ≤ s.heap.size + ((u_53 3) - cp) := by omega
      have hg9 : tsl H_54 ≤ tsl s.heap + (6 * ((u_53 3) - cp)) := by omega
      have hsp0 : z9 ≤ ((u_2 3) + 1) := (by first | assumption | omega)
      have hsp1 : ((u_2 3) + 1) ≤ (u_53 3) := (by first | assumption | omega)
      have hsp2 : cp ≤ (u_53 3) := (by first | assumption | omega)
      have hsp3 : (u_53 3) ≤ MX := (by first | assumption | omega)
      have hsp4 : dbl cp ((u_53 3)) := (hs_9.tr hs_59)
      have hsp5 : (u_2 3) + 1 = ((u_2 3) + 1) := (by first | assumption | omega)
      have hsp6 : ((u_2 3) + 1) = z9 + tsn so sl sr nd := (by first | assumption | omega)
      exact W.iret (v := nI (u_2 3)) hx hb hr (fun t ht hW => ⟨⟨nI (u_2 3), ixn [(u_53 0), (u_53 1), (u_53 2), ((u_2 3) + 1), (u_53 3), (u_2 3)], rfl, ⟨rfl, ⟨hsp0, hsp1, hsp2, hsp3, hsp4, hsp5, hsp6⟩⟩, ⟨x_60, x_61, x_62, by rw [ht]; exact hg8, by rw [ht]; exact hg9, hex0, hex1, hex2, hex3, hex4, hex5, by rw [ht]; exact hP9, hD9⟩⟩, hS.F ht⟩) hS.2.2 d_Maker_copy_86
  · replace c_1 : ¬ 6 ≤ o9 := fun hq9 => c_1 ((nI_leI (a := 6) (b := o9) (by decide) (by first | exact Nat.lt_of_lt_of_le (by assumption) (by decide) | exact Nat.lt_of_le_of_lt (by assumption) (by decide) | omega)).mpr hq9)
    obtain ⟨htr1, htr2⟩ := hnp.1 (by first | assumption | omega)
    have ht9 : tsn so sl sr nd = 1 := tsn_atom ho2 (by first | assumption | omega)
    have hnt := (hs4 _ (ath_mem hzn)).2 (by first | assumption | omega)
    have hna := (hs1 nd hzn).2.1 (by first | assumption | omega)
    refine lv_aload_n hx hb d_Maker_copy_13 rfl (lv_at hl1 1 rfl) ?_
    refine va_get (D := D) (ci := 3) (v := .ref n0) (C := R_Maker) (T := F_Maker) (N := 5) hx hb hts i_Maker hown hK.1 hP 0 rfl rfl 0 (by decide) (hts _ wd_129) (fun _ h9 => h9) rfl d_Maker_copy_14 ?_
    refine lv_iload_n hx hb d_Maker_copy_17 rfl (lv_at hl1 0 rfl) ?_
    refine lv_aload_n hx hb d_Maker_copy_18 rfl (lv_at hl1 1 rfl) ?_
    refine lv_aload_n hx hb d_Maker_copy_19 rfl (lv_at hl1 2 rfl) ?_
    refine va_get (D := D) (ci := 4) (v := .ref h2) (C := R_Nodes) (T := F_Nodes) (N := 4) hx hb hts i_Nodes hown hK.1 hP 6 rfl rfl 1 (by decide) (hts _ wd_112) (fun _ h9 => h9) rfl d_Maker_copy_20 ?_
    refine lv_iload_n hx hb d_Maker_copy_23 rfl (lv_at hl1 3 rfl) ?_
    refine va_iald hx hb hK.1 hP 8 0 rfl rfl (vp_in_nI (by first | assumption | omega) (by first | exact Nat.lt_of_lt_of_le (by assumption) (by decide) | exact Nat.lt_of_le_of_lt (by assumption) (by decide) | omega)) d_Maker_copy_24 ?_
    refine W.eq (g2 := F0 m 25 ls [.int (sl nd), .ref c0, .int (nI o9), .ref n0]) (by rw [nI_clamp (by first | exact Nat.lt_of_lt_of_le (by assumption) (by decide) | exact Nat.lt_of_le_of_lt (by assumption) (by decide) | omega)]) ?_
    obtain ⟨hPc, hDc, hFc, hCs⟩ := xw_sub3 (wc := [(c0, .inr (3, [.ref n0, .ref c1, vl, va9, .int s_made])), (c1, .inl (ax 0, 16, .inl sd))]) hP hD hS hA [0, 1] (by decide) rfl
    have hz := xz_of hN hS
    refine va_calli (va_runV (As := [.int (sl nd)]) (rest := [.int (nI o9), .ref n0]) ⟨hx, hb, hml, hown, hts⟩ (c_K_put l D ax c0 c1 vl va9 s_made sd n0 (sl nd) ((ath lz9 nd).2.1) h9 s.heap.size hsd (by assumption) hst9 hnt.1.1 hna.1) (xcV (n := 1) hts wd_780 wd_4 wd_777 wd_779 ps_24 rfl rfl (by decide +kernel) ⟨(show (10) + 1 ≤ (50 + 2 * nd) by omega), (show 8 + (2 + 11) + (400) ≤ (2000 + 40 * nd) by omega)⟩) (xpV (ci := 3) (q0 := 0) (As := [.int (sl nd)]) hPc hK hz hDc rfl rfl) rfl rfl hl1.1 rfl (lv_room (Nat.le_of_ble_eq_true rfl)) d_Maker_copy_25 ⟨(show (0) + (0) ≤ (MX - cp) by omega), (show (0) + (0) ≤ (6 * (MX - cp)) by omega)⟩) hS (fun q _ h => hFc q h) hFc (fun r_67 u_65 t H_66 locs ht hvm hw hB hz1 hk1 hS1 => ?_)
    try dsimp only at hw
    obtain ⟨hw, hs_68, hs_69⟩ := hw
    subst hw
    obtain ⟨hP1, hD1⟩ := hB
    rw [ht] at hP1
    have hjn := xw_join3 (wl := [(n0, .inr (4, [.ref n1, .ref n2, .ref n3, .int (nI z9)])), (n1, .inl (ax 1, cp, .inl fo)), (n2, .inl (ax 0, cp, .inl fl)), (n3, .inl (ax 0, cp, .inl fr)), (h0, .inr (4, [.ref h1, .ref h2, .ref h3, .int (nI zs)])), (h1, .inl (ax 1, cs, .inl so)), (h2, .inl (ax 0, cs, .inl sl)), (h3, .inl (ax 0, cs, .inl sr)), (c0, .inr (3, [.ref n0, .ref c1, vl, va9, .int s_made])), (c1, .inl (ax 0, 16, .inl sd))]) hP hD [0, 1] [2, 3, 4, 5, 6, 7, 8, 9] hCs (by decide) (by decide) hk1 hFc hP1 hD1 rfl
    clear hP1 hD1
    clear hPc hDc hFc hCs hz hz1 hk1 ht hvm
    clear hP hD hS
    have hS := hS1
    obtain ⟨hP, hD⟩ := hjn
    clear hS1
    refine lv_aload_n hx hb d_Maker_copy_28 rfl (lv_at hl1 1 rfl) ?_
    refine lv_aload_n hx hb d_Maker_copy_29 rfl (lv_at hl1 2 rfl) ?_
    refine va_get (D := D) (ci := 4) (v := .ref h3) (C := R_Nodes) (T := F_Nodes) (N := 4) hx hb hts i_Nodes hown hK.1 hP 4 rfl rfl 2 (by decide) (hts _ wd_117) (fun _ h9 => h9) rfl d_Maker_copy_30 ?_
    refine lv_iload_n hx hb d_Maker_copy_33 rfl (lv_at hl1 3 rfl) ?_
    refine va_iald hx hb hK.1 hP 7 0 rfl rfl (vp_in_nI (by first | assumption | omega) (by first | exact Nat.lt_of_lt_of_le (by assumption) (by decide) | exact Nat.lt_of_le_of_lt (by assumption) (by decide) | omega)) d_Maker_copy_34 ?_
    refine W.eq (g2 := F0 m 35 ls [.int (sr nd), .ref c0, .int (nI (u_65 0)), .int (nI o9), .ref n0]) (by rw [nI_clamp (by first | exact Nat.lt_of_lt_of_le (by assumption) (by decide) | exact Nat.lt_of_le_of_lt (by assumption) (by decide) | omega)]) ?_
    obtain ⟨hPc, hDc, hFc, hCs⟩ := xw_sub3 (wc := [(c0, .inr (3, [.ref n0, .ref c1, vl, va9, .int s_made])), (c1, .inl (ax 0, 16, .inl sd))]) hP hD hS hA [8, 9] (by decide) rfl
    have hz := xz_of hN hS
    refine va_calli (va_runV (As := [.int (sr nd)]) (rest := [.int (nI (u_65 0)), .int (nI o9), .ref n0]) ⟨hx, hb, hml, hown, hts⟩ (c_K_put l D ax c0 c1 vl va9 s_made sd n0 (sr nd) ((ath lz9 nd).2.2) h9 H_66.size hsd (by assumption) hst9 hnt.2.1 hna.2) (xcV (n := 1) hts wd_780 wd_4 wd_777 wd_779 ps_24 rfl rfl (by decide +kernel) ⟨(show (10) + 1 ≤ (50 + 2 * nd) by omega), (show 8 + (2 + 11) + (400) ≤ (2000 + 40 * nd) by omega)⟩) (xpV (ci := 3) (q0 := 0) (As := [.int (sr nd)]) hPc hK hz hDc rfl rfl) rfl rfl hl1.1 rfl (lv_room (Nat.le_of_ble_eq_true rfl)) d_Maker_copy_35 ⟨(show (0) + (0) ≤ (MX - cp) by omega), (show (0) + (0) ≤ (6 * (MX - cp)) by omega)⟩) hS (fun q _ h => hFc q h) hFc (fun r_72 u_70 t H_71 locs ht hvm hw hB hz1 hk1 hS1 => ?_)
    try dsimp only at hw
    obtain ⟨hw, hs_73, hs_74⟩ := hw
    subst hw
    obtain ⟨hP1, hD1⟩ := hB
    rw [ht] at hP1
    have hjn := xw_join3 (wl := [(n0, .inr (4, [.ref n1, .ref n2, .ref n3, .int (nI z9)])), (n1, .inl (ax 1, cp, .inl fo)), (n2, .inl (ax 0, cp, .inl fl)), (n3, .inl (ax 0, cp, .inl fr)), (h0, .inr (4, [.ref h1, .ref h2, .ref h3, .int (nI zs)])), (h1, .inl (ax 1, cs, .inl so)), (h2, .inl (ax 0, cs, .inl sl)), (h3, .inl (ax 0, cs, .inl sr)), (c0, .inr (3, [.ref n0, .ref c1, vl, va9, .int s_made])), (c1, .inl (ax 0, 16, .inl sd))]) hP hD [8, 9] [0, 1, 2, 3, 4, 5, 6, 7] hCs (by decide) (by decide) hk1 hFc hP1 hD1 rfl
    clear hP1 hD1
    clear hPc hDc hFc hCs hz hz1 hk1 ht hvm
    clear hP hD hS
    have hS := hS1
    obtain ⟨hP, hD⟩ := hjn
    clear hS1
    obtain ⟨hPc, hDc, hFc, hCs⟩ := xw_sub3 (wc := [(n0, .inr (4, [.ref n1, .ref n2, .ref n3, .int (nI z9)])), (n1, .inl (ax 1, cp, .inl fo)), (n2, .inl (ax 0, cp, .inl fl)), (n3, .inl (ax 0, cp, .inl fr))]) hP hD hS hA [0, 1, 2, 3] (by decide) rfl
    have hz := xz_of hN hS
    refine wk_know (fun hk8 hk9 => ?_)
    refine va_calli (va_runV (As := [.int (nI o9), .int (nI (u_65 0)), .int (nI (u_70 0))]) (rest := []) ⟨hx, hb, hml, hown, hts⟩ (c_Nodes_add l D ax n0 n1 n2 n3 cp z9 fo fl fr MX (nI o9) (nI (u_65 0)) (nI (u_70 0)) H_71.size (tsl H_71) (by first | assumption | omega) (by first | assumption | omega) (by first | assumption | omega) (by first | assumption | omega) (by first | assumption | omega) (by assumption)) (xcV (n := 3) hts wd_350 wd_5 wd_781 wd_348 wd_349 rfl rfl (by decide +kernel) ⟨(show (30) + 1 ≤ (50 + 2 * nd) by omega), (show 8 + (4 + 11) + (1200) ≤ (2000 + 40 * nd) by omega)⟩) (xpV3 (ci := 4) (q0 := 0) (As := [.int (nI o9), .int (nI (u_65 0)), .int (nI (u_70 0))]) hPc hK hz hDc rfl rfl) rfl rfl hl1.1 rfl (lv_room (Nat.le_of_ble_eq_true rfl)) d_Maker_copy_38 ⟨(show (0) + (MX - cp) ≤ (MX - cp) by omega), (show (0) + (6 * (MX - cp)) ≤ (6 * (MX - cp)) by omega)⟩) hS (fun q _ h => hFc q h) hFc (fun r_77 u_75 t H_76 locs ht hvm hw hB hz1 hk1 hS1 => ?_)
    try dsimp only at hw
    obtain ⟨hw, hs_78, hs_79, hs_80, hs_81⟩ := hw
    subst hw
    obtain ⟨x_82, x_83, x_84, hg8, hg9, hx_85, hx_86, hP1, hD1⟩ := hB
    rw [ht] at hg8 hg9 hP1
    have hjn := xw_join3 (wl := [(h0, .inr (4, [.ref h1, .ref h2, .ref h3, .int (nI zs)])), (h1, .inl (ax 1, cs, .inl so)), (h2, .inl (ax 0, cs, .inl sl)), (h3, .inl (ax 0, cs, .inl sr)), (c0, .inr (3, [.ref n0, .ref c1, vl, va9, .int s_made])), (c1, .inl (ax 0, 16, .inl sd)), (n0, .inr (4, [.ref (u_75 0), .ref (u_75 1), .ref (u_75 2), .int (nI (z9 + 1))])), ((u_75 0), .inl (ax 1, u_75 3, .inl x_82)), ((u_75 1), .inl (ax 0, u_75 3, .inl x_83)), ((u_75 2), .inl (ax 0, u_75 3, .inl x_84))]) hP hD [0, 1, 2, 3] [4, 5, 6, 7, 8, 9] hCs (by decide) (by decide) hk1 hFc hP1 hD1 rfl
    clear hP1 hD1
    clear hPc hDc hFc hCs hz hz1 hk1 ht hvm
    clear hP hD hS
    have hS := hS1
    obtain ⟨hP, hD⟩ := hjn
    clear hS1
    refine wk_narrow (k := u_75 3 - cp) (n := 6 * (u_75 3 - cp)) (by first | assumption | omega) (by first | assumption | omega) ?_
    clear hk8 hk9 hg8 hg9
    rw [← hQe]
    refine wk_know (fun hk8 hk9 => ?_)
    refine W.widen (k := MX - cp) (n := 6 * (MX - cp)) (by first | assumption | omega) (by first | assumption | omega) ?_
    obtain ⟨hP9, hD9⟩ := xw_sub2 (wc := (fun (u : Nat → Nat) (xfo : Nat → Int32) (xfl : Nat → Int32) (xfr : Nat → Int32) => [(c0, .inr (3, [.ref n0, .ref c1, vl, va9, .int s_made])), (c1, .inl (ax 0, 16, .inl sd)), (n0, .inr (4, [.ref (u 0), .ref (u 1), .ref (u 2), .int (nI (u 3))])), (u 0, .inl (ax 1, u 4, .inl xfo)), (u 1, .inl (ax 0, u 4, .inl xfl)), (u 2, .inl (ax 0, u 4, .inl xfr)), (h0, .inr (4, [.ref h1, .ref h2, .ref h3, .int (nI zs)])), (h1, .inl (ax 1, cs, .inl so)), (h2, .inl (ax 0, cs, .inl sl)), (h3, .inl (ax 0, cs, .inl sr))]) (ixn [(u_75 0), (u_75 1), (u_75 2), (z9 + 1), (u_75 3), z9]) x_82 x_83 x_84) hP hD [4, 5, 6, 7, 8, 9, 0, 1, 2, 3] (by decide) rfl
    have hex0 : ndv x_82 x_83 x_84 ((z9 + 1)) := (hnv.add hx_85 (nd_atom (by first | assumption | omega) hs_68 hs_73))
    have hex1 : bts x_82 ((u_75 3)) := (by assumption)
    have hex2 : ∀ i, i < z9 → tsn x_82 x_83 x_84 i = tsn fo fl fr i := (fun i hi => nad.keep (by first | assumption | omega) hnv hx_85 hi)
    have hex3 : tsn x_82 x_83 x_84 (z9) + z9 ≤ (z9 + 1) := (by rw [nad.atom (by first | assumption | omega) hx_85]; omega)
    have hex4 : ndl x_82 x_83 x_84 (l0 ++ ptL h9 (sub9 lz9 nd)) ∧ (l0 ++ ptL h9 (sub9 lz9 nd)).length = (z9 + 1) := (cpy_a hop (by first | assumption | omega) hL9 hx_85 hs_69 hs_74).1
    have hex5 : cmpl (dpl lz9 nd) (ptL h9 (sub9 lz9 nd)) := (cpy_a hop (by first | assumption | omega) hL9 hx_85 hs_69 hs_74).2
    have hg8 : H_76.size ≤ s.heap.size + ((u_75 3) - cp) := by omega
    have hg9 : tsl H_76 ≤ tsl s.heap + (6 * ((u_75 3) - cp)) := by omega
    have hsp0 : z9 ≤ (z9 + 1) := (by first | assumption | omega)
    have hsp1 : (z9 + 1) ≤ (u_75 3) := (by first | assumption | omega)
    have hsp2 : cp ≤ (u_75 3) := (by first | assumption | omega)
    have hsp3 : (u_75 3) ≤ MX := (by first | assumption | omega)
    have hsp4 : dbl cp ((u_75 3)) := hs_81
    have hsp5 : z9 + 1 = (z9 + 1) := (by first | assumption | omega)
    have hsp6 : (z9 + 1) = z9 + tsn so sl sr nd := (by first | assumption | omega)
    exact W.iret (v := nI z9) hx hb hr (fun t ht hW => ⟨⟨nI z9, ixn [(u_75 0), (u_75 1), (u_75 2), (z9 + 1), (u_75 3), z9], rfl, ⟨rfl, ⟨hsp0, hsp1, hsp2, hsp3, hsp4, hsp5, hsp6⟩⟩, ⟨x_82, x_83, x_84, by rw [ht]; exact hg8, by rw [ht]; exact hg9, hex0, hex1, hex2, hex3, hex4, hex5, by rw [ht]; exact hP9, hD9⟩⟩, hS.F ht⟩) hS.2.2 d_Maker_copy_41
theorem K_copy_all (l : Launch) (nd : Nat) : CCp l nd := by
  induction nd using Nat.strongRecOn with
  | ind nd ih => exact fun D ax => c_K_copy l nd ih D ax
