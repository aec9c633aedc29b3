theorem wd_3 : ((Jvm.Cond.initialized "TripleDesk$Reader")) ∈ lw_gd := lw_gd_in (i := 3) (by decide +kernel) rfl
theorem wd_47 : ((Jvm.Cond.fieldLink "TripleDesk$Reader" (52 : Nat) "TripleDesk$Tokens" "next" "I")) ∈ lw_gd := lw_gd_in (i := 47) (by decide +kernel) rfl
theorem wd_49 : ((Jvm.Cond.fieldLink "TripleDesk$Reader" (74 : Nat) "TripleDesk$Tokens" "amount" "I")) ∈ lw_gd := lw_gd_in (i := 49) (by decide +kernel) rfl
theorem wd_75 : ((Jvm.Cond.fieldLink "TripleDesk$Reader" (9 : Nat) "TripleDesk$Reader" "text" "LTripleDesk$Tokens;")) ∈ lw_gd := lw_gd_in (i := 75) (by decide +kernel) rfl
theorem wd_556 : ((Jvm.Cond.methodLink "TripleDesk$Reader" (67 : Nat) ({ cls := "TripleDesk$Tokens", name := "refuse", desc := "()V" } : Jvm.MethodName))) ∈ lw_gd := lw_gd_in (i := 556) (by decide +kernel) rfl
theorem wd_564 : ((Jvm.Cond.methodLink "TripleDesk$Reader" (56 : Nat) ({ cls := "TripleDesk$Tokens", name := "pass", desc := "()V" } : Jvm.MethodName))) ∈ lw_gd := lw_gd_in (i := 564) (by decide +kernel) rfl
theorem wd_565 : ((Jvm.Cond.methodLink "TripleDesk$Reader" (141 : Nat) ({ cls := "TripleDesk$Reader", name := "packed", desc := "(II)I" } : Jvm.MethodName))) ∈ lw_gd := lw_gd_in (i := 565) (by decide +kernel) rfl
theorem wd_566 : ((Jvm.Cond.static ({ cls := "TripleDesk$Reader", name := "packed", desc := "(II)I" } : Jvm.MethodName))) ∈ lw_gd := lw_gd_in (i := 566) (by decide +kernel) rfl
theorem wd_567 : ((Jvm.Cond.code ({ cls := "TripleDesk$Reader", name := "packed", desc := "(II)I" } : Jvm.MethodName) prog_9_method_15_code (2 : Nat) (Option.some Jvm.ClassFile.FieldType.int))) ∈ lw_gd := lw_gd_in (i := 567) (by decide +kernel) rfl
theorem fits_z {v : Nat} (h : v ≤ 1) : fits .boolean (.int (nI v)) = true := by
  rcases Nat.eq_or_lt_of_le h with e | e
  · subst e; rfl
  · have : v = 0 := by omega
    subst this; rfl
theorem trm_10 {x : Int32} : trm ((x <<< (nI 4 &&& 31)) ||| nI 10) := trm_pack (by omega)
abbrev b_Reader_packed : ByteArray := prog_9_method_15_code
def y_Reader_packed : MethodName := ⟨R_Reader, "packed", "(II)I"⟩
theorem d_Reader_packed_0 : decode b_Reader_packed 0 = .ok (.iload_n 0, 1) := by decide +kernel
theorem d_Reader_packed_1 : decode b_Reader_packed 1 = .ok (.iconst 4, 1) := by decide +kernel
theorem d_Reader_packed_2 : decode b_Reader_packed 2 = .ok (.ishl, 1) := by decide +kernel
theorem d_Reader_packed_3 : decode b_Reader_packed 3 = .ok (.iload_n 1, 1) := by decide +kernel
theorem d_Reader_packed_4 : decode b_Reader_packed 4 = .ok (.ior, 1) := by decide +kernel
theorem d_Reader_packed_5 : decode b_Reader_packed 5 = .ok (.ireturn, 1) := by decide +kernel
set_option maxHeartbeats 40000000 in
set_option maxRecDepth 100000 in
theorem c_R_packed (l : Launch) (D : va_G) (ax : Nat → ClassId) (b1 : Nat) (x1 : Int32) (sz : Nat) (hb1 : b1 ≤ 10) : Met l y_Reader_packed (xws (.code y_Reader_packed b_Reader_packed 2 (some .int))) ({ frames := 10, cells := 0, slots := 0, locals := 400 }) (va_Pc [.int x1, .int (nI b1)] (xo D ax [] sz)) ((va_Qi (fun (r : Int32) (u : Nat → Nat) => r = nI (u 0) ∧ (trm (nI (u 0)) ∧ nI (u 0) = tmI (b1, x1))) (xb D (va_A [] sz) (fun u => [])) (va_A [] sz))) 0 0 (va_A [] sz) := by
  refine Met.ofW (cc := b_Reader_packed) (maxL := 2) (ret := (some .int)) (by decide) rfl ?_
  intro p e s m args below meth c s₁ B hml hv
  obtain ⟨rfl, hsz, hP, hK, hD0⟩ := hv
  have hx := B.exec
  have hb := B.bytes
  have hr := B.returns
  have hts := xw_hts B.pre
  have hown : s.vm.findClass R_Reader = some m.cls := findClass_of_methodNamed B.named
  have hlocks := B.notSynchronized
  subst hsz
  have hD := hD0.self (sz := s.heap.size)
  have hN := xz_entry hP
  generalize hAe : va_A [] s.heap.size = A at hD hN ⊢
  have hA : ∀ q : Nat, s.heap.size ≤ q → A q := fun q h => by rw [← hAe]; exact Or.inr h
  have hS : va_S A s.heap s.heap [] := va_S.rf
  have hl0 := lv_entry ([.int x1, .int (nI b1)]) (n := 2) (Nat.le_of_ble_eq_true rfl)
  rw [lg_entry_eq]
  generalize (lg_sl ([.int x1, .int (nI b1)]) ++ List.replicate (2 - (lg_sl ([.int x1, .int (nI b1)])).length) Slot.unset).toArray = ls at hl0 ⊢
  have hl1 : lv_has ls 2 [(0, .int x1), (1, .int (nI b1))] := hl0
  refine xw_gen (fun Z9 hQe => ?_)
  refine lv_iload_n hx hb d_Reader_packed_0 rfl (lv_at hl1 0 rfl) ?_
  refine lv_iconst (v := 4) hx hb d_Reader_packed_1 (by decide) ?_
  refine lv_ishl hx hb d_Reader_packed_2 ?_
  refine lv_topi (fun z_1 ez_1 => ?_)
  refine lv_iload_n hx hb d_Reader_packed_3 rfl (lv_at hl1 1 rfl) ?_
  refine lv_ior hx hb d_Reader_packed_4 ?_
  refine lv_topi (fun z_2 ez_2 => ?_)
  rw [← hQe]
  obtain ⟨hP9, hD9⟩ := xw_sub2 (wc := (fun u : Nat → Nat => []) (ixn [(i2n z_2)])) hP hD [] (by decide) rfl
  have hsp0 : trm (nI ((i2n z_2))) := (by rw [nI_i2n, ez_2, ez_1]; exact trm_pack hb1)
  have hsp1 : nI ((i2n z_2)) = tmI (b1, x1) := (by rw [nI_i2n, ez_2, ez_1]; exact tmI_pack (by first | assumption | omega))
  exact W.iret (v := z_2) hx hb hr (fun t ht hW => ⟨⟨z_2, ixn [(i2n z_2)], rfl, ⟨(nI_i2n _).symm, ⟨hsp0, hsp1⟩⟩, ⟨by rw [ht]; exact hP9, hD9⟩⟩, hS.F ht⟩) hS.2.2 d_Reader_packed_5
abbrev b_Reader_term : ByteArray := prog_9_method_14_code
def y_Reader_term : MethodName := ⟨R_Reader, "term", "(Z)I"⟩
theorem d_Reader_term_0 : decode b_Reader_term 0 = .ok (.bipush 10, 2) := by decide +kernel
theorem d_Reader_term_2 : decode b_Reader_term 2 = .ok (.istore_n 2, 1) := by decide +kernel
theorem d_Reader_term_3 : decode b_Reader_term 3 = .ok (.aload_n 0, 1) := by decide +kernel
theorem d_Reader_term_4 : decode b_Reader_term 4 = .ok (.getfield 9, 3) := by decide +kernel
theorem d_Reader_term_7 : decode b_Reader_term 7 = .ok (.getfield 52, 3) := by decide +kernel
theorem d_Reader_term_10 : decode b_Reader_term 10 = .ok (.iconst 2, 1) := by decide +kernel
theorem d_Reader_term_11 : decode b_Reader_term 11 = .ok (.if_icmp .eq 18, 3) := by decide +kernel
theorem d_Reader_term_14 : decode b_Reader_term 14 = .ok (.iload_n 1, 1) := by decide +kernel
theorem d_Reader_term_15 : decode b_Reader_term 15 = .ok (.ifCond .eq 59, 3) := by decide +kernel
theorem d_Reader_term_18 : decode b_Reader_term 18 = .ok (.aload_n 0, 1) := by decide +kernel
theorem d_Reader_term_19 : decode b_Reader_term 19 = .ok (.getfield 9, 3) := by decide +kernel
theorem d_Reader_term_22 : decode b_Reader_term 22 = .ok (.getfield 52, 3) := by decide +kernel
theorem d_Reader_term_25 : decode b_Reader_term 25 = .ok (.iconst 3, 1) := by decide +kernel
theorem d_Reader_term_26 : decode b_Reader_term 26 = .ok (.if_icmp .ne 48, 3) := by decide +kernel
theorem d_Reader_term_29 : decode b_Reader_term 29 = .ok (.aload_n 0, 1) := by decide +kernel
theorem d_Reader_term_30 : decode b_Reader_term 30 = .ok (.getfield 9, 3) := by decide +kernel
theorem d_Reader_term_33 : decode b_Reader_term 33 = .ok (.getfield 74, 3) := by decide +kernel
theorem d_Reader_term_36 : decode b_Reader_term 36 = .ok (.istore_n 2, 1) := by decide +kernel
theorem d_Reader_term_37 : decode b_Reader_term 37 = .ok (.aload_n 0, 1) := by decide +kernel
theorem d_Reader_term_38 : decode b_Reader_term 38 = .ok (.getfield 9, 3) := by decide +kernel
theorem d_Reader_term_41 : decode b_Reader_term 41 = .ok (.invokevirtual 56, 3) := by decide +kernel
theorem d_Reader_term_44 : decode b_Reader_term 44 = .ok (.aload_n 0, 1) := by decide +kernel
theorem d_Reader_term_45 : decode b_Reader_term 45 = .ok (.getfield 9, 3) := by decide +kernel
theorem d_Reader_term_48 : decode b_Reader_term 48 = .ok (.getfield 52, 3) := by decide +kernel
theorem d_Reader_term_51 : decode b_Reader_term 51 = .ok (.bipush 43, 2) := by decide +kernel
theorem d_Reader_term_53 : decode b_Reader_term 53 = .ok (.if_icmp .eq 21, 3) := by decide +kernel
theorem d_Reader_term_56 : decode b_Reader_term 56 = .ok (.aload_n 0, 1) := by decide +kernel
theorem d_Reader_term_57 : decode b_Reader_term 57 = .ok (.getfield 9, 3) := by decide +kernel
theorem d_Reader_term_60 : decode b_Reader_term 60 = .ok (.getfield 52, 3) := by decide +kernel
theorem d_Reader_term_63 : decode b_Reader_term 63 = .ok (.bipush 45, 2) := by decide +kernel
theorem d_Reader_term_65 : decode b_Reader_term 65 = .ok (.if_icmp .eq 9, 3) := by decide +kernel
theorem d_Reader_term_68 : decode b_Reader_term 68 = .ok (.iconst 0, 1) := by decide +kernel
theorem d_Reader_term_69 : decode b_Reader_term 69 = .ok (.iload_n 2, 1) := by decide +kernel
theorem d_Reader_term_70 : decode b_Reader_term 70 = .ok (.invokestatic 141, 3) := by decide +kernel
theorem d_Reader_term_73 : decode b_Reader_term 73 = .ok (.ireturn, 1) := by decide +kernel
theorem d_Reader_term_74 : decode b_Reader_term 74 = .ok (.aload_n 0, 1) := by decide +kernel
theorem d_Reader_term_75 : decode b_Reader_term 75 = .ok (.getfield 9, 3) := by decide +kernel
theorem d_Reader_term_78 : decode b_Reader_term 78 = .ok (.getfield 52, 3) := by decide +kernel
theorem d_Reader_term_81 : decode b_Reader_term 81 = .ok (.bipush 45, 2) := by decide +kernel
theorem d_Reader_term_83 : decode b_Reader_term 83 = .ok (.if_icmp .ne 7, 3) := by decide +kernel
theorem d_Reader_term_86 : decode b_Reader_term 86 = .ok (.iconst 1, 1) := by decide +kernel
theorem d_Reader_term_87 : decode b_Reader_term 87 = .ok (.goto 4, 3) := by decide +kernel
theorem d_Reader_term_90 : decode b_Reader_term 90 = .ok (.iconst 0, 1) := by decide +kernel
theorem d_Reader_term_91 : decode b_Reader_term 91 = .ok (.istore_n 3, 1) := by decide +kernel
theorem d_Reader_term_92 : decode b_Reader_term 92 = .ok (.iload_n 3, 1) := by decide +kernel
theorem d_Reader_term_93 : decode b_Reader_term 93 = .ok (.ifCond .ne 21, 3) := by decide +kernel
theorem d_Reader_term_96 : decode b_Reader_term 96 = .ok (.aload_n 0, 1) := by decide +kernel
theorem d_Reader_term_97 : decode b_Reader_term 97 = .ok (.getfield 9, 3) := by decide +kernel
theorem d_Reader_term_100 : decode b_Reader_term 100 = .ok (.getfield 52, 3) := by decide +kernel
theorem d_Reader_term_103 : decode b_Reader_term 103 = .ok (.bipush 43, 2) := by decide +kernel
theorem d_Reader_term_105 : decode b_Reader_term 105 = .ok (.if_icmp .ne 16, 3) := by decide +kernel
theorem d_Reader_term_108 : decode b_Reader_term 108 = .ok (.iload_n 2, 1) := by decide +kernel
theorem d_Reader_term_109 : decode b_Reader_term 109 = .ok (.bipush 10, 2) := by decide +kernel
theorem d_Reader_term_111 : decode b_Reader_term 111 = .ok (.if_icmp .eq 10, 3) := by decide +kernel
theorem d_Reader_term_114 : decode b_Reader_term 114 = .ok (.aload_n 0, 1) := by decide +kernel
theorem d_Reader_term_115 : decode b_Reader_term 115 = .ok (.getfield 9, 3) := by decide +kernel
theorem d_Reader_term_118 : decode b_Reader_term 118 = .ok (.invokevirtual 56, 3) := by decide +kernel
theorem d_Reader_term_121 : decode b_Reader_term 121 = .ok (.aload_n 0, 1) := by decide +kernel
theorem d_Reader_term_122 : decode b_Reader_term 122 = .ok (.getfield 9, 3) := by decide +kernel
theorem d_Reader_term_125 : decode b_Reader_term 125 = .ok (.getfield 52, 3) := by decide +kernel
theorem d_Reader_term_128 : decode b_Reader_term 128 = .ok (.iconst 4, 1) := by decide +kernel
theorem d_Reader_term_129 : decode b_Reader_term 129 = .ok (.if_icmp .eq 10, 3) := by decide +kernel
theorem d_Reader_term_132 : decode b_Reader_term 132 = .ok (.aload_n 0, 1) := by decide +kernel
theorem d_Reader_term_133 : decode b_Reader_term 133 = .ok (.getfield 9, 3) := by decide +kernel
theorem d_Reader_term_136 : decode b_Reader_term 136 = .ok (.invokevirtual 67, 3) := by decide +kernel
theorem d_Reader_term_139 : decode b_Reader_term 139 = .ok (.aload_n 0, 1) := by decide +kernel
theorem d_Reader_term_140 : decode b_Reader_term 140 = .ok (.getfield 9, 3) := by decide +kernel
theorem d_Reader_term_143 : decode b_Reader_term 143 = .ok (.getfield 74, 3) := by decide +kernel
theorem d_Reader_term_146 : decode b_Reader_term 146 = .ok (.istore 4, 2) := by decide +kernel
theorem d_Reader_term_148 : decode b_Reader_term 148 = .ok (.aload_n 0, 1) := by decide +kernel
theorem d_Reader_term_149 : decode b_Reader_term 149 = .ok (.getfield 9, 3) := by decide +kernel
theorem d_Reader_term_152 : decode b_Reader_term 152 = .ok (.invokevirtual 56, 3) := by decide +kernel
theorem d_Reader_term_155 : decode b_Reader_term 155 = .ok (.iload_n 3, 1) := by decide +kernel
theorem d_Reader_term_156 : decode b_Reader_term 156 = .ok (.ifCond .eq 9, 3) := by decide +kernel
theorem d_Reader_term_159 : decode b_Reader_term 159 = .ok (.iload 4, 2) := by decide +kernel
theorem d_Reader_term_161 : decode b_Reader_term 161 = .ok (.ineg, 1) := by decide +kernel
theorem d_Reader_term_162 : decode b_Reader_term 162 = .ok (.goto 5, 3) := by decide +kernel
theorem d_Reader_term_165 : decode b_Reader_term 165 = .ok (.iload 4, 2) := by decide +kernel
theorem d_Reader_term_167 : decode b_Reader_term 167 = .ok (.iload_n 2, 1) := by decide +kernel
theorem d_Reader_term_168 : decode b_Reader_term 168 = .ok (.invokestatic 141, 3) := by decide +kernel
theorem d_Reader_term_171 : decode b_Reader_term 171 = .ok (.ireturn, 1) := by decide +kernel
set_option maxHeartbeats 40000000 in
set_option maxRecDepth 100000 in
theorem c_R_term (l : Launch) (D : va_G) (ax : Nat → ClassId) (r0 k0 k1 k2 : Nat) (vl : Value) (tb : Nat → Int32) (tk : Nat → Nat) (ta tf nx am cn ts th : Nat) (gh at9 : Nat) (n0 wg : Nat) (sz : Nat) (hkz : tkz tk cn) (hrs : rst tk tf nx am ta cn) (hta : ta ≤ cn) (hnx : nx < 128) (ham : am < 1024) (hgh : gh ≤ 1) (hwg : wg ≤ 1) : Met l y_Reader_term (xws (.code y_Reader_term b_Reader_term 5 (some .int))) ({ frames := 30, cells := 0, slots := 0, locals := 1200 }) (va_Pc [.ref r0, .int (nI wg)] (xo D ax [(r0, .inr (7, [.ref k0, vl, .ref n0, .int (nI gh), .int (nI at9)])), (k0, .inr (9, [.ref k1, .ref k2, .int (nI ts), .int (nI th), .int (nI ta), .int (nI tf), .int (nI nx), .int (nI am)])), (k1, .inl (ax 1, 400, .inl tb)), (k2, .inl (ax 0, 401, .inl (fun j => nI (tk j))))] sz)) ((va_Qi (fun (r : Int32) (u : Nat → Nat) => r = nI (u 4) ∧ (rst tk (u 1) (u 2) (u 3) (u 0) cn ∧ u 0 ≤ cn ∧ u 2 < 128 ∧ u 3 < 1024 ∧ ta ≤ u 0 ∧ ftf tf ≤ ftf (u 1) ∧ trm (nI (u 4)) ∧ ctS tk wg tf ta (u 1) (u 0) ∧ ctV tk wg tf ta (u 1) (u 4))) (xb D (va_A [(r0, .inr (7, [.ref k0, vl, .ref n0, .int (nI gh), .int (nI at9)])), (k0, .inr (9, [.ref k1, .ref k2, .int (nI ts), .int (nI th), .int (nI ta), .int (nI tf), .int (nI nx), .int (nI am)])), (k1, .inl (ax 1, 400, .inl tb)), (k2, .inl (ax 0, 401, .inl (fun j => nI (tk j))))] sz) (fun u => [(r0, .inr (7, [.ref k0, vl, .ref n0, .int (nI gh), .int (nI at9)])), (k0, .inr (9, [.ref k1, .ref k2, .int (nI ts), .int (nI th), .int (nI (u 0)), .int (nI (u 1)), .int (nI (u 2)), .int (nI (u 3))])), (k1, .inl (ax 1, 400, .inl tb)), (k2, .inl (ax 0, 401, .inl (fun j => nI (tk j))))])) (va_A [(r0, .inr (7, [.ref k0, vl, .ref n0, .int (nI gh), .int (nI at9)])), (k0, .inr (9, [.ref k1, .ref k2, .int (nI ts), .int (nI th), .int (nI ta), .int (nI tf), .int (nI nx), .int (nI am)])), (k1, .inl (ax 1, 400, .inl tb)), (k2, .inl (ax 0, 401, .inl (fun j => nI (tk j))))] sz))) 0 0 (va_A [(r0, .inr (7, [.ref k0, vl, .ref n0, .int (nI gh), .int (nI at9)])), (k0, .inr (9, [.ref k1, .ref k2, .int (nI ts), .int (nI th), .int (nI ta), .int (nI tf), .int (nI nx), .int (nI am)])), (k1, .inl (ax 1, 400, .inl tb)), (k2, .inl (ax 0, 401, .inl (fun j => nI (tk j))))] sz) := by
  refine Met.ofW (cc := b_Reader_term) (maxL := 5) (ret := (some .int)) (by decide) rfl ?_
  intro p e s m args below meth c s₁ B hml hv
  obtain ⟨rfl, hsz, hP, hK, hD0⟩ := hv
  have hx := B.exec
  have hb := B.bytes
  have hr := B.returns
  have hts := xw_hts B.pre
  have hown : s.vm.findClass R_Reader = some m.cls := findClass_of_methodNamed B.named
  have hlocks := B.notSynchronized
  subst hsz
  have hD := hD0.self (sz := s.heap.size)
  have hN := xz_entry hP
  generalize hAe : va_A [(r0, .inr (7, [.ref k0, vl, .ref n0, .int (nI gh), .int (nI at9)])), (k0, .inr (9, [.ref k1, .ref k2, .int (nI ts), .int (nI th), .int (nI ta), .int (nI tf), .int (nI nx), .int (nI am)])), (k1, .inl (ax 1, 400, .inl tb)), (k2, .inl (ax 0, 401, .inl (fun j => nI (tk j))))] s.heap.size = A at hD hN ⊢
  have hA : ∀ q : Nat, s.heap.size ≤ q → A q := fun q h => by rw [← hAe]; exact Or.inr h
  have hS : va_S A s.heap s.heap [] := va_S.rf
  have hl0 := lv_entry ([.ref r0, .int (nI wg)]) (n := 5) (Nat.le_of_ble_eq_true rfl)
  rw [lg_entry_eq]
  generalize (lg_sl ([.ref r0, .int (nI wg)]) ++ List.replicate (5 - (lg_sl ([.ref r0, .int (nI wg)])).length) Slot.unset).toArray = ls at hl0 ⊢
  have hl1 : lv_has ls 5 [(0, .ref r0), (1, .int (nI wg))] := hl0
  refine xw_gen (fun Z9 hQe => ?_)
  have jn_1 : ∀ (ta1 tf1 nx1 am1 : Nat) (b1 : Nat), rst tk tf1 nx1 am1 ta1 cn → ta1 ≤ cn → nx1 < 128 → am1 < 1024 → ta ≤ ta1 → ftf tf ≤ ftf tf1 → b1 ≤ 10 → tA tk wg tf ta b1 tf1 ta1 → tAV tk wg tf ta b1 → ∀ (H : Heap) (locs : List Loc) (ls : Array Slot), va_P D classes [(r0, .inr (7, [.ref k0, vl, .ref n0, .int (nI gh), .int (nI at9)])), (k0, .inr (9, [.ref k1, .ref k2, .int (nI ts), .int (nI th), .int (nI ta1), .int (nI tf1), .int (nI nx1), .int (nI am1)])), (k1, .inl (ax 1, 400, .inl tb)), (k2, .inl (ax 0, 401, .inl (fun j => nI (tk j))))] H → va_D A [(r0, .inr (7, [.ref k0, vl, .ref n0, .int (nI gh), .int (nI at9)])), (k0, .inr (9, [.ref k1, .ref k2, .int (nI ts), .int (nI th), .int (nI ta1), .int (nI tf1), .int (nI nx1), .int (nI am1)])), (k1, .inl (ax 1, 400, .inl tb)), (k2, .inl (ax 0, 401, .inl (fun j => nI (tk j))))] → va_S A s.heap H locs → lv_has ls 5 [(0, .ref r0), (1, .int (nI wg)), (2, .int (nI b1))] → W p l e (headSpec (xws (.code y_Reader_term b_Reader_term 5 (some .int))) ({ frames := 30, cells := 0, slots := 0, locals := 1200 })).room s m ([.ref r0, .int (nI wg)] : List Value).toArray below meth c H locs 0 0 Z9 (F0 m 74 ls []) := by
    clear hP hD hS hl1
    intro ta1 tf1 nx1 am1 b1 g1a g1b g1c g1d g1e g1f hb1 hTA hTV H locs ls hP hD hS hl1
    have jn_2 : ∀ (mi : Nat), mi ≤ 1 → mi = 0 ∨ nx1 = 45 → mi = 1 ∨ ¬ nx1 = 45 → ∀ (H : Heap) (locs : List Loc) (ls : Array Slot), va_P D classes [(r0, .inr (7, [.ref k0, vl, .ref n0, .int (nI gh), .int (nI at9)])), (k0, .inr (9, [.ref k1, .ref k2, .int (nI ts), .int (nI th), .int (nI ta1), .int (nI tf1), .int (nI nx1), .int (nI am1)])), (k1, .inl (ax 1, 400, .inl tb)), (k2, .inl (ax 0, 401, .inl (fun j => nI (tk j))))] H → va_D A [(r0, .inr (7, [.ref k0, vl, .ref n0, .int (nI gh), .int (nI at9)])), (k0, .inr (9, [.ref k1, .ref k2, .int (nI ts), .int (nI th), .int (nI ta1), .int (nI tf1), .int (nI nx1), .int (nI am1)])), (k1, .inl (ax 1, 400, .inl tb)), (k2, .inl (ax 0, 401, .inl (fun j => nI (tk j))))] → va_S A s.heap H locs → lv_has ls 5 [(0, .ref r0), (1, .int (nI wg)), (2, .int (nI b1)), (3, .int (nI mi))] → W p l e (headSpec (xws (.code y_Reader_term b_Reader_term 5 (some .int))) ({ frames := 30, cells := 0, slots := 0, locals := 1200 })).room s m ([.ref r0, .int (nI wg)] : List Value).toArray below meth c H locs 0 0 Z9 (F0 m 92 ls []) := by
      clear hP hD hS hl1
      intro mi hmi hmi2 hmi3 H locs ls hP hD hS hl1
      have jn_3 : ∀ (ta2 tf2 nx2 am2 : Nat), rst tk tf2 nx2 am2 ta2 cn → ta2 ≤ cn → nx2 < 128 → am2 < 1024 → ta ≤ ta2 → ftf tf ≤ ftf tf2 → tC tk wg tf ta tf2 ta2 → tCV tk wg tf ta b1 mi ta2 → ∀ (H : Heap) (locs : List Loc) (ls : Array Slot), va_P D classes [(r0, .inr (7, [.ref k0, vl, .ref n0, .int (nI gh), .int (nI at9)])), (k0, .inr (9, [.ref k1, .ref k2, .int (nI ts), .int (nI th), .int (nI ta2), .int (nI tf2), .int (nI nx2), .int (nI am2)])), (k1, .inl (ax 1, 400, .inl tb)), (k2, .inl (ax 0, 401, .inl (fun j => nI (tk j))))] H → va_D A [(r0, .inr (7, [.ref k0, vl, .ref n0, .int (nI gh), .int (nI at9)])), (k0, .inr (9, [.ref k1, .ref k2, .int (nI ts), .int (nI th), .int (nI ta2), .int (nI tf2), .int (nI nx2), .int (nI am2)])), (k1, .inl (ax 1, 400, .inl tb)), (k2, .inl (ax 0, 401, .inl (fun j => nI (tk j))))] → va_S A s.heap H locs → lv_has ls 5 [(0, .ref r0), (1, .int (nI wg)), (2, .int (nI b1)), (3, .int (nI mi))] → W p l e (headSpec (xws (.code y_Reader_term b_Reader_term 5 (some .int))) ({ frames := 30, cells := 0, slots := 0, locals := 1200 })).room s m ([.ref r0, .int (nI wg)] : List Value).toArray below meth c H locs 0 0 Z9 (F0 m 121 ls []) := by
        clear hP hD hS hl1
        intro ta2 tf2 nx2 am2 g2a g2b g2c g2d g2e g2f hTC hTW H locs ls hP hD hS hl1
        have jn_4 : ∀ (ta3 tf3 nx3 am3 : Nat), rst tk tf3 nx3 am3 ta3 cn → ta3 ≤ cn → nx3 < 128 → am3 < 1024 → ta ≤ ta3 → ftf tf ≤ ftf tf3 → nx3 = 4 ∨ nx3 = 1 → tD tk wg tf ta tf3 ta3 nx3 → tDV tk wg tf ta b1 mi am3 nx3 → ∀ (H : Heap) (locs : List Loc) (ls : Array Slot), va_P D classes [(r0, .inr (7, [.ref k0, vl, .ref n0, .int (nI gh), .int (nI at9)])), (k0, .inr (9, [.ref k1, .ref k2, .int (nI ts), .int (nI th), .int (nI ta3), .int (nI tf3), .int (nI nx3), .int (nI am3)])), (k1, .inl (ax 1, 400, .inl tb)), (k2, .inl (ax 0, 401, .inl (fun j => nI (tk j))))] H → va_D A [(r0, .inr (7, [.ref k0, vl, .ref n0, .int (nI gh), .int (nI at9)])), (k0, .inr (9, [.ref k1, .ref k2, .int (nI ts), .int (nI th), .int (nI ta3), .int (nI tf3), .int (nI nx3), .int (nI am3)])), (k1, .inl (ax 1, 400, .inl tb)), (k2, .inl (ax 0, 401, .inl (fun j => nI (tk j))))] → va_S A s.heap H locs → lv_has ls 5 [(0, .ref r0), (1, .int (nI wg)), (2, .int (nI b1)), (3, .int (nI mi))] → W p l e (headSpec (xws (.code y_Reader_term b_Reader_term 5 (some .int))) ({ frames := 30, cells := 0, slots := 0, locals := 1200 })).room s m ([.ref r0, .int (nI wg)] : List Value).toArray below meth c H locs 0 0 Z9 (F0 m 139 ls []) := by
          clear hP hD hS hl1
          intro ta3 tf3 nx3 am3 g3a g3b g3c g3d g3e g3f hn3 hTD hTX H locs ls hP hD hS hl1
          refine lv_aload_n hx hb d_Reader_term_139 rfl (lv_at hl1 0 rfl) ?_
          refine va_get (D := D) (ci := 7) (v := .ref k0) (C := R_Reader) (T := F_Reader) (N := 5) hx hb hts i_Reader hown hK.1 hP 0 rfl rfl 0 (by decide) (hts _ wd_75) (fun _ h9 => h9) rfl d_Reader_term_140 ?_
          refine va_get (D := D) (ci := 9) (v := .int (nI am3)) (C := R_Tokens) (T := F_Tokens) (N := 8) hx hb hts i_Tokens hown hK.1 hP 1 rfl rfl 7 (by decide) (hts _ wd_49) (fun _ h9 => h9) rfl d_Reader_term_143 ?_
          refine lv_istore (lv' := [(4, .int (nI am3)), (0, .ref r0), (1, .int (nI wg)), (2, .int (nI b1)), (3, .int (nI mi))]) hx hb d_Reader_term_146 hl1 (by decide) rfl (fun ls hl2 => ?_)
          clear hl1; have hl1 := hl2; clear hl2
          refine lv_aload_n hx hb d_Reader_term_148 rfl (lv_at hl1 1 rfl) ?_
          refine va_get (D := D) (ci := 7) (v := .ref k0) (C := R_Reader) (T := F_Reader) (N := 5) hx hb hts i_Reader hown hK.1 hP 0 rfl rfl 0 (by decide) (hts _ wd_75) (fun _ h9 => h9) rfl d_Reader_term_149 ?_
          obtain ⟨hPc, hDc, hFc, hCs⟩ := xw_sub3 (wc := [(k0, .inr (9, [.ref k1, .ref k2, .int (nI ts), .int (nI th), .int (nI ta3), .int (nI tf3), .int (nI nx3), .int (nI am3)])), (k1, .inl (ax 1, 400, .inl tb)), (k2, .inl (ax 0, 401, .inl (fun j => nI (tk j))))]) hP hD hS hA [1, 2, 3] (by decide) rfl
          have hz := xz_of hN hS
          refine va_callv (va_runV (As := []) (rest := []) ⟨hx, hb, hml, hown, hts⟩ (c_K_pass l D ax k0 k1 k2 tb tk ta3 tf3 nx3 am3 cn ts th H.size hkz (by assumption) (by first | assumption | omega) (by first | assumption | omega) (by first | assumption | omega) (by first | assumption | omega)) (xcV (n := 0) hts wd_531 wd_2 wd_564 wd_529 wd_530 rfl rfl (by decide +kernel) ⟨Nat.le_of_ble_eq_true rfl, Nat.le_of_ble_eq_true rfl⟩) (xpV (ci := 9) (q0 := 0) (As := []) hPc hK hz hDc rfl rfl) rfl rfl hl1.1 rfl (lv_room (Nat.le_of_ble_eq_true rfl)) d_Reader_term_152 ⟨Nat.le_of_ble_eq_true rfl, Nat.le_of_ble_eq_true rfl⟩) hS (fun q _ h => hFc q h) hFc (fun u_5 t H_6 locs ht hvm hw hB hz1 hk1 hS1 => ?_)
          try dsimp only at hw
          obtain ⟨hs_8, hs_9, hs_10, hs_11, hs_12, hs_13, hs_14, hs_15, hs_16, hs_17⟩ := hw
          obtain ⟨hP1, hD1⟩ := hB
          rw [ht] at hP1
          have hjn := xw_join3 (wl := [(r0, .inr (7, [.ref k0, vl, .ref n0, .int (nI gh), .int (nI at9)])), (k0, .inr (9, [.ref k1, .ref k2, .int (nI ts), .int (nI th), .int (nI (u_5 0)), .int (nI (u_5 1)), .int (nI (u_5 2)), .int (nI (u_5 3))])), (k1, .inl (ax 1, 400, .inl tb)), (k2, .inl (ax 0, 401, .inl (fun j => nI (tk j))))]) hP hD [1, 2, 3] [0] hCs (by decide) (by decide) hk1 hFc hP1 hD1 rfl
          clear hP1 hD1
          clear hPc hDc hFc hCs hz hz1 hk1 ht hvm
          clear hP hD hS
          have hS := hS1
          obtain ⟨hP, hD⟩ := hjn
          clear hS1
          refine lv_iload_n hx hb d_Reader_term_155 rfl (lv_at hl1 4 rfl) ?_
          refine lv_if_eq (tgt := 165) hx hb d_Reader_term_156 (by decide) (fun c_18 => ?_) (fun c_18 => ?_)
          · replace c_18 : mi = 0 := (nI_eq (a := mi) (b := 0) (by first | exact Nat.lt_of_lt_of_le (by assumption) (by decide) | exact Nat.lt_of_le_of_lt (by assumption) (by decide) | omega) (by decide)).mp c_18
            refine lv_iload hx hb d_Reader_term_165 (lv_at hl1 0 rfl) ?_
            refine lv_iload_n hx hb d_Reader_term_167 rfl (lv_at hl1 3 rfl) ?_
            obtain ⟨hPc, hDc, hFc, hCs⟩ := xw_sub3 (wc := []) hP hD hS hA [] (by decide) rfl
            have hz := xz_of hN hS
            refine va_calli (va_runS (As := [.int (nI am3), .int (nI b1)]) (rest := []) ⟨hx, hb, hml, hown, hts⟩ (c_R_packed l D ax b1 (nI am3) H_6.size (by first | assumption | omega)) (xcS (n := 2) hts wd_567 wd_3 wd_565 wd_566 rfl rfl (by decide +kernel) ⟨Nat.le_of_ble_eq_true rfl, Nat.le_of_ble_eq_true rfl⟩) (xpS (As := [.int (nI am3), .int (nI b1)]) hPc hK hz hDc) rfl rfl hl1.1 rfl (lv_room (Nat.le_of_ble_eq_true rfl)) d_Reader_term_168 ⟨Nat.le_of_ble_eq_true rfl, Nat.le_of_ble_eq_true rfl⟩) hS (fun q _ h => hFc q h) hFc (fun r_21 u_19 t H_20 locs ht hvm hw hB hz1 hk1 hS1 => ?_)
            try dsimp only at hw
            obtain ⟨hw, hs_22, hs_23⟩ := hw
            subst hw
            obtain ⟨hP1, hD1⟩ := hB
            rw [ht] at hP1
            have hjn := xw_join3 (wl := [(r0, .inr (7, [.ref k0, vl, .ref n0, .int (nI gh), .int (nI at9)])), (k0, .inr (9, [.ref k1, .ref k2, .int (nI ts), .int (nI th), .int (nI (u_5 0)), .int (nI (u_5 1)), .int (nI (u_5 2)), .int (nI (u_5 3))])), (k1, .inl (ax 1, 400, .inl tb)), (k2, .inl (ax 0, 401, .inl (fun j => nI (tk j))))]) hP hD [] [0, 1, 2, 3] hCs (by decide) (by decide) hk1 hFc hP1 hD1 rfl
            clear hP1 hD1
            clear hPc hDc hFc hCs hz hz1 hk1 ht hvm
            clear hP hD hS
            have hS := hS1
            obtain ⟨hP, hD⟩ := hjn
            clear hS1
            rw [← hQe]
            obtain ⟨hP9, hD9⟩ := xw_sub2 (wc := (fun u : Nat → Nat => [(r0, .inr (7, [.ref k0, vl, .ref n0, .int (nI gh), .int (nI at9)])), (k0, .inr (9, [.ref k1, .ref k2, .int (nI ts), .int (nI th), .int (nI (u 0)), .int (nI (u 1)), .int (nI (u 2)), .int (nI (u 3))])), (k1, .inl (ax 1, 400, .inl tb)), (k2, .inl (ax 0, 401, .inl (fun j => nI (tk j))))]) (ixn [(u_5 0), (u_5 1), (u_5 2), (u_5 3), (u_19 0)])) hP hD [0, 1, 2, 3] (by decide) rfl
            have hsp0 : rst tk ((u_5 1)) ((u_5 2)) ((u_5 3)) ((u_5 0)) cn := (by first | assumption | omega)
            have hsp1 : (u_5 0) ≤ cn := (by first | assumption | omega)
            have hsp2 : (u_5 2) < 128 := (by first | assumption | omega)
            have hsp3 : (u_5 3) < 1024 := (by first | assumption | omega)
            have hsp4 : ta ≤ (u_5 0) := (by first | assumption | omega)
            have hsp5 : ftf tf ≤ ftf ((u_5 1)) := (by first | assumption | omega)
            have hsp6 : trm (nI ((u_19 0))) := (by first | assumption | omega)
            have hsp7 : ctS tk wg tf ta ((u_5 1)) ((u_5 0)) := (by first | exact ct_f hTD (by first | assumption | omega) hs_15 hs_16 hs_17 | exact ct_a hgo hrs (by first | assumption | omega) hs_8 hs_15 hs_16 (by first | assumption | omega))
            have hsp8 : ctV tk wg tf ta ((u_5 1)) ((u_19 0)) := (by first | exact ctV_f hTD hTX hs_16 (by rw [show sgi mi am3 = nI am3 from if_neg (by first | assumption | omega)]; exact hs_23) | exact ctV_a hgo hrs (by first | assumption | omega) hs_8 hs_15 hs_16 (by first | assumption | omega) hs_23)
            exact W.iret (v := nI (u_19 0)) hx hb hr (fun t ht hW => ⟨⟨nI (u_19 0), ixn [(u_5 0), (u_5 1), (u_5 2), (u_5 3), (u_19 0)], rfl, ⟨rfl, ⟨hsp0, hsp1, hsp2, hsp3, hsp4, hsp5, hsp6, hsp7, hsp8⟩⟩, ⟨by rw [ht]; exact hP9, hD9⟩⟩, hS.F ht⟩) hS.2.2 d_Reader_term_171
          · replace c_18 : ¬ mi = 0 := fun hq9 => c_18 ((nI_eq (a := mi) (b := 0) (by first | exact Nat.lt_of_lt_of_le (by assumption) (by decide) | exact Nat.lt_of_le_of_lt (by assumption) (by decide) | omega) (by decide)).mpr hq9)
            refine lv_iload hx hb d_Reader_term_159 (lv_at hl1 0 rfl) ?_
            refine lv_ineg hx hb d_Reader_term_161 ?_
            refine lv_topi (fun z_24 ez_24 => ?_)
            refine lv_goto (tgt := 167) hx hb d_Reader_term_162 (by decide) ?_
            refine lv_iload_n hx hb d_Reader_term_167 rfl (lv_at hl1 3 rfl) ?_
            obtain ⟨hPc, hDc, hFc, hCs⟩ := xw_sub3 (wc := []) hP hD hS hA [] (by decide) rfl
            have hz := xz_of hN hS
            refine va_calli (va_runS (As := [.int z_24, .int (nI b1)]) (rest := []) ⟨hx, hb, hml, hown, hts⟩ (c_R_packed l D ax b1 z_24 H_6.size (by first | assumption | omega)) (xcS (n := 2) hts wd_567 wd_3 wd_565 wd_566 rfl rfl (by decide +kernel) ⟨Nat.le_of_ble_eq_true rfl, Nat.le_of_ble_eq_true rfl⟩) (xpS (As := [.int z_24, .int (nI b1)]) hPc hK hz hDc) rfl rfl hl1.1 rfl (lv_room (Nat.le_of_ble_eq_true rfl)) d_Reader_term_168 ⟨Nat.le_of_ble_eq_true rfl, Nat.le_of_ble_eq_true rfl⟩) hS (fun q _ h => hFc q h) hFc (fun r_27 u_25 t H_26 locs ht hvm hw hB hz1 hk1 hS1 => ?_)
            try dsimp only at hw
            obtain ⟨hw, hs_28, hs_29⟩ := hw
            subst hw
            obtain ⟨hP1, hD1⟩ := hB
            rw [ht] at hP1
            have hjn := xw_join3 (wl := [(r0, .inr (7, [.ref k0, vl, .ref n0, .int (nI gh), .int (nI at9)])), (k0, .inr (9, [.ref k1, .ref k2, .int (nI ts), .int (nI th), .int (nI (u_5 0)), .int (nI (u_5 1)), .int (nI (u_5 2)), .int (nI (u_5 3))])), (k1, .inl (ax 1, 400, .inl tb)), (k2, .inl (ax 0, 401, .inl (fun j => nI (tk j))))]) hP hD [] [0, 1, 2, 3] hCs (by decide) (by decide) hk1 hFc hP1 hD1 rfl
            clear hP1 hD1
            clear hPc hDc hFc hCs hz hz1 hk1 ht hvm
            clear hP hD hS
            have hS := hS1
            obtain ⟨hP, hD⟩ := hjn
            clear hS1
            rw [← hQe]
            obtain ⟨hP9, hD9⟩ := xw_sub2 (wc := (fun u : Nat → Nat => [(r0, .inr (7, [.ref k0, vl, .ref n0, .int (nI gh), .int (nI at9)])), (k0, .inr (9, [.ref k1, .ref k2, .int (nI ts), .int (nI th), .int (nI (u 0)), .int (nI (u 1)), .int (nI (u 2)), .int (nI (u 3))])), (k1, .inl (ax 1, 400, .inl tb)), (k2, .inl (ax 0, 401, .inl (fun j => nI (tk j))))]) (ixn [(u_5 0), (u_5 1), (u_5 2), (u_5 3), (u_25 0)])) hP hD [0, 1, 2, 3] (by decide) rfl
            have hsp0 : rst tk ((u_5 1)) ((u_5 2)) ((u_5 3)) ((u_5 0)) cn := (by first | assumption | omega)
            have hsp1 : (u_5 0) ≤ cn := (by first | assumption | omega)
            have hsp2 : (u_5 2) < 128 := (by first | assumption | omega)
            have hsp3 : (u_5 3) < 1024 := (by first | assumption | omega)
            have hsp4 : ta ≤ (u_5 0) := (by first | assumption | omega)
            have hsp5 : ftf tf ≤ ftf ((u_5 1)) := (by first | assumption | omega)
            have hsp6 : trm (nI ((u_25 0))) := (by first | assumption | omega)
            have hsp7 : ctS tk wg tf ta ((u_5 1)) ((u_5 0)) := (by first | exact ct_f hTD (by first | assumption | omega) hs_15 hs_16 hs_17 | exact ct_a hgo hrs (by first | assumption | omega) hs_8 hs_15 hs_16 (by first | assumption | omega))
            have hsp8 : ctV tk wg tf ta ((u_5 1)) ((u_25 0)) := (by first | exact ctV_f hTD hTX hs_16 (by rw [show sgi mi am3 = -nI am3 from if_pos (by first | assumption | omega), ← ez_24]; exact hs_29) | exact ctV_a hgo hrs (by first | assumption | omega) hs_8 hs_15 hs_16 (by first | assumption | omega) hs_29)
            exact W.iret (v := nI (u_25 0)) hx hb hr (fun t ht hW => ⟨⟨nI (u_25 0), ixn [(u_5 0), (u_5 1), (u_5 2), (u_5 3), (u_25 0)], rfl, ⟨rfl, ⟨hsp0, hsp1, hsp2, hsp3, hsp4, hsp5, hsp6, hsp7, hsp8⟩⟩, ⟨by rw [ht]; exact hP9, hD9⟩⟩, hS.F ht⟩) hS.2.2 d_Reader_term_171
        refine lv_aload_n hx hb d_Reader_term_121 rfl (lv_at hl1 0 rfl) ?_
        refine va_get (D := D) (ci := 7) (v := .ref k0) (C := R_Reader) (T := F_Reader) (N := 5) hx hb hts i_Reader hown hK.1 hP 0 rfl rfl 0 (by decide) (hts _ wd_75) (fun _ h9 => h9) rfl d_Reader_term_122 ?_
        refine va_get (D := D) (ci := 9) (v := .int (nI nx2)) (C := R_Tokens) (T := F_Tokens) (N := 8) hx hb hts i_Tokens hown hK.1 hP 1 rfl rfl 6 (by decide) (hts _ wd_47) (fun _ h9 => h9) rfl d_Reader_term_125 ?_
        refine lv_iconst (v := 4) hx hb d_Reader_term_128 (by decide) ?_
        refine lv_icmp_eq (tgt := 139) hx hb d_Reader_term_129 (by decide) (fun c_30 => ?_) (fun c_30 => ?_)
        · replace c_30 : nx2 = 4 := (nI_eq (a := nx2) (b := 4) (by first | exact Nat.lt_of_lt_of_le (by assumption) (by decide) | exact Nat.lt_of_le_of_lt (by assumption) (by decide) | omega) (by decide)).mp c_30
          exact jn_4 ta2 tf2 nx2 am2 (by assumption) (by first | assumption | omega) (by first | assumption | omega) (by first | assumption | omega) (by first | assumption | omega) (by first | assumption | omega) (by first | assumption | omega) (by first | exact tD_y hTC g2a (by first | assumption | omega) | exact tD_n hTC g2a (by first | assumption | omega) none none none none) (by first | exact tDV_y hTW g2a | exact tDV_n (by first | assumption | omega)) _ _ _ (hP.sub [0, 1, 2, 3] rfl) (hD.sub [0, 1, 2, 3] (by decide) rfl) hS (lv_sub hl1 [0, 1, 2, 3] rfl)
        · replace c_30 : ¬ nx2 = 4 := fun hq9 => c_30 ((nI_eq (a := nx2) (b := 4) (by first | exact Nat.lt_of_lt_of_le (by assumption) (by decide) | exact Nat.lt_of_le_of_lt (by assumption) (by decide) | omega) (by decide)).mpr hq9)
          refine lv_aload_n hx hb d_Reader_term_132 rfl (lv_at hl1 0 rfl) ?_
          refine va_get (D := D) (ci := 7) (v := .ref k0) (C := R_Reader) (T := F_Reader) (N := 5) hx hb hts i_Reader hown hK.1 hP 0 rfl rfl 0 (by decide) (hts _ wd_75) (fun _ h9 => h9) rfl d_Reader_term_133 ?_
          obtain ⟨hPc, hDc, hFc, hCs⟩ := xw_sub3 (wc := [(k0, .inr (9, [.ref k1, .ref k2, .int (nI ts), .int (nI th), .int (nI ta2), .int (nI tf2), .int (nI nx2), .int (nI am2)])), (k1, .inl (ax 1, 400, .inl tb)), (k2, .inl (ax 0, 401, .inl (fun j => nI (tk j))))]) hP hD hS hA [1, 2, 3] (by decide) rfl
          have hz := xz_of hN hS
          refine va_callv (va_runV (As := []) (rest := []) ⟨hx, hb, hml, hown, hts⟩ (c_K_refuse l D ax k0 k1 k2 tb tk ta2 tf2 nx2 am2 cn ts th H.size hkz (by assumption) (by first | assumption | omega) (by first | assumption | omega) (by first | assumption | omega)) (xcV (n := 0) hts wd_559 wd_2 wd_556 wd_557 wd_558 rfl rfl (by decide +kernel) ⟨Nat.le_of_ble_eq_true rfl, Nat.le_of_ble_eq_true rfl⟩) (xpV (ci := 9) (q0 := 0) (As := []) hPc hK hz hDc rfl rfl) rfl rfl hl1.1 rfl (lv_room (Nat.le_of_ble_eq_true rfl)) d_Reader_term_136 ⟨Nat.le_of_ble_eq_true rfl, Nat.le_of_ble_eq_true rfl⟩) hS (fun q _ h => hFc q h) hFc (fun u_31 t H_32 locs ht hvm hw hB hz1 hk1 hS1 => ?_)
          try dsimp only at hw
          obtain ⟨hs_34, hs_35, hs_36, hs_37, hs_38, hs_39, hs_40, hs_41, hs_42, hs_43⟩ := hw
          obtain ⟨hP1, hD1⟩ := hB
          rw [ht] at hP1
          have hjn := xw_join3 (wl := [(r0, .inr (7, [.ref k0, vl, .ref n0, .int (nI gh), .int (nI at9)])), (k0, .inr (9, [.ref k1, .ref k2, .int (nI ts), .int (nI th), .int (nI (u_31 0)), .int (nI (u_31 1)), .int (nI (u_31 2)), .int (nI (u_31 3))])), (k1, .inl (ax 1, 400, .inl tb)), (k2, .inl (ax 0, 401, .inl (fun j => nI (tk j))))]) hP hD [1, 2, 3] [0] hCs (by decide) (by decide) hk1 hFc hP1 hD1 rfl
          clear hP1 hD1
          clear hPc hDc hFc hCs hz hz1 hk1 ht hvm
          clear hP hD hS
          have hS := hS1
          obtain ⟨hP, hD⟩ := hjn
          clear hS1
          exact jn_4 (u_31 0) (u_31 1) (u_31 2) (u_31 3) (by assumption) (by first | assumption | omega) (by first | assumption | omega) (by first | assumption | omega) (by first | assumption | omega) (by first | assumption | omega) (by first | assumption | omega) (by first | exact tD_y hTC g2a (by first | assumption | omega) | exact tD_n hTC g2a (by first | assumption | omega) hs_40 hs_41 hs_43 hs_42) (by first | exact tDV_y hTW g2a | exact tDV_n (by first | assumption | omega)) _ _ _ (hP.sub [0, 1, 2, 3] rfl) (hD.sub [0, 1, 2, 3] (by decide) rfl) hS (lv_sub hl1 [0, 1, 2, 3] rfl)
      refine lv_iload_n hx hb d_Reader_term_92 rfl (lv_at hl1 3 rfl) ?_
      refine lv_if_ne (tgt := 114) hx hb d_Reader_term_93 (by decide) (fun c_44 => ?_) (fun c_44 => ?_)
      · replace c_44 : ¬ mi = 0 := fun hq9 => c_44 ((nI_eq (a := mi) (b := 0) (by first | exact Nat.lt_of_lt_of_le (by assumption) (by decide) | exact Nat.lt_of_le_of_lt (by assumption) (by decide) | omega) (by decide)).mpr hq9)
        refine lv_aload_n hx hb d_Reader_term_114 rfl (lv_at hl1 0 rfl) ?_
        refine va_get (D := D) (ci := 7) (v := .ref k0) (C := R_Reader) (T := F_Reader) (N := 5) hx hb hts i_Reader hown hK.1 hP 0 rfl rfl 0 (by decide) (hts _ wd_75) (fun _ h9 => h9) rfl d_Reader_term_115 ?_
        obtain ⟨hPc, hDc, hFc, hCs⟩ := xw_sub3 (wc := [(k0, .inr (9, [.ref k1, .ref k2, .int (nI ts), .int (nI th), .int (nI ta1), .int (nI tf1), .int (nI nx1), .int (nI am1)])), (k1, .inl (ax 1, 400, .inl tb)), (k2, .inl (ax 0, 401, .inl (fun j => nI (tk j))))]) hP hD hS hA [1, 2, 3] (by decide) rfl
        have hz := xz_of hN hS
        refine va_callv (va_runV (As := []) (rest := []) ⟨hx, hb, hml, hown, hts⟩ (c_K_pass l D ax k0 k1 k2 tb tk ta1 tf1 nx1 am1 cn ts th H.size hkz (by assumption) (by first | assumption | omega) (by first | assumption | omega) (by first | assumption | omega) (by first | assumption | omega)) (xcV (n := 0) hts wd_531 wd_2 wd_564 wd_529 wd_530 rfl rfl (by decide +kernel) ⟨Nat.le_of_ble_eq_true rfl, Nat.le_of_ble_eq_true rfl⟩) (xpV (ci := 9) (q0 := 0) (As := []) hPc hK hz hDc rfl rfl) rfl rfl hl1.1 rfl (lv_room (Nat.le_of_ble_eq_true rfl)) d_Reader_term_118 ⟨Nat.le_of_ble_eq_true rfl, Nat.le_of_ble_eq_true rfl⟩) hS (fun q _ h => hFc q h) hFc (fun u_45 t H_46 locs ht hvm hw hB hz1 hk1 hS1 => ?_)
        try dsimp only at hw
        obtain ⟨hs_48, hs_49, hs_50, hs_51, hs_52, hs_53, hs_54, hs_55, hs_56, hs_57⟩ := hw
        obtain ⟨hP1, hD1⟩ := hB
        rw [ht] at hP1
        have hjn := xw_join3 (wl := [(r0, .inr (7, [.ref k0, vl, .ref n0, .int (nI gh), .int (nI at9)])), (k0, .inr (9, [.ref k1, .ref k2, .int (nI ts), .int (nI th), .int (nI (u_45 0)), .int (nI (u_45 1)), .int (nI (u_45 2)), .int (nI (u_45 3))])), (k1, .inl (ax 1, 400, .inl tb)), (k2, .inl (ax 0, 401, .inl (fun j => nI (tk j))))]) hP hD [1, 2, 3] [0] hCs (by decide) (by decide) hk1 hFc hP1 hD1 rfl
        clear hP1 hD1
        clear hPc hDc hFc hCs hz hz1 hk1 ht hvm
        clear hP hD hS
        have hS := hS1
        obtain ⟨hP, hD⟩ := hjn
        clear hS1
        exact jn_3 (u_45 0) (u_45 1) (u_45 2) (u_45 3) (by assumption) (by first | assumption | omega) (by first | assumption | omega) (by first | assumption | omega) (by first | assumption | omega) (by first | assumption | omega) (by first | exact tC_p hTA g1a (by first | assumption | omega) hs_55 hs_56 | exact tC_n hTA g1a (by first | assumption | omega)) (by first | exact tCV_p hTA hTV g1a (by first | assumption | omega) hmi2 hmi3 hs_55 | exact tCV_n hTA hTV g1a (by first | assumption | omega) hmi2) _ _ _ (hP.sub [0, 1, 2, 3] rfl) (hD.sub [0, 1, 2, 3] (by decide) rfl) hS (lv_sub hl1 [0, 1, 2, 3] rfl)
      · replace c_44 : mi = 0 := (nI_eq (a := mi) (b := 0) (by first | exact Nat.lt_of_lt_of_le (by assumption) (by decide) | exact Nat.lt_of_le_of_lt (by assumption) (by decide) | omega) (by decide)).mp c_44
        refine lv_aload_n hx hb d_Reader_term_96 rfl (lv_at hl1 0 rfl) ?_
        refine va_get (D := D) (ci := 7) (v := .ref k0) (C := R_Reader) (T := F_Reader) (N := 5) hx hb hts i_Reader hown hK.1 hP 0 rfl rfl 0 (by decide) (hts _ wd_75) (fun _ h9 => h9) rfl d_Reader_term_97 ?_
        refine va_get (D := D) (ci := 9) (v := .int (nI nx1)) (C := R_Tokens) (T := F_Tokens) (N := 8) hx hb hts i_Tokens hown hK.1 hP 1 rfl rfl 6 (by decide) (hts _ wd_47) (fun _ h9 => h9) rfl d_Reader_term_100 ?_
        refine lv_bipush (v := 43) hx hb d_Reader_term_103 (by decide) ?_
        refine lv_icmp_ne (tgt := 121) hx hb d_Reader_term_105 (by decide) (fun c_58 => ?_) (fun c_58 => ?_)
        · replace c_58 : ¬ nx1 = 43 := fun hq9 => c_58 ((nI_eq (a := nx1) (b := 43) (by first | exact Nat.lt_of_lt_of_le (by assumption) (by decide) | exact Nat.lt_of_le_of_lt (by assumption) (by decide) | omega) (by decide)).mpr hq9)
          exact jn_3 ta1 tf1 nx1 am1 (by assumption) (by first | assumption | omega) (by first | assumption | omega) (by first | assumption | omega) (by first | assumption | omega) (by first | assumption | omega) (by first | exact tC_p hTA g1a (by first | assumption | omega) none none | exact tC_n hTA g1a (by first | assumption | omega)) (by first | exact tCV_p hTA hTV g1a (by first | assumption | omega) hmi2 hmi3 none | exact tCV_n hTA hTV g1a (by first | assumption | omega) hmi2) _ _ _ (hP.sub [0, 1, 2, 3] rfl) (hD.sub [0, 1, 2, 3] (by decide) rfl) hS (lv_sub hl1 [0, 1, 2, 3] rfl)
        · replace c_58 : nx1 = 43 := (nI_eq (a := nx1) (b := 43) (by first | exact Nat.lt_of_lt_of_le (by assumption) (by decide) | exact Nat.lt_of_le_of_lt (by assumption) (by decide) | omega) (by decide)).mp c_58
          refine lv_iload_n hx hb d_Reader_term_108 rfl (lv_at hl1 2 rfl) ?_
          refine lv_bipush (v := 10) hx hb d_Reader_term_109 (by decide) ?_
          refine lv_icmp_eq (tgt := 121) hx hb d_Reader_term_111 (by decide) (fun c_59 => ?_) (fun c_59 => ?_)
          · replace c_59 : b1 = 10 := (nI_eq (a := b1) (b := 10) (by first | exact Nat.lt_of_lt_of_le (by assumption) (by decide) | exact Nat.lt_of_le_of_lt (by assumption) (by decide) | omega) (by decide)).mp c_59
            exact jn_3 ta1 tf1 nx1 am1 (by assumption) (by first | assumption | omega) (by first | assumption | omega) (by first | assumption | omega) (by first | assumption | omega) (by first | assumption | omega) (by first | exact tC_p hTA g1a (by first | assumption | omega) none none | exact tC_n hTA g1a (by first | assumption | omega)) (by first | exact tCV_p hTA hTV g1a (by first | assumption | omega) hmi2 hmi3 none | exact tCV_n hTA hTV g1a (by first | assumption | omega) hmi2) _ _ _ (hP.sub [0, 1, 2, 3] rfl) (hD.sub [0, 1, 2, 3] (by decide) rfl) hS (lv_sub hl1 [0, 1, 2, 3] rfl)
          · replace c_59 : ¬ b1 = 10 := fun hq9 => c_59 ((nI_eq (a := b1) (b := 10) (by first | exact Nat.lt_of_lt_of_le (by assumption) (by decide) | exact Nat.lt_of_le_of_lt (by assumption) (by decide) | omega) (by decide)).mpr hq9)
            refine lv_aload_n hx hb d_Reader_term_114 rfl (lv_at hl1 0 rfl) ?_
            refine va_get (D := D) (ci := 7) (v := .ref k0) (C := R_Reader) (T := F_Reader) (N := 5) hx hb hts i_Reader hown hK.1 hP 0 rfl rfl 0 (by decide) (hts _ wd_75) (fun _ h9 => h9) rfl d_Reader_term_115 ?_
            obtain ⟨hPc, hDc, hFc, hCs⟩ := xw_sub3 (wc := [(k0, .inr (9, [.ref k1, .ref k2, .int (nI ts), .int (nI th), .int (nI ta1), .int (nI tf1), .int (nI nx1), .int (nI am1)])), (k1, .inl (ax 1, 400, .inl tb)), (k2, .inl (ax 0, 401, .inl (fun j => nI (tk j))))]) hP hD hS hA [1, 2, 3] (by decide) rfl
            have hz := xz_of hN hS
            refine va_callv (va_runV (As := []) (rest := []) ⟨hx, hb, hml, hown, hts⟩ (c_K_pass l D ax k0 k1 k2 tb tk ta1 tf1 nx1 am1 cn ts th H.size hkz (by assumption) (by first | assumption | omega) (by first | assumption | omega) (by first | assumption | omega) (by first | assumption | omega)) (xcV (n := 0) hts wd_531 wd_2 wd_564 wd_529 wd_530 rfl rfl (by decide +kernel) ⟨Nat.le_of_ble_eq_true rfl, Nat.le_of_ble_eq_true rfl⟩) (xpV (ci := 9) (q0 := 0) (As := []) hPc hK hz hDc rfl rfl) rfl rfl hl1.1 rfl (lv_room (Nat.le_of_ble_eq_true rfl)) d_Reader_term_118 ⟨Nat.le_of_ble_eq_true rfl, Nat.le_of_ble_eq_true rfl⟩) hS (fun q _ h => hFc q h) hFc (fun u_60 t H_61 locs ht hvm hw hB hz1 hk1 hS1 => ?_)
            try dsimp only at hw
            obtain ⟨hs_63, hs_64, hs_65, hs_66, hs_67, hs_68, hs_69, hs_70, hs_71, hs_72⟩ := hw
            obtain ⟨hP1, hD1⟩ := hB
            rw [ht] at hP1
            have hjn := xw_join3 (wl := [(r0, .inr (7, [.ref k0, vl, .ref n0, .int (nI gh), .int (nI at9)])), (k0, .inr (9, [.ref k1, .ref k2, .int (nI ts), .int (nI th), .int (nI (u_60 0)), .int (nI (u_60 1)), .int (nI (u_60 2)), .int (nI (u_60 3))])), (k1, .inl (ax 1, 400, .inl tb)), (k2, .inl (ax 0, 401, .inl (fun j => nI (tk j))))]) hP hD [1, 2, 3] [0] hCs (by decide) (by decide) hk1 hFc hP1 hD1 rfl
            clear hP1 hD1
            clear hPc hDc hFc hCs hz hz1 hk1 ht hvm
            clear hP hD hS
            have hS := hS1
            obtain ⟨hP, hD⟩ := hjn
            clear hS1
            exact jn_3 (u_60 0) (u_60 1) (u_60 2) (u_60 3) (by assumption) (by first | assumption | omega) (by first | assumption | omega) (by first | assumption | omega) (by first | assumption | omega) (by first | assumption | omega) (by first | exact tC_p hTA g1a (by first | assumption | omega) hs_70 hs_71 | exact tC_n hTA g1a (by first | assumption | omega)) (by first | exact tCV_p hTA hTV g1a (by first | assumption | omega) hmi2 hmi3 hs_70 | exact tCV_n hTA hTV g1a (by first | assumption | omega) hmi2) _ _ _ (hP.sub [0, 1, 2, 3] rfl) (hD.sub [0, 1, 2, 3] (by decide) rfl) hS (lv_sub hl1 [0, 1, 2, 3] rfl)
    refine lv_aload_n hx hb d_Reader_term_74 rfl (lv_at hl1 0 rfl) ?_
    refine va_get (D := D) (ci := 7) (v := .ref k0) (C := R_Reader) (T := F_Reader) (N := 5) hx hb hts i_Reader hown hK.1 hP 0 rfl rfl 0 (by decide) (hts _ wd_75) (fun _ h9 => h9) rfl d_Reader_term_75 ?_
    refine va_get (D := D) (ci := 9) (v := .int (nI nx1)) (C := R_Tokens) (T := F_Tokens) (N := 8) hx hb hts i_Tokens hown hK.1 hP 1 rfl rfl 6 (by decide) (hts _ wd_47) (fun _ h9 => h9) rfl d_Reader_term_78 ?_
    refine lv_bipush (v := 45) hx hb d_Reader_term_81 (by decide) ?_
    refine lv_icmp_ne (tgt := 90) hx hb d_Reader_term_83 (by decide) (fun c_73 => ?_) (fun c_73 => ?_)
    · replace c_73 : ¬ nx1 = 45 := fun hq9 => c_73 ((nI_eq (a := nx1) (b := 45) (by first | exact Nat.lt_of_lt_of_le (by assumption) (by decide) | exact Nat.lt_of_le_of_lt (by assumption) (by decide) | omega) (by decide)).mpr hq9)
      refine lv_iconst (v := 0) hx hb d_Reader_term_90 (by decide) ?_
      refine lv_istore_n (lv' := [(3, .int 0), (0, .ref r0), (1, .int (nI wg)), (2, .int (nI b1))]) hx hb d_Reader_term_91 rfl hl1 (by decide) rfl (fun ls hl2 => ?_)
      clear hl1; have hl1 := hl2; clear hl2
      exact jn_2 0 (by first | assumption | omega) (by first | assumption | omega) (by first | assumption | omega) _ _ _ (hP.sub [0, 1, 2, 3] rfl) (hD.sub [0, 1, 2, 3] (by decide) rfl) hS (lv_sub hl1 [1, 2, 3, 0] rfl)
    · replace c_73 : nx1 = 45 := (nI_eq (a := nx1) (b := 45) (by first | exact Nat.lt_of_lt_of_le (by assumption) (by decide) | exact Nat.lt_of_le_of_lt (by assumption) (by decide) | omega) (by decide)).mp c_73
      refine lv_iconst (v := 1) hx hb d_Reader_term_86 (by decide) ?_
      refine lv_goto (tgt := 91) hx hb d_Reader_term_87 (by decide) ?_
      refine lv_istore_n (lv' := [(3, .int 1), (0, .ref r0), (1, .int (nI wg)), (2, .int (nI b1))]) hx hb d_Reader_term_91 rfl hl1 (by decide) rfl (fun ls hl2 => ?_)
      clear hl1; have hl1 := hl2; clear hl2
      exact jn_2 1 (by first | assumption | omega) (by first | assumption | omega) (by first | assumption | omega) _ _ _ (hP.sub [0, 1, 2, 3] rfl) (hD.sub [0, 1, 2, 3] (by decide) rfl) hS (lv_sub hl1 [1, 2, 3, 0] rfl)
  refine lv_bipush (v := 10) hx hb d_Reader_term_0 (by decide) ?_
  refine lv_istore_n (lv' := [(2, .int 10), (0, .ref r0), (1, .int (nI wg))]) hx hb d_Reader_term_2 rfl hl1 (by decide) rfl (fun ls hl2 => ?_)
  clear hl1; have hl1 := hl2; clear hl2
  refine lv_aload_n hx hb d_Reader_term_3 rfl (lv_at hl1 1 rfl) ?_
  refine va_get (D := D) (ci := 7) (v := .ref k0) (C := R_Reader) (T := F_Reader) (N := 5) hx hb hts i_Reader hown hK.1 hP 0 rfl rfl 0 (by decide) (hts _ wd_75) (fun _ h9 => h9) rfl d_Reader_term_4 ?_
  refine va_get (D := D) (ci := 9) (v := .int (nI nx)) (C := R_Tokens) (T := F_Tokens) (N := 8) hx hb hts i_Tokens hown hK.1 hP 1 rfl rfl 6 (by decide) (hts _ wd_47) (fun _ h9 => h9) rfl d_Reader_term_7 ?_
  refine lv_iconst (v := 2) hx hb d_Reader_term_10 (by decide) ?_
  refine lv_icmp_eq (tgt := 29) hx hb d_Reader_term_11 (by decide) (fun c_74 => ?_) (fun c_74 => ?_)
  · replace c_74 : nx = 2 := (nI_eq (a := nx) (b := 2) (by first | exact Nat.lt_of_lt_of_le (by assumption) (by decide) | exact Nat.lt_of_le_of_lt (by assumption) (by decide) | omega) (by decide)).mp c_74
    obtain ⟨hgo, hts9⟩ := hrs.go (by first | assumption | omega) (by first | assumption | omega)
    have ha9 : am ≤ 10 := by rcases Nat.lt_or_ge nx 3 with h | h; (have := hts9.2.1 (by first | assumption | omega); omega); (have := hts9.2.2.1 (by first | assumption | omega); omega)
    have ha10 : am < 10 := by rcases Nat.lt_or_ge nx 3 with h | h; (have := hts9.2.1 (by first | assumption | omega); omega); (have := hts9.2.2.1 (by first | assumption | omega); omega)
    refine lv_aload_n hx hb d_Reader_term_29 rfl (lv_at hl1 1 rfl) ?_
    refine va_get (D := D) (ci := 7) (v := .ref k0) (C := R_Reader) (T := F_Reader) (N := 5) hx hb hts i_Reader hown hK.1 hP 0 rfl rfl 0 (by decide) (hts _ wd_75) (fun _ h9 => h9) rfl d_Reader_term_30 ?_
    refine va_get (D := D) (ci := 9) (v := .int (nI am)) (C := R_Tokens) (T := F_Tokens) (N := 8) hx hb hts i_Tokens hown hK.1 hP 1 rfl rfl 7 (by decide) (hts _ wd_49) (fun _ h9 => h9) rfl d_Reader_term_33 ?_
    refine lv_istore_n (lv' := [(2, .int (nI am)), (0, .ref r0), (1, .int (nI wg))]) hx hb d_Reader_term_36 rfl hl1 (by decide) rfl (fun ls hl2 => ?_)
    clear hl1; have hl1 := hl2; clear hl2
    refine lv_aload_n hx hb d_Reader_term_37 rfl (lv_at hl1 1 rfl) ?_
    refine va_get (D := D) (ci := 7) (v := .ref k0) (C := R_Reader) (T := F_Reader) (N := 5) hx hb hts i_Reader hown hK.1 hP 0 rfl rfl 0 (by decide) (hts _ wd_75) (fun _ h9 => h9) rfl d_Reader_term_38 ?_
    obtain ⟨hPc, hDc, hFc, hCs⟩ := xw_sub3 (wc := [(k0, .inr (9, [.ref k1, .ref k2, .int (nI ts), .int (nI th), .int (nI ta), .int (nI tf), .int (nI nx), .int (nI am)])), (k1, .inl (ax 1, 400, .inl tb)), (k2, .inl (ax 0, 401, .inl (fun j => nI (tk j))))]) hP hD hS hA [1, 2, 3] (by decide) rfl
    have hz := xz_of hN hS
    refine va_callv (va_runV (As := []) (rest := []) ⟨hx, hb, hml, hown, hts⟩ (c_K_pass l D ax k0 k1 k2 tb tk ta tf nx am cn ts th s.heap.size hkz (by assumption) (by first | assumption | omega) (by first | assumption | omega) (by first | assumption | omega) (by first | assumption | omega)) (xcV (n := 0) hts wd_531 wd_2 wd_564 wd_529 wd_530 rfl rfl (by decide +kernel) ⟨Nat.le_of_ble_eq_true rfl, Nat.le_of_ble_eq_true rfl⟩) (xpV (ci := 9) (q0 := 0) (As := []) hPc hK hz hDc rfl rfl) rfl rfl hl1.1 rfl (lv_room (Nat.le_of_ble_eq_true rfl)) d_Reader_term_41 ⟨Nat.le_of_ble_eq_true rfl, Nat.le_of_ble_eq_true rfl⟩) hS (fun q _ h => hFc q h) hFc (fun u_75 t H_76 locs ht hvm hw hB hz1 hk1 hS1 => ?_)
    try dsimp only at hw
    obtain ⟨hs_78, hs_79, hs_80, hs_81, hs_82, hs_83, hs_84, hs_85, hs_86, hs_87⟩ := hw
    obtain ⟨hP1, hD1⟩ := hB
    rw [ht] at hP1
    have hjn := xw_join3 (wl := [(r0, .inr (7, [.ref k0, vl, .ref n0, .int (nI gh), .int (nI at9)])), (k0, .inr (9, [.ref k1, .ref k2, .int (nI ts), .int (nI th), .int (nI (u_75 0)), .int (nI (u_75 1)), .int (nI (u_75 2)), .int (nI (u_75 3))])), (k1, .inl (ax 1, 400, .inl tb)), (k2, .inl (ax 0, 401, .inl (fun j => nI (tk j))))]) hP hD [1, 2, 3] [0] hCs (by decide) (by decide) hk1 hFc hP1 hD1 rfl
    clear hP1 hD1
    clear hPc hDc hFc hCs hz hz1 hk1 ht hvm
    clear hP hD hS
    have hS := hS1
    obtain ⟨hP, hD⟩ := hjn
    clear hS1
    refine lv_aload_n hx hb d_Reader_term_44 rfl (lv_at hl1 1 rfl) ?_
    refine va_get (D := D) (ci := 7) (v := .ref k0) (C := R_Reader) (T := F_Reader) (N := 5) hx hb hts i_Reader hown hK.1 hP 0 rfl rfl 0 (by decide) (hts _ wd_75) (fun _ h9 => h9) rfl d_Reader_term_45 ?_
    refine va_get (D := D) (ci := 9) (v := .int (nI (u_75 2))) (C := R_Tokens) (T := F_Tokens) (N := 8) hx hb hts i_Tokens hown hK.1 hP 1 rfl rfl 6 (by decide) (hts _ wd_47) (fun _ h9 => h9) rfl d_Reader_term_48 ?_
    refine lv_bipush (v := 43) hx hb d_Reader_term_51 (by decide) ?_
    refine lv_icmp_eq (tgt := 74) hx hb d_Reader_term_53 (by decide) (fun c_88 => ?_) (fun c_88 => ?_)
    · replace c_88 : u_75 2 = 43 := (nI_eq (a := u_75 2) (b := 43) (by first | exact Nat.lt_of_lt_of_le (by assumption) (by decide) | exact Nat.lt_of_le_of_lt (by assumption) (by decide) | omega) (by decide)).mp c_88
      exact jn_1 (u_75 0) (u_75 1) (u_75 2) (u_75 3) am (by assumption) (by first | assumption | omega) (by first | assumption | omega) (by first | assumption | omega) (by first | assumption | omega) (by first | assumption | omega) (by first | assumption | omega) (by first | exact tA_1 hgo hrs (by first | assumption | omega) hs_78 hs_85 hs_86 (by first | assumption | omega) (by first | assumption | omega) | exact tA_0 hrs (by first | assumption | omega)) (by first | exact tAV_1 hrs (by first | assumption | omega) | exact tAV_0 hrs (by first | assumption | omega)) _ _ _ (hP.sub [0, 1, 2, 3] rfl) (hD.sub [0, 1, 2, 3] (by decide) rfl) hS (lv_sub hl1 [1, 2, 0] rfl)
    · replace c_88 : ¬ u_75 2 = 43 := fun hq9 => c_88 ((nI_eq (a := u_75 2) (b := 43) (by first | exact Nat.lt_of_lt_of_le (by assumption) (by decide) | exact Nat.lt_of_le_of_lt (by assumption) (by decide) | omega) (by decide)).mpr hq9)
      refine lv_aload_n hx hb d_Reader_term_56 rfl (lv_at hl1 1 rfl) ?_
      refine va_get (D := D) (ci := 7) (v := .ref k0) (C := R_Reader) (T := F_Reader) (N := 5) hx hb hts i_Reader hown hK.1 hP 0 rfl rfl 0 (by decide) (hts _ wd_75) (fun _ h9 => h9) rfl d_Reader_term_57 ?_
      refine va_get (D := D) (ci := 9) (v := .int (nI (u_75 2))) (C := R_Tokens) (T := F_Tokens) (N := 8) hx hb hts i_Tokens hown hK.1 hP 1 rfl rfl 6 (by decide) (hts _ wd_47) (fun _ h9 => h9) rfl d_Reader_term_60 ?_
      refine lv_bipush (v := 45) hx hb d_Reader_term_63 (by decide) ?_
      refine lv_icmp_eq (tgt := 74) hx hb d_Reader_term_65 (by decide) (fun c_89 => ?_) (fun c_89 => ?_)
      · replace c_89 : u_75 2 = 45 := (nI_eq (a := u_75 2) (b := 45) (by first | exact Nat.lt_of_lt_of_le (by assumption) (by decide) | exact Nat.lt_of_le_of_lt (by assumption) (by decide) | omega) (by decide)).mp c_89
        exact jn_1 (u_75 0) (u_75 1) (u_75 2) (u_75 3) am (by assumption) (by first | assumption | omega) (by first | assumption | omega) (by first | assumption | omega) (by first | assumption | omega) (by first | assumption | omega) (by first | assumption | omega) (by first | exact tA_1 hgo hrs (by first | assumption | omega) hs_78 hs_85 hs_86 (by first | assumption | omega) (by first | assumption | omega) | exact tA_0 hrs (by first | assumption | omega)) (by first | exact tAV_1 hrs (by first | assumption | omega) | exact tAV_0 hrs (by first | assumption | omega)) _ _ _ (hP.sub [0, 1, 2, 3] rfl) (hD.sub [0, 1, 2, 3] (by decide) rfl) hS (lv_sub hl1 [1, 2, 0] rfl)
      · replace c_89 : ¬ u_75 2 = 45 := fun hq9 => c_89 ((nI_eq (a := u_75 2) (b := 45) (by first | exact Nat.lt_of_lt_of_le (by assumption) (by decide) | exact Nat.lt_of_le_of_lt (by assumption) (by decide) | omega) (by decide)).mpr hq9)
        refine lv_iconst (v := 0) hx hb d_Reader_term_68 (by decide) ?_
        refine lv_iload_n hx hb d_Reader_term_69 rfl (lv_at hl1 0 rfl) ?_
        obtain ⟨hPc, hDc, hFc, hCs⟩ := xw_sub3 (wc := []) hP hD hS hA [] (by decide) rfl
        have hz := xz_of hN hS
        refine va_calli (va_runS (As := [.int 0, .int (nI am)]) (rest := []) ⟨hx, hb, hml, hown, hts⟩ (c_R_packed l D ax am 0 H_76.size (by first | assumption | omega)) (xcS (n := 2) hts wd_567 wd_3 wd_565 wd_566 rfl rfl (by decide +kernel) ⟨Nat.le_of_ble_eq_true rfl, Nat.le_of_ble_eq_true rfl⟩) (xpS (As := [.int 0, .int (nI am)]) hPc hK hz hDc) rfl rfl hl1.1 rfl (lv_room (Nat.le_of_ble_eq_true rfl)) d_Reader_term_70 ⟨Nat.le_of_ble_eq_true rfl, Nat.le_of_ble_eq_true rfl⟩) hS (fun q _ h => hFc q h) hFc (fun r_92 u_90 t H_91 locs ht hvm hw hB hz1 hk1 hS1 => ?_)
        try dsimp only at hw
        obtain ⟨hw, hs_93, hs_94⟩ := hw
        subst hw
        obtain ⟨hP1, hD1⟩ := hB
        rw [ht] at hP1
        have hjn := xw_join3 (wl := [(r0, .inr (7, [.ref k0, vl, .ref n0, .int (nI gh), .int (nI at9)])), (k0, .inr (9, [.ref k1, .ref k2, .int (nI ts), .int (nI th), .int (nI (u_75 0)), .int (nI (u_75 1)), .int (nI (u_75 2)), .int (nI (u_75 3))])), (k1, .inl (ax 1, 400, .inl tb)), (k2, .inl (ax 0, 401, .inl (fun j => nI (tk j))))]) hP hD [] [0, 1, 2, 3] hCs (by decide) (by decide) hk1 hFc hP1 hD1 rfl
        clear hP1 hD1
        clear hPc hDc hFc hCs hz hz1 hk1 ht hvm
        clear hP hD hS
        have hS := hS1
        obtain ⟨hP, hD⟩ := hjn
        clear hS1
        rw [← hQe]
        obtain ⟨hP9, hD9⟩ := xw_sub2 (wc := (fun u : Nat → Nat => [(r0, .inr (7, [.ref k0, vl, .ref n0, .int (nI gh), .int (nI at9)])), (k0, .inr (9, [.ref k1, .ref k2, .int (nI ts), .int (nI th), .int (nI (u 0)), .int (nI (u 1)), .int (nI (u 2)), .int (nI (u 3))])), (k1, .inl (ax 1, 400, .inl tb)), (k2, .inl (ax 0, 401, .inl (fun j => nI (tk j))))]) (ixn [(u_75 0), (u_75 1), (u_75 2), (u_75 3), (u_90 0)])) hP hD [0, 1, 2, 3] (by decide) rfl
        have hsp0 : rst tk ((u_75 1)) ((u_75 2)) ((u_75 3)) ((u_75 0)) cn := (by first | assumption | omega)
        have hsp1 : (u_75 0) ≤ cn := (by first | assumption | omega)
        have hsp2 : (u_75 2) < 128 := (by first | assumption | omega)
        have hsp3 : (u_75 3) < 1024 := (by first | assumption | omega)
        have hsp4 : ta ≤ (u_75 0) := (by first | assumption | omega)
        have hsp5 : ftf tf ≤ ftf ((u_75 1)) := (by first | assumption | omega)
        have hsp6 : trm (nI ((u_90 0))) := (by first | assumption | omega)
        have hsp7 : ctS tk wg tf ta ((u_75 1)) ((u_75 0)) := (by first | exact ct_f hTD (by first | assumption | omega) hs_85 hs_86 hs_87 | exact ct_a hgo hrs (by first | assumption | omega) hs_78 hs_85 hs_86 (by first | assumption | omega))
        have hsp8 : ctV tk wg tf ta ((u_75 1)) ((u_90 0)) := (by first | exact ctV_f hTD hTX hs_86 (by rw [show sgi mi am3 = nI am3 from if_neg (by first | assumption | omega)]; exact hs_94) | exact ctV_a hgo hrs (by first | assumption | omega) hs_78 hs_85 hs_86 (by first | assumption | omega) hs_94)
        exact W.iret (v := nI (u_90 0)) hx hb hr (fun t ht hW => ⟨⟨nI (u_90 0), ixn [(u_75 0), (u_75 1), (u_75 2), (u_75 3), (u_90 0)], rfl, ⟨rfl, ⟨hsp0, hsp1, hsp2, hsp3, hsp4, hsp5, hsp6, hsp7, hsp8⟩⟩, ⟨by rw [ht]; exact hP9, hD9⟩⟩, hS.F ht⟩) hS.2.2 d_Reader_term_73
  · replace c_74 : ¬ nx = 2 := fun hq9 => c_74 ((nI_eq (a := nx) (b := 2) (by first | exact Nat.lt_of_lt_of_le (by assumption) (by decide) | exact Nat.lt_of_le_of_lt (by assumption) (by decide) | omega) (by decide)).mpr hq9)
    refine lv_iload_n hx hb d_Reader_term_14 rfl (lv_at hl1 2 rfl) ?_
    refine lv_if_eq (tgt := 74) hx hb d_Reader_term_15 (by decide) (fun c_95 => ?_) (fun c_95 => ?_)
    · replace c_95 : wg = 0 := (nI_eq (a := wg) (b := 0) (by first | exact Nat.lt_of_lt_of_le (by assumption) (by decide) | exact Nat.lt_of_le_of_lt (by assumption) (by decide) | omega) (by decide)).mp c_95
      exact jn_1 ta tf nx am 10 (by assumption) (by first | assumption | omega) (by first | assumption | omega) (by first | assumption | omega) (by first | assumption | omega) (by first | assumption | omega) (by first | assumption | omega) (by first | exact tA_1 hgo hrs (by first | assumption | omega) none none none (by first | assumption | omega) (by first | assumption | omega) | exact tA_0 hrs (by first | assumption | omega)) (by first | exact tAV_1 hrs (by first | assumption | omega) | exact tAV_0 hrs (by first | assumption | omega)) _ _ _ (hP.sub [0, 1, 2, 3] rfl) (hD.sub [0, 1, 2, 3] (by decide) rfl) hS (lv_sub hl1 [1, 2, 0] rfl)
    · replace c_95 : ¬ wg = 0 := fun hq9 => c_95 ((nI_eq (a := wg) (b := 0) (by first | exact Nat.lt_of_lt_of_le (by assumption) (by decide) | exact Nat.lt_of_le_of_lt (by assumption) (by decide) | omega) (by decide)).mpr hq9)
      refine lv_aload_n hx hb d_Reader_term_18 rfl (lv_at hl1 1 rfl) ?_
      refine va_get (D := D) (ci := 7) (v := .ref k0) (C := R_Reader) (T := F_Reader) (N := 5) hx hb hts i_Reader hown hK.1 hP 0 rfl rfl 0 (by decide) (hts _ wd_75) (fun _ h9 => h9) rfl d_Reader_term_19 ?_
      refine va_get (D := D) (ci := 9) (v := .int (nI nx)) (C := R_Tokens) (T := F_Tokens) (N := 8) hx hb hts i_Tokens hown hK.1 hP 1 rfl rfl 6 (by decide) (hts _ wd_47) (fun _ h9 => h9) rfl d_Reader_term_22 ?_
      refine lv_iconst (v := 3) hx hb d_Reader_term_25 (by decide) ?_
      refine lv_icmp_ne (tgt := 74) hx hb d_Reader_term_26 (by decide) (fun c_96 => ?_) (fun c_96 => ?_)
      · replace c_96 : ¬ nx = 3 := fun hq9 => c_96 ((nI_eq (a := nx) (b := 3) (by first | exact Nat.lt_of_lt_of_le (by assumption) (by decide) | exact Nat.lt_of_le_of_lt (by assumption) (by decide) | omega) (by decide)).mpr hq9)
        exact jn_1 ta tf nx am 10 (by assumption) (by first | assumption | omega) (by first | assumption | omega) (by first | assumption | omega) (by first | assumption | omega) (by first | assumption | omega) (by first | assumption | omega) (by first | exact tA_1 hgo hrs (by first | assumption | omega) none none none (by first | assumption | omega) (by first | assumption | omega) | exact tA_0 hrs (by first | assumption | omega)) (by first | exact tAV_1 hrs (by first | assumption | omega) | exact tAV_0 hrs (by first | assumption | omega)) _ _ _ (hP.sub [0, 1, 2, 3] rfl) (hD.sub [0, 1, 2, 3] (by decide) rfl) hS (lv_sub hl1 [1, 2, 0] rfl)
      · replace c_96 : nx = 3 := (nI_eq (a := nx) (b := 3) (by first | exact Nat.lt_of_lt_of_le (by assumption) (by decide) | exact Nat.lt_of_le_of_lt (by assumption) (by decide) | omega) (by decide)).mp c_96
        obtain ⟨hgo, hts9⟩ := hrs.go (by first | assumption | omega) (by first | assumption | omega)
        have ha9 : am ≤ 10 := by rcases Nat.lt_or_ge nx 3 with h | h; (have := hts9.2.1 (by first | assumption | omega); omega); (have := hts9.2.2.1 (by first | assumption | omega); omega)
        have ha10 : am < 10 := by rcases Nat.lt_or_ge nx 3 with h | h; (have := hts9.2.1 (by first | assumption | omega); omega); (have := hts9.2.2.1 (by first | assumption | omega); omega)
        refine lv_aload_n hx hb d_Reader_term_29 rfl (lv_at hl1 1 rfl) ?_
        refine va_get (D := D) (ci := 7) (v := .ref k0) (C := R_Reader) (T := F_Reader) (N := 5) hx hb hts i_Reader hown hK.1 hP 0 rfl rfl 0 (by decide) (hts _ wd_75) (fun _ h9 => h9) rfl d_Reader_term_30 ?_
        refine va_get (D := D) (ci := 9) (v := .int (nI am)) (C := R_Tokens) (T := F_Tokens) (N := 8) hx hb hts i_Tokens hown hK.1 hP 1 rfl rfl 7 (by decide) (hts _ wd_49) (fun _ h9 => h9) rfl d_Reader_term_33 ?_
        refine lv_istore_n (lv' := [(2, .int (nI am)), (0, .ref r0), (1, .int (nI wg))]) hx hb d_Reader_term_36 rfl hl1 (by decide) rfl (fun ls hl2 => ?_)
        clear hl1; have hl1 := hl2; clear hl2
        refine lv_aload_n hx hb d_Reader_term_37 rfl (lv_at hl1 1 rfl) ?_
        refine va_get (D := D) (ci := 7) (v := .ref k0) (C := R_Reader) (T := F_Reader) (N := 5) hx hb hts i_Reader hown hK.1 hP 0 rfl rfl 0 (by decide) (hts _ wd_75) (fun _ h9 => h9) rfl d_Reader_term_38 ?_
        obtain ⟨hPc, hDc, hFc, hCs⟩ := xw_sub3 (wc := [(k0, .inr (9, [.ref k1, .ref k2, .int (nI ts), .int (nI th), .int (nI ta), .int (nI tf), .int (nI nx), .int (nI am)])), (k1, .inl (ax 1, 400, .inl tb)), (k2, .inl (ax 0, 401, .inl (fun j => nI (tk j))))]) hP hD hS hA [1, 2, 3] (by decide) rfl
        have hz := xz_of hN hS
        refine va_callv (va_runV (As := []) (rest := []) ⟨hx, hb, hml, hown, hts⟩ (c_K_pass l D ax k0 k1 k2 tb tk ta tf nx am cn ts th s.heap.size hkz (by assumption) (by first | assumption | omega) (by first | assumption | omega) (by first | assumption | omega) (by first | assumption | omega)) (xcV (n := 0) hts wd_531 wd_2 wd_564 wd_529 wd_530 rfl rfl (by decide +kernel) ⟨Nat.le_of_ble_eq_true rfl, Nat.le_of_ble_eq_true rfl⟩) (xpV (ci := 9) (q0 := 0) (As := []) hPc hK hz hDc rfl rfl) rfl rfl hl1.1 rfl (lv_room (Nat.le_of_ble_eq_true rfl)) d_Reader_term_41 ⟨Nat.le_of_ble_eq_true rfl, Nat.le_of_ble_eq_true rfl⟩) hS (fun q _ h => hFc q h) hFc (fun u_97 t H_98 locs ht hvm hw hB hz1 hk1 hS1 => ?_)
        try dsimp only at hw
        obtain ⟨hs_100, hs_101, hs_102, hs_103, hs_104, hs_105, hs_106, hs_107, hs_108, hs_109⟩ := hw
        obtain ⟨hP1, hD1⟩ := hB
        rw [ht] at hP1
        have hjn := xw_join3 (wl := [(r0, .inr (7, [.ref k0, vl, .ref n0, .int (nI gh), .int (nI at9)])), (k0, .inr (9, [.ref k1, .ref k2, .int (nI ts), .int (nI th), .int (nI (u_97 0)), .int (nI (u_97 1)), .int (nI (u_97 2)), .int (nI (u_97 3))])), (k1, .inl (ax 1, 400, .inl tb)), (k2, .inl (ax 0, 401, .inl (fun j => nI (tk j))))]) hP hD [1, 2, 3] [0] hCs (by decide) (by decide) hk1 hFc hP1 hD1 rfl
        clear hP1 hD1
        clear hPc hDc hFc hCs hz hz1 hk1 ht hvm
        clear hP hD hS
        have hS := hS1
        obtain ⟨hP, hD⟩ := hjn
        clear hS1
        refine lv_aload_n hx hb d_Reader_term_44 rfl (lv_at hl1 1 rfl) ?_
        refine va_get (D := D) (ci := 7) (v := .ref k0) (C := R_Reader) (T := F_Reader) (N := 5) hx hb hts i_Reader hown hK.1 hP 0 rfl rfl 0 (by decide) (hts _ wd_75) (fun _ h9 => h9) rfl d_Reader_term_45 ?_
        refine va_get (D := D) (ci := 9) (v := .int (nI (u_97 2))) (C := R_Tokens) (T := F_Tokens) (N := 8) hx hb hts i_Tokens hown hK.1 hP 1 rfl rfl 6 (by decide) (hts _ wd_47) (fun _ h9 => h9) rfl d_Reader_term_48 ?_
        refine lv_bipush (v := 43) hx hb d_Reader_term_51 (by decide) ?_
        refine lv_icmp_eq (tgt := 74) hx hb d_Reader_term_53 (by decide) (fun c_110 => ?_) (fun c_110 => ?_)
        · replace c_110 : u_97 2 = 43 := (nI_eq (a := u_97 2) (b := 43) (by first | exact Nat.lt_of_lt_of_le (by assumption) (by decide) | exact Nat.lt_of_le_of_lt (by assumption) (by decide) | omega) (by decide)).mp c_110
          exact jn_1 (u_97 0) (u_97 1) (u_97 2) (u_97 3) am (by assumption) (by first | assumption | omega) (by first | assumption | omega) (by first | assumption | omega) (by first | assumption | omega) (by first | assumption | omega) (by first | assumption | omega) (by first | exact tA_1 hgo hrs (by first | assumption | omega) hs_100 hs_107 hs_108 (by first | assumption | omega) (by first | assumption | omega) | exact tA_0 hrs (by first | assumption | omega)) (by first | exact tAV_1 hrs (by first | assumption | omega) | exact tAV_0 hrs (by first | assumption | omega)) _ _ _ (hP.sub [0, 1, 2, 3] rfl) (hD.sub [0, 1, 2, 3] (by decide) rfl) hS (lv_sub hl1 [1, 2, 0] rfl)
        · replace c_110 : ¬ u_97 2 = 43 := fun hq9 => c_110 ((nI_eq (a := u_97 2) (b := 43) (by first | exact Nat.lt_of_lt_of_le (by assumption) (by decide) | exact Nat.lt_of_le_of_lt (by assumption) (by decide) | omega) (by decide)).mpr hq9)
          refine lv_aload_n hx hb d_Reader_term_56 rfl (lv_at hl1 1 rfl) ?_
          refine va_get (D := D) (ci := 7) (v := .ref k0) (C := R_Reader) (T := F_Reader) (N := 5) hx hb hts i_Reader hown hK.1 hP 0 rfl rfl 0 (by decide) (hts _ wd_75) (fun _ h9 => h9) rfl d_Reader_term_57 ?_
          refine va_get (D := D) (ci := 9) (v := .int (nI (u_97 2))) (C := R_Tokens) (T := F_Tokens) (N := 8) hx hb hts i_Tokens hown hK.1 hP 1 rfl rfl 6 (by decide) (hts _ wd_47) (fun _ h9 => h9) rfl d_Reader_term_60 ?_
          refine lv_bipush (v := 45) hx hb d_Reader_term_63 (by decide) ?_
          refine lv_icmp_eq (tgt := 74) hx hb d_Reader_term_65 (by decide) (fun c_111 => ?_) (fun c_111 => ?_)
          · replace c_111 : u_97 2 = 45 := (nI_eq (a := u_97 2) (b := 45) (by first | exact Nat.lt_of_lt_of_le (by assumption) (by decide) | exact Nat.lt_of_le_of_lt (by assumption) (by decide) | omega) (by decide)).mp c_111
            exact jn_1 (u_97 0) (u_97 1) (u_97 2) (u_97 3) am (by assumption) (by first | assumption | omega) (by first | assumption | omega) (by first | assumption | omega) (by first | assumption | omega) (by first | assumption | omega) (by first | assumption | omega) (by first | exact tA_1 hgo hrs (by first | assumption | omega) hs_100 hs_107 hs_108 (by first | assumption | omega) (by first | assumption | omega) | exact tA_0 hrs (by first | assumption | omega)) (by first | exact tAV_1 hrs (by first | assumption | omega) | exact tAV_0 hrs (by first | assumption | omega)) _ _ _ (hP.sub [0, 1, 2, 3] rfl) (hD.sub [0, 1, 2, 3] (by decide) rfl) hS (lv_sub hl1 [1, 2, 0] rfl)
          · replace c_111 : ¬ u_97 2 = 45 := fun hq9 => c_111 ((nI_eq (a := u_97 2) (b := 45) (by first | exact Nat.lt_of_lt_of_le (by assumption) (by decide) | exact Nat.lt_of_le_of_lt (by assumption) (by decide) | omega) (by decide)).mpr hq9)
            refine lv_iconst (v := 0) hx hb d_Reader_term_68 (by decide) ?_
            refine lv_iload_n hx hb d_Reader_term_69 rfl (lv_at hl1 0 rfl) ?_
            obtain ⟨hPc, hDc, hFc, hCs⟩ := xw_sub3 (wc := []) hP hD hS hA [] (by decide) rfl
            have hz := xz_of hN hS
            refine va_calli (va_runS (As := [.int 0, .int (nI am)]) (rest := []) ⟨hx, hb, hml, hown, hts⟩ (c_R_packed l D ax am 0 H_98.size (by first | assumption | omega)) (xcS (n := 2) hts wd_567 wd_3 wd_565 wd_566 rfl rfl (by decide +kernel) ⟨Nat.le_of_ble_eq_true rfl, Nat.le_of_ble_eq_true rfl⟩) (xpS (As := [.int 0, .int (nI am)]) hPc hK hz hDc) rfl rfl hl1.1 rfl (lv_room (Nat.le_of_ble_eq_true rfl)) d_Reader_term_70 ⟨Nat.le_of_ble_eq_true rfl, Nat.le_of_ble_eq_true rfl⟩) hS (fun q _ h => hFc q h) hFc (fun r_114 u_112 t H_113 locs ht hvm hw hB hz1 hk1 hS1 => ?_)
            try dsimp only at hw
            obtain ⟨hw, hs_115, hs_116⟩ := hw
            subst hw
            obtain ⟨hP1, hD1⟩ := hB
            rw [ht] at hP1
            have hjn := xw_join3 (wl := [(r0, .inr (7, [.ref k0, vl, .ref n0, .int (nI gh), .int (nI at9)])), (k0, .inr (9, [.ref k1, .ref k2, .int (nI ts), .int (nI th), .int (nI (u_97 0)), .int (nI (u_97 1)), .int (nI (u_97 2)), .int (nI (u_97 3))])), (k1, .inl (ax 1, 400, .inl tb)), (k2, .inl (ax 0, 401, .inl (fun j => nI (tk j))))]) hP hD [] [0, 1, 2, 3] hCs (by decide) (by decide) hk1 hFc hP1 hD1 rfl
            clear hP1 hD1
            clear hPc hDc hFc hCs hz hz1 hk1 ht hvm
            clear hP hD hS
            have hS := hS1
            obtain ⟨hP, hD⟩ := hjn
            clear hS1
            rw [← hQe]
            obtain ⟨hP9, hD9⟩ := xw_sub2 (wc := (fun u : Nat → Nat => [(r0, .inr (7, [.ref k0, vl, .ref n0, .int (nI gh), .int (nI at9)])), (k0, .inr (9, [.ref k1, .ref k2, .int (nI ts), .int (nI th), .int (nI (u 0)), .int (nI (u 1)), .int (nI (u 2)), .int (nI (u 3))])), (k1, .inl (ax 1, 400, .inl tb)), (k2, .inl (ax 0, 401, .inl (fun j => nI (tk j))))]) (ixn [(u_97 0), (u_97 1), (u_97 2), (u_97 3), (u_112 0)])) hP hD [0, 1, 2, 3] (by decide) rfl
            have hsp0 : rst tk ((u_97 1)) ((u_97 2)) ((u_97 3)) ((u_97 0)) cn := (by first | assumption | omega)
            have hsp1 : (u_97 0) ≤ cn := (by first | assumption | omega)
            have hsp2 : (u_97 2) < 128 := (by first | assumption | omega)
            have hsp3 : (u_97 3) < 1024 := (by first | assumption | omega)
            have hsp4 : ta ≤ (u_97 0) := (by first | assumption | omega)
            have hsp5 : ftf tf ≤ ftf ((u_97 1)) := (by first | assumption | omega)
            have hsp6 : trm (nI ((u_112 0))) := (by first | assumption | omega)
            have hsp7 : ctS tk wg tf ta ((u_97 1)) ((u_97 0)) := (by first | exact ct_f hTD (by first | assumption | omega) hs_107 hs_108 hs_109 | exact ct_a hgo hrs (by first | assumption | omega) hs_100 hs_107 hs_108 (by first | assumption | omega))
            have hsp8 : ctV tk wg tf ta ((u_97 1)) ((u_112 0)) := (by first | exact ctV_f hTD hTX hs_108 (by rw [show sgi mi am3 = nI am3 from if_neg (by first | assumption | omega)]; exact hs_116) | exact ctV_a hgo hrs (by first | assumption | omega) hs_100 hs_107 hs_108 (by first | assumption | omega) hs_116)
            exact W.iret (v := nI (u_112 0)) hx hb hr (fun t ht hW => ⟨⟨nI (u_112 0), ixn [(u_97 0), (u_97 1), (u_97 2), (u_97 3), (u_112 0)], rfl, ⟨rfl, ⟨hsp0, hsp1, hsp2, hsp3, hsp4, hsp5, hsp6, hsp7, hsp8⟩⟩, ⟨by rw [ht]; exact hP9, hD9⟩⟩, hS.F ht⟩) hS.2.2 d_Reader_term_73
