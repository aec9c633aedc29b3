abbrev b_Reader_packed : ByteArray := prog_9_method_15_code
def y_Reader_packed : MethodName := ⟨R_Reader, "packed", "(II)I"⟩
theorem d_Reader_packed_0 : decode b_Reader_packed 0 = .ok (.iload_n 0, 1) := by decide +kernel
theorem d_Reader_packed_1 : decode b_Reader_packed 1 = .ok (.iconst 4, 1) := by decide +kernel
theorem d_Reader_packed_2 : decode b_Reader_packed 2 = .ok (.ishl, 1) := by decide +kernel
theorem d_Reader_packed_3 : decode b_Reader_packed 3 = .ok (.iload_n 1, 1) := by decide +kernel
theorem d_Reader_packed_4 : decode b_Reader_packed 4 = .ok (.ior, 1) := by decide +kernel
theorem d_Reader_packed_5 : decode b_Reader_packed 5 = .ok (.ireturn, 1) := by decide +kernel
set_option maxHeartbeats 4000000 in
set_option maxRecDepth 100000 in
theorem c_Reader_packed (l : Launch) (D : va_G) (ax : Nat → ClassId) (sz : Nat) : Met l y_Reader_packed (xws (.code y_Reader_packed b_Reader_packed 2 (some .int))) ({ frames := 10, cells := 0, slots := 0, locals := 400 }) (va_Pc [.int 0, .int 10] (xo D ax [] sz)) ((va_Qi (fun (r : Int32) (u : Nat → Nat) => r = 10) (xb D (va_A [] sz) (fun u => [])) (va_A [] sz))) 0 0 (va_A [] sz) := by
  refine Met.ofW (cc := b_Reader_packed) (maxL := 2) (ret := (some .int)) (by decide) rfl ?_
  intro p e s m args below meth c s₁ B hml hv
  obtain ⟨rfl, hsz, hP, hK, hD0⟩ := hv
  have hx := B.exec
  have hb := B.bytes
  have hr := B.returns
  have hts := xw_hts B.pre
  have hown : s.vm.findClass R_Reader = some m.cls := findClass_of_methodNamed B.named
  have hlocks := B.notSynchronized
  subst hsz
  have hD := hD0.self (sz := s.heap.size)
  have hN := xz_entry hP
  generalize hAe : va_A [] s.heap.size = A at hD hN ⊢
  have hA : ∀ q : Nat, s.heap.size ≤ q → A q := fun q h => by rw [← hAe]; exact Or.inr h
  have hS : va_S A s.heap s.heap [] := va_S.rf
  have hl0 := lv_entry ([.int 0, .int 10]) (n := 2) (Nat.le_of_ble_eq_true rfl)
  rw [lg_entry_eq]
  generalize (lg_sl ([.int 0, .int 10]) ++ List.replicate (2 - (lg_sl ([.int 0, .int 10])).length) Slot.unset).toArray = ls at hl0 ⊢
  have hl1 : lv_has ls 2 [(0, .int 0), (1, .int 10)] := hl0
  refine lv_iload_n hx hb d_Reader_packed_0 rfl (lv_at hl1 0 rfl) ?_
  refine lv_iconst (v := 4) hx hb d_Reader_packed_1 (by decide) ?_
  refine lv_ishl hx hb d_Reader_packed_2 ?_
  refine lv_topi (fun z_1 ez_1 => ?_)
  have ez_1 : z_1 = 0 := ez_1.trans (by first | rfl | decide)
  subst ez_1
  refine lv_iload_n hx hb d_Reader_packed_3 rfl (lv_at hl1 1 rfl) ?_
  refine lv_ior hx hb d_Reader_packed_4 ?_
  refine lv_topi (fun z_2 ez_2 => ?_)
  have ez_2 : z_2 = 10 := ez_2.trans (by first | rfl | decide)
  subst ez_2
  have hP9 := hP.sub (ws' := (fun u : Nat → Nat => []) (ixn [])) [] rfl
  have hD9 := hD.sub (ws' := (fun u : Nat → Nat => []) (ixn [])) [] (by decide) rfl
  exact W.iret (v := 10) hx hb hr (fun t ht hW => ⟨⟨10, ixn [], rfl, rfl, ⟨by rw [ht]; exact hP9, hD9⟩⟩, hS.F ht⟩) hS.2.2 d_Reader_packed_5
abbrev b_Reader_term : ByteArray := prog_9_method_14_code
def y_Reader_term : MethodName := ⟨R_Reader, "term", "(Z)I"⟩
theorem d_Reader_term_0 : decode b_Reader_term 0 = .ok (.bipush 10, 2) := by decide +kernel
theorem d_Reader_term_2 : decode b_Reader_term 2 = .ok (.istore_n 2, 1) := by decide +kernel
theorem d_Reader_term_3 : decode b_Reader_term 3 = .ok (.aload_n 0, 1) := by decide +kernel
theorem d_Reader_term_4 : decode b_Reader_term 4 = .ok (.getfield 9, 3) := by decide +kernel
theorem d_Reader_term_7 : decode b_Reader_term 7 = .ok (.getfield 52, 3) := by decide +kernel
theorem d_Reader_term_10 : decode b_Reader_term 10 = .ok (.iconst 2, 1) := by decide +kernel
theorem d_Reader_term_11 : decode b_Reader_term 11 = .ok (.if_icmp .eq 18, 3) := by decide +kernel
theorem d_Reader_term_14 : decode b_Reader_term 14 = .ok (.iload_n 1, 1) := by decide +kernel
theorem d_Reader_term_15 : decode b_Reader_term 15 = .ok (.ifCond .eq 59, 3) := by decide +kernel
theorem d_Reader_term_74 : decode b_Reader_term 74 = .ok (.aload_n 0, 1) := by decide +kernel
theorem d_Reader_term_75 : decode b_Reader_term 75 = .ok (.getfield 9, 3) := by decide +kernel
theorem d_Reader_term_78 : decode b_Reader_term 78 = .ok (.getfield 52, 3) := by decide +kernel
theorem d_Reader_term_81 : decode b_Reader_term 81 = .ok (.bipush 45, 2) := by decide +kernel
theorem d_Reader_term_83 : decode b_Reader_term 83 = .ok (.if_icmp .ne 7, 3) := by decide +kernel
theorem d_Reader_term_90 : decode b_Reader_term 90 = .ok (.iconst 0, 1) := by decide +kernel
theorem d_Reader_term_91 : decode b_Reader_term 91 = .ok (.istore_n 3, 1) := by decide +kernel
theorem d_Reader_term_92 : decode b_Reader_term 92 = .ok (.iload_n 3, 1) := by decide +kernel
theorem d_Reader_term_93 : decode b_Reader_term 93 = .ok (.ifCond .ne 21, 3) := by decide +kernel
theorem d_Reader_term_96 : decode b_Reader_term 96 = .ok (.aload_n 0, 1) := by decide +kernel
theorem d_Reader_term_97 : decode b_Reader_term 97 = .ok (.getfield 9, 3) := by decide +kernel
theorem d_Reader_term_100 : decode b_Reader_term 100 = .ok (.getfield 52, 3) := by decide +kernel
theorem d_Reader_term_103 : decode b_Reader_term 103 = .ok (.bipush 43, 2) := by decide +kernel
theorem d_Reader_term_105 : decode b_Reader_term 105 = .ok (.if_icmp .ne 16, 3) := by decide +kernel
theorem d_Reader_term_121 : decode b_Reader_term 121 = .ok (.aload_n 0, 1) := by decide +kernel
theorem d_Reader_term_122 : decode b_Reader_term 122 = .ok (.getfield 9, 3) := by decide +kernel
theorem d_Reader_term_125 : decode b_Reader_term 125 = .ok (.getfield 52, 3) := by decide +kernel
theorem d_Reader_term_128 : decode b_Reader_term 128 = .ok (.iconst 4, 1) := by decide +kernel
theorem d_Reader_term_129 : decode b_Reader_term 129 = .ok (.if_icmp .eq 10, 3) := by decide +kernel
theorem d_Reader_term_132 : decode b_Reader_term 132 = .ok (.aload_n 0, 1) := by decide +kernel
theorem d_Reader_term_133 : decode b_Reader_term 133 = .ok (.getfield 9, 3) := by decide +kernel
theorem d_Reader_term_136 : decode b_Reader_term 136 = .ok (.invokevirtual 67, 3) := by decide +kernel
theorem d_Reader_term_139 : decode b_Reader_term 139 = .ok (.aload_n 0, 1) := by decide +kernel
theorem d_Reader_term_140 : decode b_Reader_term 140 = .ok (.getfield 9, 3) := by decide +kernel
theorem d_Reader_term_143 : decode b_Reader_term 143 = .ok (.getfield 74, 3) := by decide +kernel
theorem d_Reader_term_146 : decode b_Reader_term 146 = .ok (.istore 4, 2) := by decide +kernel
theorem d_Reader_term_148 : decode b_Reader_term 148 = .ok (.aload_n 0, 1) := by decide +kernel
theorem d_Reader_term_149 : decode b_Reader_term 149 = .ok (.getfield 9, 3) := by decide +kernel
theorem d_Reader_term_152 : decode b_Reader_term 152 = .ok (.invokevirtual 56, 3) := by decide +kernel
theorem d_Reader_term_155 : decode b_Reader_term 155 = .ok (.iload_n 3, 1) := by decide +kernel
theorem d_Reader_term_156 : decode b_Reader_term 156 = .ok (.ifCond .eq 9, 3) := by decide +kernel
theorem d_Reader_term_165 : decode b_Reader_term 165 = .ok (.iload 4, 2) := by decide +kernel
theorem d_Reader_term_167 : decode b_Reader_term 167 = .ok (.iload_n 2, 1) := by decide +kernel
theorem d_Reader_term_168 : decode b_Reader_term 168 = .ok (.invokestatic 141, 3) := by decide +kernel
theorem d_Reader_term_171 : decode b_Reader_term 171 = .ok (.ireturn, 1) := by decide +kernel
set_option maxHeartbeats 4000000 in
set_option maxRecDepth 100000 in
theorem c_Reader_term_1 (l : Launch) (D : va_G) (ax : Nat → ClassId) (h0 h1 h2 h3 h4 : Nat) (sz : Nat) : Met l y_Reader_term (xws (.code y_Reader_term b_Reader_term 5 (some .int))) ({ frames := 20, cells := 0, slots := 0, locals := 800 }) (va_Pc [.ref h0, .int 0] (xo D ax [(h0, .inr (7, [.ref h1, .null, .ref h4, .int 0, .int 1])), (h1, .inr (9, [.ref h2, .ref h3, .int 0, .int 0, .int 0, .int (-1), .int 0, .int 0])), (h2, .inl (ax 1, 400, .inl (fun _ => 0))), (h3, .inl (ax 0, 401, .inl (upd (fun _ => 0) 0 0)))] sz)) ((va_Qi (fun (r : Int32) (u : Nat → Nat) => r = 10) (xb D (va_A [(h0, .inr (7, [.ref h1, .null, .ref h4, .int 0, .int 1])), (h1, .inr (9, [.ref h2, .ref h3, .int 0, .int 0, .int 0, .int (-1), .int 0, .int 0])), (h2, .inl (ax 1, 400, .inl (fun _ => 0))), (h3, .inl (ax 0, 401, .inl (upd (fun _ => 0) 0 0)))] sz) (fun u => [(h0, .inr (7, [.ref h1, .null, .ref h4, .int 0, .int 1])), (h1, .inr (9, [.ref h2, .ref h3, .int 0, .int 0, .int 0, .int 0, .int 1, .int 0])), (h2, .inl (ax 1, 400, .inl (fun _ => 0))), (h3, .inl (ax 0, 401, .inl (upd (fun _ => 0) 0 0)))])) (va_A [(h0, .inr (7, [.ref h1, .null, .ref h4, .int 0, .int 1])), (h1, .inr (9, [.ref h2, .ref h3, .int 0, .int 0, .int 0, .int (-1), .int 0, .int 0])), (h2, .inl (ax 1, 400, .inl (fun _ => 0))), (h3, .inl (ax 0, 401, .inl (upd (fun _ => 0) 0 0)))] sz))) 0 0 (va_A [(h0, .inr (7, [.ref h1, .null, .ref h4, .int 0, .int 1])), (h1, .inr (9, [.ref h2, .ref h3, .int 0, .int 0, .int 0, .int (-1), .int 0, .int 0])), (h2, .inl (ax 1, 400, .inl (fun _ => 0))), (h3, .inl (ax 0, 401, .inl (upd (fun _ => 0) 0 0)))] sz) := by
  refine Met.ofW (cc := b_Reader_term) (maxL := 5) (ret := (some .int)) (by decide) rfl ?_
  intro p e s m args below meth c s₁ B hml hv
  obtain ⟨rfl, hsz, hP, hK, hD0⟩ := hv
  have hx := B.exec
  have hb := B.bytes
  have hr := B.returns
  have hts := xw_hts B.pre
  have hown : s.vm.findClass R_Reader = some m.cls := findClass_of_methodNamed B.named
  have hlocks := B.notSynchronized
  subst hsz
  have hD := hD0.self (sz := s.heap.size)
  have hN := xz_entry hP
  generalize hAe : va_A [(h0, .inr (7, [.ref h1, .null, .ref h4, .int 0, .int 1])), (h1, .inr (9, [.ref h2, .ref h3, .int 0, .int 0, .int 0, .int (-1), .int 0, .int 0])), (h2, .inl (ax 1, 400, .inl (fun _ => 0))), (h3, .inl (ax 0, 401, .inl (upd (fun _ => 0) 0 0)))] s.heap.size = A at hD hN ⊢
  have hA : ∀ q : Nat, s.heap.size ≤ q → A q := fun q h => by rw [← hAe]; exact Or.inr h
  have hS : va_S A s.heap s.heap [] := va_S.rf
  have hl0 := lv_entry ([.ref h0, .int 0]) (n := 5) (Nat.le_of_ble_eq_true rfl)
  rw [lg_entry_eq]
  generalize (lg_sl ([.ref h0, .int 0]) ++ List.replicate (5 - (lg_sl ([.ref h0, .int 0])).length) Slot.unset).toArray = ls at hl0 ⊢
  have hl1 : lv_has ls 5 [(0, .ref h0), (1, .int 0)] := hl0
  refine lv_bipush (v := 10) hx hb d_Reader_term_0 (by decide) ?_
  refine lv_istore_n (lv' := [(2, .int 10), (0, .ref h0), (1, .int 0)]) hx hb d_Reader_term_2 rfl hl1 (by decide) rfl (fun ls hl1 => ?_)
  refine lv_aload_n hx hb d_Reader_term_3 rfl (lv_at hl1 1 rfl) ?_
  refine va_get (D := D) (ci := 7) (v := .ref h1) (C := R_Reader) (T := F_Reader) (N := 5) hx hb hts i_Reader hown hK.1 hP 0 rfl rfl 0 (by decide) (hts _ wd_75) (fun _ h9 => h9) rfl d_Reader_term_4 ?_
  refine va_get (D := D) (ci := 9) (v := .int 0) (C := R_Tokens) (T := F_Tokens) (N := 8) hx hb hts i_Tokens hown hK.1 hP 1 rfl rfl 6 (by decide) (hts _ wd_47) (fun _ h9 => h9) rfl d_Reader_term_7 ?_
  refine lv_iconst (v := 2) hx hb d_Reader_term_10 (by decide) ?_
  refine lv_icmp_eq (tgt := 29) hx hb d_Reader_term_11 (by decide) (fun c_1 => ?_) (fun c_1 => ?_)
  · first | exact absurd c_1 (by decide) | exact absurd (by decide) c_1
  refine lv_iload_n hx hb d_Reader_term_14 rfl (lv_at hl1 2 rfl) ?_
  refine lv_if_eq (tgt := 74) hx hb d_Reader_term_15 (by decide) (fun c_2 => ?_) (fun c_2 => ?_)
  rotate_left
  · first | exact absurd c_2 (by decide) | exact absurd (by decide) c_2
  refine lv_aload_n hx hb d_Reader_term_74 rfl (lv_at hl1 1 rfl) ?_
  refine va_get (D := D) (ci := 7) (v := .ref h1) (C := R_Reader) (T := F_Reader) (N := 5) hx hb hts i_Reader hown hK.1 hP 0 rfl rfl 0 (by decide) (hts _ wd_75) (fun _ h9 => h9) rfl d_Reader_term_75 ?_
  refine va_get (D := D) (ci := 9) (v := .int 0) (C := R_Tokens) (T := F_Tokens) (N := 8) hx hb hts i_Tokens hown hK.1 hP 1 rfl rfl 6 (by decide) (hts _ wd_47) (fun _ h9 => h9) rfl d_Reader_term_78 ?_
  refine lv_bipush (v := 45) hx hb d_Reader_term_81 (by decide) ?_
  refine lv_icmp_ne (tgt := 90) hx hb d_Reader_term_83 (by decide) (fun c_3 => ?_) (fun c_3 => ?_)
  rotate_left
  · first | exact absurd c_3 (by decide) | exact absurd (by decide) c_3
  refine lv_iconst (v := 0) hx hb d_Reader_term_90 (by decide) ?_
  refine lv_istore_n (lv' := [(3, .int 0), (2, .int 10), (0, .ref h0), (1, .int 0)]) hx hb d_Reader_term_91 rfl hl1 (by decide) rfl (fun ls hl1 => ?_)
  refine lv_iload_n hx hb d_Reader_term_92 rfl (lv_at hl1 0 rfl) ?_
  refine lv_if_ne (tgt := 114) hx hb d_Reader_term_93 (by decide) (fun c_4 => ?_) (fun c_4 => ?_)
  · first | exact absurd c_4 (by decide) | exact absurd (by decide) c_4
  refine lv_aload_n hx hb d_Reader_term_96 rfl (lv_at hl1 2 rfl) ?_
  refine va_get (D := D) (ci := 7) (v := .ref h1) (C := R_Reader) (T := F_Reader) (N := 5) hx hb hts i_Reader hown hK.1 hP 0 rfl rfl 0 (by decide) (hts _ wd_75) (fun _ h9 => h9) rfl d_Reader_term_97 ?_
  refine va_get (D := D) (ci := 9) (v := .int 0) (C := R_Tokens) (T := F_Tokens) (N := 8) hx hb hts i_Tokens hown hK.1 hP 1 rfl rfl 6 (by decide) (hts _ wd_47) (fun _ h9 => h9) rfl d_Reader_term_100 ?_
  refine lv_bipush (v := 43) hx hb d_Reader_term_103 (by decide) ?_
  refine lv_icmp_ne (tgt := 121) hx hb d_Reader_term_105 (by decide) (fun c_5 => ?_) (fun c_5 => ?_)
  rotate_left
  · first | exact absurd c_5 (by decide) | exact absurd (by decide) c_5
  refine lv_aload_n hx hb d_Reader_term_121 rfl (lv_at hl1 2 rfl) ?_
  refine va_get (D := D) (ci := 7) (v := .ref h1) (C := R_Reader) (T := F_Reader) (N := 5) hx hb hts i_Reader hown hK.1 hP 0 rfl rfl 0 (by decide) (hts _ wd_75) (fun _ h9 => h9) rfl d_Reader_term_122 ?_
  refine va_get (D := D) (ci := 9) (v := .int 0) (C := R_Tokens) (T := F_Tokens) (N := 8) hx hb hts i_Tokens hown hK.1 hP 1 rfl rfl 6 (by decide) (hts _ wd_47) (fun _ h9 => h9) rfl d_Reader_term_125 ?_
  refine lv_iconst (v := 4) hx hb d_Reader_term_128 (by decide) ?_
  refine lv_icmp_eq (tgt := 139) hx hb d_Reader_term_129 (by decide) (fun c_6 => ?_) (fun c_6 => ?_)
  · first | exact absurd c_6 (by decide) | exact absurd (by decide) c_6
  refine lv_aload_n hx hb d_Reader_term_132 rfl (lv_at hl1 2 rfl) ?_
  refine va_get (D := D) (ci := 7) (v := .ref h1) (C := R_Reader) (T := F_Reader) (N := 5) hx hb hts i_Reader hown hK.1 hP 0 rfl rfl 0 (by decide) (hts _ wd_75) (fun _ h9 => h9) rfl d_Reader_term_133 ?_
  have hPc := hP.sub (ws' := [(h1, .inr (9, [.ref h2, .ref h3, .int 0, .int 0, .int 0, .int (-1), .int 0, .int 0])), (h2, .inl (ax 1, 400, .inl (fun _ => 0))), (h3, .inl (ax 0, 401, .inl (upd (fun _ => 0) 0 0)))]) [1, 2, 3] rfl
  have hDc := hD.sub (ws' := [(h1, .inr (9, [.ref h2, .ref h3, .int 0, .int 0, .int 0, .int (-1), .int 0, .int 0])), (h2, .inl (ax 1, 400, .inl (fun _ => 0))), (h3, .inl (ax 0, 401, .inl (upd (fun _ => 0) 0 0)))]) [1, 2, 3] (by decide) rfl
  have hFc := va_free (wc := [(h1, .inr (9, [.ref h2, .ref h3, .int 0, .int 0, .int 0, .int (-1), .int 0, .int 0])), (h2, .inl (ax 1, 400, .inl (fun _ => 0))), (h3, .inl (ax 0, 401, .inl (upd (fun _ => 0) 0 0)))]) hD hS hA [1, 2, 3] rfl
  have hz := xz_of hN hS
  refine va_callv (va_runV (As := []) (rest := []) ⟨hx, hb, hml, hown, hts⟩ (c_Tokens_refuse_1 l D ax h1 h2 h3 s.heap.size) (xcV (n := 0) hts wd_559 wd_2 wd_556 wd_557 wd_558 rfl rfl (by decide +kernel) ⟨Nat.le_of_ble_eq_true rfl, Nat.le_of_ble_eq_true rfl⟩) (xpV (ci := 9) (q0 := 0) (As := []) hPc hK hz hDc rfl rfl) rfl rfl hl1.1 rfl (lv_room (Nat.le_of_ble_eq_true rfl)) d_Reader_term_136 ⟨Nat.le_of_ble_eq_true rfl, Nat.le_of_ble_eq_true rfl⟩) hS (fun q _ h => hFc q h) hFc (fun u_7 t H_8 locs ht hvm hw hB hz1 hk1 hS => ?_)
  try dsimp only at hw
  obtain ⟨hP1, hD1⟩ := hB
  rw [ht] at hP1
  obtain ⟨hP, hD⟩ := va_join (wr := [(h0, .inr (7, [.ref h1, .null, .ref h4, .int 0, .int 1]))]) (w1 := [(h1, .inr (9, [.ref h2, .ref h3, .int 0, .int 0, .int 0, .int 0, .int 1, .int 0])), (h2, .inl (ax 1, 400, .inl (fun _ => 0))), (h3, .inl (ax 0, 401, .inl (upd (fun _ => 0) 0 0)))]) hP hD [1, 2, 3] [0] rfl rfl (by decide) (by decide) hk1 hFc hP1 hD1
  have hP : va_P D classes [(h0, .inr (7, [.ref h1, .null, .ref h4, .int 0, .int 1])), (h1, .inr (9, [.ref h2, .ref h3, .int 0, .int 0, .int 0, .int 0, .int 1, .int 0])), (h2, .inl (ax 1, 400, .inl (fun _ => 0))), (h3, .inl (ax 0, 401, .inl (upd (fun _ => 0) 0 0)))] H_8 := hP
  have hD : va_D A [(h0, .inr (7, [.ref h1, .null, .ref h4, .int 0, .int 1])), (h1, .inr (9, [.ref h2, .ref h3, .int 0, .int 0, .int 0, .int 0, .int 1, .int 0])), (h2, .inl (ax 1, 400, .inl (fun _ => 0))), (h3, .inl (ax 0, 401, .inl (upd (fun _ => 0) 0 0)))] := hD
  refine lv_aload_n hx hb d_Reader_term_139 rfl (lv_at hl1 2 rfl) ?_
  refine va_get (D := D) (ci := 7) (v := .ref h1) (C := R_Reader) (T := F_Reader) (N := 5) hx hb hts i_Reader hown hK.1 hP 0 rfl rfl 0 (by decide) (hts _ wd_75) (fun _ h9 => h9) rfl d_Reader_term_140 ?_
  refine va_get (D := D) (ci := 9) (v := .int 0) (C := R_Tokens) (T := F_Tokens) (N := 8) hx hb hts i_Tokens hown hK.1 hP 1 rfl rfl 7 (by decide) (hts _ wd_49) (fun _ h9 => h9) rfl d_Reader_term_143 ?_
  refine lv_istore (lv' := [(4, .int 0), (3, .int 0), (2, .int 10), (0, .ref h0), (1, .int 0)]) hx hb d_Reader_term_146 hl1 (by decide) rfl (fun ls hl1 => ?_)
  refine lv_aload_n hx hb d_Reader_term_148 rfl (lv_at hl1 3 rfl) ?_
  refine va_get (D := D) (ci := 7) (v := .ref h1) (C := R_Reader) (T := F_Reader) (N := 5) hx hb hts i_Reader hown hK.1 hP 0 rfl rfl 0 (by decide) (hts _ wd_75) (fun _ h9 => h9) rfl d_Reader_term_149 ?_
  have hPc := hP.sub (ws' := [(h1, .inr (9, [.ref h2, .ref h3, .int 0, .int 0, .int 0, .int 0, .int 1, .int 0])), (h2, .inl (ax 1, 400, .inl (fun _ => 0))), (h3, .inl (ax 0, 401, .inl (upd (fun _ => 0) 0 0)))]) [1, 2, 3] rfl
  have hDc := hD.sub (ws' := [(h1, .inr (9, [.ref h2, .ref h3, .int 0, .int 0, .int 0, .int 0, .int 1, .int 0])), (h2, .inl (ax 1, 400, .inl (fun _ => 0))), (h3, .inl (ax 0, 401, .inl (upd (fun _ => 0) 0 0)))]) [1, 2, 3] (by decide) rfl
  have hFc := va_free (wc := [(h1, .inr (9, [.ref h2, .ref h3, .int 0, .int 0, .int 0, .int 0, .int 1, .int 0])), (h2, .inl (ax 1, 400, .inl (fun _ => 0))), (h3, .inl (ax 0, 401, .inl (upd (fun _ => 0) 0 0)))]) hD hS hA [1, 2, 3] rfl
  have hz := xz_of hN hS
  refine va_callv (va_runV (As := []) (rest := []) ⟨hx, hb, hml, hown, hts⟩ (c_Tokens_pass_2 l D ax h1 h2 h3 H_8.size) (xcV (n := 0) hts wd_531 wd_2 wd_564 wd_529 wd_530 rfl rfl (by decide +kernel) ⟨Nat.le_of_ble_eq_true rfl, Nat.le_of_ble_eq_true rfl⟩) (xpV (ci := 9) (q0 := 0) (As := []) hPc hK hz hDc rfl rfl) rfl rfl hl1.1 rfl (lv_room (Nat.le_of_ble_eq_true rfl)) d_Reader_term_152 ⟨Nat.le_of_ble_eq_true rfl, Nat.le_of_ble_eq_true rfl⟩) hS (fun q _ h => hFc q h) hFc (fun u_10 t H_11 locs ht hvm hw hB hz1 hk1 hS => ?_)
  try dsimp only at hw
  obtain ⟨hP1, hD1⟩ := hB
  rw [ht] at hP1
  obtain ⟨hP, hD⟩ := va_join (wr := [(h0, .inr (7, [.ref h1, .null, .ref h4, .int 0, .int 1]))]) (w1 := [(h1, .inr (9, [.ref h2, .ref h3, .int 0, .int 0, .int 0, .int 0, .int 1, .int 0])), (h2, .inl (ax 1, 400, .inl (fun _ => 0))), (h3, .inl (ax 0, 401, .inl (upd (fun _ => 0) 0 0)))]) hP hD [1, 2, 3] [0] rfl rfl (by decide) (by decide) hk1 hFc hP1 hD1
  have hP : va_P D classes [(h0, .inr (7, [.ref h1, .null, .ref h4, .int 0, .int 1])), (h1, .inr (9, [.ref h2, .ref h3, .int 0, .int 0, .int 0, .int 0, .int 1, .int 0])), (h2, .inl (ax 1, 400, .inl (fun _ => 0))), (h3, .inl (ax 0, 401, .inl (upd (fun _ => 0) 0 0)))] H_11 := hP
  have hD : va_D A [(h0, .inr (7, [.ref h1, .null, .ref h4, .int 0, .int 1])), (h1, .inr (9, [.ref h2, .ref h3, .int 0, .int 0, .int 0, .int 0, .int 1, .int 0])), (h2, .inl (ax 1, 400, .inl (fun _ => 0))), (h3, .inl (ax 0, 401, .inl (upd (fun _ => 0) 0 0)))] := hD
  refine lv_iload_n hx hb d_Reader_term_155 rfl (lv_at hl1 1 rfl) ?_
  refine lv_if_eq (tgt := 165) hx hb d_Reader_term_156 (by decide) (fun c_13 => ?_) (fun c_13 => ?_)
  rotate_left
  · first | exact absurd c_13 (by decide) | exact absurd (by decide) c_13
  refine lv_iload hx hb d_Reader_term_165 (lv_at hl1 0 rfl) ?_
  refine lv_iload_n hx hb d_Reader_term_167 rfl (lv_at hl1 2 rfl) ?_
  have hPc := hP.sub (ws' := []) [] rfl
  have hDc := hD.sub (ws' := []) [] (by decide) rfl
  have hFc := va_free (wc := []) hD hS hA [] rfl
  have hz := xz_of hN hS
  refine va_calli (va_runS (As := [.int 0, .int 10]) (rest := []) ⟨hx, hb, hml, hown, hts⟩ (c_Reader_packed l D ax  H_11.size) (xcS (n := 2) hts wd_567 wd_3 wd_565 wd_566 rfl rfl (by decide +kernel) ⟨Nat.le_of_ble_eq_true rfl, Nat.le_of_ble_eq_true rfl⟩) (xpS (As := [.int 0, .int 10]) hPc hK hz hDc) rfl rfl hl1.1 rfl (lv_room (Nat.le_of_ble_eq_true rfl)) d_Reader_term_168 ⟨Nat.le_of_ble_eq_true rfl, Nat.le_of_ble_eq_true rfl⟩) hS (fun q _ h => hFc q h) hFc (fun r_16 u_14 t H_15 locs ht hvm hw hB hz1 hk1 hS => ?_)
  try dsimp only at hw
  subst hw
  obtain ⟨hP1, hD1⟩ := hB
  rw [ht] at hP1
  obtain ⟨hP, hD⟩ := va_join (wr := [(h0, .inr (7, [.ref h1, .null, .ref h4, .int 0, .int 1])), (h1, .inr (9, [.ref h2, .ref h3, .int 0, .int 0, .int 0, .int 0, .int 1, .int 0])), (h2, .inl (ax 1, 400, .inl (fun _ => 0))), (h3, .inl (ax 0, 401, .inl (upd (fun _ => 0) 0 0)))]) (w1 := []) hP hD [] [0, 1, 2, 3] rfl rfl (by decide) (by decide) hk1 hFc hP1 hD1
  have hP : va_P D classes [(h0, .inr (7, [.ref h1, .null, .ref h4, .int 0, .int 1])), (h1, .inr (9, [.ref h2, .ref h3, .int 0, .int 0, .int 0, .int 0, .int 1, .int 0])), (h2, .inl (ax 1, 400, .inl (fun _ => 0))), (h3, .inl (ax 0, 401, .inl (upd (fun _ => 0) 0 0)))] H_15 := hP
  have hD : va_D A [(h0, .inr (7, [.ref h1, .null, .ref h4, .int 0, .int 1])), (h1, .inr (9, [.ref h2, .ref h3, .int 0, .int 0, .int 0, .int 0, .int 1, .int 0])), (h2, .inl (ax 1, 400, .inl (fun _ => 0))), (h3, .inl (ax 0, 401, .inl (upd (fun _ => 0) 0 0)))] := hD
  have hP9 := hP.sub (ws' := (fun u : Nat → Nat => [(h0, .inr (7, [.ref h1, .null, .ref h4, .int 0, .int 1])), (h1, .inr (9, [.ref h2, .ref h3, .int 0, .int 0, .int 0, .int 0, .int 1, .int 0])), (h2, .inl (ax 1, 400, .inl (fun _ => 0))), (h3, .inl (ax 0, 401, .inl (upd (fun _ => 0) 0 0)))]) (ixn [])) [0, 1, 2, 3] rfl
  have hD9 := hD.sub (ws' := (fun u : Nat → Nat => [(h0, .inr (7, [.ref h1, .null, .ref h4, .int 0, .int 1])), (h1, .inr (9, [.ref h2, .ref h3, .int 0, .int 0, .int 0, .int 0, .int 1, .int 0])), (h2, .inl (ax 1, 400, .inl (fun _ => 0))), (h3, .inl (ax 0, 401, .inl (upd (fun _ => 0) 0 0)))]) (ixn [])) [0, 1, 2, 3] (by decide) rfl
  exact W.iret (v := 10) hx hb hr (fun t ht hW => ⟨⟨10, ixn [], rfl, rfl, ⟨by rw [ht]; exact hP9, hD9⟩⟩, hS.F ht⟩) hS.2.2 d_Reader_term_171
set_option maxHeartbeats 4000000 in
set_option maxRecDepth 100000 in
theorem c_Reader_term_2 (l : Launch) (D : va_G) (ax : Nat → ClassId) (h0 h1 h2 h3 h4 : Nat) (sz : Nat) : Met l y_Reader_term (xws (.code y_Reader_term b_Reader_term 5 (some .int))) ({ frames := 20, cells := 0, slots := 0, locals := 800 }) (va_Pc [.ref h0, .int 0] (xo D ax [(h0, .inr (7, [.ref h1, .null, .ref h4, .int 0, .int 1])), (h1, .inr (9, [.ref h2, .ref h3, .int 0, .int 0, .int 0, .int 0, .int 1, .int 0])), (h2, .inl (ax 1, 400, .inl (fun _ => 0))), (h3, .inl (ax 0, 401, .inl (upd (fun _ => 0) 0 0)))] sz)) ((va_Qi (fun (r : Int32) (u : Nat → Nat) => r = 10) (xb D (va_A [(h0, .inr (7, [.ref h1, .null, .ref h4, .int 0, .int 1])), (h1, .inr (9, [.ref h2, .ref h3, .int 0, .int 0, .int 0, .int 0, .int 1, .int 0])), (h2, .inl (ax 1, 400, .inl (fun _ => 0))), (h3, .inl (ax 0, 401, .inl (upd (fun _ => 0) 0 0)))] sz) (fun u => [(h0, .inr (7, [.ref h1, .null, .ref h4, .int 0, .int 1])), (h1, .inr (9, [.ref h2, .ref h3, .int 0, .int 0, .int 0, .int 0, .int 1, .int 0])), (h2, .inl (ax 1, 400, .inl (fun _ => 0))), (h3, .inl (ax 0, 401, .inl (upd (fun _ => 0) 0 0)))])) (va_A [(h0, .inr (7, [.ref h1, .null, .ref h4, .int 0, .int 1])), (h1, .inr (9, [.ref h2, .ref h3, .int 0, .int 0, .int 0, .int 0, .int 1, .int 0])), (h2, .inl (ax 1, 400, .inl (fun _ => 0))), (h3, .inl (ax 0, 401, .inl (upd (fun _ => 0) 0 0)))] sz))) 0 0 (va_A [(h0, .inr (7, [.ref h1, .null, .ref h4, .int 0, .int 1])), (h1, .inr (9, [.ref h2, .ref h3, .int 0, .int 0, .int 0, .int 0, .int 1, .int 0])), (h2, .inl (ax 1, 400, .inl (fun _ => 0))), (h3, .inl (ax 0, 401, .inl (upd (fun _ => 0) 0 0)))] sz) := by
  refine Met.ofW (cc := b_Reader_term) (maxL := 5) (ret := (some .int)) (by decide) rfl ?_
  intro p e s m args below meth c s₁ B hml hv
  obtain ⟨rfl, hsz, hP, hK, hD0⟩ := hv
  have hx := B.exec
  have hb := B.bytes
  have hr := B.returns
  have hts := xw_hts B.pre
  have hown : s.vm.findClass R_Reader = some m.cls := findClass_of_methodNamed B.named
  have hlocks := B.notSynchronized
  subst hsz
  have hD := hD0.self (sz := s.heap.size)
  have hN := xz_entry hP
  generalize hAe : va_A [(h0, .inr (7, [.ref h1, .null, .ref h4, .int 0, .int 1])), (h1, .inr (9, [.ref h2, .ref h3, .int 0, .int 0, .int 0, .int 0, .int 1, .int 0])), (h2, .inl (ax 1, 400, .inl (fun _ => 0))), (h3, .inl (ax 0, 401, .inl (upd (fun _ => 0) 0 0)))] s.heap.size = A at hD hN ⊢
  have hA : ∀ q : Nat, s.heap.size ≤ q → A q := fun q h => by rw [← hAe]; exact Or.inr h
  have hS : va_S A s.heap s.heap [] := va_S.rf
  have hl0 := lv_entry ([.ref h0, .int 0]) (n := 5) (Nat.le_of_ble_eq_true rfl)
  rw [lg_entry_eq]
  generalize (lg_sl ([.ref h0, .int 0]) ++ List.replicate (5 - (lg_sl ([.ref h0, .int 0])).length) Slot.unset).toArray = ls at hl0 ⊢
  have hl1 : lv_has ls 5 [(0, .ref h0), (1, .int 0)] := hl0
  refine lv_bipush (v := 10) hx hb d_Reader_term_0 (by decide) ?_
  refine lv_istore_n (lv' := [(2, .int 10), (0, .ref h0), (1, .int 0)]) hx hb d_Reader_term_2 rfl hl1 (by decide) rfl (fun ls hl1 => ?_)
  refine lv_aload_n hx hb d_Reader_term_3 rfl (lv_at hl1 1 rfl) ?_
  refine va_get (D := D) (ci := 7) (v := .ref h1) (C := R_Reader) (T := F_Reader) (N := 5) hx hb hts i_Reader hown hK.1 hP 0 rfl rfl 0 (by decide) (hts _ wd_75) (fun _ h9 => h9) rfl d_Reader_term_4 ?_
  refine va_get (D := D) (ci := 9) (v := .int 1) (C := R_Tokens) (T := F_Tokens) (N := 8) hx hb hts i_Tokens hown hK.1 hP 1 rfl rfl 6 (by decide) (hts _ wd_47) (fun _ h9 => h9) rfl d_Reader_term_7 ?_
  refine lv_iconst (v := 2) hx hb d_Reader_term_10 (by decide) ?_
  refine lv_icmp_eq (tgt := 29) hx hb d_Reader_term_11 (by decide) (fun c_1 => ?_) (fun c_1 => ?_)
  · first | exact absurd c_1 (by decide) | exact absurd (by decide) c_1
  refine lv_iload_n hx hb d_Reader_term_14 rfl (lv_at hl1 2 rfl) ?_
  refine lv_if_eq (tgt := 74) hx hb d_Reader_term_15 (by decide) (fun c_2 => ?_) (fun c_2 => ?_)
  rotate_left
  · first | exact absurd c_2 (by decide) | exact absurd (by decide) c_2
  refine lv_aload_n hx hb d_Reader_term_74 rfl (lv_at hl1 1 rfl) ?_
  refine va_get (D := D) (ci := 7) (v := .ref h1) (C := R_Reader) (T := F_Reader) (N := 5) hx hb hts i_Reader hown hK.1 hP 0 rfl rfl 0 (by decide) (hts _ wd_75) (fun _ h9 => h9) rfl d_Reader_term_75 ?_
  refine va_get (D := D) (ci := 9) (v := .int 1) (C := R_Tokens) (T := F_Tokens) (N := 8) hx hb hts i_Tokens hown hK.1 hP 1 rfl rfl 6 (by decide) (hts _ wd_47) (fun _ h9 => h9) rfl d_Reader_term_78 ?_
  refine lv_bipush (v := 45) hx hb d_Reader_term_81 (by decide) ?_
  refine lv_icmp_ne (tgt := 90) hx hb d_Reader_term_83 (by decide) (fun c_3 => ?_) (fun c_3 => ?_)
  rotate_left
  · first | exact absurd c_3 (by decide) | exact absurd (by decide) c_3
  refine lv_iconst (v := 0) hx hb d_Reader_term_90 (by decide) ?_
  refine lv_istore_n (lv' := [(3, .int 0), (2, .int 10), (0, .ref h0), (1, .int 0)]) hx hb d_Reader_term_91 rfl hl1 (by decide) rfl (fun ls hl1 => ?_)
  refine lv_iload_n hx hb d_Reader_term_92 rfl (lv_at hl1 0 rfl) ?_
  refine lv_if_ne (tgt := 114) hx hb d_Reader_term_93 (by decide) (fun c_4 => ?_) (fun c_4 => ?_)
  · first | exact absurd c_4 (by decide) | exact absurd (by decide) c_4
  refine lv_aload_n hx hb d_Reader_term_96 rfl (lv_at hl1 2 rfl) ?_
  refine va_get (D := D) (ci := 7) (v := .ref h1) (C := R_Reader) (T := F_Reader) (N := 5) hx hb hts i_Reader hown hK.1 hP 0 rfl rfl 0 (by decide) (hts _ wd_75) (fun _ h9 => h9) rfl d_Reader_term_97 ?_
  refine va_get (D := D) (ci := 9) (v := .int 1) (C := R_Tokens) (T := F_Tokens) (N := 8) hx hb hts i_Tokens hown hK.1 hP 1 rfl rfl 6 (by decide) (hts _ wd_47) (fun _ h9 => h9) rfl d_Reader_term_100 ?_
  refine lv_bipush (v := 43) hx hb d_Reader_term_103 (by decide) ?_
  refine lv_icmp_ne (tgt := 121) hx hb d_Reader_term_105 (by decide) (fun c_5 => ?_) (fun c_5 => ?_)
  rotate_left
  · first | exact absurd c_5 (by decide) | exact absurd (by decide) c_5
  refine lv_aload_n hx hb d_Reader_term_121 rfl (lv_at hl1 2 rfl) ?_
  refine va_get (D := D) (ci := 7) (v := .ref h1) (C := R_Reader) (T := F_Reader) (N := 5) hx hb hts i_Reader hown hK.1 hP 0 rfl rfl 0 (by decide) (hts _ wd_75) (fun _ h9 => h9) rfl d_Reader_term_122 ?_
  refine va_get (D := D) (ci := 9) (v := .int 1) (C := R_Tokens) (T := F_Tokens) (N := 8) hx hb hts i_Tokens hown hK.1 hP 1 rfl rfl 6 (by decide) (hts _ wd_47) (fun _ h9 => h9) rfl d_Reader_term_125 ?_
  refine lv_iconst (v := 4) hx hb d_Reader_term_128 (by decide) ?_
  refine lv_icmp_eq (tgt := 139) hx hb d_Reader_term_129 (by decide) (fun c_6 => ?_) (fun c_6 => ?_)
  · first | exact absurd c_6 (by decide) | exact absurd (by decide) c_6
  refine lv_aload_n hx hb d_Reader_term_132 rfl (lv_at hl1 2 rfl) ?_
  refine va_get (D := D) (ci := 7) (v := .ref h1) (C := R_Reader) (T := F_Reader) (N := 5) hx hb hts i_Reader hown hK.1 hP 0 rfl rfl 0 (by decide) (hts _ wd_75) (fun _ h9 => h9) rfl d_Reader_term_133 ?_
  have hPc := hP.sub (ws' := [(h1, .inr (9, [.ref h2, .ref h3, .int 0, .int 0, .int 0, .int 0, .int 1, .int 0])), (h2, .inl (ax 1, 400, .inl (fun _ => 0))), (h3, .inl (ax 0, 401, .inl (upd (fun _ => 0) 0 0)))]) [1, 2, 3] rfl
  have hDc := hD.sub (ws' := [(h1, .inr (9, [.ref h2, .ref h3, .int 0, .int 0, .int 0, .int 0, .int 1, .int 0])), (h2, .inl (ax 1, 400, .inl (fun _ => 0))), (h3, .inl (ax 0, 401, .inl (upd (fun _ => 0) 0 0)))]) [1, 2, 3] (by decide) rfl
  have hFc := va_free (wc := [(h1, .inr (9, [.ref h2, .ref h3, .int 0, .int 0, .int 0, .int 0, .int 1, .int 0])), (h2, .inl (ax 1, 400, .inl (fun _ => 0))), (h3, .inl (ax 0, 401, .inl (upd (fun _ => 0) 0 0)))]) hD hS hA [1, 2, 3] rfl
  have hz := xz_of hN hS
  refine va_callv (va_runV (As := []) (rest := []) ⟨hx, hb, hml, hown, hts⟩ (c_Tokens_refuse_2 l D ax h1 h2 h3 s.heap.size) (xcV (n := 0) hts wd_559 wd_2 wd_556 wd_557 wd_558 rfl rfl (by decide +kernel) ⟨Nat.le_of_ble_eq_true rfl, Nat.le_of_ble_eq_true rfl⟩) (xpV (ci := 9) (q0 := 0) (As := []) hPc hK hz hDc rfl rfl) rfl rfl hl1.1 rfl (lv_room (Nat.le_of_ble_eq_true rfl)) d_Reader_term_136 ⟨Nat.le_of_ble_eq_true rfl, Nat.le_of_ble_eq_true rfl⟩) hS (fun q _ h => hFc q h) hFc (fun u_7 t H_8 locs ht hvm hw hB hz1 hk1 hS => ?_)
  try dsimp only at hw
  obtain ⟨hP1, hD1⟩ := hB
  rw [ht] at hP1
  obtain ⟨hP, hD⟩ := va_join (wr := [(h0, .inr (7, [.ref h1, .null, .ref h4, .int 0, .int 1]))]) (w1 := [(h1, .inr (9, [.ref h2, .ref h3, .int 0, .int 0, .int 0, .int 0, .int 1, .int 0])), (h2, .inl (ax 1, 400, .inl (fun _ => 0))), (h3, .inl (ax 0, 401, .inl (upd (fun _ => 0) 0 0)))]) hP hD [1, 2, 3] [0] rfl rfl (by decide) (by decide) hk1 hFc hP1 hD1
  have hP : va_P D classes [(h0, .inr (7, [.ref h1, .null, .ref h4, .int 0, .int 1])), (h1, .inr (9, [.ref h2, .ref h3, .int 0, .int 0, .int 0, .int 0, .int 1, .int 0])), (h2, .inl (ax 1, 400, .inl (fun _ => 0))), (h3, .inl (ax 0, 401, .inl (upd (fun _ => 0) 0 0)))] H_8 := hP
  have hD : va_D A [(h0, .inr (7, [.ref h1, .null, .ref h4, .int 0, .int 1])), (h1, .inr (9, [.ref h2, .ref h3, .int 0, .int 0, .int 0, .int 0, .int 1, .int 0])), (h2, .inl (ax 1, 400, .inl (fun _ => 0))), (h3, .inl (ax 0, 401, .inl (upd (fun _ => 0) 0 0)))] := hD
  refine lv_aload_n hx hb d_Reader_term_139 rfl (lv_at hl1 2 rfl) ?_
  refine va_get (D := D) (ci := 7) (v := .ref h1) (C := R_Reader) (T := F_Reader) (N := 5) hx hb hts i_Reader hown hK.1 hP 0 rfl rfl 0 (by decide) (hts _ wd_75) (fun _ h9 => h9) rfl d_Reader_term_140 ?_
  refine va_get (D := D) (ci := 9) (v := .int 0) (C := R_Tokens) (T := F_Tokens) (N := 8) hx hb hts i_Tokens hown hK.1 hP 1 rfl rfl 7 (by decide) (hts _ wd_49) (fun _ h9 => h9) rfl d_Reader_term_143 ?_
  refine lv_istore (lv' := [(4, .int 0), (3, .int 0), (2, .int 10), (0, .ref h0), (1, .int 0)]) hx hb d_Reader_term_146 hl1 (by decide) rfl (fun ls hl1 => ?_)
  refine lv_aload_n hx hb d_Reader_term_148 rfl (lv_at hl1 3 rfl) ?_
  refine va_get (D := D) (ci := 7) (v := .ref h1) (C := R_Reader) (T := F_Reader) (N := 5) hx hb hts i_Reader hown hK.1 hP 0 rfl rfl 0 (by decide) (hts _ wd_75) (fun _ h9 => h9) rfl d_Reader_term_149 ?_
  have hPc := hP.sub (ws' := [(h1, .inr (9, [.ref h2, .ref h3, .int 0, .int 0, .int 0, .int 0, .int 1, .int 0])), (h2, .inl (ax 1, 400, .inl (fun _ => 0))), (h3, .inl (ax 0, 401, .inl (upd (fun _ => 0) 0 0)))]) [1, 2, 3] rfl
  have hDc := hD.sub (ws' := [(h1, .inr (9, [.ref h2, .ref h3, .int 0, .int 0, .int 0, .int 0, .int 1, .int 0])), (h2, .inl (ax 1, 400, .inl (fun _ => 0))), (h3, .inl (ax 0, 401, .inl (upd (fun _ => 0) 0 0)))]) [1, 2, 3] (by decide) rfl
  have hFc := va_free (wc := [(h1, .inr (9, [.ref h2, .ref h3, .int 0, .int 0, .int 0, .int 0, .int 1, .int 0])), (h2, .inl (ax 1, 400, .inl (fun _ => 0))), (h3, .inl (ax 0, 401, .inl (upd (fun _ => 0) 0 0)))]) hD hS hA [1, 2, 3] rfl
  have hz := xz_of hN hS
  refine va_callv (va_runV (As := []) (rest := []) ⟨hx, hb, hml, hown, hts⟩ (c_Tokens_pass_2 l D ax h1 h2 h3 H_8.size) (xcV (n := 0) hts wd_531 wd_2 wd_564 wd_529 wd_530 rfl rfl (by decide +kernel) ⟨Nat.le_of_ble_eq_true rfl, Nat.le_of_ble_eq_true rfl⟩) (xpV (ci := 9) (q0 := 0) (As := []) hPc hK hz hDc rfl rfl) rfl rfl hl1.1 rfl (lv_room (Nat.le_of_ble_eq_true rfl)) d_Reader_term_152 ⟨Nat.le_of_ble_eq_true rfl, Nat.le_of_ble_eq_true rfl⟩) hS (fun q _ h => hFc q h) hFc (fun u_10 t H_11 locs ht hvm hw hB hz1 hk1 hS => ?_)
  try dsimp only at hw
  obtain ⟨hP1, hD1⟩ := hB
  rw [ht] at hP1
  obtain ⟨hP, hD⟩ := va_join (wr := [(h0, .inr (7, [.ref h1, .null, .ref h4, .int 0, .int 1]))]) (w1 := [(h1, .inr (9, [.ref h2, .ref h3, .int 0, .int 0, .int 0, .int 0, .int 1, .int 0])), (h2, .inl (ax 1, 400, .inl (fun _ => 0))), (h3, .inl (ax 0, 401, .inl (upd (fun _ => 0) 0 0)))]) hP hD [1, 2, 3] [0] rfl rfl (by decide) (by decide) hk1 hFc hP1 hD1
  have hP : va_P D classes [(h0, .inr (7, [.ref h1, .null, .ref h4, .int 0, .int 1])), (h1, .inr (9, [.ref h2, .ref h3, .int 0, .int 0, .int 0, .int 0, .int 1, .int 0])), (h2, .inl (ax 1, 400, .inl (fun _ => 0))), (h3, .inl (ax 0, 401, .inl (upd (fun _ => 0) 0 0)))] H_11 := hP
  have hD : va_D A [(h0, .inr (7, [.ref h1, .null, .ref h4, .int 0, .int 1])), (h1, .inr (9, [.ref h2, .ref h3, .int 0, .int 0, .int 0, .int 0, .int 1, .int 0])), (h2, .inl (ax 1, 400, .inl (fun _ => 0))), (h3, .inl (ax 0, 401, .inl (upd (fun _ => 0) 0 0)))] := hD
  refine lv_iload_n hx hb d_Reader_term_155 rfl (lv_at hl1 1 rfl) ?_
  refine lv_if_eq (tgt := 165) hx hb d_Reader_term_156 (by decide) (fun c_13 => ?_) (fun c_13 => ?_)
  rotate_left
  · first | exact absurd c_13 (by decide) | exact absurd (by decide) c_13
  refine lv_iload hx hb d_Reader_term_165 (lv_at hl1 0 rfl) ?_
  refine lv_iload_n hx hb d_Reader_term_167 rfl (lv_at hl1 2 rfl) ?_
  have hPc := hP.sub (ws' := []) [] rfl
  have hDc := hD.sub (ws' := []) [] (by decide) rfl
  have hFc := va_free (wc := []) hD hS hA [] rfl
  have hz := xz_of hN hS
  refine va_calli (va_runS (As := [.int 0, .int 10]) (rest := []) ⟨hx, hb, hml, hown, hts⟩ (c_Reader_packed l D ax  H_11.size) (xcS (n := 2) hts wd_567 wd_3 wd_565 wd_566 rfl rfl (by decide +kernel) ⟨Nat.le_of_ble_eq_true rfl, Nat.le_of_ble_eq_true rfl⟩) (xpS (As := [.int 0, .int 10]) hPc hK hz hDc) rfl rfl hl1.1 rfl (lv_room (Nat.le_of_ble_eq_true rfl)) d_Reader_term_168 ⟨Nat.le_of_ble_eq_true rfl, Nat.le_of_ble_eq_true rfl⟩) hS (fun q _ h => hFc q h) hFc (fun r_16 u_14 t H_15 locs ht hvm hw hB hz1 hk1 hS => ?_)
  try dsimp only at hw
  subst hw
  obtain ⟨hP1, hD1⟩ := hB
  rw [ht] at hP1
  obtain ⟨hP, hD⟩ := va_join (wr := [(h0, .inr (7, [.ref h1, .null, .ref h4, .int 0, .int 1])), (h1, .inr (9, [.ref h2, .ref h3, .int 0, .int 0, .int 0, .int 0, .int 1, .int 0])), (h2, .inl (ax 1, 400, .inl (fun _ => 0))), (h3, .inl (ax 0, 401, .inl (upd (fun _ => 0) 0 0)))]) (w1 := []) hP hD [] [0, 1, 2, 3] rfl rfl (by decide) (by decide) hk1 hFc hP1 hD1
  have hP : va_P D classes [(h0, .inr (7, [.ref h1, .null, .ref h4, .int 0, .int 1])), (h1, .inr (9, [.ref h2, .ref h3, .int 0, .int 0, .int 0, .int 0, .int 1, .int 0])), (h2, .inl (ax 1, 400, .inl (fun _ => 0))), (h3, .inl (ax 0, 401, .inl (upd (fun _ => 0) 0 0)))] H_15 := hP
  have hD : va_D A [(h0, .inr (7, [.ref h1, .null, .ref h4, .int 0, .int 1])), (h1, .inr (9, [.ref h2, .ref h3, .int 0, .int 0, .int 0, .int 0, .int 1, .int 0])), (h2, .inl (ax 1, 400, .inl (fun _ => 0))), (h3, .inl (ax 0, 401, .inl (upd (fun _ => 0) 0 0)))] := hD
  have hP9 := hP.sub (ws' := (fun u : Nat → Nat => [(h0, .inr (7, [.ref h1, .null, .ref h4, .int 0, .int 1])), (h1, .inr (9, [.ref h2, .ref h3, .int 0, .int 0, .int 0, .int 0, .int 1, .int 0])), (h2, .inl (ax 1, 400, .inl (fun _ => 0))), (h3, .inl (ax 0, 401, .inl (upd (fun _ => 0) 0 0)))]) (ixn [])) [0, 1, 2, 3] rfl
  have hD9 := hD.sub (ws' := (fun u : Nat → Nat => [(h0, .inr (7, [.ref h1, .null, .ref h4, .int 0, .int 1])), (h1, .inr (9, [.ref h2, .ref h3, .int 0, .int 0, .int 0, .int 0, .int 1, .int 0])), (h2, .inl (ax 1, 400, .inl (fun _ => 0))), (h3, .inl (ax 0, 401, .inl (upd (fun _ => 0) 0 0)))]) (ixn [])) [0, 1, 2, 3] (by decide) rfl
  exact W.iret (v := 10) hx hb hr (fun t ht hW => ⟨⟨10, ixn [], rfl, rfl, ⟨by rw [ht]; exact hP9, hD9⟩⟩, hS.F ht⟩) hS.2.2 d_Reader_term_171
abbrev b_Reader_atom : ByteArray := prog_9_method_13_code
def y_Reader_atom : MethodName := ⟨R_Reader, "atom", "()I"⟩
theorem d_Reader_atom_0 : decode b_Reader_atom 0 = .ok (.aload_n 0, 1) := by decide +kernel
theorem d_Reader_atom_1 : decode b_Reader_atom 1 = .ok (.getfield 123, 3) := by decide +kernel
theorem d_Reader_atom_4 : decode b_Reader_atom 4 = .ok (.bipush 8, 2) := by decide +kernel
theorem d_Reader_atom_6 : decode b_Reader_atom 6 = .ok (.if_icmp .ne 12, 3) := by decide +kernel
theorem d_Reader_atom_18 : decode b_Reader_atom 18 = .ok (.aload_n 0, 1) := by decide +kernel
theorem d_Reader_atom_19 : decode b_Reader_atom 19 = .ok (.dup, 1) := by decide +kernel
theorem d_Reader_atom_20 : decode b_Reader_atom 20 = .ok (.getfield 123, 3) := by decide +kernel
theorem d_Reader_atom_23 : decode b_Reader_atom 23 = .ok (.iconst 1, 1) := by decide +kernel
theorem d_Reader_atom_24 : decode b_Reader_atom 24 = .ok (.iadd, 1) := by decide +kernel
theorem d_Reader_atom_25 : decode b_Reader_atom 25 = .ok (.putfield 123, 3) := by decide +kernel
theorem d_Reader_atom_28 : decode b_Reader_atom 28 = .ok (.aload_n 0, 1) := by decide +kernel
theorem d_Reader_atom_29 : decode b_Reader_atom 29 = .ok (.aload_n 0, 1) := by decide +kernel
theorem d_Reader_atom_30 : decode b_Reader_atom 30 = .ok (.getfield 119, 3) := by decide +kernel
theorem d_Reader_atom_33 : decode b_Reader_atom 33 = .ok (.invokevirtual 105, 3) := by decide +kernel
theorem d_Reader_atom_36 : decode b_Reader_atom 36 = .ok (.istore_n 1, 1) := by decide +kernel
theorem d_Reader_atom_37 : decode b_Reader_atom 37 = .ok (.aload_n 0, 1) := by decide +kernel
theorem d_Reader_atom_38 : decode b_Reader_atom 38 = .ok (.getfield 9, 3) := by decide +kernel
theorem d_Reader_atom_41 : decode b_Reader_atom 41 = .ok (.getfield 74, 3) := by decide +kernel
theorem d_Reader_atom_44 : decode b_Reader_atom 44 = .ok (.istore_n 2, 1) := by decide +kernel
theorem d_Reader_atom_45 : decode b_Reader_atom 45 = .ok (.aload_n 0, 1) := by decide +kernel
theorem d_Reader_atom_46 : decode b_Reader_atom 46 = .ok (.getfield 9, 3) := by decide +kernel
theorem d_Reader_atom_49 : decode b_Reader_atom 49 = .ok (.iconst 5, 1) := by decide +kernel
theorem d_Reader_atom_50 : decode b_Reader_atom 50 = .ok (.invokevirtual 95, 3) := by decide +kernel
theorem d_Reader_atom_53 : decode b_Reader_atom 53 = .ok (.aload_n 0, 1) := by decide +kernel
theorem d_Reader_atom_54 : decode b_Reader_atom 54 = .ok (.getfield 25, 3) := by decide +kernel
theorem d_Reader_atom_57 : decode b_Reader_atom 57 = .ok (.iload_n 2, 1) := by decide +kernel
theorem d_Reader_atom_58 : decode b_Reader_atom 58 = .ok (.iload_n 1, 1) := by decide +kernel
theorem d_Reader_atom_59 : decode b_Reader_atom 59 = .ok (.aload_n 0, 1) := by decide +kernel
theorem d_Reader_atom_60 : decode b_Reader_atom 60 = .ok (.aload_n 0, 1) := by decide +kernel
theorem d_Reader_atom_61 : decode b_Reader_atom 61 = .ok (.getfield 119, 3) := by decide +kernel
theorem d_Reader_atom_64 : decode b_Reader_atom 64 = .ok (.invokevirtual 105, 3) := by decide +kernel
theorem d_Reader_atom_67 : decode b_Reader_atom 67 = .ok (.invokevirtual 132, 3) := by decide +kernel
theorem d_Reader_atom_70 : decode b_Reader_atom 70 = .ok (.ireturn, 1) := by decide +kernel
set_option maxHeartbeats 4000000 in
set_option maxRecDepth 100000 in
theorem c_Reader_atom (l : Launch) (D : va_G) (ax : Nat → ClassId) (h0 h1 h2 h3 h4 h5 h6 h7 : Nat) (sz : Nat) : Met l y_Reader_atom (xws (.code y_Reader_atom b_Reader_atom 3 (some .int))) ({ frames := 30, cells := 0, slots := 0, locals := 1200 }) (va_Pc [.ref h0] (xo D ax [(h0, .inr (7, [.ref h1, .null, .ref h4, .int 0, .int 0])), (h1, .inr (9, [.ref h2, .ref h3, .int 0, .int 0, .int 0, .int (-1), .int 0, .int 0])), (h2, .inl (ax 1, 400, .inl (fun _ => 0))), (h3, .inl (ax 0, 401, .inl (upd (fun _ => 0) 0 0))), (h4, .inr (4, [.ref h5, .ref h6, .ref h7, .int 0])), (h5, .inl (ax 1, 8, .inl (fun _ => 0))), (h6, .inl (ax 0, 8, .inl (fun _ => 0))), (h7, .inl (ax 0, 8, .inl (fun _ => 0)))] sz)) ((va_Qi (fun (r : Int32) (u : Nat → Nat) => r = 0) (xb D (va_A [(h0, .inr (7, [.ref h1, .null, .ref h4, .int 0, .int 0])), (h1, .inr (9, [.ref h2, .ref h3, .int 0, .int 0, .int 0, .int (-1), .int 0, .int 0])), (h2, .inl (ax 1, 400, .inl (fun _ => 0))), (h3, .inl (ax 0, 401, .inl (upd (fun _ => 0) 0 0))), (h4, .inr (4, [.ref h5, .ref h6, .ref h7, .int 0])), (h5, .inl (ax 1, 8, .inl (fun _ => 0))), (h6, .inl (ax 0, 8, .inl (fun _ => 0))), (h7, .inl (ax 0, 8, .inl (fun _ => 0)))] sz) (fun u => [(h0, .inr (7, [.ref h1, .null, .ref h4, .int 0, .int 1])), (h1, .inr (9, [.ref h2, .ref h3, .int 0, .int 0, .int 0, .int 0, .int 1, .int 0])), (h2, .inl (ax 1, 400, .inl (fun _ => 0))), (h3, .inl (ax 0, 401, .inl (upd (fun _ => 0) 0 0))), (h4, .inr (4, [.ref h5, .ref h6, .ref h7, .int 1])), (h5, .inl (ax 1, 8, .inl (upd (fun _ => 0) 0 0))), (h6, .inl (ax 0, 8, .inl (upd (fun _ => 0) 0 10))), (h7, .inl (ax 0, 8, .inl (upd (fun _ => 0) 0 10)))])) (va_A [(h0, .inr (7, [.ref h1, .null, .ref h4, .int 0, .int 0])), (h1, .inr (9, [.ref h2, .ref h3, .int 0, .int 0, .int 0, .int (-1), .int 0, .int 0])), (h2, .inl (ax 1, 400, .inl (fun _ => 0))), (h3, .inl (ax 0, 401, .inl (upd (fun _ => 0) 0 0))), (h4, .inr (4, [.ref h5, .ref h6, .ref h7, .int 0])), (h5, .inl (ax 1, 8, .inl (fun _ => 0))), (h6, .inl (ax 0, 8, .inl (fun _ => 0))), (h7, .inl (ax 0, 8, .inl (fun _ => 0)))] sz))) 0 0 (va_A [(h0, .inr (7, [.ref h1, .null, .ref h4, .int 0, .int 0])), (h1, .inr (9, [.ref h2, .ref h3, .int 0, .int 0, .int 0, .int (-1), .int 0, .int 0])), (h2, .inl (ax 1, 400, .inl (fun _ => 0))), (h3, .inl (ax 0, 401, .inl (upd (fun _ => 0) 0 0))), (h4, .inr (4, [.ref h5, .ref h6, .ref h7, .int 0])), (h5, .inl (ax 1, 8, .inl (fun _ => 0))), (h6, .inl (ax 0, 8, .inl (fun _ => 0))), (h7, .inl (ax 0, 8, .inl (fun _ => 0)))] sz) := by
  refine Met.ofW (cc := b_Reader_atom) (maxL := 3) (ret := (some .int)) (by decide) rfl ?_
  intro p e s m args below meth c s₁ B hml hv
  obtain ⟨rfl, hsz, hP, hK, hD0⟩ := hv
  have hx := B.exec
  have hb := B.bytes
  have hr := B.returns
  have hts := xw_hts B.pre
  have hown : s.vm.findClass R_Reader = some m.cls := findClass_of_methodNamed B.named
  have hlocks := B.notSynchronized
  subst hsz
  have hD := hD0.self (sz := s.heap.size)
  have hN := xz_entry hP
  generalize hAe : va_A [(h0, .inr (7, [.ref h1, .null, .ref h4, .int 0, .int 0])), (h1, .inr (9, [.ref h2, .ref h3, .int 0, .int 0, .int 0, .int (-1), .int 0, .int 0])), (h2, .inl (ax 1, 400, .inl (fun _ => 0))), (h3, .inl (ax 0, 401, .inl (upd (fun _ => 0) 0 0))), (h4, .inr (4, [.ref h5, .ref h6, .ref h7, .int 0])), (h5, .inl (ax 1, 8, .inl (fun _ => 0))), (h6, .inl (ax 0, 8, .inl (fun _ => 0))), (h7, .inl (ax 0, 8, .inl (fun _ => 0)))] s.heap.size = A at hD hN ⊢
  have hA : ∀ q : Nat, s.heap.size ≤ q → A q := fun q h => by rw [← hAe]; exact Or.inr h
  have hS : va_S A s.heap s.heap [] := va_S.rf
  have hl0 := lv_entry ([.ref h0]) (n := 3) (Nat.le_of_ble_eq_true rfl)
  rw [lg_entry_eq]
  generalize (lg_sl ([.ref h0]) ++ List.replicate (3 - (lg_sl ([.ref h0])).length) Slot.unset).toArray = ls at hl0 ⊢
  have hl1 : lv_has ls 3 [(0, .ref h0)] := hl0
  refine lv_aload_n hx hb d_Reader_atom_0 rfl (lv_at hl1 0 rfl) ?_
  refine va_get (D := D) (ci := 7) (v := .int 0) (C := R_Reader) (T := F_Reader) (N := 5) hx hb hts i_Reader hown hK.1 hP 0 rfl rfl 4 (by decide) (hts _ wd_79) (fun _ h9 => h9) rfl d_Reader_atom_1 ?_
  refine lv_bipush (v := 8) hx hb d_Reader_atom_4 (by decide) ?_
  refine lv_icmp_ne (tgt := 18) hx hb d_Reader_atom_6 (by decide) (fun c_1 => ?_) (fun c_1 => ?_)
  rotate_left
  · first | exact absurd c_1 (by decide) | exact absurd (by decide) c_1
  refine lv_aload_n hx hb d_Reader_atom_18 rfl (lv_at hl1 0 rfl) ?_
  refine lv_dup hx hb d_Reader_atom_19 rfl ?_
  refine va_get (D := D) (ci := 7) (v := .int 0) (C := R_Reader) (T := F_Reader) (N := 5) hx hb hts i_Reader hown hK.1 hP 0 rfl rfl 4 (by decide) (hts _ wd_79) (fun _ h9 => h9) rfl d_Reader_atom_20 ?_
  refine lv_iconst (v := 1) hx hb d_Reader_atom_23 (by decide) ?_
  refine lv_iadd hx hb d_Reader_atom_24 ?_
  refine lv_topi (fun z_2 ez_2 => ?_)
  have ez_2 : z_2 = 1 := ez_2.trans (by first | rfl | decide)
  subst ez_2
  refine va_put (D := D) (ci := 7) (v := .int 1) (ty := .int) (C := R_Reader) (T := F_Reader) (N := 5) hx hb hts i_Reader t_Reader t_Reader_ok n_Reader hown hK.1 hP hD hS 0 rfl rfl 4 (by decide) (hts _ wd_79) (fun _ h9 => h9) rfl (by decide +kernel) rfl rfl (Nat.le_of_ble_eq_true rfl) d_Reader_atom_25 (fun H_3 locs hP hD hS => ?_)
  have hP : va_P D classes [(h0, .inr (7, [.ref h1, .null, .ref h4, .int 0, .int 1])), (h1, .inr (9, [.ref h2, .ref h3, .int 0, .int 0, .int 0, .int (-1), .int 0, .int 0])), (h2, .inl (ax 1, 400, .inl (fun _ => 0))), (h3, .inl (ax 0, 401, .inl (upd (fun _ => 0) 0 0))), (h4, .inr (4, [.ref h5, .ref h6, .ref h7, .int 0])), (h5, .inl (ax 1, 8, .inl (fun _ => 0))), (h6, .inl (ax 0, 8, .inl (fun _ => 0))), (h7, .inl (ax 0, 8, .inl (fun _ => 0)))] H_3 := hP
  have hD : va_D A [(h0, .inr (7, [.ref h1, .null, .ref h4, .int 0, .int 1])), (h1, .inr (9, [.ref h2, .ref h3, .int 0, .int 0, .int 0, .int (-1), .int 0, .int 0])), (h2, .inl (ax 1, 400, .inl (fun _ => 0))), (h3, .inl (ax 0, 401, .inl (upd (fun _ => 0) 0 0))), (h4, .inr (4, [.ref h5, .ref h6, .ref h7, .int 0])), (h5, .inl (ax 1, 8, .inl (fun _ => 0))), (h6, .inl (ax 0, 8, .inl (fun _ => 0))), (h7, .inl (ax 0, 8, .inl (fun _ => 0)))] := hD
  refine lv_aload_n hx hb d_Reader_atom_28 rfl (lv_at hl1 0 rfl) ?_
  refine lv_aload_n hx hb d_Reader_atom_29 rfl (lv_at hl1 0 rfl) ?_
  refine va_get (D := D) (ci := 7) (v := .int 0) (C := R_Reader) (T := F_Reader) (N := 5) hx hb hts i_Reader hown hK.1 hP 0 rfl rfl 3 (by decide) (hts _ wd_78) (fun _ h9 => h9) rfl d_Reader_atom_30 ?_
  have hPc := hP.sub (ws' := [(h0, .inr (7, [.ref h1, .null, .ref h4, .int 0, .int 1])), (h1, .inr (9, [.ref h2, .ref h3, .int 0, .int 0, .int 0, .int (-1), .int 0, .int 0])), (h2, .inl (ax 1, 400, .inl (fun _ => 0))), (h3, .inl (ax 0, 401, .inl (upd (fun _ => 0) 0 0)))]) [0, 1, 2, 3] rfl
  have hDc := hD.sub (ws' := [(h0, .inr (7, [.ref h1, .null, .ref h4, .int 0, .int 1])), (h1, .inr (9, [.ref h2, .ref h3, .int 0, .int 0, .int 0, .int (-1), .int 0, .int 0])), (h2, .inl (ax 1, 400, .inl (fun _ => 0))), (h3, .inl (ax 0, 401, .inl (upd (fun _ => 0) 0 0)))]) [0, 1, 2, 3] (by decide) rfl
  have hFc := va_free (wc := [(h0, .inr (7, [.ref h1, .null, .ref h4, .int 0, .int 1])), (h1, .inr (9, [.ref h2, .ref h3, .int 0, .int 0, .int 0, .int (-1), .int 0, .int 0])), (h2, .inl (ax 1, 400, .inl (fun _ => 0))), (h3, .inl (ax 0, 401, .inl (upd (fun _ => 0) 0 0)))]) hD hS hA [0, 1, 2, 3] rfl
  have hz := xz_of hN hS
  refine va_calli (va_runV (As := [.int 0]) (rest := []) ⟨hx, hb, hml, hown, hts⟩ (c_Reader_term_1 l D ax h0 h1 h2 h3 h4 H_3.size) (xcV (n := 1) hts wd_563 wd_3 wd_560 wd_562 ps_12 rfl rfl (by decide +kernel) ⟨Nat.le_of_ble_eq_true rfl, Nat.le_of_ble_eq_true rfl⟩) (xpV (ci := 7) (q0 := 0) (As := [.int 0]) hPc hK hz hDc rfl rfl) rfl rfl hl1.1 rfl (lv_room (Nat.le_of_ble_eq_true rfl)) d_Reader_atom_33 ⟨Nat.le_of_ble_eq_true rfl, Nat.le_of_ble_eq_true rfl⟩) hS (fun q _ h => hFc q h) hFc (fun r_6 u_4 t H_5 locs ht hvm hw hB hz1 hk1 hS => ?_)
  try dsimp only at hw
  subst hw
  obtain ⟨hP1, hD1⟩ := hB
  rw [ht] at hP1
  obtain ⟨hP, hD⟩ := va_join (wr := [(h4, .inr (4, [.ref h5, .ref h6, .ref h7, .int 0])), (h5, .inl (ax 1, 8, .inl (fun _ => 0))), (h6, .inl (ax 0, 8, .inl (fun _ => 0))), (h7, .inl (ax 0, 8, .inl (fun _ => 0)))]) (w1 := [(h0, .inr (7, [.ref h1, .null, .ref h4, .int 0, .int 1])), (h1, .inr (9, [.ref h2, .ref h3, .int 0, .int 0, .int 0, .int 0, .int 1, .int 0])), (h2, .inl (ax 1, 400, .inl (fun _ => 0))), (h3, .inl (ax 0, 401, .inl (upd (fun _ => 0) 0 0)))]) hP hD [0, 1, 2, 3] [4, 5, 6, 7] rfl rfl (by decide) (by decide) hk1 hFc hP1 hD1
  have hP : va_P D classes [(h4, .inr (4, [.ref h5, .ref h6, .ref h7, .int 0])), (h5, .inl (ax 1, 8, .inl (fun _ => 0))), (h6, .inl (ax 0, 8, .inl (fun _ => 0))), (h7, .inl (ax 0, 8, .inl (fun _ => 0))), (h0, .inr (7, [.ref h1, .null, .ref h4, .int 0, .int 1])), (h1, .inr (9, [.ref h2, .ref h3, .int 0, .int 0, .int 0, .int 0, .int 1, .int 0])), (h2, .inl (ax 1, 400, .inl (fun _ => 0))), (h3, .inl (ax 0, 401, .inl (upd (fun _ => 0) 0 0)))] H_5 := hP
  have hD : va_D A [(h4, .inr (4, [.ref h5, .ref h6, .ref h7, .int 0])), (h5, .inl (ax 1, 8, .inl (fun _ => 0))), (h6, .inl (ax 0, 8, .inl (fun _ => 0))), (h7, .inl (ax 0, 8, .inl (fun _ => 0))), (h0, .inr (7, [.ref h1, .null, .ref h4, .int 0, .int 1])), (h1, .inr (9, [.ref h2, .ref h3, .int 0, .int 0, .int 0, .int 0, .int 1, .int 0])), (h2, .inl (ax 1, 400, .inl (fun _ => 0))), (h3, .inl (ax 0, 401, .inl (upd (fun _ => 0) 0 0)))] := hD
  refine lv_istore_n (lv' := [(1, .int 10), (0, .ref h0)]) hx hb d_Reader_atom_36 rfl hl1 (by decide) rfl (fun ls hl1 => ?_)
  refine lv_aload_n hx hb d_Reader_atom_37 rfl (lv_at hl1 1 rfl) ?_
  refine va_get (D := D) (ci := 7) (v := .ref h1) (C := R_Reader) (T := F_Reader) (N := 5) hx hb hts i_Reader hown hK.1 hP 4 rfl rfl 0 (by decide) (hts _ wd_75) (fun _ h9 => h9) rfl d_Reader_atom_38 ?_
  refine va_get (D := D) (ci := 9) (v := .int 0) (C := R_Tokens) (T := F_Tokens) (N := 8) hx hb hts i_Tokens hown hK.1 hP 5 rfl rfl 7 (by decide) (hts _ wd_49) (fun _ h9 => h9) rfl d_Reader_atom_41 ?_
  refine lv_istore_n (lv' := [(2, .int 0), (1, .int 10), (0, .ref h0)]) hx hb d_Reader_atom_44 rfl hl1 (by decide) rfl (fun ls hl1 => ?_)
  refine lv_aload_n hx hb d_Reader_atom_45 rfl (lv_at hl1 2 rfl) ?_
  refine va_get (D := D) (ci := 7) (v := .ref h1) (C := R_Reader) (T := F_Reader) (N := 5) hx hb hts i_Reader hown hK.1 hP 4 rfl rfl 0 (by decide) (hts _ wd_75) (fun _ h9 => h9) rfl d_Reader_atom_46 ?_
  refine lv_iconst (v := 5) hx hb d_Reader_atom_49 (by decide) ?_
  have hPc := hP.sub (ws' := [(h1, .inr (9, [.ref h2, .ref h3, .int 0, .int 0, .int 0, .int 0, .int 1, .int 0])), (h2, .inl (ax 1, 400, .inl (fun _ => 0))), (h3, .inl (ax 0, 401, .inl (upd (fun _ => 0) 0 0)))]) [5, 6, 7] rfl
  have hDc := hD.sub (ws' := [(h1, .inr (9, [.ref h2, .ref h3, .int 0, .int 0, .int 0, .int 0, .int 1, .int 0])), (h2, .inl (ax 1, 400, .inl (fun _ => 0))), (h3, .inl (ax 0, 401, .inl (upd (fun _ => 0) 0 0)))]) [5, 6, 7] (by decide) rfl
  have hFc := va_free (wc := [(h1, .inr (9, [.ref h2, .ref h3, .int 0, .int 0, .int 0, .int 0, .int 1, .int 0])), (h2, .inl (ax 1, 400, .inl (fun _ => 0))), (h3, .inl (ax 0, 401, .inl (upd (fun _ => 0) 0 0)))]) hD hS hA [5, 6, 7] rfl
  have hz := xz_of hN hS
  refine va_callv (va_runV (As := [.int 5]) (rest := []) ⟨hx, hb, hml, hown, hts⟩ (c_Tokens_need l D ax h1 h2 h3 H_5.size) (xcV (n := 1) hts wd_571 wd_2 wd_568 wd_569 wd_570 rfl rfl (by decide +kernel) ⟨Nat.le_of_ble_eq_true rfl, Nat.le_of_ble_eq_true rfl⟩) (xpV (ci := 9) (q0 := 0) (As := [.int 5]) hPc hK hz hDc rfl rfl) rfl rfl hl1.1 rfl (lv_room (Nat.le_of_ble_eq_true rfl)) d_Reader_atom_50 ⟨Nat.le_of_ble_eq_true rfl, Nat.le_of_ble_eq_true rfl⟩) hS (fun q _ h => hFc q h) hFc (fun u_7 t H_8 locs ht hvm hw hB hz1 hk1 hS => ?_)
  try dsimp only at hw
  obtain ⟨hP1, hD1⟩ := hB
  rw [ht] at hP1
  obtain ⟨hP, hD⟩ := va_join (wr := [(h4, .inr (4, [.ref h5, .ref h6, .ref h7, .int 0])), (h5, .inl (ax 1, 8, .inl (fun _ => 0))), (h6, .inl (ax 0, 8, .inl (fun _ => 0))), (h7, .inl (ax 0, 8, .inl (fun _ => 0))), (h0, .inr (7, [.ref h1, .null, .ref h4, .int 0, .int 1]))]) (w1 := [(h1, .inr (9, [.ref h2, .ref h3, .int 0, .int 0, .int 0, .int 0, .int 1, .int 0])), (h2, .inl (ax 1, 400, .inl (fun _ => 0))), (h3, .inl (ax 0, 401, .inl (upd (fun _ => 0) 0 0)))]) hP hD [5, 6, 7] [0, 1, 2, 3, 4] rfl rfl (by decide) (by decide) hk1 hFc hP1 hD1
  have hP : va_P D classes [(h4, .inr (4, [.ref h5, .ref h6, .ref h7, .int 0])), (h5, .inl (ax 1, 8, .inl (fun _ => 0))), (h6, .inl (ax 0, 8, .inl (fun _ => 0))), (h7, .inl (ax 0, 8, .inl (fun _ => 0))), (h0, .inr (7, [.ref h1, .null, .ref h4, .int 0, .int 1])), (h1, .inr (9, [.ref h2, .ref h3, .int 0, .int 0, .int 0, .int 0, .int 1, .int 0])), (h2, .inl (ax 1, 400, .inl (fun _ => 0))), (h3, .inl (ax 0, 401, .inl (upd (fun _ => 0) 0 0)))] H_8 := hP
  have hD : va_D A [(h4, .inr (4, [.ref h5, .ref h6, .ref h7, .int 0])), (h5, .inl (ax 1, 8, .inl (fun _ => 0))), (h6, .inl (ax 0, 8, .inl (fun _ => 0))), (h7, .inl (ax 0, 8, .inl (fun _ => 0))), (h0, .inr (7, [.ref h1, .null, .ref h4, .int 0, .int 1])), (h1, .inr (9, [.ref h2, .ref h3, .int 0, .int 0, .int 0, .int 0, .int 1, .int 0])), (h2, .inl (ax 1, 400, .inl (fun _ => 0))), (h3, .inl (ax 0, 401, .inl (upd (fun _ => 0) 0 0)))] := hD
  refine lv_aload_n hx hb d_Reader_atom_53 rfl (lv_at hl1 2 rfl) ?_
  refine va_get (D := D) (ci := 7) (v := .ref h4) (C := R_Reader) (T := F_Reader) (N := 5) hx hb hts i_Reader hown hK.1 hP 4 rfl rfl 2 (by decide) (hts _ wd_77) (fun _ h9 => h9) rfl d_Reader_atom_54 ?_
  refine lv_iload_n hx hb d_Reader_atom_57 rfl (lv_at hl1 0 rfl) ?_
  refine lv_iload_n hx hb d_Reader_atom_58 rfl (lv_at hl1 1 rfl) ?_
  refine lv_aload_n hx hb d_Reader_atom_59 rfl (lv_at hl1 2 rfl) ?_
  refine lv_aload_n hx hb d_Reader_atom_60 rfl (lv_at hl1 2 rfl) ?_
  refine va_get (D := D) (ci := 7) (v := .int 0) (C := R_Reader) (T := F_Reader) (N := 5) hx hb hts i_Reader hown hK.1 hP 4 rfl rfl 3 (by decide) (hts _ wd_78) (fun _ h9 => h9) rfl d_Reader_atom_61 ?_
  have hPc := hP.sub (ws' := [(h0, .inr (7, [.ref h1, .null, .ref h4, .int 0, .int 1])), (h1, .inr (9, [.ref h2, .ref h3, .int 0, .int 0, .int 0, .int 0, .int 1, .int 0])), (h2, .inl (ax 1, 400, .inl (fun _ => 0))), (h3, .inl (ax 0, 401, .inl (upd (fun _ => 0) 0 0)))]) [4, 5, 6, 7] rfl
  have hDc := hD.sub (ws' := [(h0, .inr (7, [.ref h1, .null, .ref h4, .int 0, .int 1])), (h1, .inr (9, [.ref h2, .ref h3, .int 0, .int 0, .int 0, .int 0, .int 1, .int 0])), (h2, .inl (ax 1, 400, .inl (fun _ => 0))), (h3, .inl (ax 0, 401, .inl (upd (fun _ => 0) 0 0)))]) [4, 5, 6, 7] (by decide) rfl
  have hFc := va_free (wc := [(h0, .inr (7, [.ref h1, .null, .ref h4, .int 0, .int 1])), (h1, .inr (9, [.ref h2, .ref h3, .int 0, .int 0, .int 0, .int 0, .int 1, .int 0])), (h2, .inl (ax 1, 400, .inl (fun _ => 0))), (h3, .inl (ax 0, 401, .inl (upd (fun _ => 0) 0 0)))]) hD hS hA [4, 5, 6, 7] rfl
  have hz := xz_of hN hS
  refine va_calli (va_runV (As := [.int 0]) (rest := [.int 10, .int 0, .ref h4]) ⟨hx, hb, hml, hown, hts⟩ (c_Reader_term_2 l D ax h0 h1 h2 h3 h4 H_8.size) (xcV (n := 1) hts wd_563 wd_3 wd_560 wd_562 ps_12 rfl rfl (by decide +kernel) ⟨Nat.le_of_ble_eq_true rfl, Nat.le_of_ble_eq_true rfl⟩) (xpV (ci := 7) (q0 := 0) (As := [.int 0]) hPc hK hz hDc rfl rfl) rfl rfl hl1.1 rfl (lv_room (Nat.le_of_ble_eq_true rfl)) d_Reader_atom_64 ⟨Nat.le_of_ble_eq_true rfl, Nat.le_of_ble_eq_true rfl⟩) hS (fun q _ h => hFc q h) hFc (fun r_12 u_10 t H_11 locs ht hvm hw hB hz1 hk1 hS => ?_)
  try dsimp only at hw
  subst hw
  obtain ⟨hP1, hD1⟩ := hB
  rw [ht] at hP1
  obtain ⟨hP, hD⟩ := va_join (wr := [(h4, .inr (4, [.ref h5, .ref h6, .ref h7, .int 0])), (h5, .inl (ax 1, 8, .inl (fun _ => 0))), (h6, .inl (ax 0, 8, .inl (fun _ => 0))), (h7, .inl (ax 0, 8, .inl (fun _ => 0)))]) (w1 := [(h0, .inr (7, [.ref h1, .null, .ref h4, .int 0, .int 1])), (h1, .inr (9, [.ref h2, .ref h3, .int 0, .int 0, .int 0, .int 0, .int 1, .int 0])), (h2, .inl (ax 1, 400, .inl (fun _ => 0))), (h3, .inl (ax 0, 401, .inl (upd (fun _ => 0) 0 0)))]) hP hD [4, 5, 6, 7] [0, 1, 2, 3] rfl rfl (by decide) (by decide) hk1 hFc hP1 hD1
  have hP : va_P D classes [(h4, .inr (4, [.ref h5, .ref h6, .ref h7, .int 0])), (h5, .inl (ax 1, 8, .inl (fun _ => 0))), (h6, .inl (ax 0, 8, .inl (fun _ => 0))), (h7, .inl (ax 0, 8, .inl (fun _ => 0))), (h0, .inr (7, [.ref h1, .null, .ref h4, .int 0, .int 1])), (h1, .inr (9, [.ref h2, .ref h3, .int 0, .int 0, .int 0, .int 0, .int 1, .int 0])), (h2, .inl (ax 1, 400, .inl (fun _ => 0))), (h3, .inl (ax 0, 401, .inl (upd (fun _ => 0) 0 0)))] H_11 := hP
  have hD : va_D A [(h4, .inr (4, [.ref h5, .ref h6, .ref h7, .int 0])), (h5, .inl (ax 1, 8, .inl (fun _ => 0))), (h6, .inl (ax 0, 8, .inl (fun _ => 0))), (h7, .inl (ax 0, 8, .inl (fun _ => 0))), (h0, .inr (7, [.ref h1, .null, .ref h4, .int 0, .int 1])), (h1, .inr (9, [.ref h2, .ref h3, .int 0, .int 0, .int 0, .int 0, .int 1, .int 0])), (h2, .inl (ax 1, 400, .inl (fun _ => 0))), (h3, .inl (ax 0, 401, .inl (upd (fun _ => 0) 0 0)))] := hD
  have hPc := hP.sub (ws' := [(h4, .inr (4, [.ref h5, .ref h6, .ref h7, .int 0])), (h5, .inl (ax 1, 8, .inl (fun _ => 0))), (h6, .inl (ax 0, 8, .inl (fun _ => 0))), (h7, .inl (ax 0, 8, .inl (fun _ => 0)))]) [0, 1, 2, 3] rfl
  have hDc := hD.sub (ws' := [(h4, .inr (4, [.ref h5, .ref h6, .ref h7, .int 0])), (h5, .inl (ax 1, 8, .inl (fun _ => 0))), (h6, .inl (ax 0, 8, .inl (fun _ => 0))), (h7, .inl (ax 0, 8, .inl (fun _ => 0)))]) [0, 1, 2, 3] (by decide) rfl
  have hFc := va_free (wc := [(h4, .inr (4, [.ref h5, .ref h6, .ref h7, .int 0])), (h5, .inl (ax 1, 8, .inl (fun _ => 0))), (h6, .inl (ax 0, 8, .inl (fun _ => 0))), (h7, .inl (ax 0, 8, .inl (fun _ => 0)))]) hD hS hA [0, 1, 2, 3] rfl
  have hz := xz_of hN hS
  refine va_calli (va_runV (As := [.int 0, .int 10, .int 10]) (rest := []) ⟨hx, hb, hml, hown, hts⟩ (c_Nodes_add_l l D ax h4 h5 h6 h7 H_11.size) (xcV (n := 3) hts wd_350 wd_5 wd_573 wd_348 wd_349 rfl rfl (by decide +kernel) ⟨Nat.le_of_ble_eq_true rfl, Nat.le_of_ble_eq_true rfl⟩) (xpV (ci := 4) (q0 := 0) (As := [.int 0, .int 10, .int 10]) hPc hK hz hDc rfl rfl) rfl rfl hl1.1 rfl (lv_room (Nat.le_of_ble_eq_true rfl)) d_Reader_atom_67 ⟨Nat.le_of_ble_eq_true rfl, Nat.le_of_ble_eq_true rfl⟩) hS (fun q _ h => hFc q h) hFc (fun r_15 u_13 t H_14 locs ht hvm hw hB hz1 hk1 hS => ?_)
  try dsimp only at hw
  subst hw
  obtain ⟨hP1, hD1⟩ := hB
  rw [ht] at hP1
  obtain ⟨hP, hD⟩ := va_join (wr := [(h0, .inr (7, [.ref h1, .null, .ref h4, .int 0, .int 1])), (h1, .inr (9, [.ref h2, .ref h3, .int 0, .int 0, .int 0, .int 0, .int 1, .int 0])), (h2, .inl (ax 1, 400, .inl (fun _ => 0))), (h3, .inl (ax 0, 401, .inl (upd (fun _ => 0) 0 0)))]) (w1 := [(h4, .inr (4, [.ref h5, .ref h6, .ref h7, .int 1])), (h5, .inl (ax 1, 8, .inl (upd (fun _ => 0) 0 0))), (h6, .inl (ax 0, 8, .inl (upd (fun _ => 0) 0 10))), (h7, .inl (ax 0, 8, .inl (upd (fun _ => 0) 0 10)))]) hP hD [0, 1, 2, 3] [4, 5, 6, 7] rfl rfl (by decide) (by decide) hk1 hFc hP1 hD1
  have hP : va_P D classes [(h0, .inr (7, [.ref h1, .null, .ref h4, .int 0, .int 1])), (h1, .inr (9, [.ref h2, .ref h3, .int 0, .int 0, .int 0, .int 0, .int 1, .int 0])), (h2, .inl (ax 1, 400, .inl (fun _ => 0))), (h3, .inl (ax 0, 401, .inl (upd (fun _ => 0) 0 0))), (h4, .inr (4, [.ref h5, .ref h6, .ref h7, .int 1])), (h5, .inl (ax 1, 8, .inl (upd (fun _ => 0) 0 0))), (h6, .inl (ax 0, 8, .inl (upd (fun _ => 0) 0 10))), (h7, .inl (ax 0, 8, .inl (upd (fun _ => 0) 0 10)))] H_14 := hP
  have hD : va_D A [(h0, .inr (7, [.ref h1, .null, .ref h4, .int 0, .int 1])), (h1, .inr (9, [.ref h2, .ref h3, .int 0, .int 0, .int 0, .int 0, .int 1, .int 0])), (h2, .inl (ax 1, 400, .inl (fun _ => 0))), (h3, .inl (ax 0, 401, .inl (upd (fun _ => 0) 0 0))), (h4, .inr (4, [.ref h5, .ref h6, .ref h7, .int 1])), (h5, .inl (ax 1, 8, .inl (upd (fun _ => 0) 0 0))), (h6, .inl (ax 0, 8, .inl (upd (fun _ => 0) 0 10))), (h7, .inl (ax 0, 8, .inl (upd (fun _ => 0) 0 10)))] := hD
  have hP9 := hP.sub (ws' := (fun u : Nat → Nat => [(h0, .inr (7, [.ref h1, .null, .ref h4, .int 0, .int 1])), (h1, .inr (9, [.ref h2, .ref h3, .int 0, .int 0, .int 0, .int 0, .int 1, .int 0])), (h2, .inl (ax 1, 400, .inl (fun _ => 0))), (h3, .inl (ax 0, 401, .inl (upd (fun _ => 0) 0 0))), (h4, .inr (4, [.ref h5, .ref h6, .ref h7, .int 1])), (h5, .inl (ax 1, 8, .inl (upd (fun _ => 0) 0 0))), (h6, .inl (ax 0, 8, .inl (upd (fun _ => 0) 0 10))), (h7, .inl (ax 0, 8, .inl (upd (fun _ => 0) 0 10)))]) (ixn [])) [0, 1, 2, 3, 4, 5, 6, 7] rfl
  have hD9 := hD.sub (ws' := (fun u : Nat → Nat => [(h0, .inr (7, [.ref h1, .null, .ref h4, .int 0, .int 1])), (h1, .inr (9, [.ref h2, .ref h3, .int 0, .int 0, .int 0, .int 0, .int 1, .int 0])), (h2, .inl (ax 1, 400, .inl (fun _ => 0))), (h3, .inl (ax 0, 401, .inl (upd (fun _ => 0) 0 0))), (h4, .inr (4, [.ref h5, .ref h6, .ref h7, .int 1])), (h5, .inl (ax 1, 8, .inl (upd (fun _ => 0) 0 0))), (h6, .inl (ax 0, 8, .inl (upd (fun _ => 0) 0 10))), (h7, .inl (ax 0, 8, .inl (upd (fun _ => 0) 0 10)))]) (ixn [])) [0, 1, 2, 3, 4, 5, 6, 7] (by decide) rfl
  exact W.iret (v := 0) hx hb hr (fun t ht hW => ⟨⟨0, ixn [], rfl, rfl, ⟨by rw [ht]; exact hP9, hD9⟩⟩, hS.F ht⟩) hS.2.2 d_Reader_atom_70
abbrev b_Reader_part : ByteArray := prog_9_method_12_code
def y_Reader_part : MethodName := ⟨R_Reader, "part", "(I)I"⟩
theorem d_Reader_part_0 : decode b_Reader_part 0 = .ok (.aload_n 0, 1) := by decide +kernel
theorem d_Reader_part_1 : decode b_Reader_part 1 = .ok (.getfield 9, 3) := by decide +kernel
theorem d_Reader_part_4 : decode b_Reader_part 4 = .ok (.getfield 52, 3) := by decide +kernel
theorem d_Reader_part_7 : decode b_Reader_part 7 = .ok (.bipush 33, 2) := by decide +kernel
theorem d_Reader_part_9 : decode b_Reader_part 9 = .ok (.if_icmp .ne 7, 3) := by decide +kernel
theorem d_Reader_part_16 : decode b_Reader_part 16 = .ok (.iconst 0, 1) := by decide +kernel
theorem d_Reader_part_17 : decode b_Reader_part 17 = .ok (.istore_n 2, 1) := by decide +kernel
theorem d_Reader_part_18 : decode b_Reader_part 18 = .ok (.iload_n 2, 1) := by decide +kernel
theorem d_Reader_part_19 : decode b_Reader_part 19 = .ok (.ifCond .ne 20, 3) := by decide +kernel
theorem d_Reader_part_22 : decode b_Reader_part 22 = .ok (.aload_n 0, 1) := by decide +kernel
theorem d_Reader_part_23 : decode b_Reader_part 23 = .ok (.getfield 9, 3) := by decide +kernel
theorem d_Reader_part_26 : decode b_Reader_part 26 = .ok (.getfield 52, 3) := by decide +kernel
theorem d_Reader_part_29 : decode b_Reader_part 29 = .ok (.bipush 40, 2) := by decide +kernel
theorem d_Reader_part_31 : decode b_Reader_part 31 = .ok (.if_icmp .eq 8, 3) := by decide +kernel
theorem d_Reader_part_34 : decode b_Reader_part 34 = .ok (.aload_n 0, 1) := by decide +kernel
theorem d_Reader_part_35 : decode b_Reader_part 35 = .ok (.invokevirtual 138, 3) := by decide +kernel
theorem d_Reader_part_38 : decode b_Reader_part 38 = .ok (.ireturn, 1) := by decide +kernel
set_option maxHeartbeats 4000000 in
set_option maxRecDepth 100000 in
theorem c_Reader_part (l : Launch) (D : va_G) (ax : Nat → ClassId) (h0 h1 h2 h3 h4 h5 h6 h7 : Nat) (sz : Nat) : Met l y_Reader_part (xws (.code y_Reader_part b_Reader_part 4 (some .int))) ({ frames := 40, cells := 0, slots := 0, locals := 1600 }) (va_Pc [.ref h0, .int 0] (xo D ax [(h0, .inr (7, [.ref h1, .null, .ref h4, .int 0, .int 0])), (h1, .inr (9, [.ref h2, .ref h3, .int 0, .int 0, .int 0, .int (-1), .int 0, .int 0])), (h2, .inl (ax 1, 400, .inl (fun _ => 0))), (h3, .inl (ax 0, 401, .inl (upd (fun _ => 0) 0 0))), (h4, .inr (4, [.ref h5, .ref h6, .ref h7, .int 0])), (h5, .inl (ax 1, 8, .inl (fun _ => 0))), (h6, .inl (ax 0, 8, .inl (fun _ => 0))), (h7, .inl (ax 0, 8, .inl (fun _ => 0)))] sz)) ((va_Qi (fun (r : Int32) (u : Nat → Nat) => r = 0) (xb D (va_A [(h0, .inr (7, [.ref h1, .null, .ref h4, .int 0, .int 0])), (h1, .inr (9, [.ref h2, .ref h3, .int 0, .int 0, .int 0, .int (-1), .int 0, .int 0])), (h2, .inl (ax 1, 400, .inl (fun _ => 0))), (h3, .inl (ax 0, 401, .inl (upd (fun _ => 0) 0 0))), (h4, .inr (4, [.ref h5, .ref h6, .ref h7, .int 0])), (h5, .inl (ax 1, 8, .inl (fun _ => 0))), (h6, .inl (ax 0, 8, .inl (fun _ => 0))), (h7, .inl (ax 0, 8, .inl (fun _ => 0)))] sz) (fun u => [(h0, .inr (7, [.ref h1, .null, .ref h4, .int 0, .int 1])), (h1, .inr (9, [.ref h2, .ref h3, .int 0, .int 0, .int 0, .int 0, .int 1, .int 0])), (h2, .inl (ax 1, 400, .inl (fun _ => 0))), (h3, .inl (ax 0, 401, .inl (upd (fun _ => 0) 0 0))), (h4, .inr (4, [.ref h5, .ref h6, .ref h7, .int 1])), (h5, .inl (ax 1, 8, .inl (upd (fun _ => 0) 0 0))), (h6, .inl (ax 0, 8, .inl (upd (fun _ => 0) 0 10))), (h7, .inl (ax 0, 8, .inl (upd (fun _ => 0) 0 10)))])) (va_A [(h0, .inr (7, [.ref h1, .null, .ref h4, .int 0, .int 0])), (h1, .inr (9, [.ref h2, .ref h3, .int 0, .int 0, .int 0, .int (-1), .int 0, .int 0])), (h2, .inl (ax 1, 400, .inl (fun _ => 0))), (h3, .inl (ax 0, 401, .inl (upd (fun _ => 0) 0 0))), (h4, .inr (4, [.ref h5, .ref h6, .ref h7, .int 0])), (h5, .inl (ax 1, 8, .inl (fun _ => 0))), (h6, .inl (ax 0, 8, .inl (fun _ => 0))), (h7, .inl (ax 0, 8, .inl (fun _ => 0)))] sz))) 0 0 (va_A [(h0, .inr (7, [.ref h1, .null, .ref h4, .int 0, .int 0])), (h1, .inr (9, [.ref h2, .ref h3, .int 0, .int 0, .int 0, .int (-1), .int 0, .int 0])), (h2, .inl (ax 1, 400, .inl (fun _ => 0))), (h3, .inl (ax 0, 401, .inl (upd (fun _ => 0) 0 0))), (h4, .inr (4, [.ref h5, .ref h6, .ref h7, .int 0])), (h5, .inl (ax 1, 8, .inl (fun _ => 0))), (h6, .inl (ax 0, 8, .inl (fun _ => 0))), (h7, .inl (ax 0, 8, .inl (fun _ => 0)))] sz) := by
  refine Met.ofW (cc := b_Reader_part) (maxL := 4) (ret := (some .int)) (by decide) rfl ?_
  intro p e s m args below meth c s₁ B hml hv
  obtain ⟨rfl, hsz, hP, hK, hD0⟩ := hv
  have hx := B.exec
  have hb := B.bytes
  have hr := B.returns
  have hts := xw_hts B.pre
  have hown : s.vm.findClass R_Reader = some m.cls := findClass_of_methodNamed B.named
  have hlocks := B.notSynchronized
  subst hsz
  have hD := hD0.self (sz := s.heap.size)
  have hN := xz_entry hP
  generalize hAe : va_A [(h0, .inr (7, [.ref h1, .null, .ref h4, .int 0, .int 0])), (h1, .inr (9, [.ref h2, .ref h3, .int 0, .int 0, .int 0, .int (-1), .int 0, .int 0])), (h2, .inl (ax 1, 400, .inl (fun _ => 0))), (h3, .inl (ax 0, 401, .inl (upd (fun _ => 0) 0 0))), (h4, .inr (4, [.ref h5, .ref h6, .ref h7, .int 0])), (h5, .inl (ax 1, 8, .inl (fun _ => 0))), (h6, .inl (ax 0, 8, .inl (fun _ => 0))), (h7, .inl (ax 0, 8, .inl (fun _ => 0)))] s.heap.size = A at hD hN ⊢
  have hA : ∀ q : Nat, s.heap.size ≤ q → A q := fun q h => by rw [← hAe]; exact Or.inr h
  have hS : va_S A s.heap s.heap [] := va_S.rf
  have hl0 := lv_entry ([.ref h0, .int 0]) (n := 4) (Nat.le_of_ble_eq_true rfl)
  rw [lg_entry_eq]
  generalize (lg_sl ([.ref h0, .int 0]) ++ List.replicate (4 - (lg_sl ([.ref h0, .int 0])).length) Slot.unset).toArray = ls at hl0 ⊢
  have hl1 : lv_has ls 4 [(0, .ref h0), (1, .int 0)] := hl0
  refine lv_aload_n hx hb d_Reader_part_0 rfl (lv_at hl1 0 rfl) ?_
  refine va_get (D := D) (ci := 7) (v := .ref h1) (C := R_Reader) (T := F_Reader) (N := 5) hx hb hts i_Reader hown hK.1 hP 0 rfl rfl 0 (by decide) (hts _ wd_75) (fun _ h9 => h9) rfl d_Reader_part_1 ?_
  refine va_get (D := D) (ci := 9) (v := .int 0) (C := R_Tokens) (T := F_Tokens) (N := 8) hx hb hts i_Tokens hown hK.1 hP 1 rfl rfl 6 (by decide) (hts _ wd_47) (fun _ h9 => h9) rfl d_Reader_part_4 ?_
  refine lv_bipush (v := 33) hx hb d_Reader_part_7 (by decide) ?_
  refine lv_icmp_ne (tgt := 16) hx hb d_Reader_part_9 (by decide) (fun c_1 => ?_) (fun c_1 => ?_)
  rotate_left
  · first | exact absurd c_1 (by decide) | exact absurd (by decide) c_1
  refine lv_iconst (v := 0) hx hb d_Reader_part_16 (by decide) ?_
  refine lv_istore_n (lv' := [(2, .int 0), (0, .ref h0), (1, .int 0)]) hx hb d_Reader_part_17 rfl hl1 (by decide) rfl (fun ls hl1 => ?_)
  refine lv_iload_n hx hb d_Reader_part_18 rfl (lv_at hl1 0 rfl) ?_
  refine lv_if_ne (tgt := 39) hx hb d_Reader_part_19 (by decide) (fun c_2 => ?_) (fun c_2 => ?_)
  · first | exact absurd c_2 (by decide) | exact absurd (by decide) c_2
  refine lv_aload_n hx hb d_Reader_part_22 rfl (lv_at hl1 1 rfl) ?_
  refine va_get (D := D) (ci := 7) (v := .ref h1) (C := R_Reader) (T := F_Reader) (N := 5) hx hb hts i_Reader hown hK.1 hP 0 rfl rfl 0 (by decide) (hts _ wd_75) (fun _ h9 => h9) rfl d_Reader_part_23 ?_
  refine va_get (D := D) (ci := 9) (v := .int 0) (C := R_Tokens) (T := F_Tokens) (N := 8) hx hb hts i_Tokens hown hK.1 hP 1 rfl rfl 6 (by decide) (hts _ wd_47) (fun _ h9 => h9) rfl d_Reader_part_26 ?_
  refine lv_bipush (v := 40) hx hb d_Reader_part_29 (by decide) ?_
  refine lv_icmp_eq (tgt := 39) hx hb d_Reader_part_31 (by decide) (fun c_3 => ?_) (fun c_3 => ?_)
  · first | exact absurd c_3 (by decide) | exact absurd (by decide) c_3
  refine lv_aload_n hx hb d_Reader_part_34 rfl (lv_at hl1 1 rfl) ?_
  have hPc := hP.sub (ws' := [(h0, .inr (7, [.ref h1, .null, .ref h4, .int 0, .int 0])), (h1, .inr (9, [.ref h2, .ref h3, .int 0, .int 0, .int 0, .int (-1), .int 0, .int 0])), (h2, .inl (ax 1, 400, .inl (fun _ => 0))), (h3, .inl (ax 0, 401, .inl (upd (fun _ => 0) 0 0))), (h4, .inr (4, [.ref h5, .ref h6, .ref h7, .int 0])), (h5, .inl (ax 1, 8, .inl (fun _ => 0))), (h6, .inl (ax 0, 8, .inl (fun _ => 0))), (h7, .inl (ax 0, 8, .inl (fun _ => 0)))]) [0, 1, 2, 3, 4, 5, 6, 7] rfl
  have hDc := hD.sub (ws' := [(h0, .inr (7, [.ref h1, .null, .ref h4, .int 0, .int 0])), (h1, .inr (9, [.ref h2, .ref h3, .int 0, .int 0, .int 0, .int (-1), .int 0, .int 0])), (h2, .inl (ax 1, 400, .inl (fun _ => 0))), (h3, .inl (ax 0, 401, .inl (upd (fun _ => 0) 0 0))), (h4, .inr (4, [.ref h5, .ref h6, .ref h7, .int 0])), (h5, .inl (ax 1, 8, .inl (fun _ => 0))), (h6, .inl (ax 0, 8, .inl (fun _ => 0))), (h7, .inl (ax 0, 8, .inl (fun _ => 0)))]) [0, 1, 2, 3, 4, 5, 6, 7] (by decide) rfl
  have hFc := va_free (wc := [(h0, .inr (7, [.ref h1, .null, .ref h4, .int 0, .int 0])), (h1, .inr (9, [.ref h2, .ref h3, .int 0, .int 0, .int 0, .int (-1), .int 0, .int 0])), (h2, .inl (ax 1, 400, .inl (fun _ => 0))), (h3, .inl (ax 0, 401, .inl (upd (fun _ => 0) 0 0))), (h4, .inr (4, [.ref h5, .ref h6, .ref h7, .int 0])), (h5, .inl (ax 1, 8, .inl (fun _ => 0))), (h6, .inl (ax 0, 8, .inl (fun _ => 0))), (h7, .inl (ax 0, 8, .inl (fun _ => 0)))]) hD hS hA [0, 1, 2, 3, 4, 5, 6, 7] rfl
  have hz := xz_of hN hS
  refine va_calli (va_runV (As := []) (rest := []) ⟨hx, hb, hml, hown, hts⟩ (c_Reader_atom l D ax h0 h1 h2 h3 h4 h5 h6 h7 s.heap.size) (xcV (n := 0) hts wd_555 wd_3 wd_552 wd_554 ps_11 rfl rfl (by decide +kernel) ⟨Nat.le_of_ble_eq_true rfl, Nat.le_of_ble_eq_true rfl⟩) (xpV (ci := 7) (q0 := 0) (As := []) hPc hK hz hDc rfl rfl) rfl rfl hl1.1 rfl (lv_room (Nat.le_of_ble_eq_true rfl)) d_Reader_part_35 ⟨Nat.le_of_ble_eq_true rfl, Nat.le_of_ble_eq_true rfl⟩) hS (fun q _ h => hFc q h) hFc (fun r_6 u_4 t H_5 locs ht hvm hw hB hz1 hk1 hS => ?_)
  try dsimp only at hw
  subst hw
  obtain ⟨hP1, hD1⟩ := hB
  rw [ht] at hP1
  obtain ⟨hP, hD⟩ := va_join (wr := []) (w1 := [(h0, .inr (7, [.ref h1, .null, .ref h4, .int 0, .int 1])), (h1, .inr (9, [.ref h2, .ref h3, .int 0, .int 0, .int 0, .int 0, .int 1, .int 0])), (h2, .inl (ax 1, 400, .inl (fun _ => 0))), (h3, .inl (ax 0, 401, .inl (upd (fun _ => 0) 0 0))), (h4, .inr (4, [.ref h5, .ref h6, .ref h7, .int 1])), (h5, .inl (ax 1, 8, .inl (upd (fun _ => 0) 0 0))), (h6, .inl (ax 0, 8, .inl (upd (fun _ => 0) 0 10))), (h7, .inl (ax 0, 8, .inl (upd (fun _ => 0) 0 10)))]) hP hD [0, 1, 2, 3, 4, 5, 6, 7] [] rfl rfl (by decide) (by decide) hk1 hFc hP1 hD1
  have hP : va_P D classes [(h0, .inr (7, [.ref h1, .null, .ref h4, .int 0, .int 1])), (h1, .inr (9, [.ref h2, .ref h3, .int 0, .int 0, .int 0, .int 0, .int 1, .int 0])), (h2, .inl (ax 1, 400, .inl (fun _ => 0))), (h3, .inl (ax 0, 401, .inl (upd (fun _ => 0) 0 0))), (h4, .inr (4, [.ref h5, .ref h6, .ref h7, .int 1])), (h5, .inl (ax 1, 8, .inl (upd (fun _ => 0) 0 0))), (h6, .inl (ax 0, 8, .inl (upd (fun _ => 0) 0 10))), (h7, .inl (ax 0, 8, .inl (upd (fun _ => 0) 0 10)))] H_5 := hP
  have hD : va_D A [(h0, .inr (7, [.ref h1, .null, .ref h4, .int 0, .int 1])), (h1, .inr (9, [.ref h2, .ref h3, .int 0, .int 0, .int 0, .int 0, .int 1, .int 0])), (h2, .inl (ax 1, 400, .inl (fun _ => 0))), (h3, .inl (ax 0, 401, .inl (upd (fun _ => 0) 0 0))), (h4, .inr (4, [.ref h5, .ref h6, .ref h7, .int 1])), (h5, .inl (ax 1, 8, .inl (upd (fun _ => 0) 0 0))), (h6, .inl (ax 0, 8, .inl (upd (fun _ => 0) 0 10))), (h7, .inl (ax 0, 8, .inl (upd (fun _ => 0) 0 10)))] := hD
  have hP9 := hP.sub (ws' := (fun u : Nat → Nat => [(h0, .inr (7, [.ref h1, .null, .ref h4, .int 0, .int 1])), (h1, .inr (9, [.ref h2, .ref h3, .int 0, .int 0, .int 0, .int 0, .int 1, .int 0])), (h2, .inl (ax 1, 400, .inl (fun _ => 0))), (h3, .inl (ax 0, 401, .inl (upd (fun _ => 0) 0 0))), (h4, .inr (4, [.ref h5, .ref h6, .ref h7, .int 1])), (h5, .inl (ax 1, 8, .inl (upd (fun _ => 0) 0 0))), (h6, .inl (ax 0, 8, .inl (upd (fun _ => 0) 0 10))), (h7, .inl (ax 0, 8, .inl (upd (fun _ => 0) 0 10)))]) (ixn [])) [0, 1, 2, 3, 4, 5, 6, 7] rfl
  have hD9 := hD.sub (ws' := (fun u : Nat → Nat => [(h0, .inr (7, [.ref h1, .null, .ref h4, .int 0, .int 1])), (h1, .inr (9, [.ref h2, .ref h3, .int 0, .int 0, .int 0, .int 0, .int 1, .int 0])), (h2, .inl (ax 1, 400, .inl (fun _ => 0))), (h3, .inl (ax 0, 401, .inl (upd (fun _ => 0) 0 0))), (h4, .inr (4, [.ref h5, .ref h6, .ref h7, .int 1])), (h5, .inl (ax 1, 8, .inl (upd (fun _ => 0) 0 0))), (h6, .inl (ax 0, 8, .inl (upd (fun _ => 0) 0 10))), (h7, .inl (ax 0, 8, .inl (upd (fun _ => 0) 0 10)))]) (ixn [])) [0, 1, 2, 3, 4, 5, 6, 7] (by decide) rfl
  exact W.iret (v := 0) hx hb hr (fun t ht hW => ⟨⟨0, ixn [], rfl, rfl, ⟨by rw [ht]; exact hP9, hD9⟩⟩, hS.F ht⟩) hS.2.2 d_Reader_part_38
abbrev b_Reader_ands : ByteArray := prog_9_method_11_code
def y_Reader_ands : MethodName := ⟨R_Reader, "ands", "(I)I"⟩
theorem d_Reader_ands_0 : decode b_Reader_ands 0 = .ok (.aload_n 0, 1) := by decide +kernel
theorem d_Reader_ands_1 : decode b_Reader_ands 1 = .ok (.iload_n 1, 1) := by decide +kernel
theorem d_Reader_ands_2 : decode b_Reader_ands 2 = .ok (.invokevirtual 135, 3) := by decide +kernel
theorem d_Reader_ands_5 : decode b_Reader_ands 5 = .ok (.istore_n 2, 1) := by decide +kernel
theorem d_Reader_ands_6 : decode b_Reader_ands 6 = .ok (.iconst 0, 1) := by decide +kernel
theorem d_Reader_ands_7 : decode b_Reader_ands 7 = .ok (.istore_n 3, 1) := by decide +kernel
theorem d_Reader_ands_8 : decode b_Reader_ands 8 = .ok (.iload_n 3, 1) := by decide +kernel
theorem d_Reader_ands_9 : decode b_Reader_ands 9 = .ok (.bipush 8, 2) := by decide +kernel
theorem d_Reader_ands_11 : decode b_Reader_ands 11 = .ok (.if_icmp .ge 44, 3) := by decide +kernel
theorem d_Reader_ands_14 : decode b_Reader_ands 14 = .ok (.aload_n 0, 1) := by decide +kernel
theorem d_Reader_ands_15 : decode b_Reader_ands 15 = .ok (.getfield 9, 3) := by decide +kernel
theorem d_Reader_ands_18 : decode b_Reader_ands 18 = .ok (.getfield 52, 3) := by decide +kernel
theorem d_Reader_ands_21 : decode b_Reader_ands 21 = .ok (.bipush 38, 2) := by decide +kernel
theorem d_Reader_ands_23 : decode b_Reader_ands 23 = .ok (.if_icmp .ne 32, 3) := by decide +kernel
theorem d_Reader_ands_55 : decode b_Reader_ands 55 = .ok (.iload_n 2, 1) := by decide +kernel
theorem d_Reader_ands_56 : decode b_Reader_ands 56 = .ok (.ireturn, 1) := by decide +kernel
set_option maxHeartbeats 4000000 in
set_option maxRecDepth 100000 in
theorem c_Reader_ands (l : Launch) (D : va_G) (ax : Nat → ClassId) (h0 h1 h2 h3 h4 h5 h6 h7 : Nat) (sz : Nat) : Met l y_Reader_ands (xws (.code y_Reader_ands b_Reader_ands 4 (some .int))) ({ frames := 50, cells := 0, slots := 0, locals := 2000 }) (va_Pc [.ref h0, .int 0] (xo D ax [(h0, .inr (7, [.ref h1, .null, .ref h4, .int 0, .int 0])), (h1, .inr (9, [.ref h2, .ref h3, .int 0, .int 0, .int 0, .int (-1), .int 0, .int 0])), (h2, .inl (ax 1, 400, .inl (fun _ => 0))), (h3, .inl (ax 0, 401, .inl (upd (fun _ => 0) 0 0))), (h4, .inr (4, [.ref h5, .ref h6, .ref h7, .int 0])), (h5, .inl (ax 1, 8, .inl (fun _ => 0))), (h6, .inl (ax 0, 8, .inl (fun _ => 0))), (h7, .inl (ax 0, 8, .inl (fun _ => 0)))] sz)) ((va_Qi (fun (r : Int32) (u : Nat → Nat) => r = 0) (xb D (va_A [(h0, .inr (7, [.ref h1, .null, .ref h4, .int 0, .int 0])), (h1, .inr (9, [.ref h2, .ref h3, .int 0, .int 0, .int 0, .int (-1), .int 0, .int 0])), (h2, .inl (ax 1, 400, .inl (fun _ => 0))), (h3, .inl (ax 0, 401, .inl (upd (fun _ => 0) 0 0))), (h4, .inr (4, [.ref h5, .ref h6, .ref h7, .int 0])), (h5, .inl (ax 1, 8, .inl (fun _ => 0))), (h6, .inl (ax 0, 8, .inl (fun _ => 0))), (h7, .inl (ax 0, 8, .inl (fun _ => 0)))] sz) (fun u => [(h0, .inr (7, [.ref h1, .null, .ref h4, .int 0, .int 1])), (h1, .inr (9, [.ref h2, .ref h3, .int 0, .int 0, .int 0, .int 0, .int 1, .int 0])), (h2, .inl (ax 1, 400, .inl (fun _ => 0))), (h3, .inl (ax 0, 401, .inl (upd (fun _ => 0) 0 0))), (h4, .inr (4, [.ref h5, .ref h6, .ref h7, .int 1])), (h5, .inl (ax 1, 8, .inl (upd (fun _ => 0) 0 0))), (h6, .inl (ax 0, 8, .inl (upd (fun _ => 0) 0 10))), (h7, .inl (ax 0, 8, .inl (upd (fun _ => 0) 0 10)))])) (va_A [(h0, .inr (7, [.ref h1, .null, .ref h4, .int 0, .int 0])), (h1, .inr (9, [.ref h2, .ref h3, .int 0, .int 0, .int 0, .int (-1), .int 0, .int 0])), (h2, .inl (ax 1, 400, .inl (fun _ => 0))), (h3, .inl (ax 0, 401, .inl (upd (fun _ => 0) 0 0))), (h4, .inr (4, [.ref h5, .ref h6, .ref h7, .int 0])), (h5, .inl (ax 1, 8, .inl (fun _ => 0))), (h6, .inl (ax 0, 8, .inl (fun _ => 0))), (h7, .inl (ax 0, 8, .inl (fun _ => 0)))] sz))) 0 0 (va_A [(h0, .inr (7, [.ref h1, .null, .ref h4, .int 0, .int 0])), (h1, .inr (9, [.ref h2, .ref h3, .int 0, .int 0, .int 0, .int (-1), .int 0, .int 0])), (h2, .inl (ax 1, 400, .inl (fun _ => 0))), (h3, .inl (ax 0, 401, .inl (upd (fun _ => 0) 0 0))), (h4, .inr (4, [.ref h5, .ref h6, .ref h7, .int 0])), (h5, .inl (ax 1, 8, .inl (fun _ => 0))), (h6, .inl (ax 0, 8, .inl (fun _ => 0))), (h7, .inl (ax 0, 8, .inl (fun _ => 0)))] sz) := by
  refine Met.ofW (cc := b_Reader_ands) (maxL := 4) (ret := (some .int)) (by decide) rfl ?_
  intro p e s m args below meth c s₁ B hml hv
  obtain ⟨rfl, hsz, hP, hK, hD0⟩ := hv
  have hx := B.exec
  have hb := B.bytes
  have hr := B.returns
  have hts := xw_hts B.pre
  have hown : s.vm.findClass R_Reader = some m.cls := findClass_of_methodNamed B.named
  have hlocks := B.notSynchronized
  subst hsz
  have hD := hD0.self (sz := s.heap.size)
  have hN := xz_entry hP
  generalize hAe : va_A [(h0, .inr (7, [.ref h1, .null, .ref h4, .int 0, .int 0])), (h1, .inr (9, [.ref h2, .ref h3, .int 0, .int 0, .int 0, .int (-1), .int 0, .int 0])), (h2, .inl (ax 1, 400, .inl (fun _ => 0))), (h3, .inl (ax 0, 401, .inl (upd (fun _ => 0) 0 0))), (h4, .inr (4, [.ref h5, .ref h6, .ref h7, .int 0])), (h5, .inl (ax 1, 8, .inl (fun _ => 0))), (h6, .inl (ax 0, 8, .inl (fun _ => 0))), (h7, .inl (ax 0, 8, .inl (fun _ => 0)))] s.heap.size = A at hD hN ⊢
  have hA : ∀ q : Nat, s.heap.size ≤ q → A q := fun q h => by rw [← hAe]; exact Or.inr h
  have hS : va_S A s.heap s.heap [] := va_S.rf
  have hl0 := lv_entry ([.ref h0, .int 0]) (n := 4) (Nat.le_of_ble_eq_true rfl)
  rw [lg_entry_eq]
  generalize (lg_sl ([.ref h0, .int 0]) ++ List.replicate (4 - (lg_sl ([.ref h0, .int 0])).length) Slot.unset).toArray = ls at hl0 ⊢
  have hl1 : lv_has ls 4 [(0, .ref h0), (1, .int 0)] := hl0
  refine lv_aload_n hx hb d_Reader_ands_0 rfl (lv_at hl1 0 rfl) ?_
  refine lv_iload_n hx hb d_Reader_ands_1 rfl (lv_at hl1 1 rfl) ?_
  have hPc := hP.sub (ws' := [(h0, .inr (7, [.ref h1, .null, .ref h4, .int 0, .int 0])), (h1, .inr (9, [.ref h2, .ref h3, .int 0, .int 0, .int 0, .int (-1), .int 0, .int 0])), (h2, .inl (ax 1, 400, .inl (fun _ => 0))), (h3, .inl (ax 0, 401, .inl (upd (fun _ => 0) 0 0))), (h4, .inr (4, [.ref h5, .ref h6, .ref h7, .int 0])), (h5, .inl (ax 1, 8, .inl (fun _ => 0))), (h6, .inl (ax 0, 8, .inl (fun _ => 0))), (h7, .inl (ax 0, 8, .inl (fun _ => 0)))]) [0, 1, 2, 3, 4, 5, 6, 7] rfl
  have hDc := hD.sub (ws' := [(h0, .inr (7, [.ref h1, .null, .ref h4, .int 0, .int 0])), (h1, .inr (9, [.ref h2, .ref h3, .int 0, .int 0, .int 0, .int (-1), .int 0, .int 0])), (h2, .inl (ax 1, 400, .inl (fun _ => 0))), (h3, .inl (ax 0, 401, .inl (upd (fun _ => 0) 0 0))), (h4, .inr (4, [.ref h5, .ref h6, .ref h7, .int 0])), (h5, .inl (ax 1, 8, .inl (fun _ => 0))), (h6, .inl (ax 0, 8, .inl (fun _ => 0))), (h7, .inl (ax 0, 8, .inl (fun _ => 0)))]) [0, 1, 2, 3, 4, 5, 6, 7] (by decide) rfl
  have hFc := va_free (wc := [(h0, .inr (7, [.ref h1, .null, .ref h4, .int 0, .int 0])), (h1, .inr (9, [.ref h2, .ref h3, .int 0, .int 0, .int 0, .int (-1), .int 0, .int 0])), (h2, .inl (ax 1, 400, .inl (fun _ => 0))), (h3, .inl (ax 0, 401, .inl (upd (fun _ => 0) 0 0))), (h4, .inr (4, [.ref h5, .ref h6, .ref h7, .int 0])), (h5, .inl (ax 1, 8, .inl (fun _ => 0))), (h6, .inl (ax 0, 8, .inl (fun _ => 0))), (h7, .inl (ax 0, 8, .inl (fun _ => 0)))]) hD hS hA [0, 1, 2, 3, 4, 5, 6, 7] rfl
  have hz := xz_of hN hS
  refine va_calli (va_runV (As := [.int 0]) (rest := []) ⟨hx, hb, hml, hown, hts⟩ (c_Reader_part l D ax h0 h1 h2 h3 h4 h5 h6 h7 s.heap.size) (xcV (n := 1) hts wd_551 wd_3 wd_548 wd_550 ps_10 rfl rfl (by decide +kernel) ⟨Nat.le_of_ble_eq_true rfl, Nat.le_of_ble_eq_true rfl⟩) (xpV (ci := 7) (q0 := 0) (As := [.int 0]) hPc hK hz hDc rfl rfl) rfl rfl hl1.1 rfl (lv_room (Nat.le_of_ble_eq_true rfl)) d_Reader_ands_2 ⟨Nat.le_of_ble_eq_true rfl, Nat.le_of_ble_eq_true rfl⟩) hS (fun q _ h => hFc q h) hFc (fun r_3 u_1 t H_2 locs ht hvm hw hB hz1 hk1 hS => ?_)
  try dsimp only at hw
  subst hw
  obtain ⟨hP1, hD1⟩ := hB
  rw [ht] at hP1
  obtain ⟨hP, hD⟩ := va_join (wr := []) (w1 := [(h0, .inr (7, [.ref h1, .null, .ref h4, .int 0, .int 1])), (h1, .inr (9, [.ref h2, .ref h3, .int 0, .int 0, .int 0, .int 0, .int 1, .int 0])), (h2, .inl (ax 1, 400, .inl (fun _ => 0))), (h3, .inl (ax 0, 401, .inl (upd (fun _ => 0) 0 0))), (h4, .inr (4, [.ref h5, .ref h6, .ref h7, .int 1])), (h5, .inl (ax 1, 8, .inl (upd (fun _ => 0) 0 0))), (h6, .inl (ax 0, 8, .inl (upd (fun _ => 0) 0 10))), (h7, .inl (ax 0, 8, .inl (upd (fun _ => 0) 0 10)))]) hP hD [0, 1, 2, 3, 4, 5, 6, 7] [] rfl rfl (by decide) (by decide) hk1 hFc hP1 hD1
  have hP : va_P D classes [(h0, .inr (7, [.ref h1, .null, .ref h4, .int 0, .int 1])), (h1, .inr (9, [.ref h2, .ref h3, .int 0, .int 0, .int 0, .int 0, .int 1, .int 0])), (h2, .inl (ax 1, 400, .inl (fun _ => 0))), (h3, .inl (ax 0, 401, .inl (upd (fun _ => 0) 0 0))), (h4, .inr (4, [.ref h5, .ref h6, .ref h7, .int 1])), (h5, .inl (ax 1, 8, .inl (upd (fun _ => 0) 0 0))), (h6, .inl (ax 0, 8, .inl (upd (fun _ => 0) 0 10))), (h7, .inl (ax 0, 8, .inl (upd (fun _ => 0) 0 10)))] H_2 := hP
  have hD : va_D A [(h0, .inr (7, [.ref h1, .null, .ref h4, .int 0, .int 1])), (h1, .inr (9, [.ref h2, .ref h3, .int 0, .int 0, .int 0, .int 0, .int 1, .int 0])), (h2, .inl (ax 1, 400, .inl (fun _ => 0))), (h3, .inl (ax 0, 401, .inl (upd (fun _ => 0) 0 0))), (h4, .inr (4, [.ref h5, .ref h6, .ref h7, .int 1])), (h5, .inl (ax 1, 8, .inl (upd (fun _ => 0) 0 0))), (h6, .inl (ax 0, 8, .inl (upd (fun _ => 0) 0 10))), (h7, .inl (ax 0, 8, .inl (upd (fun _ => 0) 0 10)))] := hD
  refine lv_istore_n (lv' := [(2, .int 0), (0, .ref h0), (1, .int 0)]) hx hb d_Reader_ands_5 rfl hl1 (by decide) rfl (fun ls hl1 => ?_)
  refine lv_iconst (v := 0) hx hb d_Reader_ands_6 (by decide) ?_
  refine lv_istore_n (lv' := [(3, .int 0), (2, .int 0), (0, .ref h0), (1, .int 0)]) hx hb d_Reader_ands_7 rfl hl1 (by decide) rfl (fun ls hl1 => ?_)
  refine lv_iload_n hx hb d_Reader_ands_8 rfl (lv_at hl1 0 rfl) ?_
  refine lv_bipush (v := 8) hx hb d_Reader_ands_9 (by decide) ?_
  refine lv_icmp_ge (tgt := 55) hx hb d_Reader_ands_11 (by decide) (fun c_4 => ?_) (fun c_4 => ?_)
  · first | exact absurd c_4 (by decide) | exact absurd (by decide) c_4
  refine lv_aload_n hx hb d_Reader_ands_14 rfl (lv_at hl1 2 rfl) ?_
  refine va_get (D := D) (ci := 7) (v := .ref h1) (C := R_Reader) (T := F_Reader) (N := 5) hx hb hts i_Reader hown hK.1 hP 0 rfl rfl 0 (by decide) (hts _ wd_75) (fun _ h9 => h9) rfl d_Reader_ands_15 ?_
  refine va_get (D := D) (ci := 9) (v := .int 1) (C := R_Tokens) (T := F_Tokens) (N := 8) hx hb hts i_Tokens hown hK.1 hP 1 rfl rfl 6 (by decide) (hts _ wd_47) (fun _ h9 => h9) rfl d_Reader_ands_18 ?_
  refine lv_bipush (v := 38) hx hb d_Reader_ands_21 (by decide) ?_
  refine lv_icmp_ne (tgt := 55) hx hb d_Reader_ands_23 (by decide) (fun c_5 => ?_) (fun c_5 => ?_)
  rotate_left
  · first | exact absurd c_5 (by decide) | exact absurd (by decide) c_5
  refine lv_iload_n hx hb d_Reader_ands_55 rfl (lv_at hl1 1 rfl) ?_
  have hP9 := hP.sub (ws' := (fun u : Nat → Nat => [(h0, .inr (7, [.ref h1, .null, .ref h4, .int 0, .int 1])), (h1, .inr (9, [.ref h2, .ref h3, .int 0, .int 0, .int 0, .int 0, .int 1, .int 0])), (h2, .inl (ax 1, 400, .inl (fun _ => 0))), (h3, .inl (ax 0, 401, .inl (upd (fun _ => 0) 0 0))), (h4, .inr (4, [.ref h5, .ref h6, .ref h7, .int 1])), (h5, .inl (ax 1, 8, .inl (upd (fun _ => 0) 0 0))), (h6, .inl (ax 0, 8, .inl (upd (fun _ => 0) 0 10))), (h7, .inl (ax 0, 8, .inl (upd (fun _ => 0) 0 10)))]) (ixn [])) [0, 1, 2, 3, 4, 5, 6, 7] rfl
  have hD9 := hD.sub (ws' := (fun u : Nat → Nat => [(h0, .inr (7, [.ref h1, .null, .ref h4, .int 0, .int 1])), (h1, .inr (9, [.ref h2, .ref h3, .int 0, .int 0, .int 0, .int 0, .int 1, .int 0])), (h2, .inl (ax 1, 400, .inl (fun _ => 0))), (h3, .inl (ax 0, 401, .inl (upd (fun _ => 0) 0 0))), (h4, .inr (4, [.ref h5, .ref h6, .ref h7, .int 1])), (h5, .inl (ax 1, 8, .inl (upd (fun _ => 0) 0 0))), (h6, .inl (ax 0, 8, .inl (upd (fun _ => 0) 0 10))), (h7, .inl (ax 0, 8, .inl (upd (fun _ => 0) 0 10)))]) (ixn [])) [0, 1, 2, 3, 4, 5, 6, 7] (by decide) rfl
  exact W.iret (v := 0) hx hb hr (fun t ht hW => ⟨⟨0, ixn [], rfl, rfl, ⟨by rw [ht]; exact hP9, hD9⟩⟩, hS.F ht⟩) hS.2.2 d_Reader_ands_56
abbrev b_Reader_ors : ByteArray := prog_9_method_10_code
def y_Reader_ors : MethodName := ⟨R_Reader, "ors", "(I)I"⟩
theorem d_Reader_ors_0 : decode b_Reader_ors 0 = .ok (.aload_n 0, 1) := by decide +kernel
theorem d_Reader_ors_1 : decode b_Reader_ors 1 = .ok (.iload_n 1, 1) := by decide +kernel
theorem d_Reader_ors_2 : decode b_Reader_ors 2 = .ok (.invokevirtual 129, 3) := by decide +kernel
theorem d_Reader_ors_5 : decode b_Reader_ors 5 = .ok (.istore_n 2, 1) := by decide +kernel
theorem d_Reader_ors_6 : decode b_Reader_ors 6 = .ok (.iconst 0, 1) := by decide +kernel
theorem d_Reader_ors_7 : decode b_Reader_ors 7 = .ok (.istore_n 3, 1) := by decide +kernel
theorem d_Reader_ors_8 : decode b_Reader_ors 8 = .ok (.iload_n 3, 1) := by decide +kernel
theorem d_Reader_ors_9 : decode b_Reader_ors 9 = .ok (.bipush 8, 2) := by decide +kernel
theorem d_Reader_ors_11 : decode b_Reader_ors 11 = .ok (.if_icmp .ge 44, 3) := by decide +kernel
theorem d_Reader_ors_14 : decode b_Reader_ors 14 = .ok (.aload_n 0, 1) := by decide +kernel
theorem d_Reader_ors_15 : decode b_Reader_ors 15 = .ok (.getfield 9, 3) := by decide +kernel
theorem d_Reader_ors_18 : decode b_Reader_ors 18 = .ok (.getfield 52, 3) := by decide +kernel
theorem d_Reader_ors_21 : decode b_Reader_ors 21 = .ok (.bipush 124, 2) := by decide +kernel
theorem d_Reader_ors_23 : decode b_Reader_ors 23 = .ok (.if_icmp .ne 32, 3) := by decide +kernel
theorem d_Reader_ors_55 : decode b_Reader_ors 55 = .ok (.iload_n 2, 1) := by decide +kernel
theorem d_Reader_ors_56 : decode b_Reader_ors 56 = .ok (.ireturn, 1) := by decide +kernel
set_option maxHeartbeats 4000000 in
set_option maxRecDepth 100000 in
theorem c_Reader_ors (l : Launch) (D : va_G) (ax : Nat → ClassId) (h0 h1 h2 h3 h4 h5 h6 h7 : Nat) (sz : Nat) : Met l y_Reader_ors (xws (.code y_Reader_ors b_Reader_ors 4 (some .int))) ({ frames := 60, cells := 0, slots := 0, locals := 2400 }) (va_Pc [.ref h0, .int 0] (xo D ax [(h0, .inr (7, [.ref h1, .null, .ref h4, .int 0, .int 0])), (h1, .inr (9, [.ref h2, .ref h3, .int 0, .int 0, .int 0, .int (-1), .int 0, .int 0])), (h2, .inl (ax 1, 400, .inl (fun _ => 0))), (h3, .inl (ax 0, 401, .inl (upd (fun _ => 0) 0 0))), (h4, .inr (4, [.ref h5, .ref h6, .ref h7, .int 0])), (h5, .inl (ax 1, 8, .inl (fun _ => 0))), (h6, .inl (ax 0, 8, .inl (fun _ => 0))), (h7, .inl (ax 0, 8, .inl (fun _ => 0)))] sz)) ((va_Qi (fun (r : Int32) (u : Nat → Nat) => r = 0) (xb D (va_A [(h0, .inr (7, [.ref h1, .null, .ref h4, .int 0, .int 0])), (h1, .inr (9, [.ref h2, .ref h3, .int 0, .int 0, .int 0, .int (-1), .int 0, .int 0])), (h2, .inl (ax 1, 400, .inl (fun _ => 0))), (h3, .inl (ax 0, 401, .inl (upd (fun _ => 0) 0 0))), (h4, .inr (4, [.ref h5, .ref h6, .ref h7, .int 0])), (h5, .inl (ax 1, 8, .inl (fun _ => 0))), (h6, .inl (ax 0, 8, .inl (fun _ => 0))), (h7, .inl (ax 0, 8, .inl (fun _ => 0)))] sz) (fun u => [(h0, .inr (7, [.ref h1, .null, .ref h4, .int 0, .int 1])), (h1, .inr (9, [.ref h2, .ref h3, .int 0, .int 0, .int 0, .int 0, .int 1, .int 0])), (h2, .inl (ax 1, 400, .inl (fun _ => 0))), (h3, .inl (ax 0, 401, .inl (upd (fun _ => 0) 0 0))), (h4, .inr (4, [.ref h5, .ref h6, .ref h7, .int 1])), (h5, .inl (ax 1, 8, .inl (upd (fun _ => 0) 0 0))), (h6, .inl (ax 0, 8, .inl (upd (fun _ => 0) 0 10))), (h7, .inl (ax 0, 8, .inl (upd (fun _ => 0) 0 10)))])) (va_A [(h0, .inr (7, [.ref h1, .null, .ref h4, .int 0, .int 0])), (h1, .inr (9, [.ref h2, .ref h3, .int 0, .int 0, .int 0, .int (-1), .int 0, .int 0])), (h2, .inl (ax 1, 400, .inl (fun _ => 0))), (h3, .inl (ax 0, 401, .inl (upd (fun _ => 0) 0 0))), (h4, .inr (4, [.ref h5, .ref h6, .ref h7, .int 0])), (h5, .inl (ax 1, 8, .inl (fun _ => 0))), (h6, .inl (ax 0, 8, .inl (fun _ => 0))), (h7, .inl (ax 0, 8, .inl (fun _ => 0)))] sz))) 0 0 (va_A [(h0, .inr (7, [.ref h1, .null, .ref h4, .int 0, .int 0])), (h1, .inr (9, [.ref h2, .ref h3, .int 0, .int 0, .int 0, .int (-1), .int 0, .int 0])), (h2, .inl (ax 1, 400, .inl (fun _ => 0))), (h3, .inl (ax 0, 401, .inl (upd (fun _ => 0) 0 0))), (h4, .inr (4, [.ref h5, .ref h6, .ref h7, .int 0])), (h5, .inl (ax 1, 8, .inl (fun _ => 0))), (h6, .inl (ax 0, 8, .inl (fun _ => 0))), (h7, .inl (ax 0, 8, .inl (fun _ => 0)))] sz) := by
  refine Met.ofW (cc := b_Reader_ors) (maxL := 4) (ret := (some .int)) (by decide) rfl ?_
  intro p e s m args below meth c s₁ B hml hv
  obtain ⟨rfl, hsz, hP, hK, hD0⟩ := hv
  have hx := B.exec
  have hb := B.bytes
  have hr := B.returns
  have hts := xw_hts B.pre
  have hown : s.vm.findClass R_Reader = some m.cls := findClass_of_methodNamed B.named
  have hlocks := B.notSynchronized
  subst hsz
  have hD := hD0.self (sz := s.heap.size)
  have hN := xz_entry hP
  generalize hAe : va_A [(h0, .inr (7, [.ref h1, .null, .ref h4, .int 0, .int 0])), (h1, .inr (9, [.ref h2, .ref h3, .int 0, .int 0, .int 0, .int (-1), .int 0, .int 0])), (h2, .inl (ax 1, 400, .inl (fun _ => 0))), (h3, .inl (ax 0, 401, .inl (upd (fun _ => 0) 0 0))), (h4, .inr (4, [.ref h5, .ref h6, .ref h7, .int 0])), (h5, .inl (ax 1, 8, .inl (fun _ => 0))), (h6, .inl (ax 0, 8, .inl (fun _ => 0))), (h7, .inl (ax 0, 8, .inl (fun _ => 0)))] s.heap.size = A at hD hN ⊢
  have hA : ∀ q : Nat, s.heap.size ≤ q → A q := fun q h => by rw [← hAe]; exact Or.inr h
  have hS : va_S A s.heap s.heap [] := va_S.rf
  have hl0 := lv_entry ([.ref h0, .int 0]) (n := 4) (Nat.le_of_ble_eq_true rfl)
  rw [lg_entry_eq]
  generalize (lg_sl ([.ref h0, .int 0]) ++ List.replicate (4 - (lg_sl ([.ref h0, .int 0])).length) Slot.unset).toArray = ls at hl0 ⊢
  have hl1 : lv_has ls 4 [(0, .ref h0), (1, .int 0)] := hl0
  refine lv_aload_n hx hb d_Reader_ors_0 rfl (lv_at hl1 0 rfl) ?_
  refine lv_iload_n hx hb d_Reader_ors_1 rfl (lv_at hl1 1 rfl) ?_
  have hPc := hP.sub (ws' := [(h0, .inr (7, [.ref h1, .null, .ref h4, .int 0, .int 0])), (h1, .inr (9, [.ref h2, .ref h3, .int 0, .int 0, .int 0, .int (-1), .int 0, .int 0])), (h2, .inl (ax 1, 400, .inl (fun _ => 0))), (h3, .inl (ax 0, 401, .inl (upd (fun _ => 0) 0 0))), (h4, .inr (4, [.ref h5, .ref h6, .ref h7, .int 0])), (h5, .inl (ax 1, 8, .inl (fun _ => 0))), (h6, .inl (ax 0, 8, .inl (fun _ => 0))), (h7, .inl (ax 0, 8, .inl (fun _ => 0)))]) [0, 1, 2, 3, 4, 5, 6, 7] rfl
  have hDc := hD.sub (ws' := [(h0, .inr (7, [.ref h1, .null, .ref h4, .int 0, .int 0])), (h1, .inr (9, [.ref h2, .ref h3, .int 0, .int 0, .int 0, .int (-1), .int 0, .int 0])), (h2, .inl (ax 1, 400, .inl (fun _ => 0))), (h3, .inl (ax 0, 401, .inl (upd (fun _ => 0) 0 0))), (h4, .inr (4, [.ref h5, .ref h6, .ref h7, .int 0])), (h5, .inl (ax 1, 8, .inl (fun _ => 0))), (h6, .inl (ax 0, 8, .inl (fun _ => 0))), (h7, .inl (ax 0, 8, .inl (fun _ => 0)))]) [0, 1, 2, 3, 4, 5, 6, 7] (by decide) rfl
  have hFc := va_free (wc := [(h0, .inr (7, [.ref h1, .null, .ref h4, .int 0, .int 0])), (h1, .inr (9, [.ref h2, .ref h3, .int 0, .int 0, .int 0, .int (-1), .int 0, .int 0])), (h2, .inl (ax 1, 400, .inl (fun _ => 0))), (h3, .inl (ax 0, 401, .inl (upd (fun _ => 0) 0 0))), (h4, .inr (4, [.ref h5, .ref h6, .ref h7, .int 0])), (h5, .inl (ax 1, 8, .inl (fun _ => 0))), (h6, .inl (ax 0, 8, .inl (fun _ => 0))), (h7, .inl (ax 0, 8, .inl (fun _ => 0)))]) hD hS hA [0, 1, 2, 3, 4, 5, 6, 7] rfl
  have hz := xz_of hN hS
  refine va_calli (va_runV (As := [.int 0]) (rest := []) ⟨hx, hb, hml, hown, hts⟩ (c_Reader_ands l D ax h0 h1 h2 h3 h4 h5 h6 h7 s.heap.size) (xcV (n := 1) hts wd_547 wd_3 wd_544 wd_546 ps_9 rfl rfl (by decide +kernel) ⟨Nat.le_of_ble_eq_true rfl, Nat.le_of_ble_eq_true rfl⟩) (xpV (ci := 7) (q0 := 0) (As := [.int 0]) hPc hK hz hDc rfl rfl) rfl rfl hl1.1 rfl (lv_room (Nat.le_of_ble_eq_true rfl)) d_Reader_ors_2 ⟨Nat.le_of_ble_eq_true rfl, Nat.le_of_ble_eq_true rfl⟩) hS (fun q _ h => hFc q h) hFc (fun r_3 u_1 t H_2 locs ht hvm hw hB hz1 hk1 hS => ?_)
  try dsimp only at hw
  subst hw
  obtain ⟨hP1, hD1⟩ := hB
  rw [ht] at hP1
  obtain ⟨hP, hD⟩ := va_join (wr := []) (w1 := [(h0, .inr (7, [.ref h1, .null, .ref h4, .int 0, .int 1])), (h1, .inr (9, [.ref h2, .ref h3, .int 0, .int 0, .int 0, .int 0, .int 1, .int 0])), (h2, .inl (ax 1, 400, .inl (fun _ => 0))), (h3, .inl (ax 0, 401, .inl (upd (fun _ => 0) 0 0))), (h4, .inr (4, [.ref h5, .ref h6, .ref h7, .int 1])), (h5, .inl (ax 1, 8, .inl (upd (fun _ => 0) 0 0))), (h6, .inl (ax 0, 8, .inl (upd (fun _ => 0) 0 10))), (h7, .inl (ax 0, 8, .inl (upd (fun _ => 0) 0 10)))]) hP hD [0, 1, 2, 3, 4, 5, 6, 7] [] rfl rfl (by decide) (by decide) hk1 hFc hP1 hD1
  have hP : va_P D classes [(h0, .inr (7, [.ref h1, .null, .ref h4, .int 0, .int 1])), (h1, .inr (9, [.ref h2, .ref h3, .int 0, .int 0, .int 0, .int 0, .int 1, .int 0])), (h2, .inl (ax 1, 400, .inl (fun _ => 0))), (h3, .inl (ax 0, 401, .inl (upd (fun _ => 0) 0 0))), (h4, .inr (4, [.ref h5, .ref h6, .ref h7, .int 1])), (h5, .inl (ax 1, 8, .inl (upd (fun _ => 0) 0 0))), (h6, .inl (ax 0, 8, .inl (upd (fun _ => 0) 0 10))), (h7, .inl (ax 0, 8, .inl (upd (fun _ => 0) 0 10)))] H_2 := hP
  have hD : va_D A [(h0, .inr (7, [.ref h1, .null, .ref h4, .int 0, .int 1])), (h1, .inr (9, [.ref h2, .ref h3, .int 0, .int 0, .int 0, .int 0, .int 1, .int 0])), (h2, .inl (ax 1, 400, .inl (fun _ => 0))), (h3, .inl (ax 0, 401, .inl (upd (fun _ => 0) 0 0))), (h4, .inr (4, [.ref h5, .ref h6, .ref h7, .int 1])), (h5, .inl (ax 1, 8, .inl (upd (fun _ => 0) 0 0))), (h6, .inl (ax 0, 8, .inl (upd (fun _ => 0) 0 10))), (h7, .inl (ax 0, 8, .inl (upd (fun _ => 0) 0 10)))] := hD
  refine lv_istore_n (lv' := [(2, .int 0), (0, .ref h0), (1, .int 0)]) hx hb d_Reader_ors_5 rfl hl1 (by decide) rfl (fun ls hl1 => ?_)
  refine lv_iconst (v := 0) hx hb d_Reader_ors_6 (by decide) ?_
  refine lv_istore_n (lv' := [(3, .int 0), (2, .int 0), (0, .ref h0), (1, .int 0)]) hx hb d_Reader_ors_7 rfl hl1 (by decide) rfl (fun ls hl1 => ?_)
  refine lv_iload_n hx hb d_Reader_ors_8 rfl (lv_at hl1 0 rfl) ?_
  refine lv_bipush (v := 8) hx hb d_Reader_ors_9 (by decide) ?_
  refine lv_icmp_ge (tgt := 55) hx hb d_Reader_ors_11 (by decide) (fun c_4 => ?_) (fun c_4 => ?_)
  · first | exact absurd c_4 (by decide) | exact absurd (by decide) c_4
  refine lv_aload_n hx hb d_Reader_ors_14 rfl (lv_at hl1 2 rfl) ?_
  refine va_get (D := D) (ci := 7) (v := .ref h1) (C := R_Reader) (T := F_Reader) (N := 5) hx hb hts i_Reader hown hK.1 hP 0 rfl rfl 0 (by decide) (hts _ wd_75) (fun _ h9 => h9) rfl d_Reader_ors_15 ?_
  refine va_get (D := D) (ci := 9) (v := .int 1) (C := R_Tokens) (T := F_Tokens) (N := 8) hx hb hts i_Tokens hown hK.1 hP 1 rfl rfl 6 (by decide) (hts _ wd_47) (fun _ h9 => h9) rfl d_Reader_ors_18 ?_
  refine lv_bipush (v := 124) hx hb d_Reader_ors_21 (by decide) ?_
  refine lv_icmp_ne (tgt := 55) hx hb d_Reader_ors_23 (by decide) (fun c_5 => ?_) (fun c_5 => ?_)
  rotate_left
  · first | exact absurd c_5 (by decide) | exact absurd (by decide) c_5
  refine lv_iload_n hx hb d_Reader_ors_55 rfl (lv_at hl1 1 rfl) ?_
  have hP9 := hP.sub (ws' := (fun u : Nat → Nat => [(h0, .inr (7, [.ref h1, .null, .ref h4, .int 0, .int 1])), (h1, .inr (9, [.ref h2, .ref h3, .int 0, .int 0, .int 0, .int 0, .int 1, .int 0])), (h2, .inl (ax 1, 400, .inl (fun _ => 0))), (h3, .inl (ax 0, 401, .inl (upd (fun _ => 0) 0 0))), (h4, .inr (4, [.ref h5, .ref h6, .ref h7, .int 1])), (h5, .inl (ax 1, 8, .inl (upd (fun _ => 0) 0 0))), (h6, .inl (ax 0, 8, .inl (upd (fun _ => 0) 0 10))), (h7, .inl (ax 0, 8, .inl (upd (fun _ => 0) 0 10)))]) (ixn [])) [0, 1, 2, 3, 4, 5, 6, 7] rfl
  have hD9 := hD.sub (ws' := (fun u : Nat → Nat => [(h0, .inr (7, [.ref h1, .null, .ref h4, .int 0, .int 1])), (h1, .inr (9, [.ref h2, .ref h3, .int 0, .int 0, .int 0, .int 0, .int 1, .int 0])), (h2, .inl (ax 1, 400, .inl (fun _ => 0))), (h3, .inl (ax 0, 401, .inl (upd (fun _ => 0) 0 0))), (h4, .inr (4, [.ref h5, .ref h6, .ref h7, .int 1])), (h5, .inl (ax 1, 8, .inl (upd (fun _ => 0) 0 0))), (h6, .inl (ax 0, 8, .inl (upd (fun _ => 0) 0 10))), (h7, .inl (ax 0, 8, .inl (upd (fun _ => 0) 0 10)))]) (ixn [])) [0, 1, 2, 3, 4, 5, 6, 7] (by decide) rfl
  exact W.iret (v := 0) hx hb hr (fun t ht hW => ⟨⟨0, ixn [], rfl, rfl, ⟨by rw [ht]; exact hP9, hD9⟩⟩, hS.F ht⟩) hS.2.2 d_Reader_ors_56
abbrev b_Reader_condition : ByteArray := prog_9_method_9_code
def y_Reader_condition : MethodName := ⟨R_Reader, "condition", "(Z)I"⟩
theorem d_Reader_condition_0 : decode b_Reader_condition 0 = .ok (.aload_n 0, 1) := by decide +kernel
theorem d_Reader_condition_1 : decode b_Reader_condition 1 = .ok (.iload_n 1, 1) := by decide +kernel
theorem d_Reader_condition_2 : decode b_Reader_condition 2 = .ok (.putfield 119, 3) := by decide +kernel
theorem d_Reader_condition_5 : decode b_Reader_condition 5 = .ok (.aload_n 0, 1) := by decide +kernel
theorem d_Reader_condition_6 : decode b_Reader_condition 6 = .ok (.iconst 0, 1) := by decide +kernel
theorem d_Reader_condition_7 : decode b_Reader_condition 7 = .ok (.putfield 123, 3) := by decide +kernel
theorem d_Reader_condition_10 : decode b_Reader_condition 10 = .ok (.aload_n 0, 1) := by decide +kernel
theorem d_Reader_condition_11 : decode b_Reader_condition 11 = .ok (.iconst 0, 1) := by decide +kernel
theorem d_Reader_condition_12 : decode b_Reader_condition 12 = .ok (.invokevirtual 126, 3) := by decide +kernel
theorem d_Reader_condition_15 : decode b_Reader_condition 15 = .ok (.ireturn, 1) := by decide +kernel
set_option maxHeartbeats 4000000 in
set_option maxRecDepth 100000 in
theorem c_Reader_condition (l : Launch) (D : va_G) (ax : Nat → ClassId) (h0 h1 h2 h3 h4 h5 h6 h7 : Nat) (sz : Nat) : Met l y_Reader_condition (xws (.code y_Reader_condition b_Reader_condition 2 (some .int))) ({ frames := 70, cells := 0, slots := 0, locals := 2800 }) (va_Pc [.ref h0, .int 0] (xo D ax [(h0, .inr (7, [.ref h1, .null, .ref h4, .int 0, .int 0])), (h1, .inr (9, [.ref h2, .ref h3, .int 0, .int 0, .int 0, .int (-1), .int 0, .int 0])), (h2, .inl (ax 1, 400, .inl (fun _ => 0))), (h3, .inl (ax 0, 401, .inl (upd (fun _ => 0) 0 0))), (h4, .inr (4, [.ref h5, .ref h6, .ref h7, .int 0])), (h5, .inl (ax 1, 8, .inl (fun _ => 0))), (h6, .inl (ax 0, 8, .inl (fun _ => 0))), (h7, .inl (ax 0, 8, .inl (fun _ => 0)))] sz)) ((va_Qi (fun (r : Int32) (u : Nat → Nat) => r = 0) (xb D (va_A [(h0, .inr (7, [.ref h1, .null, .ref h4, .int 0, .int 0])), (h1, .inr (9, [.ref h2, .ref h3, .int 0, .int 0, .int 0, .int (-1), .int 0, .int 0])), (h2, .inl (ax 1, 400, .inl (fun _ => 0))), (h3, .inl (ax 0, 401, .inl (upd (fun _ => 0) 0 0))), (h4, .inr (4, [.ref h5, .ref h6, .ref h7, .int 0])), (h5, .inl (ax 1, 8, .inl (fun _ => 0))), (h6, .inl (ax 0, 8, .inl (fun _ => 0))), (h7, .inl (ax 0, 8, .inl (fun _ => 0)))] sz) (fun u => [(h0, .inr (7, [.ref h1, .null, .ref h4, .int 0, .int 1])), (h1, .inr (9, [.ref h2, .ref h3, .int 0, .int 0, .int 0, .int 0, .int 1, .int 0])), (h2, .inl (ax 1, 400, .inl (fun _ => 0))), (h3, .inl (ax 0, 401, .inl (upd (fun _ => 0) 0 0))), (h4, .inr (4, [.ref h5, .ref h6, .ref h7, .int 1])), (h5, .inl (ax 1, 8, .inl (upd (fun _ => 0) 0 0))), (h6, .inl (ax 0, 8, .inl (upd (fun _ => 0) 0 10))), (h7, .inl (ax 0, 8, .inl (upd (fun _ => 0) 0 10)))])) (va_A [(h0, .inr (7, [.ref h1, .null, .ref h4, .int 0, .int 0])), (h1, .inr (9, [.ref h2, .ref h3, .int 0, .int 0, .int 0, .int (-1), .int 0, .int 0])), (h2, .inl (ax 1, 400, .inl (fun _ => 0))), (h3, .inl (ax 0, 401, .inl (upd (fun _ => 0) 0 0))), (h4, .inr (4, [.ref h5, .ref h6, .ref h7, .int 0])), (h5, .inl (ax 1, 8, .inl (fun _ => 0))), (h6, .inl (ax 0, 8, .inl (fun _ => 0))), (h7, .inl (ax 0, 8, .inl (fun _ => 0)))] sz))) 0 0 (va_A [(h0, .inr (7, [.ref h1, .null, .ref h4, .int 0, .int 0])), (h1, .inr (9, [.ref h2, .ref h3, .int 0, .int 0, .int 0, .int (-1), .int 0, .int 0])), (h2, .inl (ax 1, 400, .inl (fun _ => 0))), (h3, .inl (ax 0, 401, .inl (upd (fun _ => 0) 0 0))), (h4, .inr (4, [.ref h5, .ref h6, .ref h7, .int 0])), (h5, .inl (ax 1, 8, .inl (fun _ => 0))), (h6, .inl (ax 0, 8, .inl (fun _ => 0))), (h7, .inl (ax 0, 8, .inl (fun _ => 0)))] sz) := by
  refine Met.ofW (cc := b_Reader_condition) (maxL := 2) (ret := (some .int)) (by decide) rfl ?_
  intro p e s m args below meth c s₁ B hml hv
  obtain ⟨rfl, hsz, hP, hK, hD0⟩ := hv
  have hx := B.exec
  have hb := B.bytes
  have hr := B.returns
  have hts := xw_hts B.pre
  have hown : s.vm.findClass R_Reader = some m.cls := findClass_of_methodNamed B.named
  have hlocks := B.notSynchronized
  subst hsz
  have hD := hD0.self (sz := s.heap.size)
  have hN := xz_entry hP
  generalize hAe : va_A [(h0, .inr (7, [.ref h1, .null, .ref h4, .int 0, .int 0])), (h1, .inr (9, [.ref h2, .ref h3, .int 0, .int 0, .int 0, .int (-1), .int 0, .int 0])), (h2, .inl (ax 1, 400, .inl (fun _ => 0))), (h3, .inl (ax 0, 401, .inl (upd (fun _ => 0) 0 0))), (h4, .inr (4, [.ref h5, .ref h6, .ref h7, .int 0])), (h5, .inl (ax 1, 8, .inl (fun _ => 0))), (h6, .inl (ax 0, 8, .inl (fun _ => 0))), (h7, .inl (ax 0, 8, .inl (fun _ => 0)))] s.heap.size = A at hD hN ⊢
  have hA : ∀ q : Nat, s.heap.size ≤ q → A q := fun q h => by rw [← hAe]; exact Or.inr h
  have hS : va_S A s.heap s.heap [] := va_S.rf
  have hl0 := lv_entry ([.ref h0, .int 0]) (n := 2) (Nat.le_of_ble_eq_true rfl)
  rw [lg_entry_eq]
  generalize (lg_sl ([.ref h0, .int 0]) ++ List.replicate (2 - (lg_sl ([.ref h0, .int 0])).length) Slot.unset).toArray = ls at hl0 ⊢
  have hl1 : lv_has ls 2 [(0, .ref h0), (1, .int 0)] := hl0
  refine lv_aload_n hx hb d_Reader_condition_0 rfl (lv_at hl1 0 rfl) ?_
  refine lv_iload_n hx hb d_Reader_condition_1 rfl (lv_at hl1 1 rfl) ?_
  refine va_put (D := D) (ci := 7) (v := .int 0) (ty := .boolean) (C := R_Reader) (T := F_Reader) (N := 5) hx hb hts i_Reader t_Reader t_Reader_ok n_Reader hown hK.1 hP hD hS 0 rfl rfl 3 (by decide) (hts _ wd_78) (fun _ h9 => h9) rfl (by decide +kernel) rfl rfl (Nat.le_of_ble_eq_true rfl) d_Reader_condition_2 (fun H_1 locs hP hD hS => ?_)
  have hP : va_P D classes [(h0, .inr (7, [.ref h1, .null, .ref h4, .int 0, .int 0])), (h1, .inr (9, [.ref h2, .ref h3, .int 0, .int 0, .int 0, .int (-1), .int 0, .int 0])), (h2, .inl (ax 1, 400, .inl (fun _ => 0))), (h3, .inl (ax 0, 401, .inl (upd (fun _ => 0) 0 0))), (h4, .inr (4, [.ref h5, .ref h6, .ref h7, .int 0])), (h5, .inl (ax 1, 8, .inl (fun _ => 0))), (h6, .inl (ax 0, 8, .inl (fun _ => 0))), (h7, .inl (ax 0, 8, .inl (fun _ => 0)))] H_1 := hP
  have hD : va_D A [(h0, .inr (7, [.ref h1, .null, .ref h4, .int 0, .int 0])), (h1, .inr (9, [.ref h2, .ref h3, .int 0, .int 0, .int 0, .int (-1), .int 0, .int 0])), (h2, .inl (ax 1, 400, .inl (fun _ => 0))), (h3, .inl (ax 0, 401, .inl (upd (fun _ => 0) 0 0))), (h4, .inr (4, [.ref h5, .ref h6, .ref h7, .int 0])), (h5, .inl (ax 1, 8, .inl (fun _ => 0))), (h6, .inl (ax 0, 8, .inl (fun _ => 0))), (h7, .inl (ax 0, 8, .inl (fun _ => 0)))] := hD
  refine lv_aload_n hx hb d_Reader_condition_5 rfl (lv_at hl1 0 rfl) ?_
  refine lv_iconst (v := 0) hx hb d_Reader_condition_6 (by decide) ?_
  refine va_put (D := D) (ci := 7) (v := .int 0) (ty := .int) (C := R_Reader) (T := F_Reader) (N := 5) hx hb hts i_Reader t_Reader t_Reader_ok n_Reader hown hK.1 hP hD hS 0 rfl rfl 4 (by decide) (hts _ wd_79) (fun _ h9 => h9) rfl (by decide +kernel) rfl rfl (Nat.le_of_ble_eq_true rfl) d_Reader_condition_7 (fun H_2 locs hP hD hS => ?_)
  have hP : va_P D classes [(h0, .inr (7, [.ref h1, .null, .ref h4, .int 0, .int 0])), (h1, .inr (9, [.ref h2, .ref h3, .int 0, .int 0, .int 0, .int (-1), .int 0, .int 0])), (h2, .inl (ax 1, 400, .inl (fun _ => 0))), (h3, .inl (ax 0, 401, .inl (upd (fun _ => 0) 0 0))), (h4, .inr (4, [.ref h5, .ref h6, .ref h7, .int 0])), (h5, .inl (ax 1, 8, .inl (fun _ => 0))), (h6, .inl (ax 0, 8, .inl (fun _ => 0))), (h7, .inl (ax 0, 8, .inl (fun _ => 0)))] H_2 := hP
  have hD : va_D A [(h0, .inr (7, [.ref h1, .null, .ref h4, .int 0, .int 0])), (h1, .inr (9, [.ref h2, .ref h3, .int 0, .int 0, .int 0, .int (-1), .int 0, .int 0])), (h2, .inl (ax 1, 400, .inl (fun _ => 0))), (h3, .inl (ax 0, 401, .inl (upd (fun _ => 0) 0 0))), (h4, .inr (4, [.ref h5, .ref h6, .ref h7, .int 0])), (h5, .inl (ax 1, 8, .inl (fun _ => 0))), (h6, .inl (ax 0, 8, .inl (fun _ => 0))), (h7, .inl (ax 0, 8, .inl (fun _ => 0)))] := hD
  refine lv_aload_n hx hb d_Reader_condition_10 rfl (lv_at hl1 0 rfl) ?_
  refine lv_iconst (v := 0) hx hb d_Reader_condition_11 (by decide) ?_
  have hPc := hP.sub (ws' := [(h0, .inr (7, [.ref h1, .null, .ref h4, .int 0, .int 0])), (h1, .inr (9, [.ref h2, .ref h3, .int 0, .int 0, .int 0, .int (-1), .int 0, .int 0])), (h2, .inl (ax 1, 400, .inl (fun _ => 0))), (h3, .inl (ax 0, 401, .inl (upd (fun _ => 0) 0 0))), (h4, .inr (4, [.ref h5, .ref h6, .ref h7, .int 0])), (h5, .inl (ax 1, 8, .inl (fun _ => 0))), (h6, .inl (ax 0, 8, .inl (fun _ => 0))), (h7, .inl (ax 0, 8, .inl (fun _ => 0)))]) [0, 1, 2, 3, 4, 5, 6, 7] rfl
  have hDc := hD.sub (ws' := [(h0, .inr (7, [.ref h1, .null, .ref h4, .int 0, .int 0])), (h1, .inr (9, [.ref h2, .ref h3, .int 0, .int 0, .int 0, .int (-1), .int 0, .int 0])), (h2, .inl (ax 1, 400, .inl (fun _ => 0))), (h3, .inl (ax 0, 401, .inl (upd (fun _ => 0) 0 0))), (h4, .inr (4, [.ref h5, .ref h6, .ref h7, .int 0])), (h5, .inl (ax 1, 8, .inl (fun _ => 0))), (h6, .inl (ax 0, 8, .inl (fun _ => 0))), (h7, .inl (ax 0, 8, .inl (fun _ => 0)))]) [0, 1, 2, 3, 4, 5, 6, 7] (by decide) rfl
  have hFc := va_free (wc := [(h0, .inr (7, [.ref h1, .null, .ref h4, .int 0, .int 0])), (h1, .inr (9, [.ref h2, .ref h3, .int 0, .int 0, .int 0, .int (-1), .int 0, .int 0])), (h2, .inl (ax 1, 400, .inl (fun _ => 0))), (h3, .inl (ax 0, 401, .inl (upd (fun _ => 0) 0 0))), (h4, .inr (4, [.ref h5, .ref h6, .ref h7, .int 0])), (h5, .inl (ax 1, 8, .inl (fun _ => 0))), (h6, .inl (ax 0, 8, .inl (fun _ => 0))), (h7, .inl (ax 0, 8, .inl (fun _ => 0)))]) hD hS hA [0, 1, 2, 3, 4, 5, 6, 7] rfl
  have hz := xz_of hN hS
  refine va_calli (va_runV (As := [.int 0]) (rest := []) ⟨hx, hb, hml, hown, hts⟩ (c_Reader_ors l D ax h0 h1 h2 h3 h4 h5 h6 h7 H_2.size) (xcV (n := 1) hts wd_543 wd_3 wd_540 wd_542 ps_8 rfl rfl (by decide +kernel) ⟨Nat.le_of_ble_eq_true rfl, Nat.le_of_ble_eq_true rfl⟩) (xpV (ci := 7) (q0 := 0) (As := [.int 0]) hPc hK hz hDc rfl rfl) rfl rfl hl1.1 rfl (lv_room (Nat.le_of_ble_eq_true rfl)) d_Reader_condition_12 ⟨Nat.le_of_ble_eq_true rfl, Nat.le_of_ble_eq_true rfl⟩) hS (fun q _ h => hFc q h) hFc (fun r_5 u_3 t H_4 locs ht hvm hw hB hz1 hk1 hS => ?_)
  try dsimp only at hw
  subst hw
  obtain ⟨hP1, hD1⟩ := hB
  rw [ht] at hP1
  obtain ⟨hP, hD⟩ := va_join (wr := []) (w1 := [(h0, .inr (7, [.ref h1, .null, .ref h4, .int 0, .int 1])), (h1, .inr (9, [.ref h2, .ref h3, .int 0, .int 0, .int 0, .int 0, .int 1, .int 0])), (h2, .inl (ax 1, 400, .inl (fun _ => 0))), (h3, .inl (ax 0, 401, .inl (upd (fun _ => 0) 0 0))), (h4, .inr (4, [.ref h5, .ref h6, .ref h7, .int 1])), (h5, .inl (ax 1, 8, .inl (upd (fun _ => 0) 0 0))), (h6, .inl (ax 0, 8, .inl (upd (fun _ => 0) 0 10))), (h7, .inl (ax 0, 8, .inl (upd (fun _ => 0) 0 10)))]) hP hD [0, 1, 2, 3, 4, 5, 6, 7] [] rfl rfl (by decide) (by decide) hk1 hFc hP1 hD1
  have hP : va_P D classes [(h0, .inr (7, [.ref h1, .null, .ref h4, .int 0, .int 1])), (h1, .inr (9, [.ref h2, .ref h3, .int 0, .int 0, .int 0, .int 0, .int 1, .int 0])), (h2, .inl (ax 1, 400, .inl (fun _ => 0))), (h3, .inl (ax 0, 401, .inl (upd (fun _ => 0) 0 0))), (h4, .inr (4, [.ref h5, .ref h6, .ref h7, .int 1])), (h5, .inl (ax 1, 8, .inl (upd (fun _ => 0) 0 0))), (h6, .inl (ax 0, 8, .inl (upd (fun _ => 0) 0 10))), (h7, .inl (ax 0, 8, .inl (upd (fun _ => 0) 0 10)))] H_4 := hP
  have hD : va_D A [(h0, .inr (7, [.ref h1, .null, .ref h4, .int 0, .int 1])), (h1, .inr (9, [.ref h2, .ref h3, .int 0, .int 0, .int 0, .int 0, .int 1, .int 0])), (h2, .inl (ax 1, 400, .inl (fun _ => 0))), (h3, .inl (ax 0, 401, .inl (upd (fun _ => 0) 0 0))), (h4, .inr (4, [.ref h5, .ref h6, .ref h7, .int 1])), (h5, .inl (ax 1, 8, .inl (upd (fun _ => 0) 0 0))), (h6, .inl (ax 0, 8, .inl (upd (fun _ => 0) 0 10))), (h7, .inl (ax 0, 8, .inl (upd (fun _ => 0) 0 10)))] := hD
  have hP9 := hP.sub (ws' := (fun u : Nat → Nat => [(h0, .inr (7, [.ref h1, .null, .ref h4, .int 0, .int 1])), (h1, .inr (9, [.ref h2, .ref h3, .int 0, .int 0, .int 0, .int 0, .int 1, .int 0])), (h2, .inl (ax 1, 400, .inl (fun _ => 0))), (h3, .inl (ax 0, 401, .inl (upd (fun _ => 0) 0 0))), (h4, .inr (4, [.ref h5, .ref h6, .ref h7, .int 1])), (h5, .inl (ax 1, 8, .inl (upd (fun _ => 0) 0 0))), (h6, .inl (ax 0, 8, .inl (upd (fun _ => 0) 0 10))), (h7, .inl (ax 0, 8, .inl (upd (fun _ => 0) 0 10)))]) (ixn [])) [0, 1, 2, 3, 4, 5, 6, 7] rfl
  have hD9 := hD.sub (ws' := (fun u : Nat → Nat => [(h0, .inr (7, [.ref h1, .null, .ref h4, .int 0, .int 1])), (h1, .inr (9, [.ref h2, .ref h3, .int 0, .int 0, .int 0, .int 0, .int 1, .int 0])), (h2, .inl (ax 1, 400, .inl (fun _ => 0))), (h3, .inl (ax 0, 401, .inl (upd (fun _ => 0) 0 0))), (h4, .inr (4, [.ref h5, .ref h6, .ref h7, .int 1])), (h5, .inl (ax 1, 8, .inl (upd (fun _ => 0) 0 0))), (h6, .inl (ax 0, 8, .inl (upd (fun _ => 0) 0 10))), (h7, .inl (ax 0, 8, .inl (upd (fun _ => 0) 0 10)))]) (ixn [])) [0, 1, 2, 3, 4, 5, 6, 7] (by decide) rfl
  exact W.iret (v := 0) hx hb hr (fun t ht hW => ⟨⟨0, ixn [], rfl, rfl, ⟨by rw [ht]; exact hP9, hD9⟩⟩, hS.F ht⟩) hS.2.2 d_Reader_condition_15
abbrev b_Reader_takeCondition : ByteArray := prog_9_method_2_code
def y_Reader_takeCondition : MethodName := ⟨R_Reader, "takeCondition", "(LTripleDesk$Nodes;)I"⟩
theorem d_Reader_takeCondition_0 : decode b_Reader_takeCondition 0 = .ok (.aload_n 0, 1) := by decide +kernel
theorem d_Reader_takeCondition_1 : decode b_Reader_takeCondition 1 = .ok (.getfield 9, 3) := by decide +kernel
theorem d_Reader_takeCondition_4 : decode b_Reader_takeCondition 4 = .ok (.invokevirtual 15, 3) := by decide +kernel
theorem d_Reader_takeCondition_7 : decode b_Reader_takeCondition 7 = .ok (.aload_n 1, 1) := by decide +kernel
theorem d_Reader_takeCondition_8 : decode b_Reader_takeCondition 8 = .ok (.invokevirtual 20, 3) := by decide +kernel
theorem d_Reader_takeCondition_11 : decode b_Reader_takeCondition 11 = .ok (.aload_n 0, 1) := by decide +kernel
theorem d_Reader_takeCondition_12 : decode b_Reader_takeCondition 12 = .ok (.aload_n 1, 1) := by decide +kernel
theorem d_Reader_takeCondition_13 : decode b_Reader_takeCondition 13 = .ok (.putfield 25, 3) := by decide +kernel
theorem d_Reader_takeCondition_16 : decode b_Reader_takeCondition 16 = .ok (.aload_n 0, 1) := by decide +kernel
theorem d_Reader_takeCondition_17 : decode b_Reader_takeCondition 17 = .ok (.iconst 0, 1) := by decide +kernel
theorem d_Reader_takeCondition_18 : decode b_Reader_takeCondition 18 = .ok (.invokevirtual 29, 3) := by decide +kernel
theorem d_Reader_takeCondition_21 : decode b_Reader_takeCondition 21 = .ok (.pop, 1) := by decide +kernel
theorem d_Reader_takeCondition_22 : decode b_Reader_takeCondition 22 = .ok (.aload_n 0, 1) := by decide +kernel
theorem d_Reader_takeCondition_23 : decode b_Reader_takeCondition 23 = .ok (.getfield 9, 3) := by decide +kernel
theorem d_Reader_takeCondition_26 : decode b_Reader_takeCondition 26 = .ok (.invokevirtual 33, 3) := by decide +kernel
theorem d_Reader_takeCondition_29 : decode b_Reader_takeCondition 29 = .ok (.ireturn, 1) := by decide +kernel
set_option maxHeartbeats 4000000 in
set_option maxRecDepth 100000 in
theorem c_Reader_takeCondition (l : Launch) (D : va_G) (ax : Nat → ClassId) (h0 h1 h2 h3 h4 h5 h6 h7 : Nat) (sz : Nat) : Met l y_Reader_takeCondition (xws (.code y_Reader_takeCondition b_Reader_takeCondition 2 (some .int))) ({ frames := 80, cells := 0, slots := 0, locals := 3200 }) (va_Pc [.ref h0, .ref h4] (xo D ax [(h0, .inr (7, [.ref h1, .null, .null, .int 0, .int 0])), (h1, .inr (9, [.ref h2, .ref h3, .int 0, .int 0, .int 0, .int (-1), .int 0, .int 0])), (h2, .inl (ax 1, 400, .inl (fun _ => 0))), (h3, .inl (ax 0, 401, .inl (fun _ => 0))), (h4, .inr (4, [.ref h5, .ref h6, .ref h7, .int 0])), (h5, .inl (ax 1, 8, .inl (fun _ => 0))), (h6, .inl (ax 0, 8, .inl (fun _ => 0))), (h7, .inl (ax 0, 8, .inl (fun _ => 0)))] sz)) ((va_Qi (fun (r : Int32) (u : Nat → Nat) => r = 1) (xb D (va_A [(h0, .inr (7, [.ref h1, .null, .null, .int 0, .int 0])), (h1, .inr (9, [.ref h2, .ref h3, .int 0, .int 0, .int 0, .int (-1), .int 0, .int 0])), (h2, .inl (ax 1, 400, .inl (fun _ => 0))), (h3, .inl (ax 0, 401, .inl (fun _ => 0))), (h4, .inr (4, [.ref h5, .ref h6, .ref h7, .int 0])), (h5, .inl (ax 1, 8, .inl (fun _ => 0))), (h6, .inl (ax 0, 8, .inl (fun _ => 0))), (h7, .inl (ax 0, 8, .inl (fun _ => 0)))] sz) (fun u => [(h0, .inr (7, [.ref h1, .null, .ref h4, .int 0, .int 1])), (h1, .inr (9, [.ref h2, .ref h3, .int 0, .int 0, .int 0, .int 0, .int 1, .int 0])), (h2, .inl (ax 1, 400, .inl (fun _ => 0))), (h3, .inl (ax 0, 401, .inl (upd (fun _ => 0) 0 0))), (h4, .inr (4, [.ref h5, .ref h6, .ref h7, .int 1])), (h5, .inl (ax 1, 8, .inl (upd (fun _ => 0) 0 0))), (h6, .inl (ax 0, 8, .inl (upd (fun _ => 0) 0 10))), (h7, .inl (ax 0, 8, .inl (upd (fun _ => 0) 0 10)))])) (va_A [(h0, .inr (7, [.ref h1, .null, .null, .int 0, .int 0])), (h1, .inr (9, [.ref h2, .ref h3, .int 0, .int 0, .int 0, .int (-1), .int 0, .int 0])), (h2, .inl (ax 1, 400, .inl (fun _ => 0))), (h3, .inl (ax 0, 401, .inl (fun _ => 0))), (h4, .inr (4, [.ref h5, .ref h6, .ref h7, .int 0])), (h5, .inl (ax 1, 8, .inl (fun _ => 0))), (h6, .inl (ax 0, 8, .inl (fun _ => 0))), (h7, .inl (ax 0, 8, .inl (fun _ => 0)))] sz))) 0 0 (va_A [(h0, .inr (7, [.ref h1, .null, .null, .int 0, .int 0])), (h1, .inr (9, [.ref h2, .ref h3, .int 0, .int 0, .int 0, .int (-1), .int 0, .int 0])), (h2, .inl (ax 1, 400, .inl (fun _ => 0))), (h3, .inl (ax 0, 401, .inl (fun _ => 0))), (h4, .inr (4, [.ref h5, .ref h6, .ref h7, .int 0])), (h5, .inl (ax 1, 8, .inl (fun _ => 0))), (h6, .inl (ax 0, 8, .inl (fun _ => 0))), (h7, .inl (ax 0, 8, .inl (fun _ => 0)))] sz) := by
  refine Met.ofW (cc := b_Reader_takeCondition) (maxL := 2) (ret := (some .int)) (by decide) rfl ?_
  intro p e s m args below meth c s₁ B hml hv
  obtain ⟨rfl, hsz, hP, hK, hD0⟩ := hv
  have hx := B.exec
  have hb := B.bytes
  have hr := B.returns
  have hts := xw_hts B.pre
  have hown : s.vm.findClass R_Reader = some m.cls := findClass_of_methodNamed B.named
  have hlocks := B.notSynchronized
  subst hsz
  have hD := hD0.self (sz := s.heap.size)
  have hN := xz_entry hP
  generalize hAe : va_A [(h0, .inr (7, [.ref h1, .null, .null, .int 0, .int 0])), (h1, .inr (9, [.ref h2, .ref h3, .int 0, .int 0, .int 0, .int (-1), .int 0, .int 0])), (h2, .inl (ax 1, 400, .inl (fun _ => 0))), (h3, .inl (ax 0, 401, .inl (fun _ => 0))), (h4, .inr (4, [.ref h5, .ref h6, .ref h7, .int 0])), (h5, .inl (ax 1, 8, .inl (fun _ => 0))), (h6, .inl (ax 0, 8, .inl (fun _ => 0))), (h7, .inl (ax 0, 8, .inl (fun _ => 0)))] s.heap.size = A at hD hN ⊢
  have hA : ∀ q : Nat, s.heap.size ≤ q → A q := fun q h => by rw [← hAe]; exact Or.inr h
  have hS : va_S A s.heap s.heap [] := va_S.rf
  have hl0 := lv_entry ([.ref h0, .ref h4]) (n := 2) (Nat.le_of_ble_eq_true rfl)
  rw [lg_entry_eq]
  generalize (lg_sl ([.ref h0, .ref h4]) ++ List.replicate (2 - (lg_sl ([.ref h0, .ref h4])).length) Slot.unset).toArray = ls at hl0 ⊢
  have hl1 : lv_has ls 2 [(0, .ref h0), (1, .ref h4)] := hl0
  refine lv_aload_n hx hb d_Reader_takeCondition_0 rfl (lv_at hl1 0 rfl) ?_
  refine va_get (D := D) (ci := 7) (v := .ref h1) (C := R_Reader) (T := F_Reader) (N := 5) hx hb hts i_Reader hown hK.1 hP 0 rfl rfl 0 (by decide) (hts _ wd_75) (fun _ h9 => h9) rfl d_Reader_takeCondition_1 ?_
  have hPc := hP.sub (ws' := [(h1, .inr (9, [.ref h2, .ref h3, .int 0, .int 0, .int 0, .int (-1), .int 0, .int 0])), (h2, .inl (ax 1, 400, .inl (fun _ => 0))), (h3, .inl (ax 0, 401, .inl (fun _ => 0)))]) [1, 2, 3] rfl
  have hDc := hD.sub (ws' := [(h1, .inr (9, [.ref h2, .ref h3, .int 0, .int 0, .int 0, .int (-1), .int 0, .int 0])), (h2, .inl (ax 1, 400, .inl (fun _ => 0))), (h3, .inl (ax 0, 401, .inl (fun _ => 0)))]) [1, 2, 3] (by decide) rfl
  have hFc := va_free (wc := [(h1, .inr (9, [.ref h2, .ref h3, .int 0, .int 0, .int 0, .int (-1), .int 0, .int 0])), (h2, .inl (ax 1, 400, .inl (fun _ => 0))), (h3, .inl (ax 0, 401, .inl (fun _ => 0)))]) hD hS hA [1, 2, 3] rfl
  have hz := xz_of hN hS
  refine va_callv (va_runV (As := []) (rest := []) ⟨hx, hb, hml, hown, hts⟩ (c_Tokens_takeTape l D ax h1 h2 h3 s.heap.size) (xcV (n := 0) hts wd_434 wd_2 wd_431 wd_432 wd_433 rfl rfl (by decide +kernel) ⟨Nat.le_of_ble_eq_true rfl, Nat.le_of_ble_eq_true rfl⟩) (xpV (ci := 9) (q0 := 0) (As := []) hPc hK hz hDc rfl rfl) rfl rfl hl1.1 rfl (lv_room (Nat.le_of_ble_eq_true rfl)) d_Reader_takeCondition_4 ⟨Nat.le_of_ble_eq_true rfl, Nat.le_of_ble_eq_true rfl⟩) hS (fun q _ h => hFc q h) hFc (fun u_1 t H_2 locs ht hvm hw hB hz1 hk1 hS => ?_)
  try dsimp only at hw
  obtain ⟨hP1, hD1⟩ := hB
  rw [ht] at hP1
  obtain ⟨hP, hD⟩ := va_join (wr := [(h0, .inr (7, [.ref h1, .null, .null, .int 0, .int 0])), (h4, .inr (4, [.ref h5, .ref h6, .ref h7, .int 0])), (h5, .inl (ax 1, 8, .inl (fun _ => 0))), (h6, .inl (ax 0, 8, .inl (fun _ => 0))), (h7, .inl (ax 0, 8, .inl (fun _ => 0)))]) (w1 := [(h1, .inr (9, [.ref h2, .ref h3, .int 0, .int 0, .int 0, .int (-1), .int 0, .int 0])), (h2, .inl (ax 1, 400, .inl (fun _ => 0))), (h3, .inl (ax 0, 401, .inl (upd (fun _ => 0) 0 0)))]) hP hD [1, 2, 3] [0, 4, 5, 6, 7] rfl rfl (by decide) (by decide) hk1 hFc hP1 hD1
  have hP : va_P D classes [(h0, .inr (7, [.ref h1, .null, .null, .int 0, .int 0])), (h4, .inr (4, [.ref h5, .ref h6, .ref h7, .int 0])), (h5, .inl (ax 1, 8, .inl (fun _ => 0))), (h6, .inl (ax 0, 8, .inl (fun _ => 0))), (h7, .inl (ax 0, 8, .inl (fun _ => 0))), (h1, .inr (9, [.ref h2, .ref h3, .int 0, .int 0, .int 0, .int (-1), .int 0, .int 0])), (h2, .inl (ax 1, 400, .inl (fun _ => 0))), (h3, .inl (ax 0, 401, .inl (upd (fun _ => 0) 0 0)))] H_2 := hP
  have hD : va_D A [(h0, .inr (7, [.ref h1, .null, .null, .int 0, .int 0])), (h4, .inr (4, [.ref h5, .ref h6, .ref h7, .int 0])), (h5, .inl (ax 1, 8, .inl (fun _ => 0))), (h6, .inl (ax 0, 8, .inl (fun _ => 0))), (h7, .inl (ax 0, 8, .inl (fun _ => 0))), (h1, .inr (9, [.ref h2, .ref h3, .int 0, .int 0, .int 0, .int (-1), .int 0, .int 0])), (h2, .inl (ax 1, 400, .inl (fun _ => 0))), (h3, .inl (ax 0, 401, .inl (upd (fun _ => 0) 0 0)))] := hD
  refine lv_aload_n hx hb d_Reader_takeCondition_7 rfl (lv_at hl1 1 rfl) ?_
  have hPc := hP.sub (ws' := [(h4, .inr (4, [.ref h5, .ref h6, .ref h7, .int 0]))]) [1] rfl
  have hDc := hD.sub (ws' := [(h4, .inr (4, [.ref h5, .ref h6, .ref h7, .int 0]))]) [1] (by decide) rfl
  have hFc := va_free (wc := [(h4, .inr (4, [.ref h5, .ref h6, .ref h7, .int 0]))]) hD hS hA [1] rfl
  have hz := xz_of hN hS
  refine va_callv (va_runV (As := []) (rest := []) ⟨hx, hb, hml, hown, hts⟩ (c_Nodes_clear l D ax h4 h5 h6 h7 H_2.size) (xcV (n := 0) hts wd_535 wd_5 wd_532 wd_533 wd_534 rfl rfl (by decide +kernel) ⟨Nat.le_of_ble_eq_true rfl, Nat.le_of_ble_eq_true rfl⟩) (xpV (ci := 4) (q0 := 0) (As := []) hPc hK hz hDc rfl rfl) rfl rfl hl1.1 rfl (lv_room (Nat.le_of_ble_eq_true rfl)) d_Reader_takeCondition_8 ⟨Nat.le_of_ble_eq_true rfl, Nat.le_of_ble_eq_true rfl⟩) hS (fun q _ h => hFc q h) hFc (fun u_4 t H_5 locs ht hvm hw hB hz1 hk1 hS => ?_)
  try dsimp only at hw
  obtain ⟨hP1, hD1⟩ := hB
  rw [ht] at hP1
  obtain ⟨hP, hD⟩ := va_join (wr := [(h0, .inr (7, [.ref h1, .null, .null, .int 0, .int 0])), (h5, .inl (ax 1, 8, .inl (fun _ => 0))), (h6, .inl (ax 0, 8, .inl (fun _ => 0))), (h7, .inl (ax 0, 8, .inl (fun _ => 0))), (h1, .inr (9, [.ref h2, .ref h3, .int 0, .int 0, .int 0, .int (-1), .int 0, .int 0])), (h2, .inl (ax 1, 400, .inl (fun _ => 0))), (h3, .inl (ax 0, 401, .inl (upd (fun _ => 0) 0 0)))]) (w1 := [(h4, .inr (4, [.ref h5, .ref h6, .ref h7, .int 0]))]) hP hD [1] [0, 2, 3, 4, 5, 6, 7] rfl rfl (by decide) (by decide) hk1 hFc hP1 hD1
  have hP : va_P D classes [(h0, .inr (7, [.ref h1, .null, .null, .int 0, .int 0])), (h5, .inl (ax 1, 8, .inl (fun _ => 0))), (h6, .inl (ax 0, 8, .inl (fun _ => 0))), (h7, .inl (ax 0, 8, .inl (fun _ => 0))), (h1, .inr (9, [.ref h2, .ref h3, .int 0, .int 0, .int 0, .int (-1), .int 0, .int 0])), (h2, .inl (ax 1, 400, .inl (fun _ => 0))), (h3, .inl (ax 0, 401, .inl (upd (fun _ => 0) 0 0))), (h4, .inr (4, [.ref h5, .ref h6, .ref h7, .int 0]))] H_5 := hP
  have hD : va_D A [(h0, .inr (7, [.ref h1, .null, .null, .int 0, .int 0])), (h5, .inl (ax 1, 8, .inl (fun _ => 0))), (h6, .inl (ax 0, 8, .inl (fun _ => 0))), (h7, .inl (ax 0, 8, .inl (fun _ => 0))), (h1, .inr (9, [.ref h2, .ref h3, .int 0, .int 0, .int 0, .int (-1), .int 0, .int 0])), (h2, .inl (ax 1, 400, .inl (fun _ => 0))), (h3, .inl (ax 0, 401, .inl (upd (fun _ => 0) 0 0))), (h4, .inr (4, [.ref h5, .ref h6, .ref h7, .int 0]))] := hD
  refine lv_aload_n hx hb d_Reader_takeCondition_11 rfl (lv_at hl1 0 rfl) ?_
  refine lv_aload_n hx hb d_Reader_takeCondition_12 rfl (lv_at hl1 1 rfl) ?_
  refine va_put (D := D) (ci := 7) (v := .ref h4) (ty := .object "TripleDesk$Nodes") (C := R_Reader) (T := F_Reader) (N := 5) hx hb hts i_Reader t_Reader t_Reader_ok n_Reader hown hK.1 hP hD hS 0 rfl rfl 2 (by decide) (hts _ wd_77) (fun _ h9 => h9) rfl (by decide +kernel) rfl rfl (Nat.le_of_ble_eq_true rfl) d_Reader_takeCondition_13 (fun H_7 locs hP hD hS => ?_)
  have hP : va_P D classes [(h0, .inr (7, [.ref h1, .null, .ref h4, .int 0, .int 0])), (h5, .inl (ax 1, 8, .inl (fun _ => 0))), (h6, .inl (ax 0, 8, .inl (fun _ => 0))), (h7, .inl (ax 0, 8, .inl (fun _ => 0))), (h1, .inr (9, [.ref h2, .ref h3, .int 0, .int 0, .int 0, .int (-1), .int 0, .int 0])), (h2, .inl (ax 1, 400, .inl (fun _ => 0))), (h3, .inl (ax 0, 401, .inl (upd (fun _ => 0) 0 0))), (h4, .inr (4, [.ref h5, .ref h6, .ref h7, .int 0]))] H_7 := hP
  have hD : va_D A [(h0, .inr (7, [.ref h1, .null, .ref h4, .int 0, .int 0])), (h5, .inl (ax 1, 8, .inl (fun _ => 0))), (h6, .inl (ax 0, 8, .inl (fun _ => 0))), (h7, .inl (ax 0, 8, .inl (fun _ => 0))), (h1, .inr (9, [.ref h2, .ref h3, .int 0, .int 0, .int 0, .int (-1), .int 0, .int 0])), (h2, .inl (ax 1, 400, .inl (fun _ => 0))), (h3, .inl (ax 0, 401, .inl (upd (fun _ => 0) 0 0))), (h4, .inr (4, [.ref h5, .ref h6, .ref h7, .int 0]))] := hD
  refine lv_aload_n hx hb d_Reader_takeCondition_16 rfl (lv_at hl1 0 rfl) ?_
  refine lv_iconst (v := 0) hx hb d_Reader_takeCondition_17 (by decide) ?_
  have hPc := hP.sub (ws' := [(h0, .inr (7, [.ref h1, .null, .ref h4, .int 0, .int 0])), (h1, .inr (9, [.ref h2, .ref h3, .int 0, .int 0, .int 0, .int (-1), .int 0, .int 0])), (h2, .inl (ax 1, 400, .inl (fun _ => 0))), (h3, .inl (ax 0, 401, .inl (upd (fun _ => 0) 0 0))), (h4, .inr (4, [.ref h5, .ref h6, .ref h7, .int 0])), (h5, .inl (ax 1, 8, .inl (fun _ => 0))), (h6, .inl (ax 0, 8, .inl (fun _ => 0))), (h7, .inl (ax 0, 8, .inl (fun _ => 0)))]) [0, 4, 5, 6, 7, 1, 2, 3] rfl
  have hDc := hD.sub (ws' := [(h0, .inr (7, [.ref h1, .null, .ref h4, .int 0, .int 0])), (h1, .inr (9, [.ref h2, .ref h3, .int 0, .int 0, .int 0, .int (-1), .int 0, .int 0])), (h2, .inl (ax 1, 400, .inl (fun _ => 0))), (h3, .inl (ax 0, 401, .inl (upd (fun _ => 0) 0 0))), (h4, .inr (4, [.ref h5, .ref h6, .ref h7, .int 0])), (h5, .inl (ax 1, 8, .inl (fun _ => 0))), (h6, .inl (ax 0, 8, .inl (fun _ => 0))), (h7, .inl (ax 0, 8, .inl (fun _ => 0)))]) [0, 4, 5, 6, 7, 1, 2, 3] (by decide) rfl
  have hFc := va_free (wc := [(h0, .inr (7, [.ref h1, .null, .ref h4, .int 0, .int 0])), (h1, .inr (9, [.ref h2, .ref h3, .int 0, .int 0, .int 0, .int (-1), .int 0, .int 0])), (h2, .inl (ax 1, 400, .inl (fun _ => 0))), (h3, .inl (ax 0, 401, .inl (upd (fun _ => 0) 0 0))), (h4, .inr (4, [.ref h5, .ref h6, .ref h7, .int 0])), (h5, .inl (ax 1, 8, .inl (fun _ => 0))), (h6, .inl (ax 0, 8, .inl (fun _ => 0))), (h7, .inl (ax 0, 8, .inl (fun _ => 0)))]) hD hS hA [0, 4, 5, 6, 7, 1, 2, 3] rfl
  have hz := xz_of hN hS
  refine va_calli (va_runV (As := [.int 0]) (rest := []) ⟨hx, hb, hml, hown, hts⟩ (c_Reader_condition l D ax h0 h1 h2 h3 h4 h5 h6 h7 H_7.size) (xcV (n := 1) hts wd_539 wd_3 wd_536 wd_538 ps_7 rfl rfl (by decide +kernel) ⟨Nat.le_of_ble_eq_true rfl, Nat.le_of_ble_eq_true rfl⟩) (xpV (ci := 7) (q0 := 0) (As := [.int 0]) hPc hK hz hDc rfl rfl) rfl rfl hl1.1 rfl (lv_room (Nat.le_of_ble_eq_true rfl)) d_Reader_takeCondition_18 ⟨Nat.le_of_ble_eq_true rfl, Nat.le_of_ble_eq_true rfl⟩) hS (fun q _ h => hFc q h) hFc (fun r_10 u_8 t H_9 locs ht hvm hw hB hz1 hk1 hS => ?_)
  try dsimp only at hw
  subst hw
  obtain ⟨hP1, hD1⟩ := hB
  rw [ht] at hP1
  obtain ⟨hP, hD⟩ := va_join (wr := []) (w1 := [(h0, .inr (7, [.ref h1, .null, .ref h4, .int 0, .int 1])), (h1, .inr (9, [.ref h2, .ref h3, .int 0, .int 0, .int 0, .int 0, .int 1, .int 0])), (h2, .inl (ax 1, 400, .inl (fun _ => 0))), (h3, .inl (ax 0, 401, .inl (upd (fun _ => 0) 0 0))), (h4, .inr (4, [.ref h5, .ref h6, .ref h7, .int 1])), (h5, .inl (ax 1, 8, .inl (upd (fun _ => 0) 0 0))), (h6, .inl (ax 0, 8, .inl (upd (fun _ => 0) 0 10))), (h7, .inl (ax 0, 8, .inl (upd (fun _ => 0) 0 10)))]) hP hD [0, 4, 5, 6, 7, 1, 2, 3] [] rfl rfl (by decide) (by decide) hk1 hFc hP1 hD1
  have hP : va_P D classes [(h0, .inr (7, [.ref h1, .null, .ref h4, .int 0, .int 1])), (h1, .inr (9, [.ref h2, .ref h3, .int 0, .int 0, .int 0, .int 0, .int 1, .int 0])), (h2, .inl (ax 1, 400, .inl (fun _ => 0))), (h3, .inl (ax 0, 401, .inl (upd (fun _ => 0) 0 0))), (h4, .inr (4, [.ref h5, .ref h6, .ref h7, .int 1])), (h5, .inl (ax 1, 8, .inl (upd (fun _ => 0) 0 0))), (h6, .inl (ax 0, 8, .inl (upd (fun _ => 0) 0 10))), (h7, .inl (ax 0, 8, .inl (upd (fun _ => 0) 0 10)))] H_9 := hP
  have hD : va_D A [(h0, .inr (7, [.ref h1, .null, .ref h4, .int 0, .int 1])), (h1, .inr (9, [.ref h2, .ref h3, .int 0, .int 0, .int 0, .int 0, .int 1, .int 0])), (h2, .inl (ax 1, 400, .inl (fun _ => 0))), (h3, .inl (ax 0, 401, .inl (upd (fun _ => 0) 0 0))), (h4, .inr (4, [.ref h5, .ref h6, .ref h7, .int 1])), (h5, .inl (ax 1, 8, .inl (upd (fun _ => 0) 0 0))), (h6, .inl (ax 0, 8, .inl (upd (fun _ => 0) 0 10))), (h7, .inl (ax 0, 8, .inl (upd (fun _ => 0) 0 10)))] := hD
  refine lv_pop hx hb d_Reader_takeCondition_21 rfl ?_
  refine lv_aload_n hx hb d_Reader_takeCondition_22 rfl (lv_at hl1 0 rfl) ?_
  refine va_get (D := D) (ci := 7) (v := .ref h1) (C := R_Reader) (T := F_Reader) (N := 5) hx hb hts i_Reader hown hK.1 hP 0 rfl rfl 0 (by decide) (hts _ wd_75) (fun _ h9 => h9) rfl d_Reader_takeCondition_23 ?_
  have hPc := hP.sub (ws' := [(h1, .inr (9, [.ref h2, .ref h3, .int 0, .int 0, .int 0, .int 0, .int 1, .int 0])), (h2, .inl (ax 1, 400, .inl (fun _ => 0))), (h3, .inl (ax 0, 401, .inl (upd (fun _ => 0) 0 0)))]) [1, 2, 3] rfl
  have hDc := hD.sub (ws' := [(h1, .inr (9, [.ref h2, .ref h3, .int 0, .int 0, .int 0, .int 0, .int 1, .int 0])), (h2, .inl (ax 1, 400, .inl (fun _ => 0))), (h3, .inl (ax 0, 401, .inl (upd (fun _ => 0) 0 0)))]) [1, 2, 3] (by decide) rfl
  have hFc := va_free (wc := [(h1, .inr (9, [.ref h2, .ref h3, .int 0, .int 0, .int 0, .int 0, .int 1, .int 0])), (h2, .inl (ax 1, 400, .inl (fun _ => 0))), (h3, .inl (ax 0, 401, .inl (upd (fun _ => 0) 0 0)))]) hD hS hA [1, 2, 3] rfl
  have hz := xz_of hN hS
  refine va_calli (va_runV (As := []) (rest := []) ⟨hx, hb, hml, hown, hts⟩ (c_Tokens_answer l D ax h1 h2 h3 H_9.size) (xcV (n := 0) hts wd_577 wd_2 wd_574 wd_575 wd_576 rfl rfl (by decide +kernel) ⟨Nat.le_of_ble_eq_true rfl, Nat.le_of_ble_eq_true rfl⟩) (xpV (ci := 9) (q0 := 0) (As := []) hPc hK hz hDc rfl rfl) rfl rfl hl1.1 rfl (lv_room (Nat.le_of_ble_eq_true rfl)) d_Reader_takeCondition_26 ⟨Nat.le_of_ble_eq_true rfl, Nat.le_of_ble_eq_true rfl⟩) hS (fun q _ h => hFc q h) hFc (fun r_13 u_11 t H_12 locs ht hvm hw hB hz1 hk1 hS => ?_)
  try dsimp only at hw
  subst hw
  obtain ⟨hP1, hD1⟩ := hB
  rw [ht] at hP1
  obtain ⟨hP, hD⟩ := va_join (wr := [(h0, .inr (7, [.ref h1, .null, .ref h4, .int 0, .int 1])), (h4, .inr (4, [.ref h5, .ref h6, .ref h7, .int 1])), (h5, .inl (ax 1, 8, .inl (upd (fun _ => 0) 0 0))), (h6, .inl (ax 0, 8, .inl (upd (fun _ => 0) 0 10))), (h7, .inl (ax 0, 8, .inl (upd (fun _ => 0) 0 10)))]) (w1 := [(h1, .inr (9, [.ref h2, .ref h3, .int 0, .int 0, .int 0, .int 0, .int 1, .int 0])), (h2, .inl (ax 1, 400, .inl (fun _ => 0))), (h3, .inl (ax 0, 401, .inl (upd (fun _ => 0) 0 0)))]) hP hD [1, 2, 3] [0, 4, 5, 6, 7] rfl rfl (by decide) (by decide) hk1 hFc hP1 hD1
  have hP : va_P D classes [(h0, .inr (7, [.ref h1, .null, .ref h4, .int 0, .int 1])), (h4, .inr (4, [.ref h5, .ref h6, .ref h7, .int 1])), (h5, .inl (ax 1, 8, .inl (upd (fun _ => 0) 0 0))), (h6, .inl (ax 0, 8, .inl (upd (fun _ => 0) 0 10))), (h7, .inl (ax 0, 8, .inl (upd (fun _ => 0) 0 10))), (h1, .inr (9, [.ref h2, .ref h3, .int 0, .int 0, .int 0, .int 0, .int 1, .int 0])), (h2, .inl (ax 1, 400, .inl (fun _ => 0))), (h3, .inl (ax 0, 401, .inl (upd (fun _ => 0) 0 0)))] H_12 := hP
  have hD : va_D A [(h0, .inr (7, [.ref h1, .null, .ref h4, .int 0, .int 1])), (h4, .inr (4, [.ref h5, .ref h6, .ref h7, .int 1])), (h5, .inl (ax 1, 8, .inl (upd (fun _ => 0) 0 0))), (h6, .inl (ax 0, 8, .inl (upd (fun _ => 0) 0 10))), (h7, .inl (ax 0, 8, .inl (upd (fun _ => 0) 0 10))), (h1, .inr (9, [.ref h2, .ref h3, .int 0, .int 0, .int 0, .int 0, .int 1, .int 0])), (h2, .inl (ax 1, 400, .inl (fun _ => 0))), (h3, .inl (ax 0, 401, .inl (upd (fun _ => 0) 0 0)))] := hD
  have hP9 := hP.sub (ws' := (fun u : Nat → Nat => [(h0, .inr (7, [.ref h1, .null, .ref h4, .int 0, .int 1])), (h1, .inr (9, [.ref h2, .ref h3, .int 0, .int 0, .int 0, .int 0, .int 1, .int 0])), (h2, .inl (ax 1, 400, .inl (fun _ => 0))), (h3, .inl (ax 0, 401, .inl (upd (fun _ => 0) 0 0))), (h4, .inr (4, [.ref h5, .ref h6, .ref h7, .int 1])), (h5, .inl (ax 1, 8, .inl (upd (fun _ => 0) 0 0))), (h6, .inl (ax 0, 8, .inl (upd (fun _ => 0) 0 10))), (h7, .inl (ax 0, 8, .inl (upd (fun _ => 0) 0 10)))]) (ixn [])) [0, 5, 6, 7, 1, 2, 3, 4] rfl
  have hD9 := hD.sub (ws' := (fun u : Nat → Nat => [(h0, .inr (7, [.ref h1, .null, .ref h4, .int 0, .int 1])), (h1, .inr (9, [.ref h2, .ref h3, .int 0, .int 0, .int 0, .int 0, .int 1, .int 0])), (h2, .inl (ax 1, 400, .inl (fun _ => 0))), (h3, .inl (ax 0, 401, .inl (upd (fun _ => 0) 0 0))), (h4, .inr (4, [.ref h5, .ref h6, .ref h7, .int 1])), (h5, .inl (ax 1, 8, .inl (upd (fun _ => 0) 0 0))), (h6, .inl (ax 0, 8, .inl (upd (fun _ => 0) 0 10))), (h7, .inl (ax 0, 8, .inl (upd (fun _ => 0) 0 10)))]) (ixn [])) [0, 5, 6, 7, 1, 2, 3, 4] (by decide) rfl
  exact W.iret (v := 1) hx hb hr (fun t ht hW => ⟨⟨1, ixn [], rfl, rfl, ⟨by rw [ht]; exact hP9, hD9⟩⟩, hS.F ht⟩) hS.2.2 d_Reader_takeCondition_29
