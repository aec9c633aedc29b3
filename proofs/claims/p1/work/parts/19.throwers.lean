set_option maxHeartbeats 4000000 in
set_option maxRecDepth 100000 in
theorem c_Tokens_append_bad (l : Launch) (D : va_G) (ax : Nat → ClassId) (h1 h2 h3 : Nat) (w : Int64) (n : Int32) (sz : Nat) (hq0 : n < 1 ∨ 8 < n) : Met l y_Tokens_append (xws (.code y_Tokens_append b_Tokens_append 5 (some .boolean))) ({ frames := 10, cells := 0, slots := 0, locals := 400 }) (va_Pc [.ref h1, .long w, .int n] (xo D ax [(h1, .inr (9, [.ref h2, .ref h3, .int 0, .int 0, .int 0, .int (-1), .int 0, .int 0])), (h2, .inl (ax 1, 400, .inl (fun _ => 0))), (h3, .inl (ax 0, 401, .inl (fun _ => 0)))] sz)) ((va_Qi (fun (r : Int32) (u : Nat → Nat) => r = 0) (fun (_ : Nat → Nat) (_ : State) => True) (va_A [(h1, .inr (9, [.ref h2, .ref h3, .int 0, .int 0, .int 0, .int (-1), .int 0, .int 0])), (h2, .inl (ax 1, 400, .inl (fun _ => 0))), (h3, .inl (ax 0, 401, .inl (fun _ => 0)))] sz))) 0 0 (va_A [(h1, .inr (9, [.ref h2, .ref h3, .int 0, .int 0, .int 0, .int (-1), .int 0, .int 0])), (h2, .inl (ax 1, 400, .inl (fun _ => 0))), (h3, .inl (ax 0, 401, .inl (fun _ => 0)))] sz) := by
  refine Met.ofW (cc := b_Tokens_append) (maxL := 5) (ret := (some .boolean)) (by decide) rfl ?_
  intro p e s m args below meth c s₁ B hml hv
  obtain ⟨rfl, hsz, hP, hK, hD0⟩ := hv
  have hx := B.exec
  have hb := B.bytes
  have hr := B.returns
  have hts := xw_hts B.pre
  have hown : s.vm.findClass R_Tokens = some m.cls := findClass_of_methodNamed B.named
  have hlocks := B.notSynchronized
  subst hsz
  have hD := hD0.self (sz := s.heap.size)
  have hN := xz_entry hP
  generalize hAe : va_A [(h1, .inr (9, [.ref h2, .ref h3, .int 0, .int 0, .int 0, .int (-1), .int 0, .int 0])), (h2, .inl (ax 1, 400, .inl (fun _ => 0))), (h3, .inl (ax 0, 401, .inl (fun _ => 0)))] s.heap.size = A at hD hN ⊢
  have hA : ∀ q : Nat, s.heap.size ≤ q → A q := fun q h => by rw [← hAe]; exact Or.inr h
  have hS : va_S A s.heap s.heap [] := va_S.rf
  have hl0 := lv_entry ([.ref h1, .long w, .int n]) (n := 5) (Nat.le_of_ble_eq_true rfl)
  rw [lg_entry_eq]
  generalize (lg_sl ([.ref h1, .long w, .int n]) ++ List.replicate (5 - (lg_sl ([.ref h1, .long w, .int n])).length) Slot.unset).toArray = ls at hl0 ⊢
  have hl1 : lv_has ls 5 [(0, .ref h1), (1, .long w), (3, .int n)] := hl0
  refine lv_iload_n hx hb d_Tokens_append_0 rfl (lv_at hl1 2 rfl) ?_
  refine lv_iconst (v := 1) hx hb d_Tokens_append_1 (by decide) ?_
  refine lv_icmp_lt (tgt := 23) hx hb d_Tokens_append_2 (by decide) (fun c_1 => ?_) (fun c_1 => ?_)
  · refine lv_iconst (v := 0) hx hb d_Tokens_append_23 (by decide) ?_
    exact W.zret (v := 0) hx hb hr rfl (fun t ht hW => ⟨⟨0, fun _ => 0, rfl, rfl, trivial⟩, hS.F ht⟩) hS.2.2 d_Tokens_append_24
  · refine lv_iload_n hx hb d_Tokens_append_5 rfl (lv_at hl1 2 rfl) ?_
    refine lv_bipush (v := 8) hx hb d_Tokens_append_6 (by decide) ?_
    refine lv_icmp_gt (tgt := 23) hx hb d_Tokens_append_8 (by decide) (fun c_2 => ?_) (fun c_2 => ?_)
    rotate_left
    · exact absurd (hq0.resolve_left (by assumption)) c_2
    refine lv_iconst (v := 0) hx hb d_Tokens_append_23 (by decide) ?_
    exact W.zret (v := 0) hx hb hr rfl (fun t ht hW => ⟨⟨0, fun _ => 0, rfl, rfl, trivial⟩, hS.F ht⟩) hS.2.2 d_Tokens_append_24
set_option maxHeartbeats 4000000 in
set_option maxRecDepth 100000 in
theorem c_Desk_type_bad (l : Launch) (D : va_G) (ax : Nat → ClassId) (d0 d1 d2 d3 d4 d5 d6 d7 d8 d9 d10 d11 d12 : Nat) (e1 e2 : Nat) (w : Int64) (n : Int32) (sz : Nat) (hq0 : n < 1 ∨ 8 < n) : Met l y_Desk_type (xws (.code y_Desk_type b_Desk_type 4 (some .boolean))) ({ frames := 20, cells := 0, slots := 0, locals := 800 }) (va_Pc [.ref d0, .long w, .int n] (xo D ax [(d0, .inr (10, [.ref d1, .ref d2, .ref d3, .ref d4, .ref d5, .ref d6, .ref d7, .ref d8, .ref d9, .ref d10, .ref d11, .ref d12, .int 0])), (d1, .inr (9, [.ref e1, .ref e2, .int 0, .int 0, .int 0, .int (-1), .int 0, .int 0])), (e1, .inl (ax 1, 400, .inl (fun _ => 0))), (e2, .inl (ax 0, 401, .inl (fun _ => 0)))] sz)) ((va_Qi (fun (r : Int32) (u : Nat → Nat) => r = 0) (fun (_ : Nat → Nat) (_ : State) => True) (va_A [(d0, .inr (10, [.ref d1, .ref d2, .ref d3, .ref d4, .ref d5, .ref d6, .ref d7, .ref d8, .ref d9, .ref d10, .ref d11, .ref d12, .int 0])), (d1, .inr (9, [.ref e1, .ref e2, .int 0, .int 0, .int 0, .int (-1), .int 0, .int 0])), (e1, .inl (ax 1, 400, .inl (fun _ => 0))), (e2, .inl (ax 0, 401, .inl (fun _ => 0)))] sz))) 0 0 (va_A [(d0, .inr (10, [.ref d1, .ref d2, .ref d3, .ref d4, .ref d5, .ref d6, .ref d7, .ref d8, .ref d9, .ref d10, .ref d11, .ref d12, .int 0])), (d1, .inr (9, [.ref e1, .ref e2, .int 0, .int 0, .int 0, .int (-1), .int 0, .int 0])), (e1, .inl (ax 1, 400, .inl (fun _ => 0))), (e2, .inl (ax 0, 401, .inl (fun _ => 0)))] sz) := by
  refine Met.ofW (cc := b_Desk_type) (maxL := 4) (ret := (some .boolean)) (by decide) rfl ?_
  intro p e s m args below meth c s₁ B hml hv
  obtain ⟨rfl, hsz, hP, hK, hD0⟩ := hv
  have hx := B.exec
  have hb := B.bytes
  have hr := B.returns
  have hts := xw_hts B.pre
  have hown : s.vm.findClass R_Desk = some m.cls := findClass_of_methodNamed B.named
  have hlocks := B.notSynchronized
  subst hsz
  have hD := hD0.self (sz := s.heap.size)
  have hN := xz_entry hP
  generalize hAe : va_A [(d0, .inr (10, [.ref d1, .ref d2, .ref d3, .ref d4, .ref d5, .ref d6, .ref d7, .ref d8, .ref d9, .ref d10, .ref d11, .ref d12, .int 0])), (d1, .inr (9, [.ref e1, .ref e2, .int 0, .int 0, .int 0, .int (-1), .int 0, .int 0])), (e1, .inl (ax 1, 400, .inl (fun _ => 0))), (e2, .inl (ax 0, 401, .inl (fun _ => 0)))] s.heap.size = A at hD hN ⊢
  have hA : ∀ q : Nat, s.heap.size ≤ q → A q := fun q h => by rw [← hAe]; exact Or.inr h
  have hS : va_S A s.heap s.heap [] := va_S.rf
  have hl0 := lv_entry ([.ref d0, .long w, .int n]) (n := 4) (Nat.le_of_ble_eq_true rfl)
  rw [lg_entry_eq]
  generalize (lg_sl ([.ref d0, .long w, .int n]) ++ List.replicate (4 - (lg_sl ([.ref d0, .long w, .int n])).length) Slot.unset).toArray = ls at hl0 ⊢
  have hl1 : lv_has ls 4 [(0, .ref d0), (1, .long w), (3, .int n)] := hl0
  refine lv_aload_n hx hb d_Desk_type_0 rfl (lv_at hl1 0 rfl) ?_
  refine va_get (D := D) (ci := 10) (v := .ref d1) (C := R_Desk) (T := F_Desk) (N := 13) hx hb hts i_Desk hown hK.1 hP 0 rfl rfl 0 (by decide) (hts _ wd_375) (fun _ h9 => h9) rfl d_Desk_type_1 ?_
  refine lv_lload_n hx hb d_Desk_type_4 rfl (lv_at hl1 1 rfl) ?_
  refine lv_iload_n hx hb d_Desk_type_5 rfl (lv_at hl1 2 rfl) ?_
  have hPc := hP.sub (ws' := [(d1, .inr (9, [.ref e1, .ref e2, .int 0, .int 0, .int 0, .int (-1), .int 0, .int 0])), (e1, .inl (ax 1, 400, .inl (fun _ => 0))), (e2, .inl (ax 0, 401, .inl (fun _ => 0)))]) [1, 2, 3] rfl
  have hDc := hD.sub (ws' := [(d1, .inr (9, [.ref e1, .ref e2, .int 0, .int 0, .int 0, .int (-1), .int 0, .int 0])), (e1, .inl (ax 1, 400, .inl (fun _ => 0))), (e2, .inl (ax 0, 401, .inl (fun _ => 0)))]) [1, 2, 3] (by decide) rfl
  have hFc := va_free (wc := [(d1, .inr (9, [.ref e1, .ref e2, .int 0, .int 0, .int 0, .int (-1), .int 0, .int 0])), (e1, .inl (ax 1, 400, .inl (fun _ => 0))), (e2, .inl (ax 0, 401, .inl (fun _ => 0)))]) hD hS hA [1, 2, 3] rfl
  have hz := xz_of hN hS
  refine va_calli (va_runV (As := [.long w, .int n]) (rest := []) ⟨hx, hb, hml, hown, hts⟩ (c_Tokens_append_bad l D ax d1 e1 e2 w n s.heap.size hq0) (xcV (n := 2) hts wd_422 wd_2 wd_419 wd_420 wd_421 rfl rfl (by decide +kernel) ⟨Nat.le_of_ble_eq_true rfl, Nat.le_of_ble_eq_true rfl⟩) (xpV (ci := 9) (q0 := 0) (As := [.long w, .int n]) hPc hK hz hDc rfl rfl) rfl rfl hl1.1 rfl (lv_room (Nat.le_of_ble_eq_true rfl)) d_Desk_type_6 ⟨Nat.le_of_ble_eq_true rfl, Nat.le_of_ble_eq_true rfl⟩) hS (fun q _ h => hFc q h) hFc (fun r_3 u_1 t H_2 locs ht hvm hw hB hz1 hk1 hS => ?_)
  try dsimp only at hw
  subst hw
  obtain ⟨hP, hD⟩ := va_join (wr := [(d0, .inr (10, [.ref d1, .ref d2, .ref d3, .ref d4, .ref d5, .ref d6, .ref d7, .ref d8, .ref d9, .ref d10, .ref d11, .ref d12, .int 0]))]) (w1 := []) hP hD [1, 2, 3] [0] rfl rfl (by decide) (by decide) hk1 hFc x_nilP x_nilD
  have hP : va_P D classes [(d0, .inr (10, [.ref d1, .ref d2, .ref d3, .ref d4, .ref d5, .ref d6, .ref d7, .ref d8, .ref d9, .ref d10, .ref d11, .ref d12, .int 0]))] H_2 := hP
  have hD : va_D A [(d0, .inr (10, [.ref d1, .ref d2, .ref d3, .ref d4, .ref d5, .ref d6, .ref d7, .ref d8, .ref d9, .ref d10, .ref d11, .ref d12, .int 0]))] := hD
  exact W.zret (v := 0) hx hb hr rfl (fun t ht hW => ⟨⟨0, fun _ => 0, rfl, rfl, trivial⟩, hS.F ht⟩) hS.2.2 d_Desk_type_9
abbrev b_Desk_needProgram : ByteArray := prog_1_method_17_code
def y_Desk_needProgram : MethodName := ⟨R_Desk, "needProgram", "()V"⟩
theorem d_Desk_needProgram_0 : decode b_Desk_needProgram 0 = .ok (.aload_n 0, 1) := by decide +kernel
theorem d_Desk_needProgram_1 : decode b_Desk_needProgram 1 = .ok (.getfield 102, 3) := by decide +kernel
theorem d_Desk_needProgram_4 : decode b_Desk_needProgram 4 = .ok (.ifCond .ne 11, 3) := by decide +kernel
theorem d_Desk_needProgram_7 : decode b_Desk_needProgram 7 = .ok (.new 147, 3) := by decide +kernel
theorem d_Desk_needProgram_10 : decode b_Desk_needProgram 10 = .ok (.dup, 1) := by decide +kernel
theorem d_Desk_needProgram_11 : decode b_Desk_needProgram 11 = .ok (.invokespecial 149, 3) := by decide +kernel
theorem d_Desk_needProgram_14 : decode b_Desk_needProgram 14 = .ok (.athrow, 1) := by decide +kernel
set_option maxHeartbeats 4000000 in
set_option maxRecDepth 100000 in
theorem c_Desk_needProgram (l : Launch) (hl : l.stackTraces = false) (D : va_G) (ax : Nat → ClassId) (d0 d1 d2 d3 d4 d5 d6 d7 d8 d9 d10 d11 d12 : Nat) (sz : Nat) : xt_Met l y_Desk_needProgram (xws (.code y_Desk_needProgram b_Desk_needProgram 1 none)) ({ frames := 10, cells := 1, slots := 6, locals := 400 }) (va_Pc [.ref d0] (xo D ax [(d0, .inr (10, [.ref d1, .ref d2, .ref d3, .ref d4, .ref d5, .ref d6, .ref d7, .ref d8, .ref d9, .ref d10, .ref d11, .ref d12, .int 0]))] sz)) (xt_T "java/lang/IllegalStateException") 1 6 (va_A [(d0, .inr (10, [.ref d1, .ref d2, .ref d3, .ref d4, .ref d5, .ref d6, .ref d7, .ref d8, .ref d9, .ref d10, .ref d11, .ref d12, .int 0]))] sz) := by
  refine xt_Met.ofW (cc := b_Desk_needProgram) (maxL := 1) (ret := none) (by decide) rfl ?_
  intro p e s m args below meth c s₁ B hml hout hv
  obtain ⟨rfl, hsz, hP, hK, hD0⟩ := hv
  have hx := B.exec
  have hb := B.bytes
  have hr := B.returns
  have hts := xw_hts B.pre
  have hown : s.vm.findClass R_Desk = some m.cls := findClass_of_methodNamed B.named
  have hlocks := B.notSynchronized
  have htr : e.platform.stackTraces = false := by rw [B.admits.platform]; exact hl
  subst hsz
  have hD := hD0.self (sz := s.heap.size)
  have hN := xz_entry hP
  generalize hAe : va_A [(d0, .inr (10, [.ref d1, .ref d2, .ref d3, .ref d4, .ref d5, .ref d6, .ref d7, .ref d8, .ref d9, .ref d10, .ref d11, .ref d12, .int 0]))] s.heap.size = A at hD hN ⊢
  have hA : ∀ q : Nat, s.heap.size ≤ q → A q := fun q h => by rw [← hAe]; exact Or.inr h
  have hS : va_S A s.heap s.heap [] := va_S.rf
  have hl0 := lv_entry ([.ref d0]) (n := 1) (Nat.le_of_ble_eq_true rfl)
  rw [lg_entry_eq]
  generalize (lg_sl ([.ref d0]) ++ List.replicate (1 - (lg_sl ([.ref d0])).length) Slot.unset).toArray = ls at hl0 ⊢
  have hl1 : lv_has ls 1 [(0, .ref d0)] := hl0
  refine lv_aload_n hx hb d_Desk_needProgram_0 rfl (lv_at hl1 0 rfl) ?_
  refine va_get (D := D) (ci := 10) (v := .int 0) (C := R_Desk) (T := F_Desk) (N := 13) hx hb hts i_Desk hown hK.1 hP 0 rfl rfl 12 (by decide) (hts _ wd_387) (fun _ h9 => h9) rfl d_Desk_needProgram_1 ?_
  refine lv_if_ne (tgt := 15) hx hb d_Desk_needProgram_4 (by decide) (fun c_1 => ?_) (fun c_1 => ?_)
  · first | exact absurd c_1 (by decide) | exact absurd (by decide) c_1
  exact xt_new (names := xe_nm) hx hb htr hown (by decide +kernel) (by decide +kernel) (hts _ wd_666) (hts _ wd_23) (xe_ISE_Desk hts hK) (hl1.1.trans hml.symm) d_Desk_needProgram_7 d_Desk_needProgram_10 d_Desk_needProgram_11 d_Desk_needProgram_14 hout (Nat.le_of_ble_eq_true rfl) (Nat.le_of_ble_eq_true rfl) (Nat.le_of_ble_eq_true rfl) (Nat.le_of_ble_eq_true rfl) hlocks rfl
abbrev b_Desk_needClaim : ByteArray := prog_1_method_18_code
def y_Desk_needClaim : MethodName := ⟨R_Desk, "needClaim", "(I)V"⟩
theorem d_Desk_needClaim_0 : decode b_Desk_needClaim 0 = .ok (.aload_n 0, 1) := by decide +kernel
theorem d_Desk_needClaim_1 : decode b_Desk_needClaim 1 = .ok (.invokevirtual 109, 3) := by decide +kernel
set_option maxHeartbeats 4000000 in
set_option maxRecDepth 100000 in
theorem c_Desk_needClaim (l : Launch) (hl : l.stackTraces = false) (D : va_G) (ax : Nat → ClassId) (d0 d1 d2 d3 d4 d5 d6 d7 d8 d9 d10 d11 d12 : Nat) (x1 : Int32) (sz : Nat) : xt_Met l y_Desk_needClaim (xws (.code y_Desk_needClaim b_Desk_needClaim 2 none)) ({ frames := 20, cells := 1, slots := 6, locals := 800 }) (va_Pc [.ref d0, .int x1] (xo D ax [(d0, .inr (10, [.ref d1, .ref d2, .ref d3, .ref d4, .ref d5, .ref d6, .ref d7, .ref d8, .ref d9, .ref d10, .ref d11, .ref d12, .int 0]))] sz)) (xt_T "java/lang/IllegalStateException") 1 6 (va_A [(d0, .inr (10, [.ref d1, .ref d2, .ref d3, .ref d4, .ref d5, .ref d6, .ref d7, .ref d8, .ref d9, .ref d10, .ref d11, .ref d12, .int 0]))] sz) := by
  refine xt_Met.ofW (cc := b_Desk_needClaim) (maxL := 2) (ret := none) (by decide) rfl ?_
  intro p e s m args below meth c s₁ B hml hout hv
  obtain ⟨rfl, hsz, hP, hK, hD0⟩ := hv
  have hx := B.exec
  have hb := B.bytes
  have hr := B.returns
  have hts := xw_hts B.pre
  have hown : s.vm.findClass R_Desk = some m.cls := findClass_of_methodNamed B.named
  have hlocks := B.notSynchronized
  have htr : e.platform.stackTraces = false := by rw [B.admits.platform]; exact hl
  subst hsz
  have hD := hD0.self (sz := s.heap.size)
  have hN := xz_entry hP
  generalize hAe : va_A [(d0, .inr (10, [.ref d1, .ref d2, .ref d3, .ref d4, .ref d5, .ref d6, .ref d7, .ref d8, .ref d9, .ref d10, .ref d11, .ref d12, .int 0]))] s.heap.size = A at hD hN ⊢
  have hA : ∀ q : Nat, s.heap.size ≤ q → A q := fun q h => by rw [← hAe]; exact Or.inr h
  have hS : va_S A s.heap s.heap [] := va_S.rf
  have hl0 := lv_entry ([.ref d0, .int x1]) (n := 2) (Nat.le_of_ble_eq_true rfl)
  rw [lg_entry_eq]
  generalize (lg_sl ([.ref d0, .int x1]) ++ List.replicate (2 - (lg_sl ([.ref d0, .int x1])).length) Slot.unset).toArray = ls at hl0 ⊢
  have hl1 : lv_has ls 2 [(0, .ref d0), (1, .int x1)] := hl0
  refine lv_aload_n hx hb d_Desk_needClaim_0 rfl (lv_at hl1 0 rfl) ?_
  have hPc := hP.sub (ws' := [(d0, .inr (10, [.ref d1, .ref d2, .ref d3, .ref d4, .ref d5, .ref d6, .ref d7, .ref d8, .ref d9, .ref d10, .ref d11, .ref d12, .int 0]))]) [0] rfl
  have hDc := hD.sub (ws' := [(d0, .inr (10, [.ref d1, .ref d2, .ref d3, .ref d4, .ref d5, .ref d6, .ref d7, .ref d8, .ref d9, .ref d10, .ref d11, .ref d12, .int 0]))]) [0] (by decide) rfl
  have hFc := va_free (wc := [(d0, .inr (10, [.ref d1, .ref d2, .ref d3, .ref d4, .ref d5, .ref d6, .ref d7, .ref d8, .ref d9, .ref d10, .ref d11, .ref d12, .int 0]))]) hD hS hA [0] rfl
  have hz := xz_of hN hS
  exact xt_out (xt_runV (As := []) (rest := []) ⟨hx, hb, hml, hown, hts⟩ (c_Desk_needProgram l hl D ax d0 d1 d2 d3 d4 d5 d6 d7 d8 d9 d10 d11 d12 s.heap.size) (xcV (n := 0) hts wd_665 wd_1 wd_662 wd_664 ps_19 rfl rfl (by decide +kernel) ⟨Nat.le_of_ble_eq_true rfl, Nat.le_of_ble_eq_true rfl⟩) (xpV (ci := 10) (q0 := 0) (As := []) hPc hK hz hDc rfl rfl) rfl rfl hl1.1 rfl (lv_room (Nat.le_of_ble_eq_true rfl)) d_Desk_needClaim_1 ⟨Nat.le_of_ble_eq_true rfl, Nat.le_of_ble_eq_true rfl⟩) hout hlocks (Nat.le_refl _) (fun _ _ => rfl) (fun q hq => by cases hq) hFc
abbrev b_Desk_conditions : ByteArray := prog_1_method_6_code
def y_Desk_conditions : MethodName := ⟨R_Desk, "conditions", "()I"⟩
theorem d_Desk_conditions_0 : decode b_Desk_conditions 0 = .ok (.aload_n 0, 1) := by decide +kernel
theorem d_Desk_conditions_1 : decode b_Desk_conditions 1 = .ok (.invokevirtual 109, 3) := by decide +kernel
set_option maxHeartbeats 4000000 in
set_option maxRecDepth 100000 in
theorem c_Desk_conditions (l : Launch) (hl : l.stackTraces = false) (D : va_G) (ax : Nat → ClassId) (d0 d1 d2 d3 d4 d5 d6 d7 d8 d9 d10 d11 d12 : Nat) (sz : Nat) : xt_Met l y_Desk_conditions (xws (.code y_Desk_conditions b_Desk_conditions 1 (some .int))) ({ frames := 20, cells := 1, slots := 6, locals := 800 }) (va_Pc [.ref d0] (xo D ax [(d0, .inr (10, [.ref d1, .ref d2, .ref d3, .ref d4, .ref d5, .ref d6, .ref d7, .ref d8, .ref d9, .ref d10, .ref d11, .ref d12, .int 0]))] sz)) (xt_T "java/lang/IllegalStateException") 1 6 (va_A [(d0, .inr (10, [.ref d1, .ref d2, .ref d3, .ref d4, .ref d5, .ref d6, .ref d7, .ref d8, .ref d9, .ref d10, .ref d11, .ref d12, .int 0]))] sz) := by
  refine xt_Met.ofW (cc := b_Desk_conditions) (maxL := 1) (ret := (some .int)) (by decide) rfl ?_
  intro p e s m args below meth c s₁ B hml hout hv
  obtain ⟨rfl, hsz, hP, hK, hD0⟩ := hv
  have hx := B.exec
  have hb := B.bytes
  have hr := B.returns
  have hts := xw_hts B.pre
  have hown : s.vm.findClass R_Desk = some m.cls := findClass_of_methodNamed B.named
  have hlocks := B.notSynchronized
  have htr : e.platform.stackTraces = false := by rw [B.admits.platform]; exact hl
  subst hsz
  have hD := hD0.self (sz := s.heap.size)
  have hN := xz_entry hP
  generalize hAe : va_A [(d0, .inr (10, [.ref d1, .ref d2, .ref d3, .ref d4, .ref d5, .ref d6, .ref d7, .ref d8, .ref d9, .ref d10, .ref d11, .ref d12, .int 0]))] s.heap.size = A at hD hN ⊢
  have hA : ∀ q : Nat, s.heap.size ≤ q → A q := fun q h => by rw [← hAe]; exact Or.inr h
  have hS : va_S A s.heap s.heap [] := va_S.rf
  have hl0 := lv_entry ([.ref d0]) (n := 1) (Nat.le_of_ble_eq_true rfl)
  rw [lg_entry_eq]
  generalize (lg_sl ([.ref d0]) ++ List.replicate (1 - (lg_sl ([.ref d0])).length) Slot.unset).toArray = ls at hl0 ⊢
  have hl1 : lv_has ls 1 [(0, .ref d0)] := hl0
  refine lv_aload_n hx hb d_Desk_conditions_0 rfl (lv_at hl1 0 rfl) ?_
  have hPc := hP.sub (ws' := [(d0, .inr (10, [.ref d1, .ref d2, .ref d3, .ref d4, .ref d5, .ref d6, .ref d7, .ref d8, .ref d9, .ref d10, .ref d11, .ref d12, .int 0]))]) [0] rfl
  have hDc := hD.sub (ws' := [(d0, .inr (10, [.ref d1, .ref d2, .ref d3, .ref d4, .ref d5, .ref d6, .ref d7, .ref d8, .ref d9, .ref d10, .ref d11, .ref d12, .int 0]))]) [0] (by decide) rfl
  have hFc := va_free (wc := [(d0, .inr (10, [.ref d1, .ref d2, .ref d3, .ref d4, .ref d5, .ref d6, .ref d7, .ref d8, .ref d9, .ref d10, .ref d11, .ref d12, .int 0]))]) hD hS hA [0] rfl
  have hz := xz_of hN hS
  exact xt_out (xt_runV (As := []) (rest := []) ⟨hx, hb, hml, hown, hts⟩ (c_Desk_needProgram l hl D ax d0 d1 d2 d3 d4 d5 d6 d7 d8 d9 d10 d11 d12 s.heap.size) (xcV (n := 0) hts wd_665 wd_1 wd_662 wd_664 ps_19 rfl rfl (by decide +kernel) ⟨Nat.le_of_ble_eq_true rfl, Nat.le_of_ble_eq_true rfl⟩) (xpV (ci := 10) (q0 := 0) (As := []) hPc hK hz hDc rfl rfl) rfl rfl hl1.1 rfl (lv_room (Nat.le_of_ble_eq_true rfl)) d_Desk_conditions_1 ⟨Nat.le_of_ble_eq_true rfl, Nat.le_of_ble_eq_true rfl⟩) hout hlocks (Nat.le_refl _) (fun _ _ => rfl) (fun q hq => by cases hq) hFc
abbrev b_Desk_about : ByteArray := prog_1_method_7_code
def y_Desk_about : MethodName := ⟨R_Desk, "about", "(II)I"⟩
theorem d_Desk_about_0 : decode b_Desk_about 0 = .ok (.aload_n 0, 1) := by decide +kernel
theorem d_Desk_about_1 : decode b_Desk_about 1 = .ok (.iload_n 1, 1) := by decide +kernel
theorem d_Desk_about_2 : decode b_Desk_about 2 = .ok (.invokevirtual 116, 3) := by decide +kernel
set_option maxHeartbeats 4000000 in
set_option maxRecDepth 100000 in
theorem c_Desk_about (l : Launch) (hl : l.stackTraces = false) (D : va_G) (ax : Nat → ClassId) (d0 d1 d2 d3 d4 d5 d6 d7 d8 d9 d10 d11 d12 : Nat) (x1 x2 : Int32) (sz : Nat) : xt_Met l y_Desk_about (xws (.code y_Desk_about b_Desk_about 3 (some .int))) ({ frames := 30, cells := 1, slots := 6, locals := 1200 }) (va_Pc [.ref d0, .int x1, .int x2] (xo D ax [(d0, .inr (10, [.ref d1, .ref d2, .ref d3, .ref d4, .ref d5, .ref d6, .ref d7, .ref d8, .ref d9, .ref d10, .ref d11, .ref d12, .int 0]))] sz)) (xt_T "java/lang/IllegalStateException") 1 6 (va_A [(d0, .inr (10, [.ref d1, .ref d2, .ref d3, .ref d4, .ref d5, .ref d6, .ref d7, .ref d8, .ref d9, .ref d10, .ref d11, .ref d12, .int 0]))] sz) := by
  refine xt_Met.ofW (cc := b_Desk_about) (maxL := 3) (ret := (some .int)) (by decide) rfl ?_
  intro p e s m args below meth c s₁ B hml hout hv
  obtain ⟨rfl, hsz, hP, hK, hD0⟩ := hv
  have hx := B.exec
  have hb := B.bytes
  have hr := B.returns
  have hts := xw_hts B.pre
  have hown : s.vm.findClass R_Desk = some m.cls := findClass_of_methodNamed B.named
  have hlocks := B.notSynchronized
  have htr : e.platform.stackTraces = false := by rw [B.admits.platform]; exact hl
  subst hsz
  have hD := hD0.self (sz := s.heap.size)
  have hN := xz_entry hP
  generalize hAe : va_A [(d0, .inr (10, [.ref d1, .ref d2, .ref d3, .ref d4, .ref d5, .ref d6, .ref d7, .ref d8, .ref d9, .ref d10, .ref d11, .ref d12, .int 0]))] s.heap.size = A at hD hN ⊢
  have hA : ∀ q : Nat, s.heap.size ≤ q → A q := fun q h => by rw [← hAe]; exact Or.inr h
  have hS : va_S A s.heap s.heap [] := va_S.rf
  have hl0 := lv_entry ([.ref d0, .int x1, .int x2]) (n := 3) (Nat.le_of_ble_eq_true rfl)
  rw [lg_entry_eq]
  generalize (lg_sl ([.ref d0, .int x1, .int x2]) ++ List.replicate (3 - (lg_sl ([.ref d0, .int x1, .int x2])).length) Slot.unset).toArray = ls at hl0 ⊢
  have hl1 : lv_has ls 3 [(0, .ref d0), (1, .int x1), (2, .int x2)] := hl0
  refine lv_aload_n hx hb d_Desk_about_0 rfl (lv_at hl1 0 rfl) ?_
  refine lv_iload_n hx hb d_Desk_about_1 rfl (lv_at hl1 1 rfl) ?_
  have hPc := hP.sub (ws' := [(d0, .inr (10, [.ref d1, .ref d2, .ref d3, .ref d4, .ref d5, .ref d6, .ref d7, .ref d8, .ref d9, .ref d10, .ref d11, .ref d12, .int 0]))]) [0] rfl
  have hDc := hD.sub (ws' := [(d0, .inr (10, [.ref d1, .ref d2, .ref d3, .ref d4, .ref d5, .ref d6, .ref d7, .ref d8, .ref d9, .ref d10, .ref d11, .ref d12, .int 0]))]) [0] (by decide) rfl
  have hFc := va_free (wc := [(d0, .inr (10, [.ref d1, .ref d2, .ref d3, .ref d4, .ref d5, .ref d6, .ref d7, .ref d8, .ref d9, .ref d10, .ref d11, .ref d12, .int 0]))]) hD hS hA [0] rfl
  have hz := xz_of hN hS
  exact xt_out (xt_runV (As := [.int x1]) (rest := []) ⟨hx, hb, hml, hown, hts⟩ (c_Desk_needClaim l hl D ax d0 d1 d2 d3 d4 d5 d6 d7 d8 d9 d10 d11 d12 x1 s.heap.size) (xcV (n := 1) hts wd_740 wd_1 wd_737 wd_739 ps_21 rfl rfl (by decide +kernel) ⟨Nat.le_of_ble_eq_true rfl, Nat.le_of_ble_eq_true rfl⟩) (xpV (ci := 10) (q0 := 0) (As := [.int x1]) hPc hK hz hDc rfl rfl) rfl rfl hl1.1 rfl (lv_room (Nat.le_of_ble_eq_true rfl)) d_Desk_about_2 ⟨Nat.le_of_ble_eq_true rfl, Nat.le_of_ble_eq_true rfl⟩) hout hlocks (Nat.le_refl _) (fun _ _ => rfl) (fun q hq => by cases hq) hFc
abbrev b_Desk_valid : ByteArray := prog_1_method_8_code
def y_Desk_valid : MethodName := ⟨R_Desk, "valid", "(I)I"⟩
theorem d_Desk_valid_0 : decode b_Desk_valid 0 = .ok (.aload_n 0, 1) := by decide +kernel
theorem d_Desk_valid_1 : decode b_Desk_valid 1 = .ok (.iload_n 1, 1) := by decide +kernel
theorem d_Desk_valid_2 : decode b_Desk_valid 2 = .ok (.invokevirtual 116, 3) := by decide +kernel
set_option maxHeartbeats 4000000 in
set_option maxRecDepth 100000 in
theorem c_Desk_valid (l : Launch) (hl : l.stackTraces = false) (D : va_G) (ax : Nat → ClassId) (d0 d1 d2 d3 d4 d5 d6 d7 d8 d9 d10 d11 d12 : Nat) (x1 : Int32) (sz : Nat) : xt_Met l y_Desk_valid (xws (.code y_Desk_valid b_Desk_valid 2 (some .int))) ({ frames := 30, cells := 1, slots := 6, locals := 1200 }) (va_Pc [.ref d0, .int x1] (xo D ax [(d0, .inr (10, [.ref d1, .ref d2, .ref d3, .ref d4, .ref d5, .ref d6, .ref d7, .ref d8, .ref d9, .ref d10, .ref d11, .ref d12, .int 0]))] sz)) (xt_T "java/lang/IllegalStateException") 1 6 (va_A [(d0, .inr (10, [.ref d1, .ref d2, .ref d3, .ref d4, .ref d5, .ref d6, .ref d7, .ref d8, .ref d9, .ref d10, .ref d11, .ref d12, .int 0]))] sz) := by
  refine xt_Met.ofW (cc := b_Desk_valid) (maxL := 2) (ret := (some .int)) (by decide) rfl ?_
  intro p e s m args below meth c s₁ B hml hout hv
  obtain ⟨rfl, hsz, hP, hK, hD0⟩ := hv
  have hx := B.exec
  have hb := B.bytes
  have hr := B.returns
  have hts := xw_hts B.pre
  have hown : s.vm.findClass R_Desk = some m.cls := findClass_of_methodNamed B.named
  have hlocks := B.notSynchronized
  have htr : e.platform.stackTraces = false := by rw [B.admits.platform]; exact hl
  subst hsz
  have hD := hD0.self (sz := s.heap.size)
  have hN := xz_entry hP
  generalize hAe : va_A [(d0, .inr (10, [.ref d1, .ref d2, .ref d3, .ref d4, .ref d5, .ref d6, .ref d7, .ref d8, .ref d9, .ref d10, .ref d11, .ref d12, .int 0]))] s.heap.size = A at hD hN ⊢
  have hA : ∀ q : Nat, s.heap.size ≤ q → A q := fun q h => by rw [← hAe]; exact Or.inr h
  have hS : va_S A s.heap s.heap [] := va_S.rf
  have hl0 := lv_entry ([.ref d0, .int x1]) (n := 2) (Nat.le_of_ble_eq_true rfl)
  rw [lg_entry_eq]
  generalize (lg_sl ([.ref d0, .int x1]) ++ List.replicate (2 - (lg_sl ([.ref d0, .int x1])).length) Slot.unset).toArray = ls at hl0 ⊢
  have hl1 : lv_has ls 2 [(0, .ref d0), (1, .int x1)] := hl0
  refine lv_aload_n hx hb d_Desk_valid_0 rfl (lv_at hl1 0 rfl) ?_
  refine lv_iload_n hx hb d_Desk_valid_1 rfl (lv_at hl1 1 rfl) ?_
  have hPc := hP.sub (ws' := [(d0, .inr (10, [.ref d1, .ref d2, .ref d3, .ref d4, .ref d5, .ref d6, .ref d7, .ref d8, .ref d9, .ref d10, .ref d11, .ref d12, .int 0]))]) [0] rfl
  have hDc := hD.sub (ws' := [(d0, .inr (10, [.ref d1, .ref d2, .ref d3, .ref d4, .ref d5, .ref d6, .ref d7, .ref d8, .ref d9, .ref d10, .ref d11, .ref d12, .int 0]))]) [0] (by decide) rfl
  have hFc := va_free (wc := [(d0, .inr (10, [.ref d1, .ref d2, .ref d3, .ref d4, .ref d5, .ref d6, .ref d7, .ref d8, .ref d9, .ref d10, .ref d11, .ref d12, .int 0]))]) hD hS hA [0] rfl
  have hz := xz_of hN hS
  exact xt_out (xt_runV (As := [.int x1]) (rest := []) ⟨hx, hb, hml, hown, hts⟩ (c_Desk_needClaim l hl D ax d0 d1 d2 d3 d4 d5 d6 d7 d8 d9 d10 d11 d12 x1 s.heap.size) (xcV (n := 1) hts wd_740 wd_1 wd_737 wd_739 ps_21 rfl rfl (by decide +kernel) ⟨Nat.le_of_ble_eq_true rfl, Nat.le_of_ble_eq_true rfl⟩) (xpV (ci := 10) (q0 := 0) (As := [.int x1]) hPc hK hz hDc rfl rfl) rfl rfl hl1.1 rfl (lv_room (Nat.le_of_ble_eq_true rfl)) d_Desk_valid_2 ⟨Nat.le_of_ble_eq_true rfl, Nat.le_of_ble_eq_true rfl⟩) hout hlocks (Nat.le_refl _) (fun _ _ => rfl) (fun q hq => by cases hq) hFc
abbrev b_Desk_proved : ByteArray := prog_1_method_9_code
def y_Desk_proved : MethodName := ⟨R_Desk, "proved", "()Z"⟩
theorem d_Desk_proved_0 : decode b_Desk_proved 0 = .ok (.aload_n 0, 1) := by decide +kernel
theorem d_Desk_proved_1 : decode b_Desk_proved 1 = .ok (.invokevirtual 109, 3) := by decide +kernel
set_option maxHeartbeats 4000000 in
set_option maxRecDepth 100000 in
theorem c_Desk_proved (l : Launch) (hl : l.stackTraces = false) (D : va_G) (ax : Nat → ClassId) (d0 d1 d2 d3 d4 d5 d6 d7 d8 d9 d10 d11 d12 : Nat) (sz : Nat) : xt_Met l y_Desk_proved (xws (.code y_Desk_proved b_Desk_proved 3 (some .boolean))) ({ frames := 20, cells := 1, slots := 6, locals := 800 }) (va_Pc [.ref d0] (xo D ax [(d0, .inr (10, [.ref d1, .ref d2, .ref d3, .ref d4, .ref d5, .ref d6, .ref d7, .ref d8, .ref d9, .ref d10, .ref d11, .ref d12, .int 0]))] sz)) (xt_T "java/lang/IllegalStateException") 1 6 (va_A [(d0, .inr (10, [.ref d1, .ref d2, .ref d3, .ref d4, .ref d5, .ref d6, .ref d7, .ref d8, .ref d9, .ref d10, .ref d11, .ref d12, .int 0]))] sz) := by
  refine xt_Met.ofW (cc := b_Desk_proved) (maxL := 3) (ret := (some .boolean)) (by decide) rfl ?_
  intro p e s m args below meth c s₁ B hml hout hv
  obtain ⟨rfl, hsz, hP, hK, hD0⟩ := hv
  have hx := B.exec
  have hb := B.bytes
  have hr := B.returns
  have hts := xw_hts B.pre
  have hown : s.vm.findClass R_Desk = some m.cls := findClass_of_methodNamed B.named
  have hlocks := B.notSynchronized
  have htr : e.platform.stackTraces = false := by rw [B.admits.platform]; exact hl
  subst hsz
  have hD := hD0.self (sz := s.heap.size)
  have hN := xz_entry hP
  generalize hAe : va_A [(d0, .inr (10, [.ref d1, .ref d2, .ref d3, .ref d4, .ref d5, .ref d6, .ref d7, .ref d8, .ref d9, .ref d10, .ref d11, .ref d12, .int 0]))] s.heap.size = A at hD hN ⊢
  have hA : ∀ q : Nat, s.heap.size ≤ q → A q := fun q h => by rw [← hAe]; exact Or.inr h
  have hS : va_S A s.heap s.heap [] := va_S.rf
  have hl0 := lv_entry ([.ref d0]) (n := 3) (Nat.le_of_ble_eq_true rfl)
  rw [lg_entry_eq]
  generalize (lg_sl ([.ref d0]) ++ List.replicate (3 - (lg_sl ([.ref d0])).length) Slot.unset).toArray = ls at hl0 ⊢
  have hl1 : lv_has ls 3 [(0, .ref d0)] := hl0
  refine lv_aload_n hx hb d_Desk_proved_0 rfl (lv_at hl1 0 rfl) ?_
  have hPc := hP.sub (ws' := [(d0, .inr (10, [.ref d1, .ref d2, .ref d3, .ref d4, .ref d5, .ref d6, .ref d7, .ref d8, .ref d9, .ref d10, .ref d11, .ref d12, .int 0]))]) [0] rfl
  have hDc := hD.sub (ws' := [(d0, .inr (10, [.ref d1, .ref d2, .ref d3, .ref d4, .ref d5, .ref d6, .ref d7, .ref d8, .ref d9, .ref d10, .ref d11, .ref d12, .int 0]))]) [0] (by decide) rfl
  have hFc := va_free (wc := [(d0, .inr (10, [.ref d1, .ref d2, .ref d3, .ref d4, .ref d5, .ref d6, .ref d7, .ref d8, .ref d9, .ref d10, .ref d11, .ref d12, .int 0]))]) hD hS hA [0] rfl
  have hz := xz_of hN hS
  exact xt_out (xt_runV (As := []) (rest := []) ⟨hx, hb, hml, hown, hts⟩ (c_Desk_needProgram l hl D ax d0 d1 d2 d3 d4 d5 d6 d7 d8 d9 d10 d11 d12 s.heap.size) (xcV (n := 0) hts wd_665 wd_1 wd_662 wd_664 ps_19 rfl rfl (by decide +kernel) ⟨Nat.le_of_ble_eq_true rfl, Nat.le_of_ble_eq_true rfl⟩) (xpV (ci := 10) (q0 := 0) (As := []) hPc hK hz hDc rfl rfl) rfl rfl hl1.1 rfl (lv_room (Nat.le_of_ble_eq_true rfl)) d_Desk_proved_1 ⟨Nat.le_of_ble_eq_true rfl, Nat.le_of_ble_eq_true rfl⟩) hout hlocks (Nat.le_refl _) (fun _ _ => rfl) (fun q hq => by cases hq) hFc
abbrev b_Desk_counter : ByteArray := prog_1_method_10_code
def y_Desk_counter : MethodName := ⟨R_Desk, "counter", "(II)I"⟩
theorem d_Desk_counter_0 : decode b_Desk_counter 0 = .ok (.aload_n 0, 1) := by decide +kernel
theorem d_Desk_counter_1 : decode b_Desk_counter 1 = .ok (.iload_n 1, 1) := by decide +kernel
theorem d_Desk_counter_2 : decode b_Desk_counter 2 = .ok (.invokevirtual 116, 3) := by decide +kernel
set_option maxHeartbeats 4000000 in
set_option maxRecDepth 100000 in
theorem c_Desk_counter (l : Launch) (hl : l.stackTraces = false) (D : va_G) (ax : Nat → ClassId) (d0 d1 d2 d3 d4 d5 d6 d7 d8 d9 d10 d11 d12 : Nat) (x1 x2 : Int32) (sz : Nat) : xt_Met l y_Desk_counter (xws (.code y_Desk_counter b_Desk_counter 3 (some .int))) ({ frames := 30, cells := 1, slots := 6, locals := 1200 }) (va_Pc [.ref d0, .int x1, .int x2] (xo D ax [(d0, .inr (10, [.ref d1, .ref d2, .ref d3, .ref d4, .ref d5, .ref d6, .ref d7, .ref d8, .ref d9, .ref d10, .ref d11, .ref d12, .int 0]))] sz)) (xt_T "java/lang/IllegalStateException") 1 6 (va_A [(d0, .inr (10, [.ref d1, .ref d2, .ref d3, .ref d4, .ref d5, .ref d6, .ref d7, .ref d8, .ref d9, .ref d10, .ref d11, .ref d12, .int 0]))] sz) := by
  refine xt_Met.ofW (cc := b_Desk_counter) (maxL := 3) (ret := (some .int)) (by decide) rfl ?_
  intro p e s m args below meth c s₁ B hml hout hv
  obtain ⟨rfl, hsz, hP, hK, hD0⟩ := hv
  have hx := B.exec
  have hb := B.bytes
  have hr := B.returns
  have hts := xw_hts B.pre
  have hown : s.vm.findClass R_Desk = some m.cls := findClass_of_methodNamed B.named
  have hlocks := B.notSynchronized
  have htr : e.platform.stackTraces = false := by rw [B.admits.platform]; exact hl
  subst hsz
  have hD := hD0.self (sz := s.heap.size)
  have hN := xz_entry hP
  generalize hAe : va_A [(d0, .inr (10, [.ref d1, .ref d2, .ref d3, .ref d4, .ref d5, .ref d6, .ref d7, .ref d8, .ref d9, .ref d10, .ref d11, .ref d12, .int 0]))] s.heap.size = A at hD hN ⊢
  have hA : ∀ q : Nat, s.heap.size ≤ q → A q := fun q h => by rw [← hAe]; exact Or.inr h
  have hS : va_S A s.heap s.heap [] := va_S.rf
  have hl0 := lv_entry ([.ref d0, .int x1, .int x2]) (n := 3) (Nat.le_of_ble_eq_true rfl)
  rw [lg_entry_eq]
  generalize (lg_sl ([.ref d0, .int x1, .int x2]) ++ List.replicate (3 - (lg_sl ([.ref d0, .int x1, .int x2])).length) Slot.unset).toArray = ls at hl0 ⊢
  have hl1 : lv_has ls 3 [(0, .ref d0), (1, .int x1), (2, .int x2)] := hl0
  refine lv_aload_n hx hb d_Desk_counter_0 rfl (lv_at hl1 0 rfl) ?_
  refine lv_iload_n hx hb d_Desk_counter_1 rfl (lv_at hl1 1 rfl) ?_
  have hPc := hP.sub (ws' := [(d0, .inr (10, [.ref d1, .ref d2, .ref d3, .ref d4, .ref d5, .ref d6, .ref d7, .ref d8, .ref d9, .ref d10, .ref d11, .ref d12, .int 0]))]) [0] rfl
  have hDc := hD.sub (ws' := [(d0, .inr (10, [.ref d1, .ref d2, .ref d3, .ref d4, .ref d5, .ref d6, .ref d7, .ref d8, .ref d9, .ref d10, .ref d11, .ref d12, .int 0]))]) [0] (by decide) rfl
  have hFc := va_free (wc := [(d0, .inr (10, [.ref d1, .ref d2, .ref d3, .ref d4, .ref d5, .ref d6, .ref d7, .ref d8, .ref d9, .ref d10, .ref d11, .ref d12, .int 0]))]) hD hS hA [0] rfl
  have hz := xz_of hN hS
  exact xt_out (xt_runV (As := [.int x1]) (rest := []) ⟨hx, hb, hml, hown, hts⟩ (c_Desk_needClaim l hl D ax d0 d1 d2 d3 d4 d5 d6 d7 d8 d9 d10 d11 d12 x1 s.heap.size) (xcV (n := 1) hts wd_740 wd_1 wd_737 wd_739 ps_21 rfl rfl (by decide +kernel) ⟨Nat.le_of_ble_eq_true rfl, Nat.le_of_ble_eq_true rfl⟩) (xpV (ci := 10) (q0 := 0) (As := [.int x1]) hPc hK hz hDc rfl rfl) rfl rfl hl1.1 rfl (lv_room (Nat.le_of_ble_eq_true rfl)) d_Desk_counter_2 ⟨Nat.le_of_ble_eq_true rfl, Nat.le_of_ble_eq_true rfl⟩) hout hlocks (Nat.le_refl _) (fun _ _ => rfl) (fun q hq => by cases hq) hFc
abbrev b_Desk_say : ByteArray := prog_1_method_11_code
def y_Desk_say : MethodName := ⟨R_Desk, "say", "(I)I"⟩
theorem d_Desk_say_0 : decode b_Desk_say 0 = .ok (.aload_n 0, 1) := by decide +kernel
theorem d_Desk_say_1 : decode b_Desk_say 1 = .ok (.iload_n 1, 1) := by decide +kernel
theorem d_Desk_say_2 : decode b_Desk_say 2 = .ok (.invokevirtual 116, 3) := by decide +kernel
set_option maxHeartbeats 4000000 in
set_option maxRecDepth 100000 in
theorem c_Desk_say (l : Launch) (hl : l.stackTraces = false) (D : va_G) (ax : Nat → ClassId) (d0 d1 d2 d3 d4 d5 d6 d7 d8 d9 d10 d11 d12 : Nat) (x1 : Int32) (sz : Nat) : xt_Met l y_Desk_say (xws (.code y_Desk_say b_Desk_say 2 (some .int))) ({ frames := 30, cells := 1, slots := 6, locals := 1200 }) (va_Pc [.ref d0, .int x1] (xo D ax [(d0, .inr (10, [.ref d1, .ref d2, .ref d3, .ref d4, .ref d5, .ref d6, .ref d7, .ref d8, .ref d9, .ref d10, .ref d11, .ref d12, .int 0]))] sz)) (xt_T "java/lang/IllegalStateException") 1 6 (va_A [(d0, .inr (10, [.ref d1, .ref d2, .ref d3, .ref d4, .ref d5, .ref d6, .ref d7, .ref d8, .ref d9, .ref d10, .ref d11, .ref d12, .int 0]))] sz) := by
  refine xt_Met.ofW (cc := b_Desk_say) (maxL := 2) (ret := (some .int)) (by decide) rfl ?_
  intro p e s m args below meth c s₁ B hml hout hv
  obtain ⟨rfl, hsz, hP, hK, hD0⟩ := hv
  have hx := B.exec
  have hb := B.bytes
  have hr := B.returns
  have hts := xw_hts B.pre
  have hown : s.vm.findClass R_Desk = some m.cls := findClass_of_methodNamed B.named
  have hlocks := B.notSynchronized
  have htr : e.platform.stackTraces = false := by rw [B.admits.platform]; exact hl
  subst hsz
  have hD := hD0.self (sz := s.heap.size)
  have hN := xz_entry hP
  generalize hAe : va_A [(d0, .inr (10, [.ref d1, .ref d2, .ref d3, .ref d4, .ref d5, .ref d6, .ref d7, .ref d8, .ref d9, .ref d10, .ref d11, .ref d12, .int 0]))] s.heap.size = A at hD hN ⊢
  have hA : ∀ q : Nat, s.heap.size ≤ q → A q := fun q h => by rw [← hAe]; exact Or.inr h
  have hS : va_S A s.heap s.heap [] := va_S.rf
  have hl0 := lv_entry ([.ref d0, .int x1]) (n := 2) (Nat.le_of_ble_eq_true rfl)
  rw [lg_entry_eq]
  generalize (lg_sl ([.ref d0, .int x1]) ++ List.replicate (2 - (lg_sl ([.ref d0, .int x1])).length) Slot.unset).toArray = ls at hl0 ⊢
  have hl1 : lv_has ls 2 [(0, .ref d0), (1, .int x1)] := hl0
  refine lv_aload_n hx hb d_Desk_say_0 rfl (lv_at hl1 0 rfl) ?_
  refine lv_iload_n hx hb d_Desk_say_1 rfl (lv_at hl1 1 rfl) ?_
  have hPc := hP.sub (ws' := [(d0, .inr (10, [.ref d1, .ref d2, .ref d3, .ref d4, .ref d5, .ref d6, .ref d7, .ref d8, .ref d9, .ref d10, .ref d11, .ref d12, .int 0]))]) [0] rfl
  have hDc := hD.sub (ws' := [(d0, .inr (10, [.ref d1, .ref d2, .ref d3, .ref d4, .ref d5, .ref d6, .ref d7, .ref d8, .ref d9, .ref d10, .ref d11, .ref d12, .int 0]))]) [0] (by decide) rfl
  have hFc := va_free (wc := [(d0, .inr (10, [.ref d1, .ref d2, .ref d3, .ref d4, .ref d5, .ref d6, .ref d7, .ref d8, .ref d9, .ref d10, .ref d11, .ref d12, .int 0]))]) hD hS hA [0] rfl
  have hz := xz_of hN hS
  exact xt_out (xt_runV (As := [.int x1]) (rest := []) ⟨hx, hb, hml, hown, hts⟩ (c_Desk_needClaim l hl D ax d0 d1 d2 d3 d4 d5 d6 d7 d8 d9 d10 d11 d12 x1 s.heap.size) (xcV (n := 1) hts wd_740 wd_1 wd_737 wd_739 ps_21 rfl rfl (by decide +kernel) ⟨Nat.le_of_ble_eq_true rfl, Nat.le_of_ble_eq_true rfl⟩) (xpV (ci := 10) (q0 := 0) (As := [.int x1]) hPc hK hz hDc rfl rfl) rfl rfl hl1.1 rfl (lv_room (Nat.le_of_ble_eq_true rfl)) d_Desk_say_2 ⟨Nat.le_of_ble_eq_true rfl, Nat.le_of_ble_eq_true rfl⟩) hout hlocks (Nat.le_refl _) (fun _ _ => rfl) (fun q hq => by cases hq) hFc
abbrev b_Desk_run : ByteArray := prog_1_method_14_code
def y_Desk_run : MethodName := ⟨R_Desk, "run", "(I)I"⟩
theorem d_Desk_run_0 : decode b_Desk_run 0 = .ok (.aload_n 0, 1) := by decide +kernel
theorem d_Desk_run_1 : decode b_Desk_run 1 = .ok (.invokevirtual 109, 3) := by decide +kernel
set_option maxHeartbeats 4000000 in
set_option maxRecDepth 100000 in
theorem c_Desk_run (l : Launch) (hl : l.stackTraces = false) (D : va_G) (ax : Nat → ClassId) (d0 d1 d2 d3 d4 d5 d6 d7 d8 d9 d10 d11 d12 : Nat) (x1 : Int32) (sz : Nat) : xt_Met l y_Desk_run (xws (.code y_Desk_run b_Desk_run 2 (some .int))) ({ frames := 20, cells := 1, slots := 6, locals := 800 }) (va_Pc [.ref d0, .int x1] (xo D ax [(d0, .inr (10, [.ref d1, .ref d2, .ref d3, .ref d4, .ref d5, .ref d6, .ref d7, .ref d8, .ref d9, .ref d10, .ref d11, .ref d12, .int 0]))] sz)) (xt_T "java/lang/IllegalStateException") 1 6 (va_A [(d0, .inr (10, [.ref d1, .ref d2, .ref d3, .ref d4, .ref d5, .ref d6, .ref d7, .ref d8, .ref d9, .ref d10, .ref d11, .ref d12, .int 0]))] sz) := by
  refine xt_Met.ofW (cc := b_Desk_run) (maxL := 2) (ret := (some .int)) (by decide) rfl ?_
  intro p e s m args below meth c s₁ B hml hout hv
  obtain ⟨rfl, hsz, hP, hK, hD0⟩ := hv
  have hx := B.exec
  have hb := B.bytes
  have hr := B.returns
  have hts := xw_hts B.pre
  have hown : s.vm.findClass R_Desk = some m.cls := findClass_of_methodNamed B.named
  have hlocks := B.notSynchronized
  have htr : e.platform.stackTraces = false := by rw [B.admits.platform]; exact hl
  subst hsz
  have hD := hD0.self (sz := s.heap.size)
  have hN := xz_entry hP
  generalize hAe : va_A [(d0, .inr (10, [.ref d1, .ref d2, .ref d3, .ref d4, .ref d5, .ref d6, .ref d7, .ref d8, .ref d9, .ref d10, .ref d11, .ref d12, .int 0]))] s.heap.size = A at hD hN ⊢
  have hA : ∀ q : Nat, s.heap.size ≤ q → A q := fun q h => by rw [← hAe]; exact Or.inr h
  have hS : va_S A s.heap s.heap [] := va_S.rf
  have hl0 := lv_entry ([.ref d0, .int x1]) (n := 2) (Nat.le_of_ble_eq_true rfl)
  rw [lg_entry_eq]
  generalize (lg_sl ([.ref d0, .int x1]) ++ List.replicate (2 - (lg_sl ([.ref d0, .int x1])).length) Slot.unset).toArray = ls at hl0 ⊢
  have hl1 : lv_has ls 2 [(0, .ref d0), (1, .int x1)] := hl0
  refine lv_aload_n hx hb d_Desk_run_0 rfl (lv_at hl1 0 rfl) ?_
  have hPc := hP.sub (ws' := [(d0, .inr (10, [.ref d1, .ref d2, .ref d3, .ref d4, .ref d5, .ref d6, .ref d7, .ref d8, .ref d9, .ref d10, .ref d11, .ref d12, .int 0]))]) [0] rfl
  have hDc := hD.sub (ws' := [(d0, .inr (10, [.ref d1, .ref d2, .ref d3, .ref d4, .ref d5, .ref d6, .ref d7, .ref d8, .ref d9, .ref d10, .ref d11, .ref d12, .int 0]))]) [0] (by decide) rfl
  have hFc := va_free (wc := [(d0, .inr (10, [.ref d1, .ref d2, .ref d3, .ref d4, .ref d5, .ref d6, .ref d7, .ref d8, .ref d9, .ref d10, .ref d11, .ref d12, .int 0]))]) hD hS hA [0] rfl
  have hz := xz_of hN hS
  exact xt_out (xt_runV (As := []) (rest := []) ⟨hx, hb, hml, hown, hts⟩ (c_Desk_needProgram l hl D ax d0 d1 d2 d3 d4 d5 d6 d7 d8 d9 d10 d11 d12 s.heap.size) (xcV (n := 0) hts wd_665 wd_1 wd_662 wd_664 ps_19 rfl rfl (by decide +kernel) ⟨Nat.le_of_ble_eq_true rfl, Nat.le_of_ble_eq_true rfl⟩) (xpV (ci := 10) (q0 := 0) (As := []) hPc hK hz hDc rfl rfl) rfl rfl hl1.1 rfl (lv_room (Nat.le_of_ble_eq_true rfl)) d_Desk_run_1 ⟨Nat.le_of_ble_eq_true rfl, Nat.le_of_ble_eq_true rfl⟩) hout hlocks (Nat.le_refl _) (fun _ _ => rfl) (fun q hq => by cases hq) hFc
abbrev b_Desk_out : ByteArray := prog_1_method_12_code
def y_Desk_out : MethodName := ⟨R_Desk, "out", "(I)I"⟩
theorem d_Desk_out_0 : decode b_Desk_out 0 = .ok (.iload_n 1, 1) := by decide +kernel
theorem d_Desk_out_1 : decode b_Desk_out 1 = .ok (.ifCond .lt 14, 3) := by decide +kernel
theorem d_Desk_out_4 : decode b_Desk_out 4 = .ok (.iload_n 1, 1) := by decide +kernel
theorem d_Desk_out_5 : decode b_Desk_out 5 = .ok (.aload_n 0, 1) := by decide +kernel
theorem d_Desk_out_6 : decode b_Desk_out 6 = .ok (.getfield 49, 3) := by decide +kernel
theorem d_Desk_out_9 : decode b_Desk_out 9 = .ok (.getfield 164, 3) := by decide +kernel
theorem d_Desk_out_12 : decode b_Desk_out 12 = .ok (.if_icmp .lt 11, 3) := by decide +kernel
theorem d_Desk_out_15 : decode b_Desk_out 15 = .ok (.new 140, 3) := by decide +kernel
theorem d_Desk_out_18 : decode b_Desk_out 18 = .ok (.dup, 1) := by decide +kernel
theorem d_Desk_out_19 : decode b_Desk_out 19 = .ok (.invokespecial 142, 3) := by decide +kernel
theorem d_Desk_out_22 : decode b_Desk_out 22 = .ok (.athrow, 1) := by decide +kernel
set_option maxHeartbeats 4000000 in
set_option maxRecDepth 100000 in
theorem c_Desk_out (l : Launch) (hl : l.stackTraces = false) (D : va_G) (ax : Nat → ClassId) (d0 d1 d2 d3 d4 d5 d6 d7 d8 d9 d10 d11 d12 : Nat) (e1 : Nat) (x1 : Int32) (sz : Nat) : xt_Met l y_Desk_out (xws (.code y_Desk_out b_Desk_out 2 (some .int))) ({ frames := 10, cells := 1, slots := 6, locals := 400 }) (va_Pc [.ref d0, .int x1] (xo D ax [(d0, .inr (10, [.ref d1, .ref d2, .ref d3, .ref d4, .ref d5, .ref d6, .ref d7, .ref d8, .ref d9, .ref d10, .ref d11, .ref d12, .int 0])), (d6, .inr (5, [.ref e1, .int 0]))] sz)) (xt_T "java/lang/IndexOutOfBoundsException") 1 6 (va_A [(d0, .inr (10, [.ref d1, .ref d2, .ref d3, .ref d4, .ref d5, .ref d6, .ref d7, .ref d8, .ref d9, .ref d10, .ref d11, .ref d12, .int 0])), (d6, .inr (5, [.ref e1, .int 0]))] sz) := by
  refine xt_Met.ofW (cc := b_Desk_out) (maxL := 2) (ret := (some .int)) (by decide) rfl ?_
  intro p e s m args below meth c s₁ B hml hout hv
  obtain ⟨rfl, hsz, hP, hK, hD0⟩ := hv
  have hx := B.exec
  have hb := B.bytes
  have hr := B.returns
  have hts := xw_hts B.pre
  have hown : s.vm.findClass R_Desk = some m.cls := findClass_of_methodNamed B.named
  have hlocks := B.notSynchronized
  have htr : e.platform.stackTraces = false := by rw [B.admits.platform]; exact hl
  subst hsz
  have hD := hD0.self (sz := s.heap.size)
  have hN := xz_entry hP
  generalize hAe : va_A [(d0, .inr (10, [.ref d1, .ref d2, .ref d3, .ref d4, .ref d5, .ref d6, .ref d7, .ref d8, .ref d9, .ref d10, .ref d11, .ref d12, .int 0])), (d6, .inr (5, [.ref e1, .int 0]))] s.heap.size = A at hD hN ⊢
  have hA : ∀ q : Nat, s.heap.size ≤ q → A q := fun q h => by rw [← hAe]; exact Or.inr h
  have hS : va_S A s.heap s.heap [] := va_S.rf
  have hl0 := lv_entry ([.ref d0, .int x1]) (n := 2) (Nat.le_of_ble_eq_true rfl)
  rw [lg_entry_eq]
  generalize (lg_sl ([.ref d0, .int x1]) ++ List.replicate (2 - (lg_sl ([.ref d0, .int x1])).length) Slot.unset).toArray = ls at hl0 ⊢
  have hl1 : lv_has ls 2 [(0, .ref d0), (1, .int x1)] := hl0
  refine lv_iload_n hx hb d_Desk_out_0 rfl (lv_at hl1 1 rfl) ?_
  refine lv_if_lt (tgt := 15) hx hb d_Desk_out_1 (by decide) (fun c_1 => ?_) (fun c_1 => ?_)
  · exact xt_new (names := xe_nm) hx hb htr hown (by decide +kernel) (by decide +kernel) (hts _ wd_741) (hts _ wd_24) (xe_IOE_Desk hts hK) (hl1.1.trans hml.symm) d_Desk_out_15 d_Desk_out_18 d_Desk_out_19 d_Desk_out_22 hout (Nat.le_of_ble_eq_true rfl) (Nat.le_of_ble_eq_true rfl) (Nat.le_of_ble_eq_true rfl) (Nat.le_of_ble_eq_true rfl) hlocks rfl
  · refine lv_iload_n hx hb d_Desk_out_4 rfl (lv_at hl1 1 rfl) ?_
    refine lv_aload_n hx hb d_Desk_out_5 rfl (lv_at hl1 0 rfl) ?_
    refine va_get (D := D) (ci := 10) (v := .ref d6) (C := R_Desk) (T := F_Desk) (N := 13) hx hb hts i_Desk hown hK.1 hP 0 rfl rfl 5 (by decide) (hts _ wd_380) (fun _ h9 => h9) rfl d_Desk_out_6 ?_
    refine va_get (D := D) (ci := 5) (v := .int 0) (C := R_Paper) (T := F_Paper) (N := 2) hx hb hts i_Paper hown hK.1 hP 1 rfl rfl 1 (by decide) (hts _ wd_239) (fun _ h9 => h9) rfl d_Desk_out_9 ?_
    refine lv_icmp_lt (tgt := 23) hx hb d_Desk_out_12 (by decide) (fun c_2 => ?_) (fun c_2 => ?_)
    · contradiction
    exact xt_new (names := xe_nm) hx hb htr hown (by decide +kernel) (by decide +kernel) (hts _ wd_741) (hts _ wd_24) (xe_IOE_Desk hts hK) (hl1.1.trans hml.symm) d_Desk_out_15 d_Desk_out_18 d_Desk_out_19 d_Desk_out_22 hout (Nat.le_of_ble_eq_true rfl) (Nat.le_of_ble_eq_true rfl) (Nat.le_of_ble_eq_true rfl) (Nat.le_of_ble_eq_true rfl) hlocks rfl
abbrev b_Desk_needVariable : ByteArray := prog_1_method_19_code
def y_Desk_needVariable : MethodName := ⟨R_Desk, "needVariable", "(I)V"⟩
theorem d_Desk_needVariable_0 : decode b_Desk_needVariable 0 = .ok (.iload_n 1, 1) := by decide +kernel
theorem d_Desk_needVariable_1 : decode b_Desk_needVariable 1 = .ok (.ifCond .lt 9, 3) := by decide +kernel
theorem d_Desk_needVariable_4 : decode b_Desk_needVariable 4 = .ok (.iload_n 1, 1) := by decide +kernel
theorem d_Desk_needVariable_5 : decode b_Desk_needVariable 5 = .ok (.bipush 6, 2) := by decide +kernel
theorem d_Desk_needVariable_7 : decode b_Desk_needVariable 7 = .ok (.if_icmp .lt 11, 3) := by decide +kernel
theorem d_Desk_needVariable_10 : decode b_Desk_needVariable 10 = .ok (.new 140, 3) := by decide +kernel
theorem d_Desk_needVariable_13 : decode b_Desk_needVariable 13 = .ok (.dup, 1) := by decide +kernel
theorem d_Desk_needVariable_14 : decode b_Desk_needVariable 14 = .ok (.invokespecial 142, 3) := by decide +kernel
theorem d_Desk_needVariable_17 : decode b_Desk_needVariable 17 = .ok (.athrow, 1) := by decide +kernel
theorem d_Desk_needVariable_18 : decode b_Desk_needVariable 18 = .ok (.return_, 1) := by decide +kernel
set_option maxHeartbeats 4000000 in
set_option maxRecDepth 100000 in
theorem c_Desk_needVariable_bad (l : Launch) (hl : l.stackTraces = false) (D : va_G) (ax : Nat → ClassId) (d0 d1 d2 d3 d4 d5 d6 d7 d8 d9 d10 d11 d12 : Nat) (x1 : Int32) (sz : Nat) (hq0 : ¬ (¬ x1 < 0 ∧ x1 < 6)) : xt_Met l y_Desk_needVariable (xws (.code y_Desk_needVariable b_Desk_needVariable 2 none)) ({ frames := 10, cells := 1, slots := 6, locals := 400 }) (va_Pc [.ref d0, .int x1] (xo D ax [(d0, .inr (10, [.ref d1, .ref d2, .ref d3, .ref d4, .ref d5, .ref d6, .ref d7, .ref d8, .ref d9, .ref d10, .ref d11, .ref d12, .int 0]))] sz)) (xt_T "java/lang/IndexOutOfBoundsException") 1 6 (va_A [(d0, .inr (10, [.ref d1, .ref d2, .ref d3, .ref d4, .ref d5, .ref d6, .ref d7, .ref d8, .ref d9, .ref d10, .ref d11, .ref d12, .int 0]))] sz) := by
  refine xt_Met.ofW (cc := b_Desk_needVariable) (maxL := 2) (ret := none) (by decide) rfl ?_
  intro p e s m args below meth c s₁ B hml hout hv
  obtain ⟨rfl, hsz, hP, hK, hD0⟩ := hv
  have hx := B.exec
  have hb := B.bytes
  have hr := B.returns
  have hts := xw_hts B.pre
  have hown : s.vm.findClass R_Desk = some m.cls := findClass_of_methodNamed B.named
  have hlocks := B.notSynchronized
  have htr : e.platform.stackTraces = false := by rw [B.admits.platform]; exact hl
  subst hsz
  have hD := hD0.self (sz := s.heap.size)
  have hN := xz_entry hP
  generalize hAe : va_A [(d0, .inr (10, [.ref d1, .ref d2, .ref d3, .ref d4, .ref d5, .ref d6, .ref d7, .ref d8, .ref d9, .ref d10, .ref d11, .ref d12, .int 0]))] s.heap.size = A at hD hN ⊢
  have hA : ∀ q : Nat, s.heap.size ≤ q → A q := fun q h => by rw [← hAe]; exact Or.inr h
  have hS : va_S A s.heap s.heap [] := va_S.rf
  have hl0 := lv_entry ([.ref d0, .int x1]) (n := 2) (Nat.le_of_ble_eq_true rfl)
  rw [lg_entry_eq]
  generalize (lg_sl ([.ref d0, .int x1]) ++ List.replicate (2 - (lg_sl ([.ref d0, .int x1])).length) Slot.unset).toArray = ls at hl0 ⊢
  have hl1 : lv_has ls 2 [(0, .ref d0), (1, .int x1)] := hl0
  refine lv_iload_n hx hb d_Desk_needVariable_0 rfl (lv_at hl1 1 rfl) ?_
  refine lv_if_lt (tgt := 10) hx hb d_Desk_needVariable_1 (by decide) (fun c_1 => ?_) (fun c_1 => ?_)
  · exact xt_new (names := xe_nm) hx hb htr hown (by decide +kernel) (by decide +kernel) (hts _ wd_741) (hts _ wd_24) (xe_IOE_Desk hts hK) (hl1.1.trans hml.symm) d_Desk_needVariable_10 d_Desk_needVariable_13 d_Desk_needVariable_14 d_Desk_needVariable_17 hout (Nat.le_of_ble_eq_true rfl) (Nat.le_of_ble_eq_true rfl) (Nat.le_of_ble_eq_true rfl) (Nat.le_of_ble_eq_true rfl) hlocks rfl
  · refine lv_iload_n hx hb d_Desk_needVariable_4 rfl (lv_at hl1 1 rfl) ?_
    refine lv_bipush (v := 6) hx hb d_Desk_needVariable_5 (by decide) ?_
    refine lv_icmp_lt (tgt := 18) hx hb d_Desk_needVariable_7 (by decide) (fun c_2 => ?_) (fun c_2 => ?_)
    · exact absurd ⟨by assumption, c_2⟩ hq0
    exact xt_new (names := xe_nm) hx hb htr hown (by decide +kernel) (by decide +kernel) (hts _ wd_741) (hts _ wd_24) (xe_IOE_Desk hts hK) (hl1.1.trans hml.symm) d_Desk_needVariable_10 d_Desk_needVariable_13 d_Desk_needVariable_14 d_Desk_needVariable_17 hout (Nat.le_of_ble_eq_true rfl) (Nat.le_of_ble_eq_true rfl) (Nat.le_of_ble_eq_true rfl) (Nat.le_of_ble_eq_true rfl) hlocks rfl
abbrev b_Desk_start : ByteArray := prog_1_method_13_code
def y_Desk_start : MethodName := ⟨R_Desk, "start", "(II)V"⟩
theorem d_Desk_start_0 : decode b_Desk_start 0 = .ok (.aload_n 0, 1) := by decide +kernel
theorem d_Desk_start_1 : decode b_Desk_start 1 = .ok (.iload_n 1, 1) := by decide +kernel
theorem d_Desk_start_2 : decode b_Desk_start 2 = .ok (.invokevirtual 170, 3) := by decide +kernel
theorem d_Desk_start_5 : decode b_Desk_start 5 = .ok (.aload_n 0, 1) := by decide +kernel
theorem d_Desk_start_6 : decode b_Desk_start 6 = .ok (.getfield 56, 3) := by decide +kernel
theorem d_Desk_start_9 : decode b_Desk_start 9 = .ok (.getfield 173, 3) := by decide +kernel
theorem d_Desk_start_12 : decode b_Desk_start 12 = .ok (.iload_n 1, 1) := by decide +kernel
theorem d_Desk_start_13 : decode b_Desk_start 13 = .ok (.iload_n 2, 1) := by decide +kernel
theorem d_Desk_start_14 : decode b_Desk_start 14 = .ok (.i2l, 1) := by decide +kernel
theorem d_Desk_start_15 : decode b_Desk_start 15 = .ok (.lastore, 1) := by decide +kernel
theorem d_Desk_start_16 : decode b_Desk_start 16 = .ok (.return_, 1) := by decide +kernel
set_option maxHeartbeats 4000000 in
set_option maxRecDepth 100000 in
theorem c_Desk_start_bad (l : Launch) (hl : l.stackTraces = false) (D : va_G) (ax : Nat → ClassId) (d0 d1 d2 d3 d4 d5 d6 d7 d8 d9 d10 d11 d12 : Nat) (x1 x2 : Int32) (sz : Nat) (hq0 : ¬ (¬ x1 < 0 ∧ x1 < 6)) : xt_Met l y_Desk_start (xws (.code y_Desk_start b_Desk_start 3 none)) ({ frames := 20, cells := 1, slots := 6, locals := 800 }) (va_Pc [.ref d0, .int x1, .int x2] (xo D ax [(d0, .inr (10, [.ref d1, .ref d2, .ref d3, .ref d4, .ref d5, .ref d6, .ref d7, .ref d8, .ref d9, .ref d10, .ref d11, .ref d12, .int 0]))] sz)) (xt_T "java/lang/IndexOutOfBoundsException") 1 6 (va_A [(d0, .inr (10, [.ref d1, .ref d2, .ref d3, .ref d4, .ref d5, .ref d6, .ref d7, .ref d8, .ref d9, .ref d10, .ref d11, .ref d12, .int 0]))] sz) := by
  refine xt_Met.ofW (cc := b_Desk_start) (maxL := 3) (ret := none) (by decide) rfl ?_
  intro p e s m args below meth c s₁ B hml hout hv
  obtain ⟨rfl, hsz, hP, hK, hD0⟩ := hv
  have hx := B.exec
  have hb := B.bytes
  have hr := B.returns
  have hts := xw_hts B.pre
  have hown : s.vm.findClass R_Desk = some m.cls := findClass_of_methodNamed B.named
  have hlocks := B.notSynchronized
  have htr : e.platform.stackTraces = false := by rw [B.admits.platform]; exact hl
  subst hsz
  have hD := hD0.self (sz := s.heap.size)
  have hN := xz_entry hP
  generalize hAe : va_A [(d0, .inr (10, [.ref d1, .ref d2, .ref d3, .ref d4, .ref d5, .ref d6, .ref d7, .ref d8, .ref d9, .ref d10, .ref d11, .ref d12, .int 0]))] s.heap.size = A at hD hN ⊢
  have hA : ∀ q : Nat, s.heap.size ≤ q → A q := fun q h => by rw [← hAe]; exact Or.inr h
  have hS : va_S A s.heap s.heap [] := va_S.rf
  have hl0 := lv_entry ([.ref d0, .int x1, .int x2]) (n := 3) (Nat.le_of_ble_eq_true rfl)
  rw [lg_entry_eq]
  generalize (lg_sl ([.ref d0, .int x1, .int x2]) ++ List.replicate (3 - (lg_sl ([.ref d0, .int x1, .int x2])).length) Slot.unset).toArray = ls at hl0 ⊢
  have hl1 : lv_has ls 3 [(0, .ref d0), (1, .int x1), (2, .int x2)] := hl0
  refine lv_aload_n hx hb d_Desk_start_0 rfl (lv_at hl1 0 rfl) ?_
  refine lv_iload_n hx hb d_Desk_start_1 rfl (lv_at hl1 1 rfl) ?_
  have hPc := hP.sub (ws' := [(d0, .inr (10, [.ref d1, .ref d2, .ref d3, .ref d4, .ref d5, .ref d6, .ref d7, .ref d8, .ref d9, .ref d10, .ref d11, .ref d12, .int 0]))]) [0] rfl
  have hDc := hD.sub (ws' := [(d0, .inr (10, [.ref d1, .ref d2, .ref d3, .ref d4, .ref d5, .ref d6, .ref d7, .ref d8, .ref d9, .ref d10, .ref d11, .ref d12, .int 0]))]) [0] (by decide) rfl
  have hFc := va_free (wc := [(d0, .inr (10, [.ref d1, .ref d2, .ref d3, .ref d4, .ref d5, .ref d6, .ref d7, .ref d8, .ref d9, .ref d10, .ref d11, .ref d12, .int 0]))]) hD hS hA [0] rfl
  have hz := xz_of hN hS
  exact xt_out (xt_runV (As := [.int x1]) (rest := []) ⟨hx, hb, hml, hown, hts⟩ (c_Desk_needVariable_bad l hl D ax d0 d1 d2 d3 d4 d5 d6 d7 d8 d9 d10 d11 d12 x1 s.heap.size hq0) (xcV (n := 1) hts wd_965 wd_1 wd_962 wd_964 ps_46 rfl rfl (by decide +kernel) ⟨Nat.le_of_ble_eq_true rfl, Nat.le_of_ble_eq_true rfl⟩) (xpV (ci := 10) (q0 := 0) (As := [.int x1]) hPc hK hz hDc rfl rfl) rfl rfl hl1.1 rfl (lv_room (Nat.le_of_ble_eq_true rfl)) d_Desk_start_2 ⟨Nat.le_of_ble_eq_true rfl, Nat.le_of_ble_eq_true rfl⟩) hout hlocks (Nat.le_refl _) (fun _ _ => rfl) (fun q hq => by cases hq) hFc
abbrev b_Desk_value : ByteArray := prog_1_method_15_code
def y_Desk_value : MethodName := ⟨R_Desk, "value", "(I)J"⟩
theorem d_Desk_value_0 : decode b_Desk_value 0 = .ok (.aload_n 0, 1) := by decide +kernel
theorem d_Desk_value_1 : decode b_Desk_value 1 = .ok (.iload_n 1, 1) := by decide +kernel
theorem d_Desk_value_2 : decode b_Desk_value 2 = .ok (.invokevirtual 170, 3) := by decide +kernel
theorem d_Desk_value_5 : decode b_Desk_value 5 = .ok (.aload_n 0, 1) := by decide +kernel
theorem d_Desk_value_6 : decode b_Desk_value 6 = .ok (.getfield 56, 3) := by decide +kernel
theorem d_Desk_value_9 : decode b_Desk_value 9 = .ok (.getfield 173, 3) := by decide +kernel
theorem d_Desk_value_12 : decode b_Desk_value 12 = .ok (.iload_n 1, 1) := by decide +kernel
theorem d_Desk_value_13 : decode b_Desk_value 13 = .ok (.laload, 1) := by decide +kernel
theorem d_Desk_value_14 : decode b_Desk_value 14 = .ok (.lreturn, 1) := by decide +kernel
set_option maxHeartbeats 4000000 in
set_option maxRecDepth 100000 in
theorem c_Desk_value_bad (l : Launch) (hl : l.stackTraces = false) (D : va_G) (ax : Nat → ClassId) (d0 d1 d2 d3 d4 d5 d6 d7 d8 d9 d10 d11 d12 : Nat) (x1 : Int32) (sz : Nat) (hq0 : ¬ (¬ x1 < 0 ∧ x1 < 6)) : xt_Met l y_Desk_value (xws (.code y_Desk_value b_Desk_value 2 (some .long))) ({ frames := 20, cells := 1, slots := 6, locals := 800 }) (va_Pc [.ref d0, .int x1] (xo D ax [(d0, .inr (10, [.ref d1, .ref d2, .ref d3, .ref d4, .ref d5, .ref d6, .ref d7, .ref d8, .ref d9, .ref d10, .ref d11, .ref d12, .int 0]))] sz)) (xt_T "java/lang/IndexOutOfBoundsException") 1 6 (va_A [(d0, .inr (10, [.ref d1, .ref d2, .ref d3, .ref d4, .ref d5, .ref d6, .ref d7, .ref d8, .ref d9, .ref d10, .ref d11, .ref d12, .int 0]))] sz) := by
  refine xt_Met.ofW (cc := b_Desk_value) (maxL := 2) (ret := (some .long)) (by decide) rfl ?_
  intro p e s m args below meth c s₁ B hml hout hv
  obtain ⟨rfl, hsz, hP, hK, hD0⟩ := hv
  have hx := B.exec
  have hb := B.bytes
  have hr := B.returns
  have hts := xw_hts B.pre
  have hown : s.vm.findClass R_Desk = some m.cls := findClass_of_methodNamed B.named
  have hlocks := B.notSynchronized
  have htr : e.platform.stackTraces = false := by rw [B.admits.platform]; exact hl
  subst hsz
  have hD := hD0.self (sz := s.heap.size)
  have hN := xz_entry hP
  generalize hAe : va_A [(d0, .inr (10, [.ref d1, .ref d2, .ref d3, .ref d4, .ref d5, .ref d6, .ref d7, .ref d8, .ref d9, .ref d10, .ref d11, .ref d12, .int 0]))] s.heap.size = A at hD hN ⊢
  have hA : ∀ q : Nat, s.heap.size ≤ q → A q := fun q h => by rw [← hAe]; exact Or.inr h
  have hS : va_S A s.heap s.heap [] := va_S.rf
  have hl0 := lv_entry ([.ref d0, .int x1]) (n := 2) (Nat.le_of_ble_eq_true rfl)
  rw [lg_entry_eq]
  generalize (lg_sl ([.ref d0, .int x1]) ++ List.replicate (2 - (lg_sl ([.ref d0, .int x1])).length) Slot.unset).toArray = ls at hl0 ⊢
  have hl1 : lv_has ls 2 [(0, .ref d0), (1, .int x1)] := hl0
  refine lv_aload_n hx hb d_Desk_value_0 rfl (lv_at hl1 0 rfl) ?_
  refine lv_iload_n hx hb d_Desk_value_1 rfl (lv_at hl1 1 rfl) ?_
  have hPc := hP.sub (ws' := [(d0, .inr (10, [.ref d1, .ref d2, .ref d3, .ref d4, .ref d5, .ref d6, .ref d7, .ref d8, .ref d9, .ref d10, .ref d11, .ref d12, .int 0]))]) [0] rfl
  have hDc := hD.sub (ws' := [(d0, .inr (10, [.ref d1, .ref d2, .ref d3, .ref d4, .ref d5, .ref d6, .ref d7, .ref d8, .ref d9, .ref d10, .ref d11, .ref d12, .int 0]))]) [0] (by decide) rfl
  have hFc := va_free (wc := [(d0, .inr (10, [.ref d1, .ref d2, .ref d3, .ref d4, .ref d5, .ref d6, .ref d7, .ref d8, .ref d9, .ref d10, .ref d11, .ref d12, .int 0]))]) hD hS hA [0] rfl
  have hz := xz_of hN hS
  exact xt_out (xt_runV (As := [.int x1]) (rest := []) ⟨hx, hb, hml, hown, hts⟩ (c_Desk_needVariable_bad l hl D ax d0 d1 d2 d3 d4 d5 d6 d7 d8 d9 d10 d11 d12 x1 s.heap.size hq0) (xcV (n := 1) hts wd_965 wd_1 wd_962 wd_964 ps_46 rfl rfl (by decide +kernel) ⟨Nat.le_of_ble_eq_true rfl, Nat.le_of_ble_eq_true rfl⟩) (xpV (ci := 10) (q0 := 0) (As := [.int x1]) hPc hK hz hDc rfl rfl) rfl rfl hl1.1 rfl (lv_room (Nat.le_of_ble_eq_true rfl)) d_Desk_value_2 ⟨Nat.le_of_ble_eq_true rfl, Nat.le_of_ble_eq_true rfl⟩) hout hlocks (Nat.le_refl _) (fun _ _ => rfl) (fun q hq => by cases hq) hFc
abbrev b_Desk_holds : ByteArray := prog_1_method_16_code
def y_Desk_holds : MethodName := ⟨R_Desk, "holds", "(I)Z"⟩
theorem d_Desk_holds_0 : decode b_Desk_holds 0 = .ok (.iload_n 1, 1) := by decide +kernel
theorem d_Desk_holds_1 : decode b_Desk_holds 1 = .ok (.ifCond .eq 16, 3) := by decide +kernel
theorem d_Desk_holds_4 : decode b_Desk_holds 4 = .ok (.iload_n 1, 1) := by decide +kernel
theorem d_Desk_holds_5 : decode b_Desk_holds 5 = .ok (.iconst 1, 1) := by decide +kernel
theorem d_Desk_holds_6 : decode b_Desk_holds 6 = .ok (.if_icmp .eq 11, 3) := by decide +kernel
theorem d_Desk_holds_9 : decode b_Desk_holds 9 = .ok (.new 140, 3) := by decide +kernel
theorem d_Desk_holds_12 : decode b_Desk_holds 12 = .ok (.dup, 1) := by decide +kernel
theorem d_Desk_holds_13 : decode b_Desk_holds 13 = .ok (.invokespecial 142, 3) := by decide +kernel
theorem d_Desk_holds_16 : decode b_Desk_holds 16 = .ok (.athrow, 1) := by decide +kernel
theorem d_Desk_holds_17 : decode b_Desk_holds 17 = .ok (.iload_n 1, 1) := by decide +kernel
theorem d_Desk_holds_18 : decode b_Desk_holds 18 = .ok (.ifCond .ne 10, 3) := by decide +kernel
theorem d_Desk_holds_21 : decode b_Desk_holds 21 = .ok (.aload_n 0, 1) := by decide +kernel
theorem d_Desk_holds_22 : decode b_Desk_holds 22 = .ok (.getfield 63, 3) := by decide +kernel
theorem d_Desk_holds_25 : decode b_Desk_holds 25 = .ok (.goto 7, 3) := by decide +kernel
theorem d_Desk_holds_28 : decode b_Desk_holds 28 = .ok (.aload_n 0, 1) := by decide +kernel
theorem d_Desk_holds_29 : decode b_Desk_holds 29 = .ok (.getfield 67, 3) := by decide +kernel
theorem d_Desk_holds_32 : decode b_Desk_holds 32 = .ok (.astore_n 2, 1) := by decide +kernel
theorem d_Desk_holds_33 : decode b_Desk_holds 33 = .ok (.aload_n 0, 1) := by decide +kernel
theorem d_Desk_holds_34 : decode b_Desk_holds 34 = .ok (.getfield 56, 3) := by decide +kernel
theorem d_Desk_holds_37 : decode b_Desk_holds 37 = .ok (.aload_n 2, 1) := by decide +kernel
theorem d_Desk_holds_38 : decode b_Desk_holds 38 = .ok (.aload_n 2, 1) := by decide +kernel
theorem d_Desk_holds_39 : decode b_Desk_holds 39 = .ok (.invokevirtual 184, 3) := by decide +kernel
theorem d_Desk_holds_42 : decode b_Desk_holds 42 = .ok (.invokevirtual 188, 3) := by decide +kernel
theorem d_Desk_holds_45 : decode b_Desk_holds 45 = .ok (.ireturn, 1) := by decide +kernel
set_option maxHeartbeats 4000000 in
set_option maxRecDepth 100000 in
theorem c_Desk_holds_bad (l : Launch) (hl : l.stackTraces = false) (D : va_G) (ax : Nat → ClassId) (d0 d1 d2 d3 d4 d5 d6 d7 d8 d9 d10 d11 d12 : Nat) (x1 : Int32) (sz : Nat) (hq0 : ¬ x1 = 0) (hq1 : ¬ x1 = 1) : xt_Met l y_Desk_holds (xws (.code y_Desk_holds b_Desk_holds 3 (some .boolean))) ({ frames := 10, cells := 1, slots := 6, locals := 400 }) (va_Pc [.ref d0, .int x1] (xo D ax [(d0, .inr (10, [.ref d1, .ref d2, .ref d3, .ref d4, .ref d5, .ref d6, .ref d7, .ref d8, .ref d9, .ref d10, .ref d11, .ref d12, .int 0]))] sz)) (xt_T "java/lang/IndexOutOfBoundsException") 1 6 (va_A [(d0, .inr (10, [.ref d1, .ref d2, .ref d3, .ref d4, .ref d5, .ref d6, .ref d7, .ref d8, .ref d9, .ref d10, .ref d11, .ref d12, .int 0]))] sz) := by
  refine xt_Met.ofW (cc := b_Desk_holds) (maxL := 3) (ret := (some .boolean)) (by decide) rfl ?_
  intro p e s m args below meth c s₁ B hml hout hv
  obtain ⟨rfl, hsz, hP, hK, hD0⟩ := hv
  have hx := B.exec
  have hb := B.bytes
  have hr := B.returns
  have hts := xw_hts B.pre
  have hown : s.vm.findClass R_Desk = some m.cls := findClass_of_methodNamed B.named
  have hlocks := B.notSynchronized
  have htr : e.platform.stackTraces = false := by rw [B.admits.platform]; exact hl
  subst hsz
  have hD := hD0.self (sz := s.heap.size)
  have hN := xz_entry hP
  generalize hAe : va_A [(d0, .inr (10, [.ref d1, .ref d2, .ref d3, .ref d4, .ref d5, .ref d6, .ref d7, .ref d8, .ref d9, .ref d10, .ref d11, .ref d12, .int 0]))] s.heap.size = A at hD hN ⊢
  have hA : ∀ q : Nat, s.heap.size ≤ q → A q := fun q h => by rw [← hAe]; exact Or.inr h
  have hS : va_S A s.heap s.heap [] := va_S.rf
  have hl0 := lv_entry ([.ref d0, .int x1]) (n := 3) (Nat.le_of_ble_eq_true rfl)
  rw [lg_entry_eq]
  generalize (lg_sl ([.ref d0, .int x1]) ++ List.replicate (3 - (lg_sl ([.ref d0, .int x1])).length) Slot.unset).toArray = ls at hl0 ⊢
  have hl1 : lv_has ls 3 [(0, .ref d0), (1, .int x1)] := hl0
  refine lv_iload_n hx hb d_Desk_holds_0 rfl (lv_at hl1 1 rfl) ?_
  refine lv_if_eq (tgt := 17) hx hb d_Desk_holds_1 (by decide) (fun c_1 => ?_) (fun c_1 => ?_)
  · exact absurd c_1 hq0
  refine lv_iload_n hx hb d_Desk_holds_4 rfl (lv_at hl1 1 rfl) ?_
  refine lv_iconst (v := 1) hx hb d_Desk_holds_5 (by decide) ?_
  refine lv_icmp_eq (tgt := 17) hx hb d_Desk_holds_6 (by decide) (fun c_2 => ?_) (fun c_2 => ?_)
  · exact absurd c_2 hq1
  exact xt_new (names := xe_nm) hx hb htr hown (by decide +kernel) (by decide +kernel) (hts _ wd_741) (hts _ wd_24) (xe_IOE_Desk hts hK) (hl1.1.trans hml.symm) d_Desk_holds_9 d_Desk_holds_12 d_Desk_holds_13 d_Desk_holds_16 hout (Nat.le_of_ble_eq_true rfl) (Nat.le_of_ble_eq_true rfl) (Nat.le_of_ble_eq_true rfl) (Nat.le_of_ble_eq_true rfl) hlocks rfl
