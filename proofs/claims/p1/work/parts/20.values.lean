set_option maxHeartbeats 4000000 in
set_option maxRecDepth 100000 in
theorem c_Desk_needVariable_0 (l : Launch) (D : va_G) (ax : Nat → ClassId) (d0 d1 d2 d3 d4 d5 d6 d7 d8 d9 d10 d11 d12 : Nat) (sz : Nat) : Met l y_Desk_needVariable (xws (.code y_Desk_needVariable b_Desk_needVariable 2 none)) ({ frames := 10, cells := 0, slots := 0, locals := 400 }) (va_Pc [.ref d0, .int 0] (xo D ax [(d0, .inr (10, [.ref d1, .ref d2, .ref d3, .ref d4, .ref d5, .ref d6, .ref d7, .ref d8, .ref d9, .ref d10, .ref d11, .ref d12, .int 0]))] sz)) ((va_Qv (fun (u : Nat → Nat) => True) (xb D (va_A [(d0, .inr (10, [.ref d1, .ref d2, .ref d3, .ref d4, .ref d5, .ref d6, .ref d7, .ref d8, .ref d9, .ref d10, .ref d11, .ref d12, .int 0]))] sz) (fun u => [(d0, .inr (10, [.ref d1, .ref d2, .ref d3, .ref d4, .ref d5, .ref d6, .ref d7, .ref d8, .ref d9, .ref d10, .ref d11, .ref d12, .int 0]))])) (va_A [(d0, .inr (10, [.ref d1, .ref d2, .ref d3, .ref d4, .ref d5, .ref d6, .ref d7, .ref d8, .ref d9, .ref d10, .ref d11, .ref d12, .int 0]))] sz))) 0 0 (va_A [(d0, .inr (10, [.ref d1, .ref d2, .ref d3, .ref d4, .ref d5, .ref d6, .ref d7, .ref d8, .ref d9, .ref d10, .ref d11, .ref d12, .int 0]))] sz) := by
  refine Met.ofW (cc := b_Desk_needVariable) (maxL := 2) (ret := none) (by decide) rfl ?_
  intro p e s m args below meth c s₁ B hml hv
  obtain ⟨rfl, hsz, hP, hK, hD0⟩ := hv
  have hx := B.exec
  have hb := B.bytes
  have hr := B.returns
  have hts := xw_hts B.pre
  have hown : s.vm.findClass R_Desk = some m.cls := findClass_of_methodNamed B.named
  have hlocks := B.notSynchronized
  subst hsz
  have hD := hD0.self (sz := s.heap.size)
  have hN := xz_entry hP
  generalize hAe : va_A [(d0, .inr (10, [.ref d1, .ref d2, .ref d3, .ref d4, .ref d5, .ref d6, .ref d7, .ref d8, .ref d9, .ref d10, .ref d11, .ref d12, .int 0]))] s.heap.size = A at hD hN ⊢
  have hA : ∀ q : Nat, s.heap.size ≤ q → A q := fun q h => by rw [← hAe]; exact Or.inr h
  have hS : va_S A s.heap s.heap [] := va_S.rf
  have hl0 := lv_entry ([.ref d0, .int 0]) (n := 2) (Nat.le_of_ble_eq_true rfl)
  rw [lg_entry_eq]
  generalize (lg_sl ([.ref d0, .int 0]) ++ List.replicate (2 - (lg_sl ([.ref d0, .int 0])).length) Slot.unset).toArray = ls at hl0 ⊢
  have hl1 : lv_has ls 2 [(0, .ref d0), (1, .int 0)] := hl0
  refine lv_iload_n hx hb d_Desk_needVariable_0 rfl (lv_at hl1 1 rfl) ?_
  refine lv_if_lt (tgt := 10) hx hb d_Desk_needVariable_1 (by decide) (fun c_1 => ?_) (fun c_1 => ?_)
  · first | exact absurd c_1 (by decide) | exact absurd (by decide) c_1
  refine lv_iload_n hx hb d_Desk_needVariable_4 rfl (lv_at hl1 1 rfl) ?_
  refine lv_bipush (v := 6) hx hb d_Desk_needVariable_5 (by decide) ?_
  refine lv_icmp_lt (tgt := 18) hx hb d_Desk_needVariable_7 (by decide) (fun c_2 => ?_) (fun c_2 => ?_)
  rotate_left
  · first | exact absurd c_2 (by decide) | exact absurd (by decide) c_2
  have hP9 := hP.sub (ws' := (fun u : Nat → Nat => [(d0, .inr (10, [.ref d1, .ref d2, .ref d3, .ref d4, .ref d5, .ref d6, .ref d7, .ref d8, .ref d9, .ref d10, .ref d11, .ref d12, .int 0]))]) (ixn [])) [0] rfl
  have hD9 := hD.sub (ws' := (fun u : Nat → Nat => [(d0, .inr (10, [.ref d1, .ref d2, .ref d3, .ref d4, .ref d5, .ref d6, .ref d7, .ref d8, .ref d9, .ref d10, .ref d11, .ref d12, .int 0]))]) (ixn [])) [0] (by decide) rfl
  exact W.vret hx hb hr (fun t ht hW => ⟨⟨ixn [], rfl, trivial, ⟨by rw [ht]; exact hP9, hD9⟩⟩, hS.F ht⟩) hS.2.2 d_Desk_needVariable_18
set_option maxHeartbeats 4000000 in
set_option maxRecDepth 100000 in
theorem c_Desk_start_0 (l : Launch) (D : va_G) (ax : Nat → ClassId) (d0 d1 d2 d3 d4 d5 d6 d7 d8 d9 d10 d11 d12 : Nat) (e1 : Nat) (x2 : Int32) (sz : Nat) : Met l y_Desk_start (xws (.code y_Desk_start b_Desk_start 3 none)) ({ frames := 20, cells := 0, slots := 0, locals := 800 }) (va_Pc [.ref d0, .int 0, .int x2] (xo D ax [(d0, .inr (10, [.ref d1, .ref d2, .ref d3, .ref d4, .ref d5, .ref d6, .ref d7, .ref d8, .ref d9, .ref d10, .ref d11, .ref d12, .int 0])), (d7, .inr (8, [.ref e1])), (e1, .inl (ax 4, 6, .inr (.inl (fun _ => 0))))] sz)) ((va_Qv (fun (u : Nat → Nat) => True) (fun (_ : Nat → Nat) (_ : State) => True) (va_A [(d0, .inr (10, [.ref d1, .ref d2, .ref d3, .ref d4, .ref d5, .ref d6, .ref d7, .ref d8, .ref d9, .ref d10, .ref d11, .ref d12, .int 0])), (d7, .inr (8, [.ref e1])), (e1, .inl (ax 4, 6, .inr (.inl (fun _ => 0))))] sz))) 0 0 (va_A [(d0, .inr (10, [.ref d1, .ref d2, .ref d3, .ref d4, .ref d5, .ref d6, .ref d7, .ref d8, .ref d9, .ref d10, .ref d11, .ref d12, .int 0])), (d7, .inr (8, [.ref e1])), (e1, .inl (ax 4, 6, .inr (.inl (fun _ => 0))))] sz) := by
  refine Met.ofW (cc := b_Desk_start) (maxL := 3) (ret := none) (by decide) rfl ?_
  intro p e s m args below meth c s₁ B hml hv
  obtain ⟨rfl, hsz, hP, hK, hD0⟩ := hv
  have hx := B.exec
  have hb := B.bytes
  have hr := B.returns
  have hts := xw_hts B.pre
  have hown : s.vm.findClass R_Desk = some m.cls := findClass_of_methodNamed B.named
  have hlocks := B.notSynchronized
  subst hsz
  have hD := hD0.self (sz := s.heap.size)
  have hN := xz_entry hP
  generalize hAe : va_A [(d0, .inr (10, [.ref d1, .ref d2, .ref d3, .ref d4, .ref d5, .ref d6, .ref d7, .ref d8, .ref d9, .ref d10, .ref d11, .ref d12, .int 0])), (d7, .inr (8, [.ref e1])), (e1, .inl (ax 4, 6, .inr (.inl (fun _ => 0))))] s.heap.size = A at hD hN ⊢
  have hA : ∀ q : Nat, s.heap.size ≤ q → A q := fun q h => by rw [← hAe]; exact Or.inr h
  have hS : va_S A s.heap s.heap [] := va_S.rf
  have hl0 := lv_entry ([.ref d0, .int 0, .int x2]) (n := 3) (Nat.le_of_ble_eq_true rfl)
  rw [lg_entry_eq]
  generalize (lg_sl ([.ref d0, .int 0, .int x2]) ++ List.replicate (3 - (lg_sl ([.ref d0, .int 0, .int x2])).length) Slot.unset).toArray = ls at hl0 ⊢
  have hl1 : lv_has ls 3 [(0, .ref d0), (1, .int 0), (2, .int x2)] := hl0
  refine lv_aload_n hx hb d_Desk_start_0 rfl (lv_at hl1 0 rfl) ?_
  refine lv_iload_n hx hb d_Desk_start_1 rfl (lv_at hl1 1 rfl) ?_
  have hPc := hP.sub (ws' := [(d0, .inr (10, [.ref d1, .ref d2, .ref d3, .ref d4, .ref d5, .ref d6, .ref d7, .ref d8, .ref d9, .ref d10, .ref d11, .ref d12, .int 0]))]) [0] rfl
  have hDc := hD.sub (ws' := [(d0, .inr (10, [.ref d1, .ref d2, .ref d3, .ref d4, .ref d5, .ref d6, .ref d7, .ref d8, .ref d9, .ref d10, .ref d11, .ref d12, .int 0]))]) [0] (by decide) rfl
  have hFc := va_free (wc := [(d0, .inr (10, [.ref d1, .ref d2, .ref d3, .ref d4, .ref d5, .ref d6, .ref d7, .ref d8, .ref d9, .ref d10, .ref d11, .ref d12, .int 0]))]) hD hS hA [0] rfl
  have hz := xz_of hN hS
  refine va_callv (va_runV (As := [.int 0]) (rest := []) ⟨hx, hb, hml, hown, hts⟩ (c_Desk_needVariable_0 l D ax d0 d1 d2 d3 d4 d5 d6 d7 d8 d9 d10 d11 d12 s.heap.size) (xcV (n := 1) hts wd_965 wd_1 wd_962 wd_964 ps_46 rfl rfl (by decide +kernel) ⟨Nat.le_of_ble_eq_true rfl, Nat.le_of_ble_eq_true rfl⟩) (xpV (ci := 10) (q0 := 0) (As := [.int 0]) hPc hK hz hDc rfl rfl) rfl rfl hl1.1 rfl (lv_room (Nat.le_of_ble_eq_true rfl)) d_Desk_start_2 ⟨Nat.le_of_ble_eq_true rfl, Nat.le_of_ble_eq_true rfl⟩) hS (fun q _ h => hFc q h) hFc (fun u_1 t H_2 locs ht hvm hw hB hz1 hk1 hS => ?_)
  try dsimp only at hw
  obtain ⟨hP1, hD1⟩ := hB
  rw [ht] at hP1
  obtain ⟨hP, hD⟩ := va_join (wr := [(d7, .inr (8, [.ref e1])), (e1, .inl (ax 4, 6, .inr (.inl (fun _ => 0))))]) (w1 := [(d0, .inr (10, [.ref d1, .ref d2, .ref d3, .ref d4, .ref d5, .ref d6, .ref d7, .ref d8, .ref d9, .ref d10, .ref d11, .ref d12, .int 0]))]) hP hD [0] [1, 2] rfl rfl (by decide) (by decide) hk1 hFc hP1 hD1
  have hP : va_P D classes [(d7, .inr (8, [.ref e1])), (e1, .inl (ax 4, 6, .inr (.inl (fun _ => 0)))), (d0, .inr (10, [.ref d1, .ref d2, .ref d3, .ref d4, .ref d5, .ref d6, .ref d7, .ref d8, .ref d9, .ref d10, .ref d11, .ref d12, .int 0]))] H_2 := hP
  have hD : va_D A [(d7, .inr (8, [.ref e1])), (e1, .inl (ax 4, 6, .inr (.inl (fun _ => 0)))), (d0, .inr (10, [.ref d1, .ref d2, .ref d3, .ref d4, .ref d5, .ref d6, .ref d7, .ref d8, .ref d9, .ref d10, .ref d11, .ref d12, .int 0]))] := hD
  refine lv_aload_n hx hb d_Desk_start_5 rfl (lv_at hl1 0 rfl) ?_
  refine va_get (D := D) (ci := 10) (v := .ref d7) (C := R_Desk) (T := F_Desk) (N := 13) hx hb hts i_Desk hown hK.1 hP 2 rfl rfl 6 (by decide) (hts _ wd_381) (fun _ h9 => h9) rfl d_Desk_start_6 ?_
  refine va_get (D := D) (ci := 8) (v := .ref e1) (C := R_Runner) (T := F_Runner) (N := 1) hx hb hts i_Runner hown hK.1 hP 0 rfl rfl 0 (by decide) (hts _ wd_252) (fun _ h9 => h9) rfl d_Desk_start_9 ?_
  refine lv_iload_n hx hb d_Desk_start_12 rfl (lv_at hl1 1 rfl) ?_
  refine lv_iload_n hx hb d_Desk_start_13 rfl (lv_at hl1 2 rfl) ?_
  refine lv_i2l hx hb d_Desk_start_14 rfl ?_
  refine lv_topl (fun z_4 ez_4 => ?_)
  refine va_last hx hb hK.1 hP hD hS 1 4 rfl rfl (by unfold vp_in; decide) d_Desk_start_15 (fun H_5 locs hP hD hS => ?_)
  have hP : va_P D classes [(d7, .inr (8, [.ref e1])), (e1, .inl (ax 4, 6, .inr (.inl (vp_updL (fun _ => 0) 0 z_4)))), (d0, .inr (10, [.ref d1, .ref d2, .ref d3, .ref d4, .ref d5, .ref d6, .ref d7, .ref d8, .ref d9, .ref d10, .ref d11, .ref d12, .int 0]))] H_5 := hP
  have hD : va_D A [(d7, .inr (8, [.ref e1])), (e1, .inl (ax 4, 6, .inr (.inl (vp_updL (fun _ => 0) 0 z_4)))), (d0, .inr (10, [.ref d1, .ref d2, .ref d3, .ref d4, .ref d5, .ref d6, .ref d7, .ref d8, .ref d9, .ref d10, .ref d11, .ref d12, .int 0]))] := hD
  exact W.vret hx hb hr (fun t ht hW => ⟨⟨fun _ => 0, rfl, trivial, trivial⟩, hS.F ht⟩) hS.2.2 d_Desk_start_16
set_option maxHeartbeats 4000000 in
set_option maxRecDepth 100000 in
theorem c_Desk_value_0 (l : Launch) (D : va_G) (ax : Nat → ClassId) (d0 d1 d2 d3 d4 d5 d6 d7 d8 d9 d10 d11 d12 : Nat) (e1 : Nat) (sz : Nat) : Met l y_Desk_value (xws (.code y_Desk_value b_Desk_value 2 (some .long))) ({ frames := 20, cells := 0, slots := 0, locals := 800 }) (va_Pc [.ref d0, .int 0] (xo D ax [(d0, .inr (10, [.ref d1, .ref d2, .ref d3, .ref d4, .ref d5, .ref d6, .ref d7, .ref d8, .ref d9, .ref d10, .ref d11, .ref d12, .int 0])), (d7, .inr (8, [.ref e1])), (e1, .inl (ax 4, 6, .inr (.inl (fun _ => 0))))] sz)) ((va_Ql (fun (r : Int64) (u : Nat → Nat) => r = 0) (fun (_ : Nat → Nat) (_ : State) => True) (va_A [(d0, .inr (10, [.ref d1, .ref d2, .ref d3, .ref d4, .ref d5, .ref d6, .ref d7, .ref d8, .ref d9, .ref d10, .ref d11, .ref d12, .int 0])), (d7, .inr (8, [.ref e1])), (e1, .inl (ax 4, 6, .inr (.inl (fun _ => 0))))] sz))) 0 0 (va_A [(d0, .inr (10, [.ref d1, .ref d2, .ref d3, .ref d4, .ref d5, .ref d6, .ref d7, .ref d8, .ref d9, .ref d10, .ref d11, .ref d12, .int 0])), (d7, .inr (8, [.ref e1])), (e1, .inl (ax 4, 6, .inr (.inl (fun _ => 0))))] sz) := by
  refine Met.ofW (cc := b_Desk_value) (maxL := 2) (ret := (some .long)) (by decide) rfl ?_
  intro p e s m args below meth c s₁ B hml hv
  obtain ⟨rfl, hsz, hP, hK, hD0⟩ := hv
  have hx := B.exec
  have hb := B.bytes
  have hr := B.returns
  have hts := xw_hts B.pre
  have hown : s.vm.findClass R_Desk = some m.cls := findClass_of_methodNamed B.named
  have hlocks := B.notSynchronized
  subst hsz
  have hD := hD0.self (sz := s.heap.size)
  have hN := xz_entry hP
  generalize hAe : va_A [(d0, .inr (10, [.ref d1, .ref d2, .ref d3, .ref d4, .ref d5, .ref d6, .ref d7, .ref d8, .ref d9, .ref d10, .ref d11, .ref d12, .int 0])), (d7, .inr (8, [.ref e1])), (e1, .inl (ax 4, 6, .inr (.inl (fun _ => 0))))] s.heap.size = A at hD hN ⊢
  have hA : ∀ q : Nat, s.heap.size ≤ q → A q := fun q h => by rw [← hAe]; exact Or.inr h
  have hS : va_S A s.heap s.heap [] := va_S.rf
  have hl0 := lv_entry ([.ref d0, .int 0]) (n := 2) (Nat.le_of_ble_eq_true rfl)
  rw [lg_entry_eq]
  generalize (lg_sl ([.ref d0, .int 0]) ++ List.replicate (2 - (lg_sl ([.ref d0, .int 0])).length) Slot.unset).toArray = ls at hl0 ⊢
  have hl1 : lv_has ls 2 [(0, .ref d0), (1, .int 0)] := hl0
  refine lv_aload_n hx hb d_Desk_value_0 rfl (lv_at hl1 0 rfl) ?_
  refine lv_iload_n hx hb d_Desk_value_1 rfl (lv_at hl1 1 rfl) ?_
  have hPc := hP.sub (ws' := [(d0, .inr (10, [.ref d1, .ref d2, .ref d3, .ref d4, .ref d5, .ref d6, .ref d7, .ref d8, .ref d9, .ref d10, .ref d11, .ref d12, .int 0]))]) [0] rfl
  have hDc := hD.sub (ws' := [(d0, .inr (10, [.ref d1, .ref d2, .ref d3, .ref d4, .ref d5, .ref d6, .ref d7, .ref d8, .ref d9, .ref d10, .ref d11, .ref d12, .int 0]))]) [0] (by decide) rfl
  have hFc := va_free (wc := [(d0, .inr (10, [.ref d1, .ref d2, .ref d3, .ref d4, .ref d5, .ref d6, .ref d7, .ref d8, .ref d9, .ref d10, .ref d11, .ref d12, .int 0]))]) hD hS hA [0] rfl
  have hz := xz_of hN hS
  refine va_callv (va_runV (As := [.int 0]) (rest := []) ⟨hx, hb, hml, hown, hts⟩ (c_Desk_needVariable_0 l D ax d0 d1 d2 d3 d4 d5 d6 d7 d8 d9 d10 d11 d12 s.heap.size) (xcV (n := 1) hts wd_965 wd_1 wd_962 wd_964 ps_46 rfl rfl (by decide +kernel) ⟨Nat.le_of_ble_eq_true rfl, Nat.le_of_ble_eq_true rfl⟩) (xpV (ci := 10) (q0 := 0) (As := [.int 0]) hPc hK hz hDc rfl rfl) rfl rfl hl1.1 rfl (lv_room (Nat.le_of_ble_eq_true rfl)) d_Desk_value_2 ⟨Nat.le_of_ble_eq_true rfl, Nat.le_of_ble_eq_true rfl⟩) hS (fun q _ h => hFc q h) hFc (fun u_1 t H_2 locs ht hvm hw hB hz1 hk1 hS => ?_)
  try dsimp only at hw
  obtain ⟨hP1, hD1⟩ := hB
  rw [ht] at hP1
  obtain ⟨hP, hD⟩ := va_join (wr := [(d7, .inr (8, [.ref e1])), (e1, .inl (ax 4, 6, .inr (.inl (fun _ => 0))))]) (w1 := [(d0, .inr (10, [.ref d1, .ref d2, .ref d3, .ref d4, .ref d5, .ref d6, .ref d7, .ref d8, .ref d9, .ref d10, .ref d11, .ref d12, .int 0]))]) hP hD [0] [1, 2] rfl rfl (by decide) (by decide) hk1 hFc hP1 hD1
  have hP : va_P D classes [(d7, .inr (8, [.ref e1])), (e1, .inl (ax 4, 6, .inr (.inl (fun _ => 0)))), (d0, .inr (10, [.ref d1, .ref d2, .ref d3, .ref d4, .ref d5, .ref d6, .ref d7, .ref d8, .ref d9, .ref d10, .ref d11, .ref d12, .int 0]))] H_2 := hP
  have hD : va_D A [(d7, .inr (8, [.ref e1])), (e1, .inl (ax 4, 6, .inr (.inl (fun _ => 0)))), (d0, .inr (10, [.ref d1, .ref d2, .ref d3, .ref d4, .ref d5, .ref d6, .ref d7, .ref d8, .ref d9, .ref d10, .ref d11, .ref d12, .int 0]))] := hD
  refine lv_aload_n hx hb d_Desk_value_5 rfl (lv_at hl1 0 rfl) ?_
  refine va_get (D := D) (ci := 10) (v := .ref d7) (C := R_Desk) (T := F_Desk) (N := 13) hx hb hts i_Desk hown hK.1 hP 2 rfl rfl 6 (by decide) (hts _ wd_381) (fun _ h9 => h9) rfl d_Desk_value_6 ?_
  refine va_get (D := D) (ci := 8) (v := .ref e1) (C := R_Runner) (T := F_Runner) (N := 1) hx hb hts i_Runner hown hK.1 hP 0 rfl rfl 0 (by decide) (hts _ wd_252) (fun _ h9 => h9) rfl d_Desk_value_9 ?_
  refine lv_iload_n hx hb d_Desk_value_12 rfl (lv_at hl1 1 rfl) ?_
  refine va_lald hx hb hK.1 hP 1 4 rfl rfl (by unfold vp_in; decide) d_Desk_value_13 ?_
  refine lv_topl (fun z_4 ez_4 => ?_)
  have ez_4 : z_4 = 0 := ez_4.trans (by first | rfl | decide)
  subst ez_4
  exact W.lret (v := 0) hx hb hr (fun t ht hW => ⟨⟨0, fun _ => 0, rfl, rfl, trivial⟩, hS.F ht⟩) hS.2.2 d_Desk_value_14
set_option maxHeartbeats 4000000 in
set_option maxRecDepth 100000 in
theorem c_Desk_needVariable_1 (l : Launch) (D : va_G) (ax : Nat → ClassId) (d0 d1 d2 d3 d4 d5 d6 d7 d8 d9 d10 d11 d12 : Nat) (sz : Nat) : Met l y_Desk_needVariable (xws (.code y_Desk_needVariable b_Desk_needVariable 2 none)) ({ frames := 10, cells := 0, slots := 0, locals := 400 }) (va_Pc [.ref d0, .int 1] (xo D ax [(d0, .inr (10, [.ref d1, .ref d2, .ref d3, .ref d4, .ref d5, .ref d6, .ref d7, .ref d8, .ref d9, .ref d10, .ref d11, .ref d12, .int 0]))] sz)) ((va_Qv (fun (u : Nat → Nat) => True) (xb D (va_A [(d0, .inr (10, [.ref d1, .ref d2, .ref d3, .ref d4, .ref d5, .ref d6, .ref d7, .ref d8, .ref d9, .ref d10, .ref d11, .ref d12, .int 0]))] sz) (fun u => [(d0, .inr (10, [.ref d1, .ref d2, .ref d3, .ref d4, .ref d5, .ref d6, .ref d7, .ref d8, .ref d9, .ref d10, .ref d11, .ref d12, .int 0]))])) (va_A [(d0, .inr (10, [.ref d1, .ref d2, .ref d3, .ref d4, .ref d5, .ref d6, .ref d7, .ref d8, .ref d9, .ref d10, .ref d11, .ref d12, .int 0]))] sz))) 0 0 (va_A [(d0, .inr (10, [.ref d1, .ref d2, .ref d3, .ref d4, .ref d5, .ref d6, .ref d7, .ref d8, .ref d9, .ref d10, .ref d11, .ref d12, .int 0]))] sz) := by
  refine Met.ofW (cc := b_Desk_needVariable) (maxL := 2) (ret := none) (by decide) rfl ?_
  intro p e s m args below meth c s₁ B hml hv
  obtain ⟨rfl, hsz, hP, hK, hD0⟩ := hv
  have hx := B.exec
  have hb := B.bytes
  have hr := B.returns
  have hts := xw_hts B.pre
  have hown : s.vm.findClass R_Desk = some m.cls := findClass_of_methodNamed B.named
  have hlocks := B.notSynchronized
  subst hsz
  have hD := hD0.self (sz := s.heap.size)
  have hN := xz_entry hP
  generalize hAe : va_A [(d0, .inr (10, [.ref d1, .ref d2, .ref d3, .ref d4, .ref d5, .ref d6, .ref d7, .ref d8, .ref d9, .ref d10, .ref d11, .ref d12, .int 0]))] s.heap.size = A at hD hN ⊢
  have hA : ∀ q : Nat, s.heap.size ≤ q → A q := fun q h => by rw [← hAe]; exact Or.inr h
  have hS : va_S A s.heap s.heap [] := va_S.rf
  have hl0 := lv_entry ([.ref d0, .int 1]) (n := 2) (Nat.le_of_ble_eq_true rfl)
  rw [lg_entry_eq]
  generalize (lg_sl ([.ref d0, .int 1]) ++ List.replicate (2 - (lg_sl ([.ref d0, .int 1])).length) Slot.unset).toArray = ls at hl0 ⊢
  have hl1 : lv_has ls 2 [(0, .ref d0), (1, .int 1)] := hl0
  refine lv_iload_n hx hb d_Desk_needVariable_0 rfl (lv_at hl1 1 rfl) ?_
  refine lv_if_lt (tgt := 10) hx hb d_Desk_needVariable_1 (by decide) (fun c_1 => ?_) (fun c_1 => ?_)
  · first | exact absurd c_1 (by decide) | exact absurd (by decide) c_1
  refine lv_iload_n hx hb d_Desk_needVariable_4 rfl (lv_at hl1 1 rfl) ?_
  refine lv_bipush (v := 6) hx hb d_Desk_needVariable_5 (by decide) ?_
  refine lv_icmp_lt (tgt := 18) hx hb d_Desk_needVariable_7 (by decide) (fun c_2 => ?_) (fun c_2 => ?_)
  rotate_left
  · first | exact absurd c_2 (by decide) | exact absurd (by decide) c_2
  have hP9 := hP.sub (ws' := (fun u : Nat → Nat => [(d0, .inr (10, [.ref d1, .ref d2, .ref d3, .ref d4, .ref d5, .ref d6, .ref d7, .ref d8, .ref d9, .ref d10, .ref d11, .ref d12, .int 0]))]) (ixn [])) [0] rfl
  have hD9 := hD.sub (ws' := (fun u : Nat → Nat => [(d0, .inr (10, [.ref d1, .ref d2, .ref d3, .ref d4, .ref d5, .ref d6, .ref d7, .ref d8, .ref d9, .ref d10, .ref d11, .ref d12, .int 0]))]) (ixn [])) [0] (by decide) rfl
  exact W.vret hx hb hr (fun t ht hW => ⟨⟨ixn [], rfl, trivial, ⟨by rw [ht]; exact hP9, hD9⟩⟩, hS.F ht⟩) hS.2.2 d_Desk_needVariable_18
set_option maxHeartbeats 4000000 in
set_option maxRecDepth 100000 in
theorem c_Desk_start_1 (l : Launch) (D : va_G) (ax : Nat → ClassId) (d0 d1 d2 d3 d4 d5 d6 d7 d8 d9 d10 d11 d12 : Nat) (e1 : Nat) (x2 : Int32) (sz : Nat) : Met l y_Desk_start (xws (.code y_Desk_start b_Desk_start 3 none)) ({ frames := 20, cells := 0, slots := 0, locals := 800 }) (va_Pc [.ref d0, .int 1, .int x2] (xo D ax [(d0, .inr (10, [.ref d1, .ref d2, .ref d3, .ref d4, .ref d5, .ref d6, .ref d7, .ref d8, .ref d9, .ref d10, .ref d11, .ref d12, .int 0])), (d7, .inr (8, [.ref e1])), (e1, .inl (ax 4, 6, .inr (.inl (fun _ => 0))))] sz)) ((va_Qv (fun (u : Nat → Nat) => True) (fun (_ : Nat → Nat) (_ : State) => True) (va_A [(d0, .inr (10, [.ref d1, .ref d2, .ref d3, .ref d4, .ref d5, .ref d6, .ref d7, .ref d8, .ref d9, .ref d10, .ref d11, .ref d12, .int 0])), (d7, .inr (8, [.ref e1])), (e1, .inl (ax 4, 6, .inr (.inl (fun _ => 0))))] sz))) 0 0 (va_A [(d0, .inr (10, [.ref d1, .ref d2, .ref d3, .ref d4, .ref d5, .ref d6, .ref d7, .ref d8, .ref d9, .ref d10, .ref d11, .ref d12, .int 0])), (d7, .inr (8, [.ref e1])), (e1, .inl (ax 4, 6, .inr (.inl (fun _ => 0))))] sz) := by
  refine Met.ofW (cc := b_Desk_start) (maxL := 3) (ret := none) (by decide) rfl ?_
  intro p e s m args below meth c s₁ B hml hv
  obtain ⟨rfl, hsz, hP, hK, hD0⟩ := hv
  have hx := B.exec
  have hb := B.bytes
  have hr := B.returns
  have hts := xw_hts B.pre
  have hown : s.vm.findClass R_Desk = some m.cls := findClass_of_methodNamed B.named
  have hlocks := B.notSynchronized
  subst hsz
  have hD := hD0.self (sz := s.heap.size)
  have hN := xz_entry hP
  generalize hAe : va_A [(d0, .inr (10, [.ref d1, .ref d2, .ref d3, .ref d4, .ref d5, .ref d6, .ref d7, .ref d8, .ref d9, .ref d10, .ref d11, .ref d12, .int 0])), (d7, .inr (8, [.ref e1])), (e1, .inl (ax 4, 6, .inr (.inl (fun _ => 0))))] s.heap.size = A at hD hN ⊢
  have hA : ∀ q : Nat, s.heap.size ≤ q → A q := fun q h => by rw [← hAe]; exact Or.inr h
  have hS : va_S A s.heap s.heap [] := va_S.rf
  have hl0 := lv_entry ([.ref d0, .int 1, .int x2]) (n := 3) (Nat.le_of_ble_eq_true rfl)
  rw [lg_entry_eq]
  generalize (lg_sl ([.ref d0, .int 1, .int x2]) ++ List.replicate (3 - (lg_sl ([.ref d0, .int 1, .int x2])).length) Slot.unset).toArray = ls at hl0 ⊢
  have hl1 : lv_has ls 3 [(0, .ref d0), (1, .int 1), (2, .int x2)] := hl0
  refine lv_aload_n hx hb d_Desk_start_0 rfl (lv_at hl1 0 rfl) ?_
  refine lv_iload_n hx hb d_Desk_start_1 rfl (lv_at hl1 1 rfl) ?_
  have hPc := hP.sub (ws' := [(d0, .inr (10, [.ref d1, .ref d2, .ref d3, .ref d4, .ref d5, .ref d6, .ref d7, .ref d8, .ref d9, .ref d10, .ref d11, .ref d12, .int 0]))]) [0] rfl
  have hDc := hD.sub (ws' := [(d0, .inr (10, [.ref d1, .ref d2, .ref d3, .ref d4, .ref d5, .ref d6, .ref d7, .ref d8, .ref d9, .ref d10, .ref d11, .ref d12, .int 0]))]) [0] (by decide) rfl
  have hFc := va_free (wc := [(d0, .inr (10, [.ref d1, .ref d2, .ref d3, .ref d4, .ref d5, .ref d6, .ref d7, .ref d8, .ref d9, .ref d10, .ref d11, .ref d12, .int 0]))]) hD hS hA [0] rfl
  have hz := xz_of hN hS
  refine va_callv (va_runV (As := [.int 1]) (rest := []) ⟨hx, hb, hml, hown, hts⟩ (c_Desk_needVariable_1 l D ax d0 d1 d2 d3 d4 d5 d6 d7 d8 d9 d10 d11 d12 s.heap.size) (xcV (n := 1) hts wd_965 wd_1 wd_962 wd_964 ps_46 rfl rfl (by decide +kernel) ⟨Nat.le_of_ble_eq_true rfl, Nat.le_of_ble_eq_true rfl⟩) (xpV (ci := 10) (q0 := 0) (As := [.int 1]) hPc hK hz hDc rfl rfl) rfl rfl hl1.1 rfl (lv_room (Nat.le_of_ble_eq_true rfl)) d_Desk_start_2 ⟨Nat.le_of_ble_eq_true rfl, Nat.le_of_ble_eq_true rfl⟩) hS (fun q _ h => hFc q h) hFc (fun u_1 t H_2 locs ht hvm hw hB hz1 hk1 hS => ?_)
  try dsimp only at hw
  obtain ⟨hP1, hD1⟩ := hB
  rw [ht] at hP1
  obtain ⟨hP, hD⟩ := va_join (wr := [(d7, .inr (8, [.ref e1])), (e1, .inl (ax 4, 6, .inr (.inl (fun _ => 0))))]) (w1 := [(d0, .inr (10, [.ref d1, .ref d2, .ref d3, .ref d4, .ref d5, .ref d6, .ref d7, .ref d8, .ref d9, .ref d10, .ref d11, .ref d12, .int 0]))]) hP hD [0] [1, 2] rfl rfl (by decide) (by decide) hk1 hFc hP1 hD1
  have hP : va_P D classes [(d7, .inr (8, [.ref e1])), (e1, .inl (ax 4, 6, .inr (.inl (fun _ => 0)))), (d0, .inr (10, [.ref d1, .ref d2, .ref d3, .ref d4, .ref d5, .ref d6, .ref d7, .ref d8, .ref d9, .ref d10, .ref d11, .ref d12, .int 0]))] H_2 := hP
  have hD : va_D A [(d7, .inr (8, [.ref e1])), (e1, .inl (ax 4, 6, .inr (.inl (fun _ => 0)))), (d0, .inr (10, [.ref d1, .ref d2, .ref d3, .ref d4, .ref d5, .ref d6, .ref d7, .ref d8, .ref d9, .ref d10, .ref d11, .ref d12, .int 0]))] := hD
  refine lv_aload_n hx hb d_Desk_start_5 rfl (lv_at hl1 0 rfl) ?_
  refine va_get (D := D) (ci := 10) (v := .ref d7) (C := R_Desk) (T := F_Desk) (N := 13) hx hb hts i_Desk hown hK.1 hP 2 rfl rfl 6 (by decide) (hts _ wd_381) (fun _ h9 => h9) rfl d_Desk_start_6 ?_
  refine va_get (D := D) (ci := 8) (v := .ref e1) (C := R_Runner) (T := F_Runner) (N := 1) hx hb hts i_Runner hown hK.1 hP 0 rfl rfl 0 (by decide) (hts _ wd_252) (fun _ h9 => h9) rfl d_Desk_start_9 ?_
  refine lv_iload_n hx hb d_Desk_start_12 rfl (lv_at hl1 1 rfl) ?_
  refine lv_iload_n hx hb d_Desk_start_13 rfl (lv_at hl1 2 rfl) ?_
  refine lv_i2l hx hb d_Desk_start_14 rfl ?_
  refine lv_topl (fun z_4 ez_4 => ?_)
  refine va_last hx hb hK.1 hP hD hS 1 4 rfl rfl (by unfold vp_in; decide) d_Desk_start_15 (fun H_5 locs hP hD hS => ?_)
  have hP : va_P D classes [(d7, .inr (8, [.ref e1])), (e1, .inl (ax 4, 6, .inr (.inl (vp_updL (fun _ => 0) 1 z_4)))), (d0, .inr (10, [.ref d1, .ref d2, .ref d3, .ref d4, .ref d5, .ref d6, .ref d7, .ref d8, .ref d9, .ref d10, .ref d11, .ref d12, .int 0]))] H_5 := hP
  have hD : va_D A [(d7, .inr (8, [.ref e1])), (e1, .inl (ax 4, 6, .inr (.inl (vp_updL (fun _ => 0) 1 z_4)))), (d0, .inr (10, [.ref d1, .ref d2, .ref d3, .ref d4, .ref d5, .ref d6, .ref d7, .ref d8, .ref d9, .ref d10, .ref d11, .ref d12, .int 0]))] := hD
  exact W.vret hx hb hr (fun t ht hW => ⟨⟨fun _ => 0, rfl, trivial, trivial⟩, hS.F ht⟩) hS.2.2 d_Desk_start_16
set_option maxHeartbeats 4000000 in
set_option maxRecDepth 100000 in
theorem c_Desk_value_1 (l : Launch) (D : va_G) (ax : Nat → ClassId) (d0 d1 d2 d3 d4 d5 d6 d7 d8 d9 d10 d11 d12 : Nat) (e1 : Nat) (sz : Nat) : Met l y_Desk_value (xws (.code y_Desk_value b_Desk_value 2 (some .long))) ({ frames := 20, cells := 0, slots := 0, locals := 800 }) (va_Pc [.ref d0, .int 1] (xo D ax [(d0, .inr (10, [.ref d1, .ref d2, .ref d3, .ref d4, .ref d5, .ref d6, .ref d7, .ref d8, .ref d9, .ref d10, .ref d11, .ref d12, .int 0])), (d7, .inr (8, [.ref e1])), (e1, .inl (ax 4, 6, .inr (.inl (fun _ => 0))))] sz)) ((va_Ql (fun (r : Int64) (u : Nat → Nat) => r = 0) (fun (_ : Nat → Nat) (_ : State) => True) (va_A [(d0, .inr (10, [.ref d1, .ref d2, .ref d3, .ref d4, .ref d5, .ref d6, .ref d7, .ref d8, .ref d9, .ref d10, .ref d11, .ref d12, .int 0])), (d7, .inr (8, [.ref e1])), (e1, .inl (ax 4, 6, .inr (.inl (fun _ => 0))))] sz))) 0 0 (va_A [(d0, .inr (10, [.ref d1, .ref d2, .ref d3, .ref d4, .ref d5, .ref d6, .ref d7, .ref d8, .ref d9, .ref d10, .ref d11, .ref d12, .int 0])), (d7, .inr (8, [.ref e1])), (e1, .inl (ax 4, 6, .inr (.inl (fun _ => 0))))] sz) := by
  refine Met.ofW (cc := b_Desk_value) (maxL := 2) (ret := (some .long)) (by decide) rfl ?_
  intro p e s m args below meth c s₁ B hml hv
  obtain ⟨rfl, hsz, hP, hK, hD0⟩ := hv
  have hx := B.exec
  have hb := B.bytes
  have hr := B.returns
  have hts := xw_hts B.pre
  have hown : s.vm.findClass R_Desk = some m.cls := findClass_of_methodNamed B.named
  have hlocks := B.notSynchronized
  subst hsz
  have hD := hD0.self (sz := s.heap.size)
  have hN := xz_entry hP
  generalize hAe : va_A [(d0, .inr (10, [.ref d1, .ref d2, .ref d3, .ref d4, .ref d5, .ref d6, .ref d7, .ref d8, .ref d9, .ref d10, .ref d11, .ref d12, .int 0])), (d7, .inr (8, [.ref e1])), (e1, .inl (ax 4, 6, .inr (.inl (fun _ => 0))))] s.heap.size = A at hD hN ⊢
  have hA : ∀ q : Nat, s.heap.size ≤ q → A q := fun q h => by rw [← hAe]; exact Or.inr h
  have hS : va_S A s.heap s.heap [] := va_S.rf
  have hl0 := lv_entry ([.ref d0, .int 1]) (n := 2) (Nat.le_of_ble_eq_true rfl)
  rw [lg_entry_eq]
  generalize (lg_sl ([.ref d0, .int 1]) ++ List.replicate (2 - (lg_sl ([.ref d0, .int 1])).length) Slot.unset).toArray = ls at hl0 ⊢
  have hl1 : lv_has ls 2 [(0, .ref d0), (1, .int 1)] := hl0
  refine lv_aload_n hx hb d_Desk_value_0 rfl (lv_at hl1 0 rfl) ?_
  refine lv_iload_n hx hb d_Desk_value_1 rfl (lv_at hl1 1 rfl) ?_
  have hPc := hP.sub (ws' := [(d0, .inr (10, [.ref d1, .ref d2, .ref d3, .ref d4, .ref d5, .ref d6, .ref d7, .ref d8, .ref d9, .ref d10, .ref d11, .ref d12, .int 0]))]) [0] rfl
  have hDc := hD.sub (ws' := [(d0, .inr (10, [.ref d1, .ref d2, .ref d3, .ref d4, .ref d5, .ref d6, .ref d7, .ref d8, .ref d9, .ref d10, .ref d11, .ref d12, .int 0]))]) [0] (by decide) rfl
  have hFc := va_free (wc := [(d0, .inr (10, [.ref d1, .ref d2, .ref d3, .ref d4, .ref d5, .ref d6, .ref d7, .ref d8, .ref d9, .ref d10, .ref d11, .ref d12, .int 0]))]) hD hS hA [0] rfl
  have hz := xz_of hN hS
  refine va_callv (va_runV (As := [.int 1]) (rest := []) ⟨hx, hb, hml, hown, hts⟩ (c_Desk_needVariable_1 l D ax d0 d1 d2 d3 d4 d5 d6 d7 d8 d9 d10 d11 d12 s.heap.size) (xcV (n := 1) hts wd_965 wd_1 wd_962 wd_964 ps_46 rfl rfl (by decide +kernel) ⟨Nat.le_of_ble_eq_true rfl, Nat.le_of_ble_eq_true rfl⟩) (xpV (ci := 10) (q0 := 0) (As := [.int 1]) hPc hK hz hDc rfl rfl) rfl rfl hl1.1 rfl (lv_room (Nat.le_of_ble_eq_true rfl)) d_Desk_value_2 ⟨Nat.le_of_ble_eq_true rfl, Nat.le_of_ble_eq_true rfl⟩) hS (fun q _ h => hFc q h) hFc (fun u_1 t H_2 locs ht hvm hw hB hz1 hk1 hS => ?_)
  try dsimp only at hw
  obtain ⟨hP1, hD1⟩ := hB
  rw [ht] at hP1
  obtain ⟨hP, hD⟩ := va_join (wr := [(d7, .inr (8, [.ref e1])), (e1, .inl (ax 4, 6, .inr (.inl (fun _ => 0))))]) (w1 := [(d0, .inr (10, [.ref d1, .ref d2, .ref d3, .ref d4, .ref d5, .ref d6, .ref d7, .ref d8, .ref d9, .ref d10, .ref d11, .ref d12, .int 0]))]) hP hD [0] [1, 2] rfl rfl (by decide) (by decide) hk1 hFc hP1 hD1
  have hP : va_P D classes [(d7, .inr (8, [.ref e1])), (e1, .inl (ax 4, 6, .inr (.inl (fun _ => 0)))), (d0, .inr (10, [.ref d1, .ref d2, .ref d3, .ref d4, .ref d5, .ref d6, .ref d7, .ref d8, .ref d9, .ref d10, .ref d11, .ref d12, .int 0]))] H_2 := hP
  have hD : va_D A [(d7, .inr (8, [.ref e1])), (e1, .inl (ax 4, 6, .inr (.inl (fun _ => 0)))), (d0, .inr (10, [.ref d1, .ref d2, .ref d3, .ref d4, .ref d5, .ref d6, .ref d7, .ref d8, .ref d9, .ref d10, .ref d11, .ref d12, .int 0]))] := hD
  refine lv_aload_n hx hb d_Desk_value_5 rfl (lv_at hl1 0 rfl) ?_
  refine va_get (D := D) (ci := 10) (v := .ref d7) (C := R_Desk) (T := F_Desk) (N := 13) hx hb hts i_Desk hown hK.1 hP 2 rfl rfl 6 (by decide) (hts _ wd_381) (fun _ h9 => h9) rfl d_Desk_value_6 ?_
  refine va_get (D := D) (ci := 8) (v := .ref e1) (C := R_Runner) (T := F_Runner) (N := 1) hx hb hts i_Runner hown hK.1 hP 0 rfl rfl 0 (by decide) (hts _ wd_252) (fun _ h9 => h9) rfl d_Desk_value_9 ?_
  refine lv_iload_n hx hb d_Desk_value_12 rfl (lv_at hl1 1 rfl) ?_
  refine va_lald hx hb hK.1 hP 1 4 rfl rfl (by unfold vp_in; decide) d_Desk_value_13 ?_
  refine lv_topl (fun z_4 ez_4 => ?_)
  have ez_4 : z_4 = 0 := ez_4.trans (by first | rfl | decide)
  subst ez_4
  exact W.lret (v := 0) hx hb hr (fun t ht hW => ⟨⟨0, fun _ => 0, rfl, rfl, trivial⟩, hS.F ht⟩) hS.2.2 d_Desk_value_14
set_option maxHeartbeats 4000000 in
set_option maxRecDepth 100000 in
theorem c_Desk_needVariable_2 (l : Launch) (D : va_G) (ax : Nat → ClassId) (d0 d1 d2 d3 d4 d5 d6 d7 d8 d9 d10 d11 d12 : Nat) (sz : Nat) : Met l y_Desk_needVariable (xws (.code y_Desk_needVariable b_Desk_needVariable 2 none)) ({ frames := 10, cells := 0, slots := 0, locals := 400 }) (va_Pc [.ref d0, .int 2] (xo D ax [(d0, .inr (10, [.ref d1, .ref d2, .ref d3, .ref d4, .ref d5, .ref d6, .ref d7, .ref d8, .ref d9, .ref d10, .ref d11, .ref d12, .int 0]))] sz)) ((va_Qv (fun (u : Nat → Nat) => True) (xb D (va_A [(d0, .inr (10, [.ref d1, .ref d2, .ref d3, .ref d4, .ref d5, .ref d6, .ref d7, .ref d8, .ref d9, .ref d10, .ref d11, .ref d12, .int 0]))] sz) (fun u => [(d0, .inr (10, [.ref d1, .ref d2, .ref d3, .ref d4, .ref d5, .ref d6, .ref d7, .ref d8, .ref d9, .ref d10, .ref d11, .ref d12, .int 0]))])) (va_A [(d0, .inr (10, [.ref d1, .ref d2, .ref d3, .ref d4, .ref d5, .ref d6, .ref d7, .ref d8, .ref d9, .ref d10, .ref d11, .ref d12, .int 0]))] sz))) 0 0 (va_A [(d0, .inr (10, [.ref d1, .ref d2, .ref d3, .ref d4, .ref d5, .ref d6, .ref d7, .ref d8, .ref d9, .ref d10, .ref d11, .ref d12, .int 0]))] sz) := by
  refine Met.ofW (cc := b_Desk_needVariable) (maxL := 2) (ret := none) (by decide) rfl ?_
  intro p e s m args below meth c s₁ B hml hv
  obtain ⟨rfl, hsz, hP, hK, hD0⟩ := hv
  have hx := B.exec
  have hb := B.bytes
  have hr := B.returns
  have hts := xw_hts B.pre
  have hown : s.vm.findClass R_Desk = some m.cls := findClass_of_methodNamed B.named
  have hlocks := B.notSynchronized
  subst hsz
  have hD := hD0.self (sz := s.heap.size)
  have hN := xz_entry hP
  generalize hAe : va_A [(d0, .inr (10, [.ref d1, .ref d2, .ref d3, .ref d4, .ref d5, .ref d6, .ref d7, .ref d8, .ref d9, .ref d10, .ref d11, .ref d12, .int 0]))] s.heap.size = A at hD hN ⊢
  have hA : ∀ q : Nat, s.heap.size ≤ q → A q := fun q h => by rw [← hAe]; exact Or.inr h
  have hS : va_S A s.heap s.heap [] := va_S.rf
  have hl0 := lv_entry ([.ref d0, .int 2]) (n := 2) (Nat.le_of_ble_eq_true rfl)
  rw [lg_entry_eq]
  generalize (lg_sl ([.ref d0, .int 2]) ++ List.replicate (2 - (lg_sl ([.ref d0, .int 2])).length) Slot.unset).toArray = ls at hl0 ⊢
  have hl1 : lv_has ls 2 [(0, .ref d0), (1, .int 2)] := hl0
  refine lv_iload_n hx hb d_Desk_needVariable_0 rfl (lv_at hl1 1 rfl) ?_
  refine lv_if_lt (tgt := 10) hx hb d_Desk_needVariable_1 (by decide) (fun c_1 => ?_) (fun c_1 => ?_)
  · first | exact absurd c_1 (by decide) | exact absurd (by decide) c_1
  refine lv_iload_n hx hb d_Desk_needVariable_4 rfl (lv_at hl1 1 rfl) ?_
  refine lv_bipush (v := 6) hx hb d_Desk_needVariable_5 (by decide) ?_
  refine lv_icmp_lt (tgt := 18) hx hb d_Desk_needVariable_7 (by decide) (fun c_2 => ?_) (fun c_2 => ?_)
  rotate_left
  · first | exact absurd c_2 (by decide) | exact absurd (by decide) c_2
  have hP9 := hP.sub (ws' := (fun u : Nat → Nat => [(d0, .inr (10, [.ref d1, .ref d2, .ref d3, .ref d4, .ref d5, .ref d6, .ref d7, .ref d8, .ref d9, .ref d10, .ref d11, .ref d12, .int 0]))]) (ixn [])) [0] rfl
  have hD9 := hD.sub (ws' := (fun u : Nat → Nat => [(d0, .inr (10, [.ref d1, .ref d2, .ref d3, .ref d4, .ref d5, .ref d6, .ref d7, .ref d8, .ref d9, .ref d10, .ref d11, .ref d12, .int 0]))]) (ixn [])) [0] (by decide) rfl
  exact W.vret hx hb hr (fun t ht hW => ⟨⟨ixn [], rfl, trivial, ⟨by rw [ht]; exact hP9, hD9⟩⟩, hS.F ht⟩) hS.2.2 d_Desk_needVariable_18
set_option maxHeartbeats 4000000 in
set_option maxRecDepth 100000 in
theorem c_Desk_start_2 (l : Launch) (D : va_G) (ax : Nat → ClassId) (d0 d1 d2 d3 d4 d5 d6 d7 d8 d9 d10 d11 d12 : Nat) (e1 : Nat) (x2 : Int32) (sz : Nat) : Met l y_Desk_start (xws (.code y_Desk_start b_Desk_start 3 none)) ({ frames := 20, cells := 0, slots := 0, locals := 800 }) (va_Pc [.ref d0, .int 2, .int x2] (xo D ax [(d0, .inr (10, [.ref d1, .ref d2, .ref d3, .ref d4, .ref d5, .ref d6, .ref d7, .ref d8, .ref d9, .ref d10, .ref d11, .ref d12, .int 0])), (d7, .inr (8, [.ref e1])), (e1, .inl (ax 4, 6, .inr (.inl (fun _ => 0))))] sz)) ((va_Qv (fun (u : Nat → Nat) => True) (fun (_ : Nat → Nat) (_ : State) => True) (va_A [(d0, .inr (10, [.ref d1, .ref d2, .ref d3, .ref d4, .ref d5, .ref d6, .ref d7, .ref d8, .ref d9, .ref d10, .ref d11, .ref d12, .int 0])), (d7, .inr (8, [.ref e1])), (e1, .inl (ax 4, 6, .inr (.inl (fun _ => 0))))] sz))) 0 0 (va_A [(d0, .inr (10, [.ref d1, .ref d2, .ref d3, .ref d4, .ref d5, .ref d6, .ref d7, .ref d8, .ref d9, .ref d10, .ref d11, .ref d12, .int 0])), (d7, .inr (8, [.ref e1])), (e1, .inl (ax 4, 6, .inr (.inl (fun _ => 0))))] sz) := by
  refine Met.ofW (cc := b_Desk_start) (maxL := 3) (ret := none) (by decide) rfl ?_
  intro p e s m args below meth c s₁ B hml hv
  obtain ⟨rfl, hsz, hP, hK, hD0⟩ := hv
  have hx := B.exec
  have hb := B.bytes
  have hr := B.returns
  have hts := xw_hts B.pre
  have hown : s.vm.findClass R_Desk = some m.cls := findClass_of_methodNamed B.named
  have hlocks := B.notSynchronized
  subst hsz
  have hD := hD0.self (sz := s.heap.size)
  have hN := xz_entry hP
  generalize hAe : va_A [(d0, .inr (10, [.ref d1, .ref d2, .ref d3, .ref d4, .ref d5, .ref d6, .ref d7, .ref d8, .ref d9, .ref d10, .ref d11, .ref d12, .int 0])), (d7, .inr (8, [.ref e1])), (e1, .inl (ax 4, 6, .inr (.inl (fun _ => 0))))] s.heap.size = A at hD hN ⊢
  have hA : ∀ q : Nat, s.heap.size ≤ q → A q := fun q h => by rw [← hAe]; exact Or.inr h
  have hS : va_S A s.heap s.heap [] := va_S.rf
  have hl0 := lv_entry ([.ref d0, .int 2, .int x2]) (n := 3) (Nat.le_of_ble_eq_true rfl)
  rw [lg_entry_eq]
  generalize (lg_sl ([.ref d0, .int 2, .int x2]) ++ List.replicate (3 - (lg_sl ([.ref d0, .int 2, .int x2])).length) Slot.unset).toArray = ls at hl0 ⊢
  have hl1 : lv_has ls 3 [(0, .ref d0), (1, .int 2), (2, .int x2)] := hl0
  refine lv_aload_n hx hb d_Desk_start_0 rfl (lv_at hl1 0 rfl) ?_
  refine lv_iload_n hx hb d_Desk_start_1 rfl (lv_at hl1 1 rfl) ?_
  have hPc := hP.sub (ws' := [(d0, .inr (10, [.ref d1, .ref d2, .ref d3, .ref d4, .ref d5, .ref d6, .ref d7, .ref d8, .ref d9, .ref d10, .ref d11, .ref d12, .int 0]))]) [0] rfl
  have hDc := hD.sub (ws' := [(d0, .inr (10, [.ref d1, .ref d2, .ref d3, .ref d4, .ref d5, .ref d6, .ref d7, .ref d8, .ref d9, .ref d10, .ref d11, .ref d12, .int 0]))]) [0] (by decide) rfl
  have hFc := va_free (wc := [(d0, .inr (10, [.ref d1, .ref d2, .ref d3, .ref d4, .ref d5, .ref d6, .ref d7, .ref d8, .ref d9, .ref d10, .ref d11, .ref d12, .int 0]))]) hD hS hA [0] rfl
  have hz := xz_of hN hS
  refine va_callv (va_runV (As := [.int 2]) (rest := []) ⟨hx, hb, hml, hown, hts⟩ (c_Desk_needVariable_2 l D ax d0 d1 d2 d3 d4 d5 d6 d7 d8 d9 d10 d11 d12 s.heap.size) (xcV (n := 1) hts wd_965 wd_1 wd_962 wd_964 ps_46 rfl rfl (by decide +kernel) ⟨Nat.le_of_ble_eq_true rfl, Nat.le_of_ble_eq_true rfl⟩) (xpV (ci := 10) (q0 := 0) (As := [.int 2]) hPc hK hz hDc rfl rfl) rfl rfl hl1.1 rfl (lv_room (Nat.le_of_ble_eq_true rfl)) d_Desk_start_2 ⟨Nat.le_of_ble_eq_true rfl, Nat.le_of_ble_eq_true rfl⟩) hS (fun q _ h => hFc q h) hFc (fun u_1 t H_2 locs ht hvm hw hB hz1 hk1 hS => ?_)
  try dsimp only at hw
  obtain ⟨hP1, hD1⟩ := hB
  rw [ht] at hP1
  obtain ⟨hP, hD⟩ := va_join (wr := [(d7, .inr (8, [.ref e1])), (e1, .inl (ax 4, 6, .inr (.inl (fun _ => 0))))]) (w1 := [(d0, .inr (10, [.ref d1, .ref d2, .ref d3, .ref d4, .ref d5, .ref d6, .ref d7, .ref d8, .ref d9, .ref d10, .ref d11, .ref d12, .int 0]))]) hP hD [0] [1, 2] rfl rfl (by decide) (by decide) hk1 hFc hP1 hD1
  have hP : va_P D classes [(d7, .inr (8, [.ref e1])), (e1, .inl (ax 4, 6, .inr (.inl (fun _ => 0)))), (d0, .inr (10, [.ref d1, .ref d2, .ref d3, .ref d4, .ref d5, .ref d6, .ref d7, .ref d8, .ref d9, .ref d10, .ref d11, .ref d12, .int 0]))] H_2 := hP
  have hD : va_D A [(d7, .inr (8, [.ref e1])), (e1, .inl (ax 4, 6, .inr (.inl (fun _ => 0)))), (d0, .inr (10, [.ref d1, .ref d2, .ref d3, .ref d4, .ref d5, .ref d6, .ref d7, .ref d8, .ref d9, .ref d10, .ref d11, .ref d12, .int 0]))] := hD
  refine lv_aload_n hx hb d_Desk_start_5 rfl (lv_at hl1 0 rfl) ?_
  refine va_get (D := D) (ci := 10) (v := .ref d7) (C := R_Desk) (T := F_Desk) (N := 13) hx hb hts i_Desk hown hK.1 hP 2 rfl rfl 6 (by decide) (hts _ wd_381) (fun _ h9 => h9) rfl d_Desk_start_6 ?_
  refine va_get (D := D) (ci := 8) (v := .ref e1) (C := R_Runner) (T := F_Runner) (N := 1) hx hb hts i_Runner hown hK.1 hP 0 rfl rfl 0 (by decide) (hts _ wd_252) (fun _ h9 => h9) rfl d_Desk_start_9 ?_
  refine lv_iload_n hx hb d_Desk_start_12 rfl (lv_at hl1 1 rfl) ?_
  refine lv_iload_n hx hb d_Desk_start_13 rfl (lv_at hl1 2 rfl) ?_
  refine lv_i2l hx hb d_Desk_start_14 rfl ?_
  refine lv_topl (fun z_4 ez_4 => ?_)
  refine va_last hx hb hK.1 hP hD hS 1 4 rfl rfl (by unfold vp_in; decide) d_Desk_start_15 (fun H_5 locs hP hD hS => ?_)
  have hP : va_P D classes [(d7, .inr (8, [.ref e1])), (e1, .inl (ax 4, 6, .inr (.inl (vp_updL (fun _ => 0) 2 z_4)))), (d0, .inr (10, [.ref d1, .ref d2, .ref d3, .ref d4, .ref d5, .ref d6, .ref d7, .ref d8, .ref d9, .ref d10, .ref d11, .ref d12, .int 0]))] H_5 := hP
  have hD : va_D A [(d7, .inr (8, [.ref e1])), (e1, .inl (ax 4, 6, .inr (.inl (vp_updL (fun _ => 0) 2 z_4)))), (d0, .inr (10, [.ref d1, .ref d2, .ref d3, .ref d4, .ref d5, .ref d6, .ref d7, .ref d8, .ref d9, .ref d10, .ref d11, .ref d12, .int 0]))] := hD
  exact W.vret hx hb hr (fun t ht hW => ⟨⟨fun _ => 0, rfl, trivial, trivial⟩, hS.F ht⟩) hS.2.2 d_Desk_start_16
set_option maxHeartbeats 4000000 in
set_option maxRecDepth 100000 in
theorem c_Desk_value_2 (l : Launch) (D : va_G) (ax : Nat → ClassId) (d0 d1 d2 d3 d4 d5 d6 d7 d8 d9 d10 d11 d12 : Nat) (e1 : Nat) (sz : Nat) : Met l y_Desk_value (xws (.code y_Desk_value b_Desk_value 2 (some .long))) ({ frames := 20, cells := 0, slots := 0, locals := 800 }) (va_Pc [.ref d0, .int 2] (xo D ax [(d0, .inr (10, [.ref d1, .ref d2, .ref d3, .ref d4, .ref d5, .ref d6, .ref d7, .ref d8, .ref d9, .ref d10, .ref d11, .ref d12, .int 0])), (d7, .inr (8, [.ref e1])), (e1, .inl (ax 4, 6, .inr (.inl (fun _ => 0))))] sz)) ((va_Ql (fun (r : Int64) (u : Nat → Nat) => r = 0) (fun (_ : Nat → Nat) (_ : State) => True) (va_A [(d0, .inr (10, [.ref d1, .ref d2, .ref d3, .ref d4, .ref d5, .ref d6, .ref d7, .ref d8, .ref d9, .ref d10, .ref d11, .ref d12, .int 0])), (d7, .inr (8, [.ref e1])), (e1, .inl (ax 4, 6, .inr (.inl (fun _ => 0))))] sz))) 0 0 (va_A [(d0, .inr (10, [.ref d1, .ref d2, .ref d3, .ref d4, .ref d5, .ref d6, .ref d7, .ref d8, .ref d9, .ref d10, .ref d11, .ref d12, .int 0])), (d7, .inr (8, [.ref e1])), (e1, .inl (ax 4, 6, .inr (.inl (fun _ => 0))))] sz) := by
  refine Met.ofW (cc := b_Desk_value) (maxL := 2) (ret := (some .long)) (by decide) rfl ?_
  intro p e s m args below meth c s₁ B hml hv
  obtain ⟨rfl, hsz, hP, hK, hD0⟩ := hv
  have hx := B.exec
  have hb := B.bytes
  have hr := B.returns
  have hts := xw_hts B.pre
  have hown : s.vm.findClass R_Desk = some m.cls := findClass_of_methodNamed B.named
  have hlocks := B.notSynchronized
  subst hsz
  have hD := hD0.self (sz := s.heap.size)
  have hN := xz_entry hP
  generalize hAe : va_A [(d0, .inr (10, [.ref d1, .ref d2, .ref d3, .ref d4, .ref d5, .ref d6, .ref d7, .ref d8, .ref d9, .ref d10, .ref d11, .ref d12, .int 0])), (d7, .inr (8, [.ref e1])), (e1, .inl (ax 4, 6, .inr (.inl (fun _ => 0))))] s.heap.size = A at hD hN ⊢
  have hA : ∀ q : Nat, s.heap.size ≤ q → A q := fun q h => by rw [← hAe]; exact Or.inr h
  have hS : va_S A s.heap s.heap [] := va_S.rf
  have hl0 := lv_entry ([.ref d0, .int 2]) (n := 2) (Nat.le_of_ble_eq_true rfl)
  rw [lg_entry_eq]
  generalize (lg_sl ([.ref d0, .int 2]) ++ List.replicate (2 - (lg_sl ([.ref d0, .int 2])).length) Slot.unset).toArray = ls at hl0 ⊢
  have hl1 : lv_has ls 2 [(0, .ref d0), (1, .int 2)] := hl0
  refine lv_aload_n hx hb d_Desk_value_0 rfl (lv_at hl1 0 rfl) ?_
  refine lv_iload_n hx hb d_Desk_value_1 rfl (lv_at hl1 1 rfl) ?_
  have hPc := hP.sub (ws' := [(d0, .inr (10, [.ref d1, .ref d2, .ref d3, .ref d4, .ref d5, .ref d6, .ref d7, .ref d8, .ref d9, .ref d10, .ref d11, .ref d12, .int 0]))]) [0] rfl
  have hDc := hD.sub (ws' := [(d0, .inr (10, [.ref d1, .ref d2, .ref d3, .ref d4, .ref d5, .ref d6, .ref d7, .ref d8, .ref d9, .ref d10, .ref d11, .ref d12, .int 0]))]) [0] (by decide) rfl
  have hFc := va_free (wc := [(d0, .inr (10, [.ref d1, .ref d2, .ref d3, .ref d4, .ref d5, .ref d6, .ref d7, .ref d8, .ref d9, .ref d10, .ref d11, .ref d12, .int 0]))]) hD hS hA [0] rfl
  have hz := xz_of hN hS
  refine va_callv (va_runV (As := [.int 2]) (rest := []) ⟨hx, hb, hml, hown, hts⟩ (c_Desk_needVariable_2 l D ax d0 d1 d2 d3 d4 d5 d6 d7 d8 d9 d10 d11 d12 s.heap.size) (xcV (n := 1) hts wd_965 wd_1 wd_962 wd_964 ps_46 rfl rfl (by decide +kernel) ⟨Nat.le_of_ble_eq_true rfl, Nat.le_of_ble_eq_true rfl⟩) (xpV (ci := 10) (q0 := 0) (As := [.int 2]) hPc hK hz hDc rfl rfl) rfl rfl hl1.1 rfl (lv_room (Nat.le_of_ble_eq_true rfl)) d_Desk_value_2 ⟨Nat.le_of_ble_eq_true rfl, Nat.le_of_ble_eq_true rfl⟩) hS (fun q _ h => hFc q h) hFc (fun u_1 t H_2 locs ht hvm hw hB hz1 hk1 hS => ?_)
  try dsimp only at hw
  obtain ⟨hP1, hD1⟩ := hB
  rw [ht] at hP1
  obtain ⟨hP, hD⟩ := va_join (wr := [(d7, .inr (8, [.ref e1])), (e1, .inl (ax 4, 6, .inr (.inl (fun _ => 0))))]) (w1 := [(d0, .inr (10, [.ref d1, .ref d2, .ref d3, .ref d4, .ref d5, .ref d6, .ref d7, .ref d8, .ref d9, .ref d10, .ref d11, .ref d12, .int 0]))]) hP hD [0] [1, 2] rfl rfl (by decide) (by decide) hk1 hFc hP1 hD1
  have hP : va_P D classes [(d7, .inr (8, [.ref e1])), (e1, .inl (ax 4, 6, .inr (.inl (fun _ => 0)))), (d0, .inr (10, [.ref d1, .ref d2, .ref d3, .ref d4, .ref d5, .ref d6, .ref d7, .ref d8, .ref d9, .ref d10, .ref d11, .ref d12, .int 0]))] H_2 := hP
  have hD : va_D A [(d7, .inr (8, [.ref e1])), (e1, .inl (ax 4, 6, .inr (.inl (fun _ => 0)))), (d0, .inr (10, [.ref d1, .ref d2, .ref d3, .ref d4, .ref d5, .ref d6, .ref d7, .ref d8, .ref d9, .ref d10, .ref d11, .ref d12, .int 0]))] := hD
  refine lv_aload_n hx hb d_Desk_value_5 rfl (lv_at hl1 0 rfl) ?_
  refine va_get (D := D) (ci := 10) (v := .ref d7) (C := R_Desk) (T := F_Desk) (N := 13) hx hb hts i_Desk hown hK.1 hP 2 rfl rfl 6 (by decide) (hts _ wd_381) (fun _ h9 => h9) rfl d_Desk_value_6 ?_
  refine va_get (D := D) (ci := 8) (v := .ref e1) (C := R_Runner) (T := F_Runner) (N := 1) hx hb hts i_Runner hown hK.1 hP 0 rfl rfl 0 (by decide) (hts _ wd_252) (fun _ h9 => h9) rfl d_Desk_value_9 ?_
  refine lv_iload_n hx hb d_Desk_value_12 rfl (lv_at hl1 1 rfl) ?_
  refine va_lald hx hb hK.1 hP 1 4 rfl rfl (by unfold vp_in; decide) d_Desk_value_13 ?_
  refine lv_topl (fun z_4 ez_4 => ?_)
  have ez_4 : z_4 = 0 := ez_4.trans (by first | rfl | decide)
  subst ez_4
  exact W.lret (v := 0) hx hb hr (fun t ht hW => ⟨⟨0, fun _ => 0, rfl, rfl, trivial⟩, hS.F ht⟩) hS.2.2 d_Desk_value_14
set_option maxHeartbeats 4000000 in
set_option maxRecDepth 100000 in
theorem c_Desk_needVariable_3 (l : Launch) (D : va_G) (ax : Nat → ClassId) (d0 d1 d2 d3 d4 d5 d6 d7 d8 d9 d10 d11 d12 : Nat) (sz : Nat) : Met l y_Desk_needVariable (xws (.code y_Desk_needVariable b_Desk_needVariable 2 none)) ({ frames := 10, cells := 0, slots := 0, locals := 400 }) (va_Pc [.ref d0, .int 3] (xo D ax [(d0, .inr (10, [.ref d1, .ref d2, .ref d3, .ref d4, .ref d5, .ref d6, .ref d7, .ref d8, .ref d9, .ref d10, .ref d11, .ref d12, .int 0]))] sz)) ((va_Qv (fun (u : Nat → Nat) => True) (xb D (va_A [(d0, .inr (10, [.ref d1, .ref d2, .ref d3, .ref d4, .ref d5, .ref d6, .ref d7, .ref d8, .ref d9, .ref d10, .ref d11, .ref d12, .int 0]))] sz) (fun u => [(d0, .inr (10, [.ref d1, .ref d2, .ref d3, .ref d4, .ref d5, .ref d6, .ref d7, .ref d8, .ref d9, .ref d10, .ref d11, .ref d12, .int 0]))])) (va_A [(d0, .inr (10, [.ref d1, .ref d2, .ref d3, .ref d4, .ref d5, .ref d6, .ref d7, .ref d8, .ref d9, .ref d10, .ref d11, .ref d12, .int 0]))] sz))) 0 0 (va_A [(d0, .inr (10, [.ref d1, .ref d2, .ref d3, .ref d4, .ref d5, .ref d6, .ref d7, .ref d8, .ref d9, .ref d10, .ref d11, .ref d12, .int 0]))] sz) := by
  refine Met.ofW (cc := b_Desk_needVariable) (maxL := 2) (ret := none) (by decide) rfl ?_
  intro p e s m args below meth c s₁ B hml hv
  obtain ⟨rfl, hsz, hP, hK, hD0⟩ := hv
  have hx := B.exec
  have hb := B.bytes
  have hr := B.returns
  have hts := xw_hts B.pre
  have hown : s.vm.findClass R_Desk = some m.cls := findClass_of_methodNamed B.named
  have hlocks := B.notSynchronized
  subst hsz
  have hD := hD0.self (sz := s.heap.size)
  have hN := xz_entry hP
  generalize hAe : va_A [(d0, .inr (10, [.ref d1, .ref d2, .ref d3, .ref d4, .ref d5, .ref d6, .ref d7, .ref d8, .ref d9, .ref d10, .ref d11, .ref d12, .int 0]))] s.heap.size = A at hD hN ⊢
  have hA : ∀ q : Nat, s.heap.size ≤ q → A q := fun q h => by rw [← hAe]; exact Or.inr h
  have hS : va_S A s.heap s.heap [] := va_S.rf
  have hl0 := lv_entry ([.ref d0, .int 3]) (n := 2) (Nat.le_of_ble_eq_true rfl)
  rw [lg_entry_eq]
  generalize (lg_sl ([.ref d0, .int 3]) ++ List.replicate (2 - (lg_sl ([.ref d0, .int 3])).length) Slot.unset).toArray = ls at hl0 ⊢
  have hl1 : lv_has ls 2 [(0, .ref d0), (1, .int 3)] := hl0
  refine lv_iload_n hx hb d_Desk_needVariable_0 rfl (lv_at hl1 1 rfl) ?_
  refine lv_if_lt (tgt := 10) hx hb d_Desk_needVariable_1 (by decide) (fun c_1 => ?_) (fun c_1 => ?_)
  · first | exact absurd c_1 (by decide) | exact absurd (by decide) c_1
  refine lv_iload_n hx hb d_Desk_needVariable_4 rfl (lv_at hl1 1 rfl) ?_
  refine lv_bipush (v := 6) hx hb d_Desk_needVariable_5 (by decide) ?_
  refine lv_icmp_lt (tgt := 18) hx hb d_Desk_needVariable_7 (by decide) (fun c_2 => ?_) (fun c_2 => ?_)
  rotate_left
  · first | exact absurd c_2 (by decide) | exact absurd (by decide) c_2
  have hP9 := hP.sub (ws' := (fun u : Nat → Nat => [(d0, .inr (10, [.ref d1, .ref d2, .ref d3, .ref d4, .ref d5, .ref d6, .ref d7, .ref d8, .ref d9, .ref d10, .ref d11, .ref d12, .int 0]))]) (ixn [])) [0] rfl
  have hD9 := hD.sub (ws' := (fun u : Nat → Nat => [(d0, .inr (10, [.ref d1, .ref d2, .ref d3, .ref d4, .ref d5, .ref d6, .ref d7, .ref d8, .ref d9, .ref d10, .ref d11, .ref d12, .int 0]))]) (ixn [])) [0] (by decide) rfl
  exact W.vret hx hb hr (fun t ht hW => ⟨⟨ixn [], rfl, trivial, ⟨by rw [ht]; exact hP9, hD9⟩⟩, hS.F ht⟩) hS.2.2 d_Desk_needVariable_18
set_option maxHeartbeats 4000000 in
set_option maxRecDepth 100000 in
theorem c_Desk_start_3 (l : Launch) (D : va_G) (ax : Nat → ClassId) (d0 d1 d2 d3 d4 d5 d6 d7 d8 d9 d10 d11 d12 : Nat) (e1 : Nat) (x2 : Int32) (sz : Nat) : Met l y_Desk_start (xws (.code y_Desk_start b_Desk_start 3 none)) ({ frames := 20, cells := 0, slots := 0, locals := 800 }) (va_Pc [.ref d0, .int 3, .int x2] (xo D ax [(d0, .inr (10, [.ref d1, .ref d2, .ref d3, .ref d4, .ref d5, .ref d6, .ref d7, .ref d8, .ref d9, .ref d10, .ref d11, .ref d12, .int 0])), (d7, .inr (8, [.ref e1])), (e1, .inl (ax 4, 6, .inr (.inl (fun _ => 0))))] sz)) ((va_Qv (fun (u : Nat → Nat) => True) (fun (_ : Nat → Nat) (_ : State) => True) (va_A [(d0, .inr (10, [.ref d1, .ref d2, .ref d3, .ref d4, .ref d5, .ref d6, .ref d7, .ref d8, .ref d9, .ref d10, .ref d11, .ref d12, .int 0])), (d7, .inr (8, [.ref e1])), (e1, .inl (ax 4, 6, .inr (.inl (fun _ => 0))))] sz))) 0 0 (va_A [(d0, .inr (10, [.ref d1, .ref d2, .ref d3, .ref d4, .ref d5, .ref d6, .ref d7, .ref d8, .ref d9, .ref d10, .ref d11, .ref d12, .int 0])), (d7, .inr (8, [.ref e1])), (e1, .inl (ax 4, 6, .inr (.inl (fun _ => 0))))] sz) := by
  refine Met.ofW (cc := b_Desk_start) (maxL := 3) (ret := none) (by decide) rfl ?_
  intro p e s m args below meth c s₁ B hml hv
  obtain ⟨rfl, hsz, hP, hK, hD0⟩ := hv
  have hx := B.exec
  have hb := B.bytes
  have hr := B.returns
  have hts := xw_hts B.pre
  have hown : s.vm.findClass R_Desk = some m.cls := findClass_of_methodNamed B.named
  have hlocks := B.notSynchronized
  subst hsz
  have hD := hD0.self (sz := s.heap.size)
  have hN := xz_entry hP
  generalize hAe : va_A [(d0, .inr (10, [.ref d1, .ref d2, .ref d3, .ref d4, .ref d5, .ref d6, .ref d7, .ref d8, .ref d9, .ref d10, .ref d11, .ref d12, .int 0])), (d7, .inr (8, [.ref e1])), (e1, .inl (ax 4, 6, .inr (.inl (fun _ => 0))))] s.heap.size = A at hD hN ⊢
  have hA : ∀ q : Nat, s.heap.size ≤ q → A q := fun q h => by rw [← hAe]; exact Or.inr h
  have hS : va_S A s.heap s.heap [] := va_S.rf
  have hl0 := lv_entry ([.ref d0, .int 3, .int x2]) (n := 3) (Nat.le_of_ble_eq_true rfl)
  rw [lg_entry_eq]
  generalize (lg_sl ([.ref d0, .int 3, .int x2]) ++ List.replicate (3 - (lg_sl ([.ref d0, .int 3, .int x2])).length) Slot.unset).toArray = ls at hl0 ⊢
  have hl1 : lv_has ls 3 [(0, .ref d0), (1, .int 3), (2, .int x2)] := hl0
  refine lv_aload_n hx hb d_Desk_start_0 rfl (lv_at hl1 0 rfl) ?_
  refine lv_iload_n hx hb d_Desk_start_1 rfl (lv_at hl1 1 rfl) ?_
  have hPc := hP.sub (ws' := [(d0, .inr (10, [.ref d1, .ref d2, .ref d3, .ref d4, .ref d5, .ref d6, .ref d7, .ref d8, .ref d9, .ref d10, .ref d11, .ref d12, .int 0]))]) [0] rfl
  have hDc := hD.sub (ws' := [(d0, .inr (10, [.ref d1, .ref d2, .ref d3, .ref d4, .ref d5, .ref d6, .ref d7, .ref d8, .ref d9, .ref d10, .ref d11, .ref d12, .int 0]))]) [0] (by decide) rfl
  have hFc := va_free (wc := [(d0, .inr (10, [.ref d1, .ref d2, .ref d3, .ref d4, .ref d5, .ref d6, .ref d7, .ref d8, .ref d9, .ref d10, .ref d11, .ref d12, .int 0]))]) hD hS hA [0] rfl
  have hz := xz_of hN hS
  refine va_callv (va_runV (As := [.int 3]) (rest := []) ⟨hx, hb, hml, hown, hts⟩ (c_Desk_needVariable_3 l D ax d0 d1 d2 d3 d4 d5 d6 d7 d8 d9 d10 d11 d12 s.heap.size) (xcV (n := 1) hts wd_965 wd_1 wd_962 wd_964 ps_46 rfl rfl (by decide +kernel) ⟨Nat.le_of_ble_eq_true rfl, Nat.le_of_ble_eq_true rfl⟩) (xpV (ci := 10) (q0 := 0) (As := [.int 3]) hPc hK hz hDc rfl rfl) rfl rfl hl1.1 rfl (lv_room (Nat.le_of_ble_eq_true rfl)) d_Desk_start_2 ⟨Nat.le_of_ble_eq_true rfl, Nat.le_of_ble_eq_true rfl⟩) hS (fun q _ h => hFc q h) hFc (fun u_1 t H_2 locs ht hvm hw hB hz1 hk1 hS => ?_)
  try dsimp only at hw
  obtain ⟨hP1, hD1⟩ := hB
  rw [ht] at hP1
  obtain ⟨hP, hD⟩ := va_join (wr := [(d7, .inr (8, [.ref e1])), (e1, .inl (ax 4, 6, .inr (.inl (fun _ => 0))))]) (w1 := [(d0, .inr (10, [.ref d1, .ref d2, .ref d3, .ref d4, .ref d5, .ref d6, .ref d7, .ref d8, .ref d9, .ref d10, .ref d11, .ref d12, .int 0]))]) hP hD [0] [1, 2] rfl rfl (by decide) (by decide) hk1 hFc hP1 hD1
  have hP : va_P D classes [(d7, .inr (8, [.ref e1])), (e1, .inl (ax 4, 6, .inr (.inl (fun _ => 0)))), (d0, .inr (10, [.ref d1, .ref d2, .ref d3, .ref d4, .ref d5, .ref d6, .ref d7, .ref d8, .ref d9, .ref d10, .ref d11, .ref d12, .int 0]))] H_2 := hP
  have hD : va_D A [(d7, .inr (8, [.ref e1])), (e1, .inl (ax 4, 6, .inr (.inl (fun _ => 0)))), (d0, .inr (10, [.ref d1, .ref d2, .ref d3, .ref d4, .ref d5, .ref d6, .ref d7, .ref d8, .ref d9, .ref d10, .ref d11, .ref d12, .int 0]))] := hD
  refine lv_aload_n hx hb d_Desk_start_5 rfl (lv_at hl1 0 rfl) ?_
  refine va_get (D := D) (ci := 10) (v := .ref d7) (C := R_Desk) (T := F_Desk) (N := 13) hx hb hts i_Desk hown hK.1 hP 2 rfl rfl 6 (by decide) (hts _ wd_381) (fun _ h9 => h9) rfl d_Desk_start_6 ?_
  refine va_get (D := D) (ci := 8) (v := .ref e1) (C := R_Runner) (T := F_Runner) (N := 1) hx hb hts i_Runner hown hK.1 hP 0 rfl rfl 0 (by decide) (hts _ wd_252) (fun _ h9 => h9) rfl d_Desk_start_9 ?_
  refine lv_iload_n hx hb d_Desk_start_12 rfl (lv_at hl1 1 rfl) ?_
  refine lv_iload_n hx hb d_Desk_start_13 rfl (lv_at hl1 2 rfl) ?_
  refine lv_i2l hx hb d_Desk_start_14 rfl ?_
  refine lv_topl (fun z_4 ez_4 => ?_)
  refine va_last hx hb hK.1 hP hD hS 1 4 rfl rfl (by unfold vp_in; decide) d_Desk_start_15 (fun H_5 locs hP hD hS => ?_)
  have hP : va_P D classes [(d7, .inr (8, [.ref e1])), (e1, .inl (ax 4, 6, .inr (.inl (vp_updL (fun _ => 0) 3 z_4)))), (d0, .inr (10, [.ref d1, .ref d2, .ref d3, .ref d4, .ref d5, .ref d6, .ref d7, .ref d8, .ref d9, .ref d10, .ref d11, .ref d12, .int 0]))] H_5 := hP
  have hD : va_D A [(d7, .inr (8, [.ref e1])), (e1, .inl (ax 4, 6, .inr (.inl (vp_updL (fun _ => 0) 3 z_4)))), (d0, .inr (10, [.ref d1, .ref d2, .ref d3, .ref d4, .ref d5, .ref d6, .ref d7, .ref d8, .ref d9, .ref d10, .ref d11, .ref d12, .int 0]))] := hD
  exact W.vret hx hb hr (fun t ht hW => ⟨⟨fun _ => 0, rfl, trivial, trivial⟩, hS.F ht⟩) hS.2.2 d_Desk_start_16
set_option maxHeartbeats 4000000 in
set_option maxRecDepth 100000 in
theorem c_Desk_value_3 (l : Launch) (D : va_G) (ax : Nat → ClassId) (d0 d1 d2 d3 d4 d5 d6 d7 d8 d9 d10 d11 d12 : Nat) (e1 : Nat) (sz : Nat) : Met l y_Desk_value (xws (.code y_Desk_value b_Desk_value 2 (some .long))) ({ frames := 20, cells := 0, slots := 0, locals := 800 }) (va_Pc [.ref d0, .int 3] (xo D ax [(d0, .inr (10, [.ref d1, .ref d2, .ref d3, .ref d4, .ref d5, .ref d6, .ref d7, .ref d8, .ref d9, .ref d10, .ref d11, .ref d12, .int 0])), (d7, .inr (8, [.ref e1])), (e1, .inl (ax 4, 6, .inr (.inl (fun _ => 0))))] sz)) ((va_Ql (fun (r : Int64) (u : Nat → Nat) => r = 0) (fun (_ : Nat → Nat) (_ : State) => True) (va_A [(d0, .inr (10, [.ref d1, .ref d2, .ref d3, .ref d4, .ref d5, .ref d6, .ref d7, .ref d8, .ref d9, .ref d10, .ref d11, .ref d12, .int 0])), (d7, .inr (8, [.ref e1])), (e1, .inl (ax 4, 6, .inr (.inl (fun _ => 0))))] sz))) 0 0 (va_A [(d0, .inr (10, [.ref d1, .ref d2, .ref d3, .ref d4, .ref d5, .ref d6, .ref d7, .ref d8, .ref d9, .ref d10, .ref d11, .ref d12, .int 0])), (d7, .inr (8, [.ref e1])), (e1, .inl (ax 4, 6, .inr (.inl (fun _ => 0))))] sz) := by
  refine Met.ofW (cc := b_Desk_value) (maxL := 2) (ret := (some .long)) (by decide) rfl ?_
  intro p e s m args below meth c s₁ B hml hv
  obtain ⟨rfl, hsz, hP, hK, hD0⟩ := hv
  have hx := B.exec
  have hb := B.bytes
  have hr := B.returns
  have hts := xw_hts B.pre
  have hown : s.vm.findClass R_Desk = some m.cls := findClass_of_methodNamed B.named
  have hlocks := B.notSynchronized
  subst hsz
  have hD := hD0.self (sz := s.heap.size)
  have hN := xz_entry hP
  generalize hAe : va_A [(d0, .inr (10, [.ref d1, .ref d2, .ref d3, .ref d4, .ref d5, .ref d6, .ref d7, .ref d8, .ref d9, .ref d10, .ref d11, .ref d12, .int 0])), (d7, .inr (8, [.ref e1])), (e1, .inl (ax 4, 6, .inr (.inl (fun _ => 0))))] s.heap.size = A at hD hN ⊢
  have hA : ∀ q : Nat, s.heap.size ≤ q → A q := fun q h => by rw [← hAe]; exact Or.inr h
  have hS : va_S A s.heap s.heap [] := va_S.rf
  have hl0 := lv_entry ([.ref d0, .int 3]) (n := 2) (Nat.le_of_ble_eq_true rfl)
  rw [lg_entry_eq]
  generalize (lg_sl ([.ref d0, .int 3]) ++ List.replicate (2 - (lg_sl ([.ref d0, .int 3])).length) Slot.unset).toArray = ls at hl0 ⊢
  have hl1 : lv_has ls 2 [(0, .ref d0), (1, .int 3)] := hl0
  refine lv_aload_n hx hb d_Desk_value_0 rfl (lv_at hl1 0 rfl) ?_
  refine lv_iload_n hx hb d_Desk_value_1 rfl (lv_at hl1 1 rfl) ?_
  have hPc := hP.sub (ws' := [(d0, .inr (10, [.ref d1, .ref d2, .ref d3, .ref d4, .ref d5, .ref d6, .ref d7, .ref d8, .ref d9, .ref d10, .ref d11, .ref d12, .int 0]))]) [0] rfl
  have hDc := hD.sub (ws' := [(d0, .inr (10, [.ref d1, .ref d2, .ref d3, .ref d4, .ref d5, .ref d6, .ref d7, .ref d8, .ref d9, .ref d10, .ref d11, .ref d12, .int 0]))]) [0] (by decide) rfl
  have hFc := va_free (wc := [(d0, .inr (10, [.ref d1, .ref d2, .ref d3, .ref d4, .ref d5, .ref d6, .ref d7, .ref d8, .ref d9, .ref d10, .ref d11, .ref d12, .int 0]))]) hD hS hA [0] rfl
  have hz := xz_of hN hS
  refine va_callv (va_runV (As := [.int 3]) (rest := []) ⟨hx, hb, hml, hown, hts⟩ (c_Desk_needVariable_3 l D ax d0 d1 d2 d3 d4 d5 d6 d7 d8 d9 d10 d11 d12 s.heap.size) (xcV (n := 1) hts wd_965 wd_1 wd_962 wd_964 ps_46 rfl rfl (by decide +kernel) ⟨Nat.le_of_ble_eq_true rfl, Nat.le_of_ble_eq_true rfl⟩) (xpV (ci := 10) (q0 := 0) (As := [.int 3]) hPc hK hz hDc rfl rfl) rfl rfl hl1.1 rfl (lv_room (Nat.le_of_ble_eq_true rfl)) d_Desk_value_2 ⟨Nat.le_of_ble_eq_true rfl, Nat.le_of_ble_eq_true rfl⟩) hS (fun q _ h => hFc q h) hFc (fun u_1 t H_2 locs ht hvm hw hB hz1 hk1 hS => ?_)
  try dsimp only at hw
  obtain ⟨hP1, hD1⟩ := hB
  rw [ht] at hP1
  obtain ⟨hP, hD⟩ := va_join (wr := [(d7, .inr (8, [.ref e1])), (e1, .inl (ax 4, 6, .inr (.inl (fun _ => 0))))]) (w1 := [(d0, .inr (10, [.ref d1, .ref d2, .ref d3, .ref d4, .ref d5, .ref d6, .ref d7, .ref d8, .ref d9, .ref d10, .ref d11, .ref d12, .int 0]))]) hP hD [0] [1, 2] rfl rfl (by decide) (by decide) hk1 hFc hP1 hD1
  have hP : va_P D classes [(d7, .inr (8, [.ref e1])), (e1, .inl (ax 4, 6, .inr (.inl (fun _ => 0)))), (d0, .inr (10, [.ref d1, .ref d2, .ref d3, .ref d4, .ref d5, .ref d6, .ref d7, .ref d8, .ref d9, .ref d10, .ref d11, .ref d12, .int 0]))] H_2 := hP
  have hD : va_D A [(d7, .inr (8, [.ref e1])), (e1, .inl (ax 4, 6, .inr (.inl (fun _ => 0)))), (d0, .inr (10, [.ref d1, .ref d2, .ref d3, .ref d4, .ref d5, .ref d6, .ref d7, .ref d8, .ref d9, .ref d10, .ref d11, .ref d12, .int 0]))] := hD
  refine lv_aload_n hx hb d_Desk_value_5 rfl (lv_at hl1 0 rfl) ?_
  refine va_get (D := D) (ci := 10) (v := .ref d7) (C := R_Desk) (T := F_Desk) (N := 13) hx hb hts i_Desk hown hK.1 hP 2 rfl rfl 6 (by decide) (hts _ wd_381) (fun _ h9 => h9) rfl d_Desk_value_6 ?_
  refine va_get (D := D) (ci := 8) (v := .ref e1) (C := R_Runner) (T := F_Runner) (N := 1) hx hb hts i_Runner hown hK.1 hP 0 rfl rfl 0 (by decide) (hts _ wd_252) (fun _ h9 => h9) rfl d_Desk_value_9 ?_
  refine lv_iload_n hx hb d_Desk_value_12 rfl (lv_at hl1 1 rfl) ?_
  refine va_lald hx hb hK.1 hP 1 4 rfl rfl (by unfold vp_in; decide) d_Desk_value_13 ?_
  refine lv_topl (fun z_4 ez_4 => ?_)
  have ez_4 : z_4 = 0 := ez_4.trans (by first | rfl | decide)
  subst ez_4
  exact W.lret (v := 0) hx hb hr (fun t ht hW => ⟨⟨0, fun _ => 0, rfl, rfl, trivial⟩, hS.F ht⟩) hS.2.2 d_Desk_value_14
set_option maxHeartbeats 4000000 in
set_option maxRecDepth 100000 in
theorem c_Desk_needVariable_4 (l : Launch) (D : va_G) (ax : Nat → ClassId) (d0 d1 d2 d3 d4 d5 d6 d7 d8 d9 d10 d11 d12 : Nat) (sz : Nat) : Met l y_Desk_needVariable (xws (.code y_Desk_needVariable b_Desk_needVariable 2 none)) ({ frames := 10, cells := 0, slots := 0, locals := 400 }) (va_Pc [.ref d0, .int 4] (xo D ax [(d0, .inr (10, [.ref d1, .ref d2, .ref d3, .ref d4, .ref d5, .ref d6, .ref d7, .ref d8, .ref d9, .ref d10, .ref d11, .ref d12, .int 0]))] sz)) ((va_Qv (fun (u : Nat → Nat) => True) (xb D (va_A [(d0, .inr (10, [.ref d1, .ref d2, .ref d3, .ref d4, .ref d5, .ref d6, .ref d7, .ref d8, .ref d9, .ref d10, .ref d11, .ref d12, .int 0]))] sz) (fun u => [(d0, .inr (10, [.ref d1, .ref d2, .ref d3, .ref d4, .ref d5, .ref d6, .ref d7, .ref d8, .ref d9, .ref d10, .ref d11, .ref d12, .int 0]))])) (va_A [(d0, .inr (10, [.ref d1, .ref d2, .ref d3, .ref d4, .ref d5, .ref d6, .ref d7, .ref d8, .ref d9, .ref d10, .ref d11, .ref d12, .int 0]))] sz))) 0 0 (va_A [(d0, .inr (10, [.ref d1, .ref d2, .ref d3, .ref d4, .ref d5, .ref d6, .ref d7, .ref d8, .ref d9, .ref d10, .ref d11, .ref d12, .int 0]))] sz) := by
  refine Met.ofW (cc := b_Desk_needVariable) (maxL := 2) (ret := none) (by decide) rfl ?_
  intro p e s m args below meth c s₁ B hml hv
  obtain ⟨rfl, hsz, hP, hK, hD0⟩ := hv
  have hx := B.exec
  have hb := B.bytes
  have hr := B.returns
  have hts := xw_hts B.pre
  have hown : s.vm.findClass R_Desk = some m.cls := findClass_of_methodNamed B.named
  have hlocks := B.notSynchronized
  subst hsz
  have hD := hD0.self (sz := s.heap.size)
  have hN := xz_entry hP
  generalize hAe : va_A [(d0, .inr (10, [.ref d1, .ref d2, .ref d3, .ref d4, .ref d5, .ref d6, .ref d7, .ref d8, .ref d9, .ref d10, .ref d11, .ref d12, .int 0]))] s.heap.size = A at hD hN ⊢
  have hA : ∀ q : Nat, s.heap.size ≤ q → A q := fun q h => by rw [← hAe]; exact Or.inr h
  have hS : va_S A s.heap s.heap [] := va_S.rf
  have hl0 := lv_entry ([.ref d0, .int 4]) (n := 2) (Nat.le_of_ble_eq_true rfl)
  rw [lg_entry_eq]
  generalize (lg_sl ([.ref d0, .int 4]) ++ List.replicate (2 - (lg_sl ([.ref d0, .int 4])).length) Slot.unset).toArray = ls at hl0 ⊢
  have hl1 : lv_has ls 2 [(0, .ref d0), (1, .int 4)] := hl0
  refine lv_iload_n hx hb d_Desk_needVariable_0 rfl (lv_at hl1 1 rfl) ?_
  refine lv_if_lt (tgt := 10) hx hb d_Desk_needVariable_1 (by decide) (fun c_1 => ?_) (fun c_1 => ?_)
  · first | exact absurd c_1 (by decide) | exact absurd (by decide) c_1
  refine lv_iload_n hx hb d_Desk_needVariable_4 rfl (lv_at hl1 1 rfl) ?_
  refine lv_bipush (v := 6) hx hb d_Desk_needVariable_5 (by decide) ?_
  refine lv_icmp_lt (tgt := 18) hx hb d_Desk_needVariable_7 (by decide) (fun c_2 => ?_) (fun c_2 => ?_)
  rotate_left
  · first | exact absurd c_2 (by decide) | exact absurd (by decide) c_2
  have hP9 := hP.sub (ws' := (fun u : Nat → Nat => [(d0, .inr (10, [.ref d1, .ref d2, .ref d3, .ref d4, .ref d5, .ref d6, .ref d7, .ref d8, .ref d9, .ref d10, .ref d11, .ref d12, .int 0]))]) (ixn [])) [0] rfl
  have hD9 := hD.sub (ws' := (fun u : Nat → Nat => [(d0, .inr (10, [.ref d1, .ref d2, .ref d3, .ref d4, .ref d5, .ref d6, .ref d7, .ref d8, .ref d9, .ref d10, .ref d11, .ref d12, .int 0]))]) (ixn [])) [0] (by decide) rfl
  exact W.vret hx hb hr (fun t ht hW => ⟨⟨ixn [], rfl, trivial, ⟨by rw [ht]; exact hP9, hD9⟩⟩, hS.F ht⟩) hS.2.2 d_Desk_needVariable_18
set_option maxHeartbeats 4000000 in
set_option maxRecDepth 100000 in
theorem c_Desk_start_4 (l : Launch) (D : va_G) (ax : Nat → ClassId) (d0 d1 d2 d3 d4 d5 d6 d7 d8 d9 d10 d11 d12 : Nat) (e1 : Nat) (x2 : Int32) (sz : Nat) : Met l y_Desk_start (xws (.code y_Desk_start b_Desk_start 3 none)) ({ frames := 20, cells := 0, slots := 0, locals := 800 }) (va_Pc [.ref d0, .int 4, .int x2] (xo D ax [(d0, .inr (10, [.ref d1, .ref d2, .ref d3, .ref d4, .ref d5, .ref d6, .ref d7, .ref d8, .ref d9, .ref d10, .ref d11, .ref d12, .int 0])), (d7, .inr (8, [.ref e1])), (e1, .inl (ax 4, 6, .inr (.inl (fun _ => 0))))] sz)) ((va_Qv (fun (u : Nat → Nat) => True) (fun (_ : Nat → Nat) (_ : State) => True) (va_A [(d0, .inr (10, [.ref d1, .ref d2, .ref d3, .ref d4, .ref d5, .ref d6, .ref d7, .ref d8, .ref d9, .ref d10, .ref d11, .ref d12, .int 0])), (d7, .inr (8, [.ref e1])), (e1, .inl (ax 4, 6, .inr (.inl (fun _ => 0))))] sz))) 0 0 (va_A [(d0, .inr (10, [.ref d1, .ref d2, .ref d3, .ref d4, .ref d5, .ref d6, .ref d7, .ref d8, .ref d9, .ref d10, .ref d11, .ref d12, .int 0])), (d7, .inr (8, [.ref e1])), (e1, .inl (ax 4, 6, .inr (.inl (fun _ => 0))))] sz) := by
  refine Met.ofW (cc := b_Desk_start) (maxL := 3) (ret := none) (by decide) rfl ?_
  intro p e s m args below meth c s₁ B hml hv
  obtain ⟨rfl, hsz, hP, hK, hD0⟩ := hv
  have hx := B.exec
  have hb := B.bytes
  have hr := B.returns
  have hts := xw_hts B.pre
  have hown : s.vm.findClass R_Desk = some m.cls := findClass_of_methodNamed B.named
  have hlocks := B.notSynchronized
  subst hsz
  have hD := hD0.self (sz := s.heap.size)
  have hN := xz_entry hP
  generalize hAe : va_A [(d0, .inr (10, [.ref d1, .ref d2, .ref d3, .ref d4, .ref d5, .ref d6, .ref d7, .ref d8, .ref d9, .ref d10, .ref d11, .ref d12, .int 0])), (d7, .inr (8, [.ref e1])), (e1, .inl (ax 4, 6, .inr (.inl (fun _ => 0))))] s.heap.size = A at hD hN ⊢
  have hA : ∀ q : Nat, s.heap.size ≤ q → A q := fun q h => by rw [← hAe]; exact Or.inr h
  have hS : va_S A s.heap s.heap [] := va_S.rf
  have hl0 := lv_entry ([.ref d0, .int 4, .int x2]) (n := 3) (Nat.le_of_ble_eq_true rfl)
  rw [lg_entry_eq]
  generalize (lg_sl ([.ref d0, .int 4, .int x2]) ++ List.replicate (3 - (lg_sl ([.ref d0, .int 4, .int x2])).length) Slot.unset).toArray = ls at hl0 ⊢
  have hl1 : lv_has ls 3 [(0, .ref d0), (1, .int 4), (2, .int x2)] := hl0
  refine lv_aload_n hx hb d_Desk_start_0 rfl (lv_at hl1 0 rfl) ?_
  refine lv_iload_n hx hb d_Desk_start_1 rfl (lv_at hl1 1 rfl) ?_
  have hPc := hP.sub (ws' := [(d0, .inr (10, [.ref d1, .ref d2, .ref d3, .ref d4, .ref d5, .ref d6, .ref d7, .ref d8, .ref d9, .ref d10, .ref d11, .ref d12, .int 0]))]) [0] rfl
  have hDc := hD.sub (ws' := [(d0, .inr (10, [.ref d1, .ref d2, .ref d3, .ref d4, .ref d5, .ref d6, .ref d7, .ref d8, .ref d9, .ref d10, .ref d11, .ref d12, .int 0]))]) [0] (by decide) rfl
  have hFc := va_free (wc := [(d0, .inr (10, [.ref d1, .ref d2, .ref d3, .ref d4, .ref d5, .ref d6, .ref d7, .ref d8, .ref d9, .ref d10, .ref d11, .ref d12, .int 0]))]) hD hS hA [0] rfl
  have hz := xz_of hN hS
  refine va_callv (va_runV (As := [.int 4]) (rest := []) ⟨hx, hb, hml, hown, hts⟩ (c_Desk_needVariable_4 l D ax d0 d1 d2 d3 d4 d5 d6 d7 d8 d9 d10 d11 d12 s.heap.size) (xcV (n := 1) hts wd_965 wd_1 wd_962 wd_964 ps_46 rfl rfl (by decide +kernel) ⟨Nat.le_of_ble_eq_true rfl, Nat.le_of_ble_eq_true rfl⟩) (xpV (ci := 10) (q0 := 0) (As := [.int 4]) hPc hK hz hDc rfl rfl) rfl rfl hl1.1 rfl (lv_room (Nat.le_of_ble_eq_true rfl)) d_Desk_start_2 ⟨Nat.le_of_ble_eq_true rfl, Nat.le_of_ble_eq_true rfl⟩) hS (fun q _ h => hFc q h) hFc (fun u_1 t H_2 locs ht hvm hw hB hz1 hk1 hS => ?_)
  try dsimp only at hw
  obtain ⟨hP1, hD1⟩ := hB
  rw [ht] at hP1
  obtain ⟨hP, hD⟩ := va_join (wr := [(d7, .inr (8, [.ref e1])), (e1, .inl (ax 4, 6, .inr (.inl (fun _ => 0))))]) (w1 := [(d0, .inr (10, [.ref d1, .ref d2, .ref d3, .ref d4, .ref d5, .ref d6, .ref d7, .ref d8, .ref d9, .ref d10, .ref d11, .ref d12, .int 0]))]) hP hD [0] [1, 2] rfl rfl (by decide) (by decide) hk1 hFc hP1 hD1
  have hP : va_P D classes [(d7, .inr (8, [.ref e1])), (e1, .inl (ax 4, 6, .inr (.inl (fun _ => 0)))), (d0, .inr (10, [.ref d1, .ref d2, .ref d3, .ref d4, .ref d5, .ref d6, .ref d7, .ref d8, .ref d9, .ref d10, .ref d11, .ref d12, .int 0]))] H_2 := hP
  have hD : va_D A [(d7, .inr (8, [.ref e1])), (e1, .inl (ax 4, 6, .inr (.inl (fun _ => 0)))), (d0, .inr (10, [.ref d1, .ref d2, .ref d3, .ref d4, .ref d5, .ref d6, .ref d7, .ref d8, .ref d9, .ref d10, .ref d11, .ref d12, .int 0]))] := hD
  refine lv_aload_n hx hb d_Desk_start_5 rfl (lv_at hl1 0 rfl) ?_
  refine va_get (D := D) (ci := 10) (v := .ref d7) (C := R_Desk) (T := F_Desk) (N := 13) hx hb hts i_Desk hown hK.1 hP 2 rfl rfl 6 (by decide) (hts _ wd_381) (fun _ h9 => h9) rfl d_Desk_start_6 ?_
  refine va_get (D := D) (ci := 8) (v := .ref e1) (C := R_Runner) (T := F_Runner) (N := 1) hx hb hts i_Runner hown hK.1 hP 0 rfl rfl 0 (by decide) (hts _ wd_252) (fun _ h9 => h9) rfl d_Desk_start_9 ?_
  refine lv_iload_n hx hb d_Desk_start_12 rfl (lv_at hl1 1 rfl) ?_
  refine lv_iload_n hx hb d_Desk_start_13 rfl (lv_at hl1 2 rfl) ?_
  refine lv_i2l hx hb d_Desk_start_14 rfl ?_
  refine lv_topl (fun z_4 ez_4 => ?_)
  refine va_last hx hb hK.1 hP hD hS 1 4 rfl rfl (by unfold vp_in; decide) d_Desk_start_15 (fun H_5 locs hP hD hS => ?_)
  have hP : va_P D classes [(d7, .inr (8, [.ref e1])), (e1, .inl (ax 4, 6, .inr (.inl (vp_updL (fun _ => 0) 4 z_4)))), (d0, .inr (10, [.ref d1, .ref d2, .ref d3, .ref d4, .ref d5, .ref d6, .ref d7, .ref d8, .ref d9, .ref d10, .ref d11, .ref d12, .int 0]))] H_5 := hP
  have hD : va_D A [(d7, .inr (8, [.ref e1])), (e1, .inl (ax 4, 6, .inr (.inl (vp_updL (fun _ => 0) 4 z_4)))), (d0, .inr (10, [.ref d1, .ref d2, .ref d3, .ref d4, .ref d5, .ref d6, .ref d7, .ref d8, .ref d9, .ref d10, .ref d11, .ref d12, .int 0]))] := hD
  exact W.vret hx hb hr (fun t ht hW => ⟨⟨fun _ => 0, rfl, trivial, trivial⟩, hS.F ht⟩) hS.2.2 d_Desk_start_16
set_option maxHeartbeats 4000000 in
set_option maxRecDepth 100000 in
theorem c_Desk_value_4 (l : Launch) (D : va_G) (ax : Nat → ClassId) (d0 d1 d2 d3 d4 d5 d6 d7 d8 d9 d10 d11 d12 : Nat) (e1 : Nat) (sz : Nat) : Met l y_Desk_value (xws (.code y_Desk_value b_Desk_value 2 (some .long))) ({ frames := 20, cells := 0, slots := 0, locals := 800 }) (va_Pc [.ref d0, .int 4] (xo D ax [(d0, .inr (10, [.ref d1, .ref d2, .ref d3, .ref d4, .ref d5, .ref d6, .ref d7, .ref d8, .ref d9, .ref d10, .ref d11, .ref d12, .int 0])), (d7, .inr (8, [.ref e1])), (e1, .inl (ax 4, 6, .inr (.inl (fun _ => 0))))] sz)) ((va_Ql (fun (r : Int64) (u : Nat → Nat) => r = 0) (fun (_ : Nat → Nat) (_ : State) => True) (va_A [(d0, .inr (10, [.ref d1, .ref d2, .ref d3, .ref d4, .ref d5, .ref d6, .ref d7, .ref d8, .ref d9, .ref d10, .ref d11, .ref d12, .int 0])), (d7, .inr (8, [.ref e1])), (e1, .inl (ax 4, 6, .inr (.inl (fun _ => 0))))] sz))) 0 0 (va_A [(d0, .inr (10, [.ref d1, .ref d2, .ref d3, .ref d4, .ref d5, .ref d6, .ref d7, .ref d8, .ref d9, .ref d10, .ref d11, .ref d12, .int 0])), (d7, .inr (8, [.ref e1])), (e1, .inl (ax 4, 6, .inr (.inl (fun _ => 0))))] sz) := by
  refine Met.ofW (cc := b_Desk_value) (maxL := 2) (ret := (some .long)) (by decide) rfl ?_
  intro p e s m args below meth c s₁ B hml hv
  obtain ⟨rfl, hsz, hP, hK, hD0⟩ := hv
  have hx := B.exec
  have hb := B.bytes
  have hr := B.returns
  have hts := xw_hts B.pre
  have hown : s.vm.findClass R_Desk = some m.cls := findClass_of_methodNamed B.named
  have hlocks := B.notSynchronized
  subst hsz
  have hD := hD0.self (sz := s.heap.size)
  have hN := xz_entry hP
  generalize hAe : va_A [(d0, .inr (10, [.ref d1, .ref d2, .ref d3, .ref d4, .ref d5, .ref d6, .ref d7, .ref d8, .ref d9, .ref d10, .ref d11, .ref d12, .int 0])), (d7, .inr (8, [.ref e1])), (e1, .inl (ax 4, 6, .inr (.inl (fun _ => 0))))] s.heap.size = A at hD hN ⊢
  have hA : ∀ q : Nat, s.heap.size ≤ q → A q := fun q h => by rw [← hAe]; exact Or.inr h
  have hS : va_S A s.heap s.heap [] := va_S.rf
  have hl0 := lv_entry ([.ref d0, .int 4]) (n := 2) (Nat.le_of_ble_eq_true rfl)
  rw [lg_entry_eq]
  generalize (lg_sl ([.ref d0, .int 4]) ++ List.replicate (2 - (lg_sl ([.ref d0, .int 4])).length) Slot.unset).toArray = ls at hl0 ⊢
  have hl1 : lv_has ls 2 [(0, .ref d0), (1, .int 4)] := hl0
  refine lv_aload_n hx hb d_Desk_value_0 rfl (lv_at hl1 0 rfl) ?_
  refine lv_iload_n hx hb d_Desk_value_1 rfl (lv_at hl1 1 rfl) ?_
  have hPc := hP.sub (ws' := [(d0, .inr (10, [.ref d1, .ref d2, .ref d3, .ref d4, .ref d5, .ref d6, .ref d7, .ref d8, .ref d9, .ref d10, .ref d11, .ref d12, .int 0]))]) [0] rfl
  have hDc := hD.sub (ws' := [(d0, .inr (10, [.ref d1, .ref d2, .ref d3, .ref d4, .ref d5, .ref d6, .ref d7, .ref d8, .ref d9, .ref d10, .ref d11, .ref d12, .int 0]))]) [0] (by decide) rfl
  have hFc := va_free (wc := [(d0, .inr (10, [.ref d1, .ref d2, .ref d3, .ref d4, .ref d5, .ref d6, .ref d7, .ref d8, .ref d9, .ref d10, .ref d11, .ref d12, .int 0]))]) hD hS hA [0] rfl
  have hz := xz_of hN hS
  refine va_callv (va_runV (As := [.int 4]) (rest := []) ⟨hx, hb, hml, hown, hts⟩ (c_Desk_needVariable_4 l D ax d0 d1 d2 d3 d4 d5 d6 d7 d8 d9 d10 d11 d12 s.heap.size) (xcV (n := 1) hts wd_965 wd_1 wd_962 wd_964 ps_46 rfl rfl (by decide +kernel) ⟨Nat.le_of_ble_eq_true rfl, Nat.le_of_ble_eq_true rfl⟩) (xpV (ci := 10) (q0 := 0) (As := [.int 4]) hPc hK hz hDc rfl rfl) rfl rfl hl1.1 rfl (lv_room (Nat.le_of_ble_eq_true rfl)) d_Desk_value_2 ⟨Nat.le_of_ble_eq_true rfl, Nat.le_of_ble_eq_true rfl⟩) hS (fun q _ h => hFc q h) hFc (fun u_1 t H_2 locs ht hvm hw hB hz1 hk1 hS => ?_)
  try dsimp only at hw
  obtain ⟨hP1, hD1⟩ := hB
  rw [ht] at hP1
  obtain ⟨hP, hD⟩ := va_join (wr := [(d7, .inr (8, [.ref e1])), (e1, .inl (ax 4, 6, .inr (.inl (fun _ => 0))))]) (w1 := [(d0, .inr (10, [.ref d1, .ref d2, .ref d3, .ref d4, .ref d5, .ref d6, .ref d7, .ref d8, .ref d9, .ref d10, .ref d11, .ref d12, .int 0]))]) hP hD [0] [1, 2] rfl rfl (by decide) (by decide) hk1 hFc hP1 hD1
  have hP : va_P D classes [(d7, .inr (8, [.ref e1])), (e1, .inl (ax 4, 6, .inr (.inl (fun _ => 0)))), (d0, .inr (10, [.ref d1, .ref d2, .ref d3, .ref d4, .ref d5, .ref d6, .ref d7, .ref d8, .ref d9, .ref d10, .ref d11, .ref d12, .int 0]))] H_2 := hP
  have hD : va_D A [(d7, .inr (8, [.ref e1])), (e1, .inl (ax 4, 6, .inr (.inl (fun _ => 0)))), (d0, .inr (10, [.ref d1, .ref d2, .ref d3, .ref d4, .ref d5, .ref d6, .ref d7, .ref d8, .ref d9, .ref d10, .ref d11, .ref d12, .int 0]))] := hD
  refine lv_aload_n hx hb d_Desk_value_5 rfl (lv_at hl1 0 rfl) ?_
  refine va_get (D := D) (ci := 10) (v := .ref d7) (C := R_Desk) (T := F_Desk) (N := 13) hx hb hts i_Desk hown hK.1 hP 2 rfl rfl 6 (by decide) (hts _ wd_381) (fun _ h9 => h9) rfl d_Desk_value_6 ?_
  refine va_get (D := D) (ci := 8) (v := .ref e1) (C := R_Runner) (T := F_Runner) (N := 1) hx hb hts i_Runner hown hK.1 hP 0 rfl rfl 0 (by decide) (hts _ wd_252) (fun _ h9 => h9) rfl d_Desk_value_9 ?_
  refine lv_iload_n hx hb d_Desk_value_12 rfl (lv_at hl1 1 rfl) ?_
  refine va_lald hx hb hK.1 hP 1 4 rfl rfl (by unfold vp_in; decide) d_Desk_value_13 ?_
  refine lv_topl (fun z_4 ez_4 => ?_)
  have ez_4 : z_4 = 0 := ez_4.trans (by first | rfl | decide)
  subst ez_4
  exact W.lret (v := 0) hx hb hr (fun t ht hW => ⟨⟨0, fun _ => 0, rfl, rfl, trivial⟩, hS.F ht⟩) hS.2.2 d_Desk_value_14
set_option maxHeartbeats 4000000 in
set_option maxRecDepth 100000 in
theorem c_Desk_needVariable_5 (l : Launch) (D : va_G) (ax : Nat → ClassId) (d0 d1 d2 d3 d4 d5 d6 d7 d8 d9 d10 d11 d12 : Nat) (sz : Nat) : Met l y_Desk_needVariable (xws (.code y_Desk_needVariable b_Desk_needVariable 2 none)) ({ frames := 10, cells := 0, slots := 0, locals := 400 }) (va_Pc [.ref d0, .int 5] (xo D ax [(d0, .inr (10, [.ref d1, .ref d2, .ref d3, .ref d4, .ref d5, .ref d6, .ref d7, .ref d8, .ref d9, .ref d10, .ref d11, .ref d12, .int 0]))] sz)) ((va_Qv (fun (u : Nat → Nat) => True) (xb D (va_A [(d0, .inr (10, [.ref d1, .ref d2, .ref d3, .ref d4, .ref d5, .ref d6, .ref d7, .ref d8, .ref d9, .ref d10, .ref d11, .ref d12, .int 0]))] sz) (fun u => [(d0, .inr (10, [.ref d1, .ref d2, .ref d3, .ref d4, .ref d5, .ref d6, .ref d7, .ref d8, .ref d9, .ref d10, .ref d11, .ref d12, .int 0]))])) (va_A [(d0, .inr (10, [.ref d1, .ref d2, .ref d3, .ref d4, .ref d5, .ref d6, .ref d7, .ref d8, .ref d9, .ref d10, .ref d11, .ref d12, .int 0]))] sz))) 0 0 (va_A [(d0, .inr (10, [.ref d1, .ref d2, .ref d3, .ref d4, .ref d5, .ref d6, .ref d7, .ref d8, .ref d9, .ref d10, .ref d11, .ref d12, .int 0]))] sz) := by
  refine Met.ofW (cc := b_Desk_needVariable) (maxL := 2) (ret := none) (by decide) rfl ?_
  intro p e s m args below meth c s₁ B hml hv
  obtain ⟨rfl, hsz, hP, hK, hD0⟩ := hv
  have hx := B.exec
  have hb := B.bytes
  have hr := B.returns
  have hts := xw_hts B.pre
  have hown : s.vm.findClass R_Desk = some m.cls := findClass_of_methodNamed B.named
  have hlocks := B.notSynchronized
  subst hsz
  have hD := hD0.self (sz := s.heap.size)
  have hN := xz_entry hP
  generalize hAe : va_A [(d0, .inr (10, [.ref d1, .ref d2, .ref d3, .ref d4, .ref d5, .ref d6, .ref d7, .ref d8, .ref d9, .ref d10, .ref d11, .ref d12, .int 0]))] s.heap.size = A at hD hN ⊢
  have hA : ∀ q : Nat, s.heap.size ≤ q → A q := fun q h => by rw [← hAe]; exact Or.inr h
  have hS : va_S A s.heap s.heap [] := va_S.rf
  have hl0 := lv_entry ([.ref d0, .int 5]) (n := 2) (Nat.le_of_ble_eq_true rfl)
  rw [lg_entry_eq]
  generalize (lg_sl ([.ref d0, .int 5]) ++ List.replicate (2 - (lg_sl ([.ref d0, .int 5])).length) Slot.unset).toArray = ls at hl0 ⊢
  have hl1 : lv_has ls 2 [(0, .ref d0), (1, .int 5)] := hl0
  refine lv_iload_n hx hb d_Desk_needVariable_0 rfl (lv_at hl1 1 rfl) ?_
  refine lv_if_lt (tgt := 10) hx hb d_Desk_needVariable_1 (by decide) (fun c_1 => ?_) (fun c_1 => ?_)
  · first | exact absurd c_1 (by decide) | exact absurd (by decide) c_1
  refine lv_iload_n hx hb d_Desk_needVariable_4 rfl (lv_at hl1 1 rfl) ?_
  refine lv_bipush (v := 6) hx hb d_Desk_needVariable_5 (by decide) ?_
  refine lv_icmp_lt (tgt := 18) hx hb d_Desk_needVariable_7 (by decide) (fun c_2 => ?_) (fun c_2 => ?_)
  rotate_left
  · first | exact absurd c_2 (by decide) | exact absurd (by decide) c_2
  have hP9 := hP.sub (ws' := (fun u : Nat → Nat => [(d0, .inr (10, [.ref d1, .ref d2, .ref d3, .ref d4, .ref d5, .ref d6, .ref d7, .ref d8, .ref d9, .ref d10, .ref d11, .ref d12, .int 0]))]) (ixn [])) [0] rfl
  have hD9 := hD.sub (ws' := (fun u : Nat → Nat => [(d0, .inr (10, [.ref d1, .ref d2, .ref d3, .ref d4, .ref d5, .ref d6, .ref d7, .ref d8, .ref d9, .ref d10, .ref d11, .ref d12, .int 0]))]) (ixn [])) [0] (by decide) rfl
  exact W.vret hx hb hr (fun t ht hW => ⟨⟨ixn [], rfl, trivial, ⟨by rw [ht]; exact hP9, hD9⟩⟩, hS.F ht⟩) hS.2.2 d_Desk_needVariable_18
set_option maxHeartbeats 4000000 in
set_option maxRecDepth 100000 in
theorem c_Desk_start_5 (l : Launch) (D : va_G) (ax : Nat → ClassId) (d0 d1 d2 d3 d4 d5 d6 d7 d8 d9 d10 d11 d12 : Nat) (e1 : Nat) (x2 : Int32) (sz : Nat) : Met l y_Desk_start (xws (.code y_Desk_start b_Desk_start 3 none)) ({ frames := 20, cells := 0, slots := 0, locals := 800 }) (va_Pc [.ref d0, .int 5, .int x2] (xo D ax [(d0, .inr (10, [.ref d1, .ref d2, .ref d3, .ref d4, .ref d5, .ref d6, .ref d7, .ref d8, .ref d9, .ref d10, .ref d11, .ref d12, .int 0])), (d7, .inr (8, [.ref e1])), (e1, .inl (ax 4, 6, .inr (.inl (fun _ => 0))))] sz)) ((va_Qv (fun (u : Nat → Nat) => True) (fun (_ : Nat → Nat) (_ : State) => True) (va_A [(d0, .inr (10, [.ref d1, .ref d2, .ref d3, .ref d4, .ref d5, .ref d6, .ref d7, .ref d8, .ref d9, .ref d10, .ref d11, .ref d12, .int 0])), (d7, .inr (8, [.ref e1])), (e1, .inl (ax 4, 6, .inr (.inl (fun _ => 0))))] sz))) 0 0 (va_A [(d0, .inr (10, [.ref d1, .ref d2, .ref d3, .ref d4, .ref d5, .ref d6, .ref d7, .ref d8, .ref d9, .ref d10, .ref d11, .ref d12, .int 0])), (d7, .inr (8, [.ref e1])), (e1, .inl (ax 4, 6, .inr (.inl (fun _ => 0))))] sz) := by
  refine Met.ofW (cc := b_Desk_start) (maxL := 3) (ret := none) (by decide) rfl ?_
  intro p e s m args below meth c s₁ B hml hv
  obtain ⟨rfl, hsz, hP, hK, hD0⟩ := hv
  have hx := B.exec
  have hb := B.bytes
  have hr := B.returns
  have hts := xw_hts B.pre
  have hown : s.vm.findClass R_Desk = some m.cls := findClass_of_methodNamed B.named
  have hlocks := B.notSynchronized
  subst hsz
  have hD := hD0.self (sz := s.heap.size)
  have hN := xz_entry hP
  generalize hAe : va_A [(d0, .inr (10, [.ref d1, .ref d2, .ref d3, .ref d4, .ref d5, .ref d6, .ref d7, .ref d8, .ref d9, .ref d10, .ref d11, .ref d12, .int 0])), (d7, .inr (8, [.ref e1])), (e1, .inl (ax 4, 6, .inr (.inl (fun _ => 0))))] s.heap.size = A at hD hN ⊢
  have hA : ∀ q : Nat, s.heap.size ≤ q → A q := fun q h => by rw [← hAe]; exact Or.inr h
  have hS : va_S A s.heap s.heap [] := va_S.rf
  have hl0 := lv_entry ([.ref d0, .int 5, .int x2]) (n := 3) (Nat.le_of_ble_eq_true rfl)
  rw [lg_entry_eq]
  generalize (lg_sl ([.ref d0, .int 5, .int x2]) ++ List.replicate (3 - (lg_sl ([.ref d0, .int 5, .int x2])).length) Slot.unset).toArray = ls at hl0 ⊢
  have hl1 : lv_has ls 3 [(0, .ref d0), (1, .int 5), (2, .int x2)] := hl0
  refine lv_aload_n hx hb d_Desk_start_0 rfl (lv_at hl1 0 rfl) ?_
  refine lv_iload_n hx hb d_Desk_start_1 rfl (lv_at hl1 1 rfl) ?_
  have hPc := hP.sub (ws' := [(d0, .inr (10, [.ref d1, .ref d2, .ref d3, .ref d4, .ref d5, .ref d6, .ref d7, .ref d8, .ref d9, .ref d10, .ref d11, .ref d12, .int 0]))]) [0] rfl
  have hDc := hD.sub (ws' := [(d0, .inr (10, [.ref d1, .ref d2, .ref d3, .ref d4, .ref d5, .ref d6, .ref d7, .ref d8, .ref d9, .ref d10, .ref d11, .ref d12, .int 0]))]) [0] (by decide) rfl
  have hFc := va_free (wc := [(d0, .inr (10, [.ref d1, .ref d2, .ref d3, .ref d4, .ref d5, .ref d6, .ref d7, .ref d8, .ref d9, .ref d10, .ref d11, .ref d12, .int 0]))]) hD hS hA [0] rfl
  have hz := xz_of hN hS
  refine va_callv (va_runV (As := [.int 5]) (rest := []) ⟨hx, hb, hml, hown, hts⟩ (c_Desk_needVariable_5 l D ax d0 d1 d2 d3 d4 d5 d6 d7 d8 d9 d10 d11 d12 s.heap.size) (xcV (n := 1) hts wd_965 wd_1 wd_962 wd_964 ps_46 rfl rfl (by decide +kernel) ⟨Nat.le_of_ble_eq_true rfl, Nat.le_of_ble_eq_true rfl⟩) (xpV (ci := 10) (q0 := 0) (As := [.int 5]) hPc hK hz hDc rfl rfl) rfl rfl hl1.1 rfl (lv_room (Nat.le_of_ble_eq_true rfl)) d_Desk_start_2 ⟨Nat.le_of_ble_eq_true rfl, Nat.le_of_ble_eq_true rfl⟩) hS (fun q _ h => hFc q h) hFc (fun u_1 t H_2 locs ht hvm hw hB hz1 hk1 hS => ?_)
  try dsimp only at hw
  obtain ⟨hP1, hD1⟩ := hB
  rw [ht] at hP1
  obtain ⟨hP, hD⟩ := va_join (wr := [(d7, .inr (8, [.ref e1])), (e1, .inl (ax 4, 6, .inr (.inl (fun _ => 0))))]) (w1 := [(d0, .inr (10, [.ref d1, .ref d2, .ref d3, .ref d4, .ref d5, .ref d6, .ref d7, .ref d8, .ref d9, .ref d10, .ref d11, .ref d12, .int 0]))]) hP hD [0] [1, 2] rfl rfl (by decide) (by decide) hk1 hFc hP1 hD1
  have hP : va_P D classes [(d7, .inr (8, [.ref e1])), (e1, .inl (ax 4, 6, .inr (.inl (fun _ => 0)))), (d0, .inr (10, [.ref d1, .ref d2, .ref d3, .ref d4, .ref d5, .ref d6, .ref d7, .ref d8, .ref d9, .ref d10, .ref d11, .ref d12, .int 0]))] H_2 := hP
  have hD : va_D A [(d7, .inr (8, [.ref e1])), (e1, .inl (ax 4, 6, .inr (.inl (fun _ => 0)))), (d0, .inr (10, [.ref d1, .ref d2, .ref d3, .ref d4, .ref d5, .ref d6, .ref d7, .ref d8, .ref d9, .ref d10, .ref d11, .ref d12, .int 0]))] := hD
  refine lv_aload_n hx hb d_Desk_start_5 rfl (lv_at hl1 0 rfl) ?_
  refine va_get (D := D) (ci := 10) (v := .ref d7) (C := R_Desk) (T := F_Desk) (N := 13) hx hb hts i_Desk hown hK.1 hP 2 rfl rfl 6 (by decide) (hts _ wd_381) (fun _ h9 => h9) rfl d_Desk_start_6 ?_
  refine va_get (D := D) (ci := 8) (v := .ref e1) (C := R_Runner) (T := F_Runner) (N := 1) hx hb hts i_Runner hown hK.1 hP 0 rfl rfl 0 (by decide) (hts _ wd_252) (fun _ h9 => h9) rfl d_Desk_start_9 ?_
  refine lv_iload_n hx hb d_Desk_start_12 rfl (lv_at hl1 1 rfl) ?_
  refine lv_iload_n hx hb d_Desk_start_13 rfl (lv_at hl1 2 rfl) ?_
  refine lv_i2l hx hb d_Desk_start_14 rfl ?_
  refine lv_topl (fun z_4 ez_4 => ?_)
  refine va_last hx hb hK.1 hP hD hS 1 4 rfl rfl (by unfold vp_in; decide) d_Desk_start_15 (fun H_5 locs hP hD hS => ?_)
  have hP : va_P D classes [(d7, .inr (8, [.ref e1])), (e1, .inl (ax 4, 6, .inr (.inl (vp_updL (fun _ => 0) 5 z_4)))), (d0, .inr (10, [.ref d1, .ref d2, .ref d3, .ref d4, .ref d5, .ref d6, .ref d7, .ref d8, .ref d9, .ref d10, .ref d11, .ref d12, .int 0]))] H_5 := hP
  have hD : va_D A [(d7, .inr (8, [.ref e1])), (e1, .inl (ax 4, 6, .inr (.inl (vp_updL (fun _ => 0) 5 z_4)))), (d0, .inr (10, [.ref d1, .ref d2, .ref d3, .ref d4, .ref d5, .ref d6, .ref d7, .ref d8, .ref d9, .ref d10, .ref d11, .ref d12, .int 0]))] := hD
  exact W.vret hx hb hr (fun t ht hW => ⟨⟨fun _ => 0, rfl, trivial, trivial⟩, hS.F ht⟩) hS.2.2 d_Desk_start_16
set_option maxHeartbeats 4000000 in
set_option maxRecDepth 100000 in
theorem c_Desk_value_5 (l : Launch) (D : va_G) (ax : Nat → ClassId) (d0 d1 d2 d3 d4 d5 d6 d7 d8 d9 d10 d11 d12 : Nat) (e1 : Nat) (sz : Nat) : Met l y_Desk_value (xws (.code y_Desk_value b_Desk_value 2 (some .long))) ({ frames := 20, cells := 0, slots := 0, locals := 800 }) (va_Pc [.ref d0, .int 5] (xo D ax [(d0, .inr (10, [.ref d1, .ref d2, .ref d3, .ref d4, .ref d5, .ref d6, .ref d7, .ref d8, .ref d9, .ref d10, .ref d11, .ref d12, .int 0])), (d7, .inr (8, [.ref e1])), (e1, .inl (ax 4, 6, .inr (.inl (fun _ => 0))))] sz)) ((va_Ql (fun (r : Int64) (u : Nat → Nat) => r = 0) (fun (_ : Nat → Nat) (_ : State) => True) (va_A [(d0, .inr (10, [.ref d1, .ref d2, .ref d3, .ref d4, .ref d5, .ref d6, .ref d7, .ref d8, .ref d9, .ref d10, .ref d11, .ref d12, .int 0])), (d7, .inr (8, [.ref e1])), (e1, .inl (ax 4, 6, .inr (.inl (fun _ => 0))))] sz))) 0 0 (va_A [(d0, .inr (10, [.ref d1, .ref d2, .ref d3, .ref d4, .ref d5, .ref d6, .ref d7, .ref d8, .ref d9, .ref d10, .ref d11, .ref d12, .int 0])), (d7, .inr (8, [.ref e1])), (e1, .inl (ax 4, 6, .inr (.inl (fun _ => 0))))] sz) := by
  refine Met.ofW (cc := b_Desk_value) (maxL := 2) (ret := (some .long)) (by decide) rfl ?_
  intro p e s m args below meth c s₁ B hml hv
  obtain ⟨rfl, hsz, hP, hK, hD0⟩ := hv
  have hx := B.exec
  have hb := B.bytes
  have hr := B.returns
  have hts := xw_hts B.pre
  have hown : s.vm.findClass R_Desk = some m.cls := findClass_of_methodNamed B.named
  have hlocks := B.notSynchronized
  subst hsz
  have hD := hD0.self (sz := s.heap.size)
  have hN := xz_entry hP
  generalize hAe : va_A [(d0, .inr (10, [.ref d1, .ref d2, .ref d3, .ref d4, .ref d5, .ref d6, .ref d7, .ref d8, .ref d9, .ref d10, .ref d11, .ref d12, .int 0])), (d7, .inr (8, [.ref e1])), (e1, .inl (ax 4, 6, .inr (.inl (fun _ => 0))))] s.heap.size = A at hD hN ⊢
  have hA : ∀ q : Nat, s.heap.size ≤ q → A q := fun q h => by rw [← hAe]; exact Or.inr h
  have hS : va_S A s.heap s.heap [] := va_S.rf
  have hl0 := lv_entry ([.ref d0, .int 5]) (n := 2) (Nat.le_of_ble_eq_true rfl)
  rw [lg_entry_eq]
  generalize (lg_sl ([.ref d0, .int 5]) ++ List.replicate (2 - (lg_sl ([.ref d0, .int 5])).length) Slot.unset).toArray = ls at hl0 ⊢
  have hl1 : lv_has ls 2 [(0, .ref d0), (1, .int 5)] := hl0
  refine lv_aload_n hx hb d_Desk_value_0 rfl (lv_at hl1 0 rfl) ?_
  refine lv_iload_n hx hb d_Desk_value_1 rfl (lv_at hl1 1 rfl) ?_
  have hPc := hP.sub (ws' := [(d0, .inr (10, [.ref d1, .ref d2, .ref d3, .ref d4, .ref d5, .ref d6, .ref d7, .ref d8, .ref d9, .ref d10, .ref d11, .ref d12, .int 0]))]) [0] rfl
  have hDc := hD.sub (ws' := [(d0, .inr (10, [.ref d1, .ref d2, .ref d3, .ref d4, .ref d5, .ref d6, .ref d7, .ref d8, .ref d9, .ref d10, .ref d11, .ref d12, .int 0]))]) [0] (by decide) rfl
  have hFc := va_free (wc := [(d0, .inr (10, [.ref d1, .ref d2, .ref d3, .ref d4, .ref d5, .ref d6, .ref d7, .ref d8, .ref d9, .ref d10, .ref d11, .ref d12, .int 0]))]) hD hS hA [0] rfl
  have hz := xz_of hN hS
  refine va_callv (va_runV (As := [.int 5]) (rest := []) ⟨hx, hb, hml, hown, hts⟩ (c_Desk_needVariable_5 l D ax d0 d1 d2 d3 d4 d5 d6 d7 d8 d9 d10 d11 d12 s.heap.size) (xcV (n := 1) hts wd_965 wd_1 wd_962 wd_964 ps_46 rfl rfl (by decide +kernel) ⟨Nat.le_of_ble_eq_true rfl, Nat.le_of_ble_eq_true rfl⟩) (xpV (ci := 10) (q0 := 0) (As := [.int 5]) hPc hK hz hDc rfl rfl) rfl rfl hl1.1 rfl (lv_room (Nat.le_of_ble_eq_true rfl)) d_Desk_value_2 ⟨Nat.le_of_ble_eq_true rfl, Nat.le_of_ble_eq_true rfl⟩) hS (fun q _ h => hFc q h) hFc (fun u_1 t H_2 locs ht hvm hw hB hz1 hk1 hS => ?_)
  try dsimp only at hw
  obtain ⟨hP1, hD1⟩ := hB
  rw [ht] at hP1
  obtain ⟨hP, hD⟩ := va_join (wr := [(d7, .inr (8, [.ref e1])), (e1, .inl (ax 4, 6, .inr (.inl (fun _ => 0))))]) (w1 := [(d0, .inr (10, [.ref d1, .ref d2, .ref d3, .ref d4, .ref d5, .ref d6, .ref d7, .ref d8, .ref d9, .ref d10, .ref d11, .ref d12, .int 0]))]) hP hD [0] [1, 2] rfl rfl (by decide) (by decide) hk1 hFc hP1 hD1
  have hP : va_P D classes [(d7, .inr (8, [.ref e1])), (e1, .inl (ax 4, 6, .inr (.inl (fun _ => 0)))), (d0, .inr (10, [.ref d1, .ref d2, .ref d3, .ref d4, .ref d5, .ref d6, .ref d7, .ref d8, .ref d9, .ref d10, .ref d11, .ref d12, .int 0]))] H_2 := hP
  have hD : va_D A [(d7, .inr (8, [.ref e1])), (e1, .inl (ax 4, 6, .inr (.inl (fun _ => 0)))), (d0, .inr (10, [.ref d1, .ref d2, .ref d3, .ref d4, .ref d5, .ref d6, .ref d7, .ref d8, .ref d9, .ref d10, .ref d11, .ref d12, .int 0]))] := hD
  refine lv_aload_n hx hb d_Desk_value_5 rfl (lv_at hl1 0 rfl) ?_
  refine va_get (D := D) (ci := 10) (v := .ref d7) (C := R_Desk) (T := F_Desk) (N := 13) hx hb hts i_Desk hown hK.1 hP 2 rfl rfl 6 (by decide) (hts _ wd_381) (fun _ h9 => h9) rfl d_Desk_value_6 ?_
  refine va_get (D := D) (ci := 8) (v := .ref e1) (C := R_Runner) (T := F_Runner) (N := 1) hx hb hts i_Runner hown hK.1 hP 0 rfl rfl 0 (by decide) (hts _ wd_252) (fun _ h9 => h9) rfl d_Desk_value_9 ?_
  refine lv_iload_n hx hb d_Desk_value_12 rfl (lv_at hl1 1 rfl) ?_
  refine va_lald hx hb hK.1 hP 1 4 rfl rfl (by unfold vp_in; decide) d_Desk_value_13 ?_
  refine lv_topl (fun z_4 ez_4 => ?_)
  have ez_4 : z_4 = 0 := ez_4.trans (by first | rfl | decide)
  subst ez_4
  exact W.lret (v := 0) hx hb hr (fun t ht hW => ⟨⟨0, fun _ => 0, rfl, rfl, trivial⟩, hS.F ht⟩) hS.2.2 d_Desk_value_14
abbrev b_Nodes_root : ByteArray := prog_6_method_3_code
def y_Nodes_root : MethodName := ⟨R_Nodes, "root", "()I"⟩
theorem d_Nodes_root_0 : decode b_Nodes_root 0 = .ok (.aload_n 0, 1) := by decide +kernel
theorem d_Nodes_root_1 : decode b_Nodes_root 1 = .ok (.getfield 20, 3) := by decide +kernel
theorem d_Nodes_root_4 : decode b_Nodes_root 4 = .ok (.iconst 1, 1) := by decide +kernel
theorem d_Nodes_root_5 : decode b_Nodes_root 5 = .ok (.isub, 1) := by decide +kernel
theorem d_Nodes_root_6 : decode b_Nodes_root 6 = .ok (.ireturn, 1) := by decide +kernel
set_option maxHeartbeats 4000000 in
set_option maxRecDepth 100000 in
theorem c_Nodes_root (l : Launch) (D : va_G) (ax : Nat → ClassId) (h0 h1 h2 h3 : Nat) (sz : Nat) : Met l y_Nodes_root (xws (.code y_Nodes_root b_Nodes_root 1 (some .int))) ({ frames := 10, cells := 0, slots := 0, locals := 400 }) (va_Pc [.ref h0] (xo D ax [(h0, .inr (4, [.ref h1, .ref h2, .ref h3, .int 1]))] sz)) ((va_Qi (fun (r : Int32) (u : Nat → Nat) => r = 0) (xb D (va_A [(h0, .inr (4, [.ref h1, .ref h2, .ref h3, .int 1]))] sz) (fun u => [(h0, .inr (4, [.ref h1, .ref h2, .ref h3, .int 1]))])) (va_A [(h0, .inr (4, [.ref h1, .ref h2, .ref h3, .int 1]))] sz))) 0 0 (va_A [(h0, .inr (4, [.ref h1, .ref h2, .ref h3, .int 1]))] sz) := by
  refine Met.ofW (cc := b_Nodes_root) (maxL := 1) (ret := (some .int)) (by decide) rfl ?_
  intro p e s m args below meth c s₁ B hml hv
  obtain ⟨rfl, hsz, hP, hK, hD0⟩ := hv
  have hx := B.exec
  have hb := B.bytes
  have hr := B.returns
  have hts := xw_hts B.pre
  have hown : s.vm.findClass R_Nodes = some m.cls := findClass_of_methodNamed B.named
  have hlocks := B.notSynchronized
  subst hsz
  have hD := hD0.self (sz := s.heap.size)
  have hN := xz_entry hP
  generalize hAe : va_A [(h0, .inr (4, [.ref h1, .ref h2, .ref h3, .int 1]))] s.heap.size = A at hD hN ⊢
  have hA : ∀ q : Nat, s.heap.size ≤ q → A q := fun q h => by rw [← hAe]; exact Or.inr h
  have hS : va_S A s.heap s.heap [] := va_S.rf
  have hl0 := lv_entry ([.ref h0]) (n := 1) (Nat.le_of_ble_eq_true rfl)
  rw [lg_entry_eq]
  generalize (lg_sl ([.ref h0]) ++ List.replicate (1 - (lg_sl ([.ref h0])).length) Slot.unset).toArray = ls at hl0 ⊢
  have hl1 : lv_has ls 1 [(0, .ref h0)] := hl0
  refine lv_aload_n hx hb d_Nodes_root_0 rfl (lv_at hl1 0 rfl) ?_
  refine va_get (D := D) (ci := 4) (v := .int 1) (C := R_Nodes) (T := F_Nodes) (N := 4) hx hb hts i_Nodes hown hK.1 hP 0 rfl rfl 3 (by decide) (hts _ wd_118) (fun _ h9 => h9) rfl d_Nodes_root_1 ?_
  refine lv_iconst (v := 1) hx hb d_Nodes_root_4 (by decide) ?_
  refine lv_isub hx hb d_Nodes_root_5 ?_
  refine lv_topi (fun z_1 ez_1 => ?_)
  have ez_1 : z_1 = 0 := ez_1.trans (by first | rfl | decide)
  subst ez_1
  have hP9 := hP.sub (ws' := (fun u : Nat → Nat => [(h0, .inr (4, [.ref h1, .ref h2, .ref h3, .int 1]))]) (ixn [])) [0] rfl
  have hD9 := hD.sub (ws' := (fun u : Nat → Nat => [(h0, .inr (4, [.ref h1, .ref h2, .ref h3, .int 1]))]) (ixn [])) [0] (by decide) rfl
  exact W.iret (v := 0) hx hb hr (fun t ht hW => ⟨⟨0, ixn [], rfl, rfl, ⟨by rw [ht]; exact hP9, hD9⟩⟩, hS.F ht⟩) hS.2.2 d_Nodes_root_6
abbrev b_Runner_compare : ByteArray := prog_10_method_6_code
def y_Runner_compare : MethodName := ⟨R_Runner, "compare", "(IJJ)Z"⟩
theorem d_Runner_compare_0 : decode b_Runner_compare 0 = .ok (.iload_n 0, 1) := by decide +kernel
theorem d_Runner_compare_1 : decode b_Runner_compare 1 = .ok (.tableswitch 95 0 4 #[35, 47, 59, 71, 83], 35) := by decide +kernel
theorem d_Runner_compare_84 : decode b_Runner_compare 84 = .ok (.lload_n 1, 1) := by decide +kernel
theorem d_Runner_compare_85 : decode b_Runner_compare 85 = .ok (.lload_n 3, 1) := by decide +kernel
theorem d_Runner_compare_86 : decode b_Runner_compare 86 = .ok (.lcmp, 1) := by decide +kernel
theorem d_Runner_compare_87 : decode b_Runner_compare 87 = .ok (.ifCond .ne 7, 3) := by decide +kernel
theorem d_Runner_compare_90 : decode b_Runner_compare 90 = .ok (.iconst 1, 1) := by decide +kernel
theorem d_Runner_compare_91 : decode b_Runner_compare 91 = .ok (.goto 4, 3) := by decide +kernel
theorem d_Runner_compare_95 : decode b_Runner_compare 95 = .ok (.ireturn, 1) := by decide +kernel
set_option maxHeartbeats 4000000 in
set_option maxRecDepth 100000 in
theorem c_Runner_compare (l : Launch) (D : va_G) (ax : Nat → ClassId) (sz : Nat) : Met l y_Runner_compare (xws (.code y_Runner_compare b_Runner_compare 5 (some .boolean))) ({ frames := 10, cells := 0, slots := 0, locals := 400 }) (va_Pc [.int 4, .long 0, .long 0] (xo D ax [] sz)) ((va_Qi (fun (r : Int32) (u : Nat → Nat) => r = 1) (xb D (va_A [] sz) (fun u => [])) (va_A [] sz))) 0 0 (va_A [] sz) := by
  refine Met.ofW (cc := b_Runner_compare) (maxL := 5) (ret := (some .boolean)) (by decide) rfl ?_
  intro p e s m args below meth c s₁ B hml hv
  obtain ⟨rfl, hsz, hP, hK, hD0⟩ := hv
  have hx := B.exec
  have hb := B.bytes
  have hr := B.returns
  have hts := xw_hts B.pre
  have hown : s.vm.findClass R_Runner = some m.cls := findClass_of_methodNamed B.named
  have hlocks := B.notSynchronized
  subst hsz
  have hD := hD0.self (sz := s.heap.size)
  have hN := xz_entry hP
  generalize hAe : va_A [] s.heap.size = A at hD hN ⊢
  have hA : ∀ q : Nat, s.heap.size ≤ q → A q := fun q h => by rw [← hAe]; exact Or.inr h
  have hS : va_S A s.heap s.heap [] := va_S.rf
  have hl0 := lv_entry ([.int 4, .long 0, .long 0]) (n := 5) (Nat.le_of_ble_eq_true rfl)
  rw [lg_entry_eq]
  generalize (lg_sl ([.int 4, .long 0, .long 0]) ++ List.replicate (5 - (lg_sl ([.int 4, .long 0, .long 0])).length) Slot.unset).toArray = ls at hl0 ⊢
  have hl1 : lv_has ls 5 [(0, .int 4), (1, .long 0), (3, .long 0)] := hl0
  refine lv_iload_n hx hb d_Runner_compare_0 rfl (lv_at hl1 0 rfl) ?_
  refine lv_tableIn (off := 83) (tgt := 84) hx hb d_Runner_compare_1 (by decide) (by decide) (by decide) (by decide) ?_
  refine lv_lload_n hx hb d_Runner_compare_84 rfl (lv_at hl1 1 rfl) ?_
  refine lv_lload_n hx hb d_Runner_compare_85 rfl (lv_at hl1 2 rfl) ?_
  refine W.lcmp hx hb d_Runner_compare_86 ?_
  refine lv_topi (fun z_1 ez_1 => ?_)
  have ez_1 : z_1 = 0 := ez_1.trans (by first | rfl | decide)
  subst ez_1
  refine lv_if_ne (tgt := 94) hx hb d_Runner_compare_87 (by decide) (fun c_2 => ?_) (fun c_2 => ?_)
  · first | exact absurd c_2 (by decide) | exact absurd (by decide) c_2
  refine lv_iconst (v := 1) hx hb d_Runner_compare_90 (by decide) ?_
  refine lv_goto (tgt := 95) hx hb d_Runner_compare_91 (by decide) ?_
  have hP9 := hP.sub (ws' := (fun u : Nat → Nat => []) (ixn [])) [] rfl
  have hD9 := hD.sub (ws' := (fun u : Nat → Nat => []) (ixn [])) [] (by decide) rfl
  exact W.zret (v := 1) hx hb hr rfl (fun t ht hW => ⟨⟨1, ixn [], rfl, rfl, ⟨by rw [ht]; exact hP9, hD9⟩⟩, hS.F ht⟩) hS.2.2 d_Runner_compare_95
abbrev b_Runner_amount : ByteArray := prog_10_method_7_code
def y_Runner_amount : MethodName := ⟨R_Runner, "amount", "(I)J"⟩
theorem d_Runner_amount_0 : decode b_Runner_amount 0 = .ok (.iload_n 1, 1) := by decide +kernel
theorem d_Runner_amount_1 : decode b_Runner_amount 1 = .ok (.bipush 15, 2) := by decide +kernel
theorem d_Runner_amount_3 : decode b_Runner_amount 3 = .ok (.iand, 1) := by decide +kernel
theorem d_Runner_amount_4 : decode b_Runner_amount 4 = .ok (.istore_n 2, 1) := by decide +kernel
theorem d_Runner_amount_5 : decode b_Runner_amount 5 = .ok (.iload_n 1, 1) := by decide +kernel
theorem d_Runner_amount_6 : decode b_Runner_amount 6 = .ok (.iconst 4, 1) := by decide +kernel
theorem d_Runner_amount_7 : decode b_Runner_amount 7 = .ok (.ishr, 1) := by decide +kernel
theorem d_Runner_amount_8 : decode b_Runner_amount 8 = .ok (.i2l, 1) := by decide +kernel
theorem d_Runner_amount_9 : decode b_Runner_amount 9 = .ok (.lstore_n 3, 1) := by decide +kernel
theorem d_Runner_amount_10 : decode b_Runner_amount 10 = .ok (.iload_n 2, 1) := by decide +kernel
theorem d_Runner_amount_11 : decode b_Runner_amount 11 = .ok (.bipush 6, 2) := by decide +kernel
theorem d_Runner_amount_13 : decode b_Runner_amount 13 = .ok (.if_icmp .ge 14, 3) := by decide +kernel
theorem d_Runner_amount_27 : decode b_Runner_amount 27 = .ok (.lload_n 3, 1) := by decide +kernel
theorem d_Runner_amount_28 : decode b_Runner_amount 28 = .ok (.lreturn, 1) := by decide +kernel
set_option maxHeartbeats 4000000 in
set_option maxRecDepth 100000 in
theorem c_Runner_amount (l : Launch) (D : va_G) (ax : Nat → ClassId) (h0 h5 : Nat) (sz : Nat) : Met l y_Runner_amount (xws (.code y_Runner_amount b_Runner_amount 5 (some .long))) ({ frames := 10, cells := 0, slots := 0, locals := 400 }) (va_Pc [.ref h0, .int 10] (xo D ax [(h0, .inr (8, [.ref h5]))] sz)) ((va_Ql (fun (r : Int64) (u : Nat → Nat) => r = 0) (xb D (va_A [(h0, .inr (8, [.ref h5]))] sz) (fun u => [(h0, .inr (8, [.ref h5]))])) (va_A [(h0, .inr (8, [.ref h5]))] sz))) 0 0 (va_A [(h0, .inr (8, [.ref h5]))] sz) := by
  refine Met.ofW (cc := b_Runner_amount) (maxL := 5) (ret := (some .long)) (by decide) rfl ?_
  intro p e s m args below meth c s₁ B hml hv
  obtain ⟨rfl, hsz, hP, hK, hD0⟩ := hv
  have hx := B.exec
  have hb := B.bytes
  have hr := B.returns
  have hts := xw_hts B.pre
  have hown : s.vm.findClass R_Runner = some m.cls := findClass_of_methodNamed B.named
  have hlocks := B.notSynchronized
  subst hsz
  have hD := hD0.self (sz := s.heap.size)
  have hN := xz_entry hP
  generalize hAe : va_A [(h0, .inr (8, [.ref h5]))] s.heap.size = A at hD hN ⊢
  have hA : ∀ q : Nat, s.heap.size ≤ q → A q := fun q h => by rw [← hAe]; exact Or.inr h
  have hS : va_S A s.heap s.heap [] := va_S.rf
  have hl0 := lv_entry ([.ref h0, .int 10]) (n := 5) (Nat.le_of_ble_eq_true rfl)
  rw [lg_entry_eq]
  generalize (lg_sl ([.ref h0, .int 10]) ++ List.replicate (5 - (lg_sl ([.ref h0, .int 10])).length) Slot.unset).toArray = ls at hl0 ⊢
  have hl1 : lv_has ls 5 [(0, .ref h0), (1, .int 10)] := hl0
  refine lv_iload_n hx hb d_Runner_amount_0 rfl (lv_at hl1 1 rfl) ?_
  refine lv_bipush (v := 15) hx hb d_Runner_amount_1 (by decide) ?_
  refine lv_iand hx hb d_Runner_amount_3 ?_
  refine lv_topi (fun z_1 ez_1 => ?_)
  have ez_1 : z_1 = 10 := ez_1.trans (by first | rfl | decide)
  subst ez_1
  refine lv_istore_n (lv' := [(2, .int 10), (0, .ref h0), (1, .int 10)]) hx hb d_Runner_amount_4 rfl hl1 (by decide) rfl (fun ls hl1 => ?_)
  refine lv_iload_n hx hb d_Runner_amount_5 rfl (lv_at hl1 2 rfl) ?_
  refine lv_iconst (v := 4) hx hb d_Runner_amount_6 (by decide) ?_
  refine lv_ishr hx hb d_Runner_amount_7 ?_
  refine lv_topi (fun z_2 ez_2 => ?_)
  have ez_2 : z_2 = 0 := ez_2.trans (by first | rfl | decide)
  subst ez_2
  refine lv_i2l hx hb d_Runner_amount_8 rfl ?_
  refine lv_topl (fun z_3 ez_3 => ?_)
  have ez_3 : z_3 = 0 := ez_3.trans (by first | rfl | decide)
  subst ez_3
  refine lv_lstore_n (lv' := [(3, .long 0), (2, .int 10), (0, .ref h0), (1, .int 10)]) hx hb d_Runner_amount_9 rfl hl1 (by decide) rfl (fun ls hl1 => ?_)
  refine lv_iload_n hx hb d_Runner_amount_10 rfl (lv_at hl1 1 rfl) ?_
  refine lv_bipush (v := 6) hx hb d_Runner_amount_11 (by decide) ?_
  refine lv_icmp_ge (tgt := 27) hx hb d_Runner_amount_13 (by decide) (fun c_4 => ?_) (fun c_4 => ?_)
  rotate_left
  · first | exact absurd c_4 (by decide) | exact absurd (by decide) c_4
  refine lv_lload_n hx hb d_Runner_amount_27 rfl (lv_at hl1 0 rfl) ?_
  have hP9 := hP.sub (ws' := (fun u : Nat → Nat => [(h0, .inr (8, [.ref h5]))]) (ixn [])) [0] rfl
  have hD9 := hD.sub (ws' := (fun u : Nat → Nat => [(h0, .inr (8, [.ref h5]))]) (ixn [])) [0] (by decide) rfl
  exact W.lret (v := 0) hx hb hr (fun t ht hW => ⟨⟨0, ixn [], rfl, rfl, ⟨by rw [ht]; exact hP9, hD9⟩⟩, hS.F ht⟩) hS.2.2 d_Runner_amount_28
abbrev b_Runner_truth : ByteArray := prog_10_method_5_code
def y_Runner_truth : MethodName := ⟨R_Runner, "truth", "(LTripleDesk$Nodes;I)Z"⟩
theorem d_Runner_truth_0 : decode b_Runner_truth 0 = .ok (.aload_n 1, 1) := by decide +kernel
theorem d_Runner_truth_1 : decode b_Runner_truth 1 = .ok (.getfield 64, 3) := by decide +kernel
theorem d_Runner_truth_4 : decode b_Runner_truth 4 = .ok (.iload_n 2, 1) := by decide +kernel
theorem d_Runner_truth_5 : decode b_Runner_truth 5 = .ok (.iaload, 1) := by decide +kernel
theorem d_Runner_truth_6 : decode b_Runner_truth 6 = .ok (.istore_n 3, 1) := by decide +kernel
theorem d_Runner_truth_7 : decode b_Runner_truth 7 = .ok (.aload_n 1, 1) := by decide +kernel
theorem d_Runner_truth_8 : decode b_Runner_truth 8 = .ok (.getfield 69, 3) := by decide +kernel
theorem d_Runner_truth_11 : decode b_Runner_truth 11 = .ok (.iload_n 2, 1) := by decide +kernel
theorem d_Runner_truth_12 : decode b_Runner_truth 12 = .ok (.iaload, 1) := by decide +kernel
theorem d_Runner_truth_13 : decode b_Runner_truth 13 = .ok (.istore 4, 2) := by decide +kernel
theorem d_Runner_truth_15 : decode b_Runner_truth 15 = .ok (.aload_n 1, 1) := by decide +kernel
theorem d_Runner_truth_16 : decode b_Runner_truth 16 = .ok (.getfield 72, 3) := by decide +kernel
theorem d_Runner_truth_19 : decode b_Runner_truth 19 = .ok (.iload_n 2, 1) := by decide +kernel
theorem d_Runner_truth_20 : decode b_Runner_truth 20 = .ok (.baload, 1) := by decide +kernel
theorem d_Runner_truth_21 : decode b_Runner_truth 21 = .ok (.tableswitch 92 6 8 #[27, 42, 67], 27) := by decide +kernel
theorem d_Runner_truth_113 : decode b_Runner_truth 113 = .ok (.aload_n 1, 1) := by decide +kernel
theorem d_Runner_truth_114 : decode b_Runner_truth 114 = .ok (.getfield 72, 3) := by decide +kernel
theorem d_Runner_truth_117 : decode b_Runner_truth 117 = .ok (.iload_n 2, 1) := by decide +kernel
theorem d_Runner_truth_118 : decode b_Runner_truth 118 = .ok (.baload, 1) := by decide +kernel
theorem d_Runner_truth_119 : decode b_Runner_truth 119 = .ok (.aload_n 0, 1) := by decide +kernel
theorem d_Runner_truth_120 : decode b_Runner_truth 120 = .ok (.iload_n 3, 1) := by decide +kernel
theorem d_Runner_truth_121 : decode b_Runner_truth 121 = .ok (.invokevirtual 38, 3) := by decide +kernel
theorem d_Runner_truth_124 : decode b_Runner_truth 124 = .ok (.aload_n 0, 1) := by decide +kernel
theorem d_Runner_truth_125 : decode b_Runner_truth 125 = .ok (.iload 4, 2) := by decide +kernel
theorem d_Runner_truth_127 : decode b_Runner_truth 127 = .ok (.invokevirtual 38, 3) := by decide +kernel
theorem d_Runner_truth_130 : decode b_Runner_truth 130 = .ok (.invokestatic 75, 3) := by decide +kernel
theorem d_Runner_truth_133 : decode b_Runner_truth 133 = .ok (.ireturn, 1) := by decide +kernel
set_option maxHeartbeats 4000000 in
set_option maxRecDepth 100000 in
theorem c_Runner_truth (l : Launch) (D : va_G) (ax : Nat → ClassId) (h0 h1 h2 h3 h4 h5 : Nat) (sz : Nat) : Met l y_Runner_truth (xws (.code y_Runner_truth b_Runner_truth 5 (some .boolean))) ({ frames := 20, cells := 0, slots := 0, locals := 800 }) (va_Pc [.ref h0, .ref h1, .int 0] (xo D ax [(h0, .inr (8, [.ref h5])), (h1, .inr (4, [.ref h2, .ref h3, .ref h4, .int 1])), (h2, .inl (ax 1, 8, .inl (upd (fun _ => 0) 0 4))), (h3, .inl (ax 0, 8, .inl (upd (fun _ => 0) 0 10))), (h4, .inl (ax 0, 8, .inl (upd (fun _ => 0) 0 10)))] sz)) ((va_Qi (fun (r : Int32) (u : Nat → Nat) => r = 1) (fun (_ : Nat → Nat) (_ : State) => True) (va_A [(h0, .inr (8, [.ref h5])), (h1, .inr (4, [.ref h2, .ref h3, .ref h4, .int 1])), (h2, .inl (ax 1, 8, .inl (upd (fun _ => 0) 0 4))), (h3, .inl (ax 0, 8, .inl (upd (fun _ => 0) 0 10))), (h4, .inl (ax 0, 8, .inl (upd (fun _ => 0) 0 10)))] sz))) 0 0 (va_A [(h0, .inr (8, [.ref h5])), (h1, .inr (4, [.ref h2, .ref h3, .ref h4, .int 1])), (h2, .inl (ax 1, 8, .inl (upd (fun _ => 0) 0 4))), (h3, .inl (ax 0, 8, .inl (upd (fun _ => 0) 0 10))), (h4, .inl (ax 0, 8, .inl (upd (fun _ => 0) 0 10)))] sz) := by
  refine Met.ofW (cc := b_Runner_truth) (maxL := 5) (ret := (some .boolean)) (by decide) rfl ?_
  intro p e s m args below meth c s₁ B hml hv
  obtain ⟨rfl, hsz, hP, hK, hD0⟩ := hv
  have hx := B.exec
  have hb := B.bytes
  have hr := B.returns
  have hts := xw_hts B.pre
  have hown : s.vm.findClass R_Runner = some m.cls := findClass_of_methodNamed B.named
  have hlocks := B.notSynchronized
  subst hsz
  have hD := hD0.self (sz := s.heap.size)
  have hN := xz_entry hP
  generalize hAe : va_A [(h0, .inr (8, [.ref h5])), (h1, .inr (4, [.ref h2, .ref h3, .ref h4, .int 1])), (h2, .inl (ax 1, 8, .inl (upd (fun _ => 0) 0 4))), (h3, .inl (ax 0, 8, .inl (upd (fun _ => 0) 0 10))), (h4, .inl (ax 0, 8, .inl (upd (fun _ => 0) 0 10)))] s.heap.size = A at hD hN ⊢
  have hA : ∀ q : Nat, s.heap.size ≤ q → A q := fun q h => by rw [← hAe]; exact Or.inr h
  have hS : va_S A s.heap s.heap [] := va_S.rf
  have hl0 := lv_entry ([.ref h0, .ref h1, .int 0]) (n := 5) (Nat.le_of_ble_eq_true rfl)
  rw [lg_entry_eq]
  generalize (lg_sl ([.ref h0, .ref h1, .int 0]) ++ List.replicate (5 - (lg_sl ([.ref h0, .ref h1, .int 0])).length) Slot.unset).toArray = ls at hl0 ⊢
  have hl1 : lv_has ls 5 [(0, .ref h0), (1, .ref h1), (2, .int 0)] := hl0
  refine lv_aload_n hx hb d_Runner_truth_0 rfl (lv_at hl1 1 rfl) ?_
  refine va_get (D := D) (ci := 4) (v := .ref h3) (C := R_Nodes) (T := F_Nodes) (N := 4) hx hb hts i_Nodes hown hK.1 hP 1 rfl rfl 1 (by decide) (hts _ wd_111) (fun _ h9 => h9) rfl d_Runner_truth_1 ?_
  refine lv_iload_n hx hb d_Runner_truth_4 rfl (lv_at hl1 2 rfl) ?_
  refine va_iald hx hb hK.1 hP 3 0 rfl rfl (by unfold vp_in; decide) d_Runner_truth_5 ?_
  refine lv_topi (fun z_1 ez_1 => ?_)
  have ez_1 : z_1 = 10 := ez_1.trans (by first | rfl | decide)
  subst ez_1
  refine lv_istore_n (lv' := [(3, .int 10), (0, .ref h0), (1, .ref h1), (2, .int 0)]) hx hb d_Runner_truth_6 rfl hl1 (by decide) rfl (fun ls hl1 => ?_)
  refine lv_aload_n hx hb d_Runner_truth_7 rfl (lv_at hl1 2 rfl) ?_
  refine va_get (D := D) (ci := 4) (v := .ref h4) (C := R_Nodes) (T := F_Nodes) (N := 4) hx hb hts i_Nodes hown hK.1 hP 1 rfl rfl 2 (by decide) (hts _ wd_116) (fun _ h9 => h9) rfl d_Runner_truth_8 ?_
  refine lv_iload_n hx hb d_Runner_truth_11 rfl (lv_at hl1 3 rfl) ?_
  refine va_iald hx hb hK.1 hP 4 0 rfl rfl (by unfold vp_in; decide) d_Runner_truth_12 ?_
  refine lv_topi (fun z_2 ez_2 => ?_)
  have ez_2 : z_2 = 10 := ez_2.trans (by first | rfl | decide)
  subst ez_2
  refine lv_istore (lv' := [(4, .int 10), (3, .int 10), (0, .ref h0), (1, .ref h1), (2, .int 0)]) hx hb d_Runner_truth_13 hl1 (by decide) rfl (fun ls hl1 => ?_)
  refine lv_aload_n hx hb d_Runner_truth_15 rfl (lv_at hl1 3 rfl) ?_
  refine va_get (D := D) (ci := 4) (v := .ref h2) (C := R_Nodes) (T := F_Nodes) (N := 4) hx hb hts i_Nodes hown hK.1 hP 1 rfl rfl 0 (by decide) (hts _ wd_106) (fun _ h9 => h9) rfl d_Runner_truth_16 ?_
  refine lv_iload_n hx hb d_Runner_truth_19 rfl (lv_at hl1 4 rfl) ?_
  refine va_bald hx hb hK.1 hP 2 1 rfl rfl (by unfold vp_in; decide) d_Runner_truth_20 ?_
  refine lv_topi (fun z_3 ez_3 => ?_)
  have ez_3 : z_3 = 4 := ez_3.trans (by first | rfl | decide)
  subst ez_3
  refine lv_tableOut (tgt := 113) hx hb d_Runner_truth_21 (by decide) (by decide) ?_
  refine lv_aload_n hx hb d_Runner_truth_113 rfl (lv_at hl1 3 rfl) ?_
  refine va_get (D := D) (ci := 4) (v := .ref h2) (C := R_Nodes) (T := F_Nodes) (N := 4) hx hb hts i_Nodes hown hK.1 hP 1 rfl rfl 0 (by decide) (hts _ wd_106) (fun _ h9 => h9) rfl d_Runner_truth_114 ?_
  refine lv_iload_n hx hb d_Runner_truth_117 rfl (lv_at hl1 4 rfl) ?_
  refine va_bald hx hb hK.1 hP 2 1 rfl rfl (by unfold vp_in; decide) d_Runner_truth_118 ?_
  refine lv_topi (fun z_4 ez_4 => ?_)
  have ez_4 : z_4 = 4 := ez_4.trans (by first | rfl | decide)
  subst ez_4
  refine lv_aload_n hx hb d_Runner_truth_119 rfl (lv_at hl1 2 rfl) ?_
  refine lv_iload_n hx hb d_Runner_truth_120 rfl (lv_at hl1 1 rfl) ?_
  have hPc := hP.sub (ws' := [(h0, .inr (8, [.ref h5]))]) [0] rfl
  have hDc := hD.sub (ws' := [(h0, .inr (8, [.ref h5]))]) [0] (by decide) rfl
  have hFc := va_free (wc := [(h0, .inr (8, [.ref h5]))]) hD hS hA [0] rfl
  have hz := xz_of hN hS
  refine va_calll (va_runV (As := [.int 10]) (rest := [.int 4]) ⟨hx, hb, hml, hown, hts⟩ (c_Runner_amount l D ax h0 h5 s.heap.size) (xcV (n := 1) hts wd_1000 wd_11 wd_997 wd_999 ps_48 rfl rfl (by decide +kernel) ⟨Nat.le_of_ble_eq_true rfl, Nat.le_of_ble_eq_true rfl⟩) (xpV (ci := 8) (q0 := 0) (As := [.int 10]) hPc hK hz hDc rfl rfl) rfl rfl hl1.1 rfl (lv_room (Nat.le_of_ble_eq_true rfl)) d_Runner_truth_121 ⟨Nat.le_of_ble_eq_true rfl, Nat.le_of_ble_eq_true rfl⟩) hS (fun q _ h => hFc q h) hFc (fun r_7 u_5 t H_6 locs ht hvm hw hB hz1 hk1 hS => ?_)
  try dsimp only at hw
  subst hw
  obtain ⟨hP1, hD1⟩ := hB
  rw [ht] at hP1
  obtain ⟨hP, hD⟩ := va_join (wr := [(h1, .inr (4, [.ref h2, .ref h3, .ref h4, .int 1])), (h2, .inl (ax 1, 8, .inl (upd (fun _ => 0) 0 4))), (h3, .inl (ax 0, 8, .inl (upd (fun _ => 0) 0 10))), (h4, .inl (ax 0, 8, .inl (upd (fun _ => 0) 0 10)))]) (w1 := [(h0, .inr (8, [.ref h5]))]) hP hD [0] [1, 2, 3, 4] rfl rfl (by decide) (by decide) hk1 hFc hP1 hD1
  have hP : va_P D classes [(h1, .inr (4, [.ref h2, .ref h3, .ref h4, .int 1])), (h2, .inl (ax 1, 8, .inl (upd (fun _ => 0) 0 4))), (h3, .inl (ax 0, 8, .inl (upd (fun _ => 0) 0 10))), (h4, .inl (ax 0, 8, .inl (upd (fun _ => 0) 0 10))), (h0, .inr (8, [.ref h5]))] H_6 := hP
  have hD : va_D A [(h1, .inr (4, [.ref h2, .ref h3, .ref h4, .int 1])), (h2, .inl (ax 1, 8, .inl (upd (fun _ => 0) 0 4))), (h3, .inl (ax 0, 8, .inl (upd (fun _ => 0) 0 10))), (h4, .inl (ax 0, 8, .inl (upd (fun _ => 0) 0 10))), (h0, .inr (8, [.ref h5]))] := hD
  refine lv_aload_n hx hb d_Runner_truth_124 rfl (lv_at hl1 2 rfl) ?_
  refine lv_iload hx hb d_Runner_truth_125 (lv_at hl1 0 rfl) ?_
  have hPc := hP.sub (ws' := [(h0, .inr (8, [.ref h5]))]) [4] rfl
  have hDc := hD.sub (ws' := [(h0, .inr (8, [.ref h5]))]) [4] (by decide) rfl
  have hFc := va_free (wc := [(h0, .inr (8, [.ref h5]))]) hD hS hA [4] rfl
  have hz := xz_of hN hS
  refine va_calll (va_runV (As := [.int 10]) (rest := [.long 0, .int 4]) ⟨hx, hb, hml, hown, hts⟩ (c_Runner_amount l D ax h0 h5 H_6.size) (xcV (n := 1) hts wd_1000 wd_11 wd_997 wd_999 ps_48 rfl rfl (by decide +kernel) ⟨Nat.le_of_ble_eq_true rfl, Nat.le_of_ble_eq_true rfl⟩) (xpV (ci := 8) (q0 := 0) (As := [.int 10]) hPc hK hz hDc rfl rfl) rfl rfl hl1.1 rfl (lv_room (Nat.le_of_ble_eq_true rfl)) d_Runner_truth_127 ⟨Nat.le_of_ble_eq_true rfl, Nat.le_of_ble_eq_true rfl⟩) hS (fun q _ h => hFc q h) hFc (fun r_10 u_8 t H_9 locs ht hvm hw hB hz1 hk1 hS => ?_)
  try dsimp only at hw
  subst hw
  obtain ⟨hP1, hD1⟩ := hB
  rw [ht] at hP1
  obtain ⟨hP, hD⟩ := va_join (wr := [(h1, .inr (4, [.ref h2, .ref h3, .ref h4, .int 1])), (h2, .inl (ax 1, 8, .inl (upd (fun _ => 0) 0 4))), (h3, .inl (ax 0, 8, .inl (upd (fun _ => 0) 0 10))), (h4, .inl (ax 0, 8, .inl (upd (fun _ => 0) 0 10)))]) (w1 := [(h0, .inr (8, [.ref h5]))]) hP hD [4] [0, 1, 2, 3] rfl rfl (by decide) (by decide) hk1 hFc hP1 hD1
  have hP : va_P D classes [(h1, .inr (4, [.ref h2, .ref h3, .ref h4, .int 1])), (h2, .inl (ax 1, 8, .inl (upd (fun _ => 0) 0 4))), (h3, .inl (ax 0, 8, .inl (upd (fun _ => 0) 0 10))), (h4, .inl (ax 0, 8, .inl (upd (fun _ => 0) 0 10))), (h0, .inr (8, [.ref h5]))] H_9 := hP
  have hD : va_D A [(h1, .inr (4, [.ref h2, .ref h3, .ref h4, .int 1])), (h2, .inl (ax 1, 8, .inl (upd (fun _ => 0) 0 4))), (h3, .inl (ax 0, 8, .inl (upd (fun _ => 0) 0 10))), (h4, .inl (ax 0, 8, .inl (upd (fun _ => 0) 0 10))), (h0, .inr (8, [.ref h5]))] := hD
  have hPc := hP.sub (ws' := []) [] rfl
  have hDc := hD.sub (ws' := []) [] (by decide) rfl
  have hFc := va_free (wc := []) hD hS hA [] rfl
  have hz := xz_of hN hS
  refine va_calli (va_runS (As := [.int 4, .long 0, .long 0]) (rest := []) ⟨hx, hb, hml, hown, hts⟩ (c_Runner_compare l D ax  H_9.size) (xcS (n := 3) hts wd_1008 wd_11 wd_1006 wd_1007 rfl rfl (by decide +kernel) ⟨Nat.le_of_ble_eq_true rfl, Nat.le_of_ble_eq_true rfl⟩) (xpS (As := [.int 4, .long 0, .long 0]) hPc hK hz hDc) rfl rfl hl1.1 rfl (lv_room (Nat.le_of_ble_eq_true rfl)) d_Runner_truth_130 ⟨Nat.le_of_ble_eq_true rfl, Nat.le_of_ble_eq_true rfl⟩) hS (fun q _ h => hFc q h) hFc (fun r_13 u_11 t H_12 locs ht hvm hw hB hz1 hk1 hS => ?_)
  try dsimp only at hw
  subst hw
  obtain ⟨hP1, hD1⟩ := hB
  rw [ht] at hP1
  obtain ⟨hP, hD⟩ := va_join (wr := [(h1, .inr (4, [.ref h2, .ref h3, .ref h4, .int 1])), (h2, .inl (ax 1, 8, .inl (upd (fun _ => 0) 0 4))), (h3, .inl (ax 0, 8, .inl (upd (fun _ => 0) 0 10))), (h4, .inl (ax 0, 8, .inl (upd (fun _ => 0) 0 10))), (h0, .inr (8, [.ref h5]))]) (w1 := []) hP hD [] [0, 1, 2, 3, 4] rfl rfl (by decide) (by decide) hk1 hFc hP1 hD1
  have hP : va_P D classes [(h1, .inr (4, [.ref h2, .ref h3, .ref h4, .int 1])), (h2, .inl (ax 1, 8, .inl (upd (fun _ => 0) 0 4))), (h3, .inl (ax 0, 8, .inl (upd (fun _ => 0) 0 10))), (h4, .inl (ax 0, 8, .inl (upd (fun _ => 0) 0 10))), (h0, .inr (8, [.ref h5]))] H_12 := hP
  have hD : va_D A [(h1, .inr (4, [.ref h2, .ref h3, .ref h4, .int 1])), (h2, .inl (ax 1, 8, .inl (upd (fun _ => 0) 0 4))), (h3, .inl (ax 0, 8, .inl (upd (fun _ => 0) 0 10))), (h4, .inl (ax 0, 8, .inl (upd (fun _ => 0) 0 10))), (h0, .inr (8, [.ref h5]))] := hD
  exact W.zret (v := 1) hx hb hr rfl (fun t ht hW => ⟨⟨1, fun _ => 0, rfl, rfl, trivial⟩, hS.F ht⟩) hS.2.2 d_Runner_truth_133
set_option maxHeartbeats 4000000 in
set_option maxRecDepth 100000 in
theorem c_Desk_holds_0 (l : Launch) (D : va_G) (ax : Nat → ClassId) (d0 d1 d2 d3 d4 d5 d6 d7 d8 d9 d10 d11 d12 : Nat) (e1 e2 e3 e4 : Nat) (sz : Nat) : Met l y_Desk_holds (xws (.code y_Desk_holds b_Desk_holds 3 (some .boolean))) ({ frames := 30, cells := 0, slots := 0, locals := 1200 }) (va_Pc [.ref d0, .int 0] (xo D ax [(d0, .inr (10, [.ref d1, .ref d2, .ref d3, .ref d4, .ref d5, .ref d6, .ref d7, .ref d8, .ref d9, .ref d10, .ref d11, .ref d12, .int 0])), (d7, .inr (8, [.ref e1])), (d8, .inr (4, [.ref e2, .ref e3, .ref e4, .int 1])), (e2, .inl (ax 1, 8, .inl (upd (fun _ => 0) 0 4))), (e3, .inl (ax 0, 8, .inl (upd (fun _ => 0) 0 10))), (e4, .inl (ax 0, 8, .inl (upd (fun _ => 0) 0 10)))] sz)) ((va_Qi (fun (r : Int32) (u : Nat → Nat) => r = 1) (fun (_ : Nat → Nat) (_ : State) => True) (va_A [(d0, .inr (10, [.ref d1, .ref d2, .ref d3, .ref d4, .ref d5, .ref d6, .ref d7, .ref d8, .ref d9, .ref d10, .ref d11, .ref d12, .int 0])), (d7, .inr (8, [.ref e1])), (d8, .inr (4, [.ref e2, .ref e3, .ref e4, .int 1])), (e2, .inl (ax 1, 8, .inl (upd (fun _ => 0) 0 4))), (e3, .inl (ax 0, 8, .inl (upd (fun _ => 0) 0 10))), (e4, .inl (ax 0, 8, .inl (upd (fun _ => 0) 0 10)))] sz))) 0 0 (va_A [(d0, .inr (10, [.ref d1, .ref d2, .ref d3, .ref d4, .ref d5, .ref d6, .ref d7, .ref d8, .ref d9, .ref d10, .ref d11, .ref d12, .int 0])), (d7, .inr (8, [.ref e1])), (d8, .inr (4, [.ref e2, .ref e3, .ref e4, .int 1])), (e2, .inl (ax 1, 8, .inl (upd (fun _ => 0) 0 4))), (e3, .inl (ax 0, 8, .inl (upd (fun _ => 0) 0 10))), (e4, .inl (ax 0, 8, .inl (upd (fun _ => 0) 0 10)))] sz) := by
  refine Met.ofW (cc := b_Desk_holds) (maxL := 3) (ret := (some .boolean)) (by decide) rfl ?_
  intro p e s m args below meth c s₁ B hml hv
  obtain ⟨rfl, hsz, hP, hK, hD0⟩ := hv
  have hx := B.exec
  have hb := B.bytes
  have hr := B.returns
  have hts := xw_hts B.pre
  have hown : s.vm.findClass R_Desk = some m.cls := findClass_of_methodNamed B.named
  have hlocks := B.notSynchronized
  subst hsz
  have hD := hD0.self (sz := s.heap.size)
  have hN := xz_entry hP
  generalize hAe : va_A [(d0, .inr (10, [.ref d1, .ref d2, .ref d3, .ref d4, .ref d5, .ref d6, .ref d7, .ref d8, .ref d9, .ref d10, .ref d11, .ref d12, .int 0])), (d7, .inr (8, [.ref e1])), (d8, .inr (4, [.ref e2, .ref e3, .ref e4, .int 1])), (e2, .inl (ax 1, 8, .inl (upd (fun _ => 0) 0 4))), (e3, .inl (ax 0, 8, .inl (upd (fun _ => 0) 0 10))), (e4, .inl (ax 0, 8, .inl (upd (fun _ => 0) 0 10)))] s.heap.size = A at hD hN ⊢
  have hA : ∀ q : Nat, s.heap.size ≤ q → A q := fun q h => by rw [← hAe]; exact Or.inr h
  have hS : va_S A s.heap s.heap [] := va_S.rf
  have hl0 := lv_entry ([.ref d0, .int 0]) (n := 3) (Nat.le_of_ble_eq_true rfl)
  rw [lg_entry_eq]
  generalize (lg_sl ([.ref d0, .int 0]) ++ List.replicate (3 - (lg_sl ([.ref d0, .int 0])).length) Slot.unset).toArray = ls at hl0 ⊢
  have hl1 : lv_has ls 3 [(0, .ref d0), (1, .int 0)] := hl0
  refine lv_iload_n hx hb d_Desk_holds_0 rfl (lv_at hl1 1 rfl) ?_
  refine lv_if_eq (tgt := 17) hx hb d_Desk_holds_1 (by decide) (fun c_1 => ?_) (fun c_1 => ?_)
  rotate_left
  · first | exact absurd c_1 (by decide) | exact absurd (by decide) c_1
  refine lv_iload_n hx hb d_Desk_holds_17 rfl (lv_at hl1 1 rfl) ?_
  refine lv_if_ne (tgt := 28) hx hb d_Desk_holds_18 (by decide) (fun c_2 => ?_) (fun c_2 => ?_)
  · first | exact absurd c_2 (by decide) | exact absurd (by decide) c_2
  refine lv_aload_n hx hb d_Desk_holds_21 rfl (lv_at hl1 0 rfl) ?_
  refine va_get (D := D) (ci := 10) (v := .ref d8) (C := R_Desk) (T := F_Desk) (N := 13) hx hb hts i_Desk hown hK.1 hP 0 rfl rfl 7 (by decide) (hts _ wd_382) (fun _ h9 => h9) rfl d_Desk_holds_22 ?_
  refine lv_goto (tgt := 32) hx hb d_Desk_holds_25 (by decide) ?_
  refine lv_astore_n (lv' := [(2, .ref d8), (0, .ref d0), (1, .int 0)]) hx hb d_Desk_holds_32 rfl hl1 (by decide) rfl (fun ls hl1 => ?_)
  refine lv_aload_n hx hb d_Desk_holds_33 rfl (lv_at hl1 1 rfl) ?_
  refine va_get (D := D) (ci := 10) (v := .ref d7) (C := R_Desk) (T := F_Desk) (N := 13) hx hb hts i_Desk hown hK.1 hP 0 rfl rfl 6 (by decide) (hts _ wd_381) (fun _ h9 => h9) rfl d_Desk_holds_34 ?_
  refine lv_aload_n hx hb d_Desk_holds_37 rfl (lv_at hl1 0 rfl) ?_
  refine lv_aload_n hx hb d_Desk_holds_38 rfl (lv_at hl1 0 rfl) ?_
  have hPc := hP.sub (ws' := [(d8, .inr (4, [.ref e2, .ref e3, .ref e4, .int 1]))]) [2] rfl
  have hDc := hD.sub (ws' := [(d8, .inr (4, [.ref e2, .ref e3, .ref e4, .int 1]))]) [2] (by decide) rfl
  have hFc := va_free (wc := [(d8, .inr (4, [.ref e2, .ref e3, .ref e4, .int 1]))]) hD hS hA [2] rfl
  have hz := xz_of hN hS
  refine va_calli (va_runV (As := []) (rest := [.ref d8, .ref d7]) ⟨hx, hb, hml, hown, hts⟩ (c_Nodes_root l D ax d8 e2 e3 e4 s.heap.size) (xcV (n := 0) hts wd_772 wd_5 wd_1023 wd_770 wd_771 rfl rfl (by decide +kernel) ⟨Nat.le_of_ble_eq_true rfl, Nat.le_of_ble_eq_true rfl⟩) (xpV (ci := 4) (q0 := 0) (As := []) hPc hK hz hDc rfl rfl) rfl rfl hl1.1 rfl (lv_room (Nat.le_of_ble_eq_true rfl)) d_Desk_holds_39 ⟨Nat.le_of_ble_eq_true rfl, Nat.le_of_ble_eq_true rfl⟩) hS (fun q _ h => hFc q h) hFc (fun r_5 u_3 t H_4 locs ht hvm hw hB hz1 hk1 hS => ?_)
  try dsimp only at hw
  subst hw
  obtain ⟨hP1, hD1⟩ := hB
  rw [ht] at hP1
  obtain ⟨hP, hD⟩ := va_join (wr := [(d0, .inr (10, [.ref d1, .ref d2, .ref d3, .ref d4, .ref d5, .ref d6, .ref d7, .ref d8, .ref d9, .ref d10, .ref d11, .ref d12, .int 0])), (d7, .inr (8, [.ref e1])), (e2, .inl (ax 1, 8, .inl (upd (fun _ => 0) 0 4))), (e3, .inl (ax 0, 8, .inl (upd (fun _ => 0) 0 10))), (e4, .inl (ax 0, 8, .inl (upd (fun _ => 0) 0 10)))]) (w1 := [(d8, .inr (4, [.ref e2, .ref e3, .ref e4, .int 1]))]) hP hD [2] [0, 1, 3, 4, 5] rfl rfl (by decide) (by decide) hk1 hFc hP1 hD1
  have hP : va_P D classes [(d0, .inr (10, [.ref d1, .ref d2, .ref d3, .ref d4, .ref d5, .ref d6, .ref d7, .ref d8, .ref d9, .ref d10, .ref d11, .ref d12, .int 0])), (d7, .inr (8, [.ref e1])), (e2, .inl (ax 1, 8, .inl (upd (fun _ => 0) 0 4))), (e3, .inl (ax 0, 8, .inl (upd (fun _ => 0) 0 10))), (e4, .inl (ax 0, 8, .inl (upd (fun _ => 0) 0 10))), (d8, .inr (4, [.ref e2, .ref e3, .ref e4, .int 1]))] H_4 := hP
  have hD : va_D A [(d0, .inr (10, [.ref d1, .ref d2, .ref d3, .ref d4, .ref d5, .ref d6, .ref d7, .ref d8, .ref d9, .ref d10, .ref d11, .ref d12, .int 0])), (d7, .inr (8, [.ref e1])), (e2, .inl (ax 1, 8, .inl (upd (fun _ => 0) 0 4))), (e3, .inl (ax 0, 8, .inl (upd (fun _ => 0) 0 10))), (e4, .inl (ax 0, 8, .inl (upd (fun _ => 0) 0 10))), (d8, .inr (4, [.ref e2, .ref e3, .ref e4, .int 1]))] := hD
  have hPc := hP.sub (ws' := [(d7, .inr (8, [.ref e1])), (d8, .inr (4, [.ref e2, .ref e3, .ref e4, .int 1])), (e2, .inl (ax 1, 8, .inl (upd (fun _ => 0) 0 4))), (e3, .inl (ax 0, 8, .inl (upd (fun _ => 0) 0 10))), (e4, .inl (ax 0, 8, .inl (upd (fun _ => 0) 0 10)))]) [1, 5, 2, 3, 4] rfl
  have hDc := hD.sub (ws' := [(d7, .inr (8, [.ref e1])), (d8, .inr (4, [.ref e2, .ref e3, .ref e4, .int 1])), (e2, .inl (ax 1, 8, .inl (upd (fun _ => 0) 0 4))), (e3, .inl (ax 0, 8, .inl (upd (fun _ => 0) 0 10))), (e4, .inl (ax 0, 8, .inl (upd (fun _ => 0) 0 10)))]) [1, 5, 2, 3, 4] (by decide) rfl
  have hFc := va_free (wc := [(d7, .inr (8, [.ref e1])), (d8, .inr (4, [.ref e2, .ref e3, .ref e4, .int 1])), (e2, .inl (ax 1, 8, .inl (upd (fun _ => 0) 0 4))), (e3, .inl (ax 0, 8, .inl (upd (fun _ => 0) 0 10))), (e4, .inl (ax 0, 8, .inl (upd (fun _ => 0) 0 10)))]) hD hS hA [1, 5, 2, 3, 4] rfl
  have hz := xz_of hN hS
  refine va_calli (va_runV (As := [.ref d8, .int 0]) (rest := []) ⟨hx, hb, hml, hown, hts⟩ (c_Runner_truth l D ax d7 d8 e2 e3 e4 e1 H_4.size) (xcV (n := 2) hts wd_1005 wd_11 wd_1024 wd_1003 wd_1004 rfl rfl (by decide +kernel) ⟨Nat.le_of_ble_eq_true rfl, Nat.le_of_ble_eq_true rfl⟩) (xpV (ci := 8) (q0 := 0) (As := [.ref d8, .int 0]) hPc hK hz hDc rfl rfl) rfl rfl hl1.1 rfl (lv_room (Nat.le_of_ble_eq_true rfl)) d_Desk_holds_42 ⟨Nat.le_of_ble_eq_true rfl, Nat.le_of_ble_eq_true rfl⟩) hS (fun q _ h => hFc q h) hFc (fun r_8 u_6 t H_7 locs ht hvm hw hB hz1 hk1 hS => ?_)
  try dsimp only at hw
  subst hw
  obtain ⟨hP, hD⟩ := va_join (wr := [(d0, .inr (10, [.ref d1, .ref d2, .ref d3, .ref d4, .ref d5, .ref d6, .ref d7, .ref d8, .ref d9, .ref d10, .ref d11, .ref d12, .int 0]))]) (w1 := []) hP hD [1, 5, 2, 3, 4] [0] rfl rfl (by decide) (by decide) hk1 hFc x_nilP x_nilD
  have hP : va_P D classes [(d0, .inr (10, [.ref d1, .ref d2, .ref d3, .ref d4, .ref d5, .ref d6, .ref d7, .ref d8, .ref d9, .ref d10, .ref d11, .ref d12, .int 0]))] H_7 := hP
  have hD : va_D A [(d0, .inr (10, [.ref d1, .ref d2, .ref d3, .ref d4, .ref d5, .ref d6, .ref d7, .ref d8, .ref d9, .ref d10, .ref d11, .ref d12, .int 0]))] := hD
  exact W.zret (v := 1) hx hb hr rfl (fun t ht hW => ⟨⟨1, fun _ => 0, rfl, rfl, trivial⟩, hS.F ht⟩) hS.2.2 d_Desk_holds_45
set_option maxHeartbeats 4000000 in
set_option maxRecDepth 100000 in
theorem c_Desk_holds_1 (l : Launch) (D : va_G) (ax : Nat → ClassId) (d0 d1 d2 d3 d4 d5 d6 d7 d8 d9 d10 d11 d12 : Nat) (e1 e2 e3 e4 : Nat) (sz : Nat) : Met l y_Desk_holds (xws (.code y_Desk_holds b_Desk_holds 3 (some .boolean))) ({ frames := 30, cells := 0, slots := 0, locals := 1200 }) (va_Pc [.ref d0, .int 1] (xo D ax [(d0, .inr (10, [.ref d1, .ref d2, .ref d3, .ref d4, .ref d5, .ref d6, .ref d7, .ref d8, .ref d9, .ref d10, .ref d11, .ref d12, .int 0])), (d7, .inr (8, [.ref e1])), (d9, .inr (4, [.ref e2, .ref e3, .ref e4, .int 1])), (e2, .inl (ax 1, 8, .inl (upd (fun _ => 0) 0 4))), (e3, .inl (ax 0, 8, .inl (upd (fun _ => 0) 0 10))), (e4, .inl (ax 0, 8, .inl (upd (fun _ => 0) 0 10)))] sz)) ((va_Qi (fun (r : Int32) (u : Nat → Nat) => r = 1) (fun (_ : Nat → Nat) (_ : State) => True) (va_A [(d0, .inr (10, [.ref d1, .ref d2, .ref d3, .ref d4, .ref d5, .ref d6, .ref d7, .ref d8, .ref d9, .ref d10, .ref d11, .ref d12, .int 0])), (d7, .inr (8, [.ref e1])), (d9, .inr (4, [.ref e2, .ref e3, .ref e4, .int 1])), (e2, .inl (ax 1, 8, .inl (upd (fun _ => 0) 0 4))), (e3, .inl (ax 0, 8, .inl (upd (fun _ => 0) 0 10))), (e4, .inl (ax 0, 8, .inl (upd (fun _ => 0) 0 10)))] sz))) 0 0 (va_A [(d0, .inr (10, [.ref d1, .ref d2, .ref d3, .ref d4, .ref d5, .ref d6, .ref d7, .ref d8, .ref d9, .ref d10, .ref d11, .ref d12, .int 0])), (d7, .inr (8, [.ref e1])), (d9, .inr (4, [.ref e2, .ref e3, .ref e4, .int 1])), (e2, .inl (ax 1, 8, .inl (upd (fun _ => 0) 0 4))), (e3, .inl (ax 0, 8, .inl (upd (fun _ => 0) 0 10))), (e4, .inl (ax 0, 8, .inl (upd (fun _ => 0) 0 10)))] sz) := by
  refine Met.ofW (cc := b_Desk_holds) (maxL := 3) (ret := (some .boolean)) (by decide) rfl ?_
  intro p e s m args below meth c s₁ B hml hv
  obtain ⟨rfl, hsz, hP, hK, hD0⟩ := hv
  have hx := B.exec
  have hb := B.bytes
  have hr := B.returns
  have hts := xw_hts B.pre
  have hown : s.vm.findClass R_Desk = some m.cls := findClass_of_methodNamed B.named
  have hlocks := B.notSynchronized
  subst hsz
  have hD := hD0.self (sz := s.heap.size)
  have hN := xz_entry hP
  generalize hAe : va_A [(d0, .inr (10, [.ref d1, .ref d2, .ref d3, .ref d4, .ref d5, .ref d6, .ref d7, .ref d8, .ref d9, .ref d10, .ref d11, .ref d12, .int 0])), (d7, .inr (8, [.ref e1])), (d9, .inr (4, [.ref e2, .ref e3, .ref e4, .int 1])), (e2, .inl (ax 1, 8, .inl (upd (fun _ => 0) 0 4))), (e3, .inl (ax 0, 8, .inl (upd (fun _ => 0) 0 10))), (e4, .inl (ax 0, 8, .inl (upd (fun _ => 0) 0 10)))] s.heap.size = A at hD hN ⊢
  have hA : ∀ q : Nat, s.heap.size ≤ q → A q := fun q h => by rw [← hAe]; exact Or.inr h
  have hS : va_S A s.heap s.heap [] := va_S.rf
  have hl0 := lv_entry ([.ref d0, .int 1]) (n := 3) (Nat.le_of_ble_eq_true rfl)
  rw [lg_entry_eq]
  generalize (lg_sl ([.ref d0, .int 1]) ++ List.replicate (3 - (lg_sl ([.ref d0, .int 1])).length) Slot.unset).toArray = ls at hl0 ⊢
  have hl1 : lv_has ls 3 [(0, .ref d0), (1, .int 1)] := hl0
  refine lv_iload_n hx hb d_Desk_holds_0 rfl (lv_at hl1 1 rfl) ?_
  refine lv_if_eq (tgt := 17) hx hb d_Desk_holds_1 (by decide) (fun c_1 => ?_) (fun c_1 => ?_)
  · first | exact absurd c_1 (by decide) | exact absurd (by decide) c_1
  refine lv_iload_n hx hb d_Desk_holds_4 rfl (lv_at hl1 1 rfl) ?_
  refine lv_iconst (v := 1) hx hb d_Desk_holds_5 (by decide) ?_
  refine lv_icmp_eq (tgt := 17) hx hb d_Desk_holds_6 (by decide) (fun c_2 => ?_) (fun c_2 => ?_)
  rotate_left
  · first | exact absurd c_2 (by decide) | exact absurd (by decide) c_2
  refine lv_iload_n hx hb d_Desk_holds_17 rfl (lv_at hl1 1 rfl) ?_
  refine lv_if_ne (tgt := 28) hx hb d_Desk_holds_18 (by decide) (fun c_3 => ?_) (fun c_3 => ?_)
  rotate_left
  · first | exact absurd c_3 (by decide) | exact absurd (by decide) c_3
  refine lv_aload_n hx hb d_Desk_holds_28 rfl (lv_at hl1 0 rfl) ?_
  refine va_get (D := D) (ci := 10) (v := .ref d9) (C := R_Desk) (T := F_Desk) (N := 13) hx hb hts i_Desk hown hK.1 hP 0 rfl rfl 8 (by decide) (hts _ wd_383) (fun _ h9 => h9) rfl d_Desk_holds_29 ?_
  refine lv_astore_n (lv' := [(2, .ref d9), (0, .ref d0), (1, .int 1)]) hx hb d_Desk_holds_32 rfl hl1 (by decide) rfl (fun ls hl1 => ?_)
  refine lv_aload_n hx hb d_Desk_holds_33 rfl (lv_at hl1 1 rfl) ?_
  refine va_get (D := D) (ci := 10) (v := .ref d7) (C := R_Desk) (T := F_Desk) (N := 13) hx hb hts i_Desk hown hK.1 hP 0 rfl rfl 6 (by decide) (hts _ wd_381) (fun _ h9 => h9) rfl d_Desk_holds_34 ?_
  refine lv_aload_n hx hb d_Desk_holds_37 rfl (lv_at hl1 0 rfl) ?_
  refine lv_aload_n hx hb d_Desk_holds_38 rfl (lv_at hl1 0 rfl) ?_
  have hPc := hP.sub (ws' := [(d9, .inr (4, [.ref e2, .ref e3, .ref e4, .int 1]))]) [2] rfl
  have hDc := hD.sub (ws' := [(d9, .inr (4, [.ref e2, .ref e3, .ref e4, .int 1]))]) [2] (by decide) rfl
  have hFc := va_free (wc := [(d9, .inr (4, [.ref e2, .ref e3, .ref e4, .int 1]))]) hD hS hA [2] rfl
  have hz := xz_of hN hS
  refine va_calli (va_runV (As := []) (rest := [.ref d9, .ref d7]) ⟨hx, hb, hml, hown, hts⟩ (c_Nodes_root l D ax d9 e2 e3 e4 s.heap.size) (xcV (n := 0) hts wd_772 wd_5 wd_1023 wd_770 wd_771 rfl rfl (by decide +kernel) ⟨Nat.le_of_ble_eq_true rfl, Nat.le_of_ble_eq_true rfl⟩) (xpV (ci := 4) (q0 := 0) (As := []) hPc hK hz hDc rfl rfl) rfl rfl hl1.1 rfl (lv_room (Nat.le_of_ble_eq_true rfl)) d_Desk_holds_39 ⟨Nat.le_of_ble_eq_true rfl, Nat.le_of_ble_eq_true rfl⟩) hS (fun q _ h => hFc q h) hFc (fun r_6 u_4 t H_5 locs ht hvm hw hB hz1 hk1 hS => ?_)
  try dsimp only at hw
  subst hw
  obtain ⟨hP1, hD1⟩ := hB
  rw [ht] at hP1
  obtain ⟨hP, hD⟩ := va_join (wr := [(d0, .inr (10, [.ref d1, .ref d2, .ref d3, .ref d4, .ref d5, .ref d6, .ref d7, .ref d8, .ref d9, .ref d10, .ref d11, .ref d12, .int 0])), (d7, .inr (8, [.ref e1])), (e2, .inl (ax 1, 8, .inl (upd (fun _ => 0) 0 4))), (e3, .inl (ax 0, 8, .inl (upd (fun _ => 0) 0 10))), (e4, .inl (ax 0, 8, .inl (upd (fun _ => 0) 0 10)))]) (w1 := [(d9, .inr (4, [.ref e2, .ref e3, .ref e4, .int 1]))]) hP hD [2] [0, 1, 3, 4, 5] rfl rfl (by decide) (by decide) hk1 hFc hP1 hD1
  have hP : va_P D classes [(d0, .inr (10, [.ref d1, .ref d2, .ref d3, .ref d4, .ref d5, .ref d6, .ref d7, .ref d8, .ref d9, .ref d10, .ref d11, .ref d12, .int 0])), (d7, .inr (8, [.ref e1])), (e2, .inl (ax 1, 8, .inl (upd (fun _ => 0) 0 4))), (e3, .inl (ax 0, 8, .inl (upd (fun _ => 0) 0 10))), (e4, .inl (ax 0, 8, .inl (upd (fun _ => 0) 0 10))), (d9, .inr (4, [.ref e2, .ref e3, .ref e4, .int 1]))] H_5 := hP
  have hD : va_D A [(d0, .inr (10, [.ref d1, .ref d2, .ref d3, .ref d4, .ref d5, .ref d6, .ref d7, .ref d8, .ref d9, .ref d10, .ref d11, .ref d12, .int 0])), (d7, .inr (8, [.ref e1])), (e2, .inl (ax 1, 8, .inl (upd (fun _ => 0) 0 4))), (e3, .inl (ax 0, 8, .inl (upd (fun _ => 0) 0 10))), (e4, .inl (ax 0, 8, .inl (upd (fun _ => 0) 0 10))), (d9, .inr (4, [.ref e2, .ref e3, .ref e4, .int 1]))] := hD
  have hPc := hP.sub (ws' := [(d7, .inr (8, [.ref e1])), (d9, .inr (4, [.ref e2, .ref e3, .ref e4, .int 1])), (e2, .inl (ax 1, 8, .inl (upd (fun _ => 0) 0 4))), (e3, .inl (ax 0, 8, .inl (upd (fun _ => 0) 0 10))), (e4, .inl (ax 0, 8, .inl (upd (fun _ => 0) 0 10)))]) [1, 5, 2, 3, 4] rfl
  have hDc := hD.sub (ws' := [(d7, .inr (8, [.ref e1])), (d9, .inr (4, [.ref e2, .ref e3, .ref e4, .int 1])), (e2, .inl (ax 1, 8, .inl (upd (fun _ => 0) 0 4))), (e3, .inl (ax 0, 8, .inl (upd (fun _ => 0) 0 10))), (e4, .inl (ax 0, 8, .inl (upd (fun _ => 0) 0 10)))]) [1, 5, 2, 3, 4] (by decide) rfl
  have hFc := va_free (wc := [(d7, .inr (8, [.ref e1])), (d9, .inr (4, [.ref e2, .ref e3, .ref e4, .int 1])), (e2, .inl (ax 1, 8, .inl (upd (fun _ => 0) 0 4))), (e3, .inl (ax 0, 8, .inl (upd (fun _ => 0) 0 10))), (e4, .inl (ax 0, 8, .inl (upd (fun _ => 0) 0 10)))]) hD hS hA [1, 5, 2, 3, 4] rfl
  have hz := xz_of hN hS
  refine va_calli (va_runV (As := [.ref d9, .int 0]) (rest := []) ⟨hx, hb, hml, hown, hts⟩ (c_Runner_truth l D ax d7 d9 e2 e3 e4 e1 H_5.size) (xcV (n := 2) hts wd_1005 wd_11 wd_1024 wd_1003 wd_1004 rfl rfl (by decide +kernel) ⟨Nat.le_of_ble_eq_true rfl, Nat.le_of_ble_eq_true rfl⟩) (xpV (ci := 8) (q0 := 0) (As := [.ref d9, .int 0]) hPc hK hz hDc rfl rfl) rfl rfl hl1.1 rfl (lv_room (Nat.le_of_ble_eq_true rfl)) d_Desk_holds_42 ⟨Nat.le_of_ble_eq_true rfl, Nat.le_of_ble_eq_true rfl⟩) hS (fun q _ h => hFc q h) hFc (fun r_9 u_7 t H_8 locs ht hvm hw hB hz1 hk1 hS => ?_)
  try dsimp only at hw
  subst hw
  obtain ⟨hP, hD⟩ := va_join (wr := [(d0, .inr (10, [.ref d1, .ref d2, .ref d3, .ref d4, .ref d5, .ref d6, .ref d7, .ref d8, .ref d9, .ref d10, .ref d11, .ref d12, .int 0]))]) (w1 := []) hP hD [1, 5, 2, 3, 4] [0] rfl rfl (by decide) (by decide) hk1 hFc x_nilP x_nilD
  have hP : va_P D classes [(d0, .inr (10, [.ref d1, .ref d2, .ref d3, .ref d4, .ref d5, .ref d6, .ref d7, .ref d8, .ref d9, .ref d10, .ref d11, .ref d12, .int 0]))] H_8 := hP
  have hD : va_D A [(d0, .inr (10, [.ref d1, .ref d2, .ref d3, .ref d4, .ref d5, .ref d6, .ref d7, .ref d8, .ref d9, .ref d10, .ref d11, .ref d12, .int 0]))] := hD
  exact W.zret (v := 1) hx hb hr rfl (fun t ht hW => ⟨⟨1, fun _ => 0, rfl, rfl, trivial⟩, hS.F ht⟩) hS.2.2 d_Desk_holds_45
