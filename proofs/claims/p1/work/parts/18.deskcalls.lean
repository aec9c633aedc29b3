abbrev b_Desk_pre : ByteArray := prog_1_method_3_code
def y_Desk_pre : MethodName := ⟨R_Desk, "pre", "()I"⟩
theorem d_Desk_pre_0 : decode b_Desk_pre 0 = .ok (.aload_n 0, 1) := by decide +kernel
theorem d_Desk_pre_1 : decode b_Desk_pre 1 = .ok (.getfield 21, 3) := by decide +kernel
theorem d_Desk_pre_4 : decode b_Desk_pre 4 = .ok (.aload_n 0, 1) := by decide +kernel
theorem d_Desk_pre_5 : decode b_Desk_pre 5 = .ok (.getfield 70, 3) := by decide +kernel
theorem d_Desk_pre_8 : decode b_Desk_pre 8 = .ok (.invokevirtual 91, 3) := by decide +kernel
theorem d_Desk_pre_11 : decode b_Desk_pre 11 = .ok (.istore_n 1, 1) := by decide +kernel
theorem d_Desk_pre_12 : decode b_Desk_pre 12 = .ok (.iload_n 1, 1) := by decide +kernel
theorem d_Desk_pre_13 : decode b_Desk_pre 13 = .ok (.ifCond .ne 25, 3) := by decide +kernel
theorem d_Desk_pre_38 : decode b_Desk_pre 38 = .ok (.iload_n 1, 1) := by decide +kernel
theorem d_Desk_pre_39 : decode b_Desk_pre 39 = .ok (.ireturn, 1) := by decide +kernel
set_option maxHeartbeats 4000000 in
set_option maxRecDepth 100000 in
theorem c_Desk_pre (l : Launch) (D : va_G) (ax : Nat → ClassId) (d0 d1 d2 d3 d4 d5 d6 d7 d8 d9 d10 d11 d12 : Nat) (e1 e2 e3 e4 e5 : Nat) (sz : Nat) : Met l y_Desk_pre (xws (.code y_Desk_pre b_Desk_pre 3 (some .int))) ({ frames := 100, cells := 0, slots := 0, locals := 4000 }) (va_Pc [.ref d0] (xo D ax [(d0, .inr (10, [.ref d1, .ref d2, .ref d3, .ref d4, .ref d5, .ref d6, .ref d7, .ref d8, .ref d9, .ref d10, .ref d11, .ref d12, .int 0])), (d2, .inr (7, [.ref d1, .null, .null, .int 0, .int 0])), (d1, .inr (9, [.ref e1, .ref e2, .int 0, .int 0, .int 0, .int (-1), .int 0, .int 0])), (e1, .inl (ax 1, 400, .inl (fun _ => 0))), (e2, .inl (ax 0, 401, .inl (fun _ => 0))), (d10, .inr (4, [.ref e3, .ref e4, .ref e5, .int 0])), (e3, .inl (ax 1, 8, .inl (fun _ => 0))), (e4, .inl (ax 0, 8, .inl (fun _ => 0))), (e5, .inl (ax 0, 8, .inl (fun _ => 0)))] sz)) ((va_Qi (fun (r : Int32) (u : Nat → Nat) => r = 1) (fun (_ : Nat → Nat) (_ : State) => True) (va_A [(d0, .inr (10, [.ref d1, .ref d2, .ref d3, .ref d4, .ref d5, .ref d6, .ref d7, .ref d8, .ref d9, .ref d10, .ref d11, .ref d12, .int 0])), (d2, .inr (7, [.ref d1, .null, .null, .int 0, .int 0])), (d1, .inr (9, [.ref e1, .ref e2, .int 0, .int 0, .int 0, .int (-1), .int 0, .int 0])), (e1, .inl (ax 1, 400, .inl (fun _ => 0))), (e2, .inl (ax 0, 401, .inl (fun _ => 0))), (d10, .inr (4, [.ref e3, .ref e4, .ref e5, .int 0])), (e3, .inl (ax 1, 8, .inl (fun _ => 0))), (e4, .inl (ax 0, 8, .inl (fun _ => 0))), (e5, .inl (ax 0, 8, .inl (fun _ => 0)))] sz))) 0 0 (va_A [(d0, .inr (10, [.ref d1, .ref d2, .ref d3, .ref d4, .ref d5, .ref d6, .ref d7, .ref d8, .ref d9, .ref d10, .ref d11, .ref d12, .int 0])), (d2, .inr (7, [.ref d1, .null, .null, .int 0, .int 0])), (d1, .inr (9, [.ref e1, .ref e2, .int 0, .int 0, .int 0, .int (-1), .int 0, .int 0])), (e1, .inl (ax 1, 400, .inl (fun _ => 0))), (e2, .inl (ax 0, 401, .inl (fun _ => 0))), (d10, .inr (4, [.ref e3, .ref e4, .ref e5, .int 0])), (e3, .inl (ax 1, 8, .inl (fun _ => 0))), (e4, .inl (ax 0, 8, .inl (fun _ => 0))), (e5, .inl (ax 0, 8, .inl (fun _ => 0)))] sz) := by
  refine Met.ofW (cc := b_Desk_pre) (maxL := 3) (ret := (some .int)) (by decide) rfl ?_
  intro p e s m args below meth c s₁ B hml hv
  obtain ⟨rfl, hsz, hP, hK, hD0⟩ := hv
  have hx := B.exec
  have hb := B.bytes
  have hr := B.returns
  have hts := xw_hts B.pre
  have hown : s.vm.findClass R_Desk = some m.cls := findClass_of_methodNamed B.named
  have hlocks := B.notSynchronized
  subst hsz
  have hD := hD0.self (sz := s.heap.size)
  have hN := xz_entry hP
  generalize hAe : va_A [(d0, .inr (10, [.ref d1, .ref d2, .ref d3, .ref d4, .ref d5, .ref d6, .ref d7, .ref d8, .ref d9, .ref d10, .ref d11, .ref d12, .int 0])), (d2, .inr (7, [.ref d1, .null, .null, .int 0, .int 0])), (d1, .inr (9, [.ref e1, .ref e2, .int 0, .int 0, .int 0, .int (-1), .int 0, .int 0])), (e1, .inl (ax 1, 400, .inl (fun _ => 0))), (e2, .inl (ax 0, 401, .inl (fun _ => 0))), (d10, .inr (4, [.ref e3, .ref e4, .ref e5, .int 0])), (e3, .inl (ax 1, 8, .inl (fun _ => 0))), (e4, .inl (ax 0, 8, .inl (fun _ => 0))), (e5, .inl (ax 0, 8, .inl (fun _ => 0)))] s.heap.size = A at hD hN ⊢
  have hA : ∀ q : Nat, s.heap.size ≤ q → A q := fun q h => by rw [← hAe]; exact Or.inr h
  have hS : va_S A s.heap s.heap [] := va_S.rf
  have hl0 := lv_entry ([.ref d0]) (n := 3) (Nat.le_of_ble_eq_true rfl)
  rw [lg_entry_eq]
  generalize (lg_sl ([.ref d0]) ++ List.replicate (3 - (lg_sl ([.ref d0])).length) Slot.unset).toArray = ls at hl0 ⊢
  have hl1 : lv_has ls 3 [(0, .ref d0)] := hl0
  refine lv_aload_n hx hb d_Desk_pre_0 rfl (lv_at hl1 0 rfl) ?_
  refine va_get (D := D) (ci := 10) (v := .ref d2) (C := R_Desk) (T := F_Desk) (N := 13) hx hb hts i_Desk hown hK.1 hP 0 rfl rfl 1 (by decide) (hts _ wd_376) (fun _ h9 => h9) rfl d_Desk_pre_1 ?_
  refine lv_aload_n hx hb d_Desk_pre_4 rfl (lv_at hl1 0 rfl) ?_
  refine va_get (D := D) (ci := 10) (v := .ref d10) (C := R_Desk) (T := F_Desk) (N := 13) hx hb hts i_Desk hown hK.1 hP 0 rfl rfl 9 (by decide) (hts _ wd_384) (fun _ h9 => h9) rfl d_Desk_pre_5 ?_
  have hPc := hP.sub (ws' := [(d2, .inr (7, [.ref d1, .null, .null, .int 0, .int 0])), (d1, .inr (9, [.ref e1, .ref e2, .int 0, .int 0, .int 0, .int (-1), .int 0, .int 0])), (e1, .inl (ax 1, 400, .inl (fun _ => 0))), (e2, .inl (ax 0, 401, .inl (fun _ => 0))), (d10, .inr (4, [.ref e3, .ref e4, .ref e5, .int 0])), (e3, .inl (ax 1, 8, .inl (fun _ => 0))), (e4, .inl (ax 0, 8, .inl (fun _ => 0))), (e5, .inl (ax 0, 8, .inl (fun _ => 0)))]) [1, 2, 3, 4, 5, 6, 7, 8] rfl
  have hDc := hD.sub (ws' := [(d2, .inr (7, [.ref d1, .null, .null, .int 0, .int 0])), (d1, .inr (9, [.ref e1, .ref e2, .int 0, .int 0, .int 0, .int (-1), .int 0, .int 0])), (e1, .inl (ax 1, 400, .inl (fun _ => 0))), (e2, .inl (ax 0, 401, .inl (fun _ => 0))), (d10, .inr (4, [.ref e3, .ref e4, .ref e5, .int 0])), (e3, .inl (ax 1, 8, .inl (fun _ => 0))), (e4, .inl (ax 0, 8, .inl (fun _ => 0))), (e5, .inl (ax 0, 8, .inl (fun _ => 0)))]) [1, 2, 3, 4, 5, 6, 7, 8] (by decide) rfl
  have hFc := va_free (wc := [(d2, .inr (7, [.ref d1, .null, .null, .int 0, .int 0])), (d1, .inr (9, [.ref e1, .ref e2, .int 0, .int 0, .int 0, .int (-1), .int 0, .int 0])), (e1, .inl (ax 1, 400, .inl (fun _ => 0))), (e2, .inl (ax 0, 401, .inl (fun _ => 0))), (d10, .inr (4, [.ref e3, .ref e4, .ref e5, .int 0])), (e3, .inl (ax 1, 8, .inl (fun _ => 0))), (e4, .inl (ax 0, 8, .inl (fun _ => 0))), (e5, .inl (ax 0, 8, .inl (fun _ => 0)))]) hD hS hA [1, 2, 3, 4, 5, 6, 7, 8] rfl
  have hz := xz_of hN hS
  refine va_calli (va_runV (As := [.ref d10]) (rest := []) ⟨hx, hb, hml, hown, hts⟩ (c_Reader_takeCondition l D ax d2 d1 e1 e2 d10 e3 e4 e5 s.heap.size) (xcV (n := 1) hts wd_430 wd_3 wd_427 wd_428 wd_429 rfl rfl (by decide +kernel) ⟨Nat.le_of_ble_eq_true rfl, Nat.le_of_ble_eq_true rfl⟩) (xpV (ci := 7) (q0 := 0) (As := [.ref d10]) hPc hK hz hDc rfl rfl) rfl rfl hl1.1 rfl (lv_room (Nat.le_of_ble_eq_true rfl)) d_Desk_pre_8 ⟨Nat.le_of_ble_eq_true rfl, Nat.le_of_ble_eq_true rfl⟩) hS (fun q _ h => hFc q h) hFc (fun r_3 u_1 t H_2 locs ht hvm hw hB hz1 hk1 hS => ?_)
  try dsimp only at hw
  subst hw
  obtain ⟨hP1, hD1⟩ := hB
  rw [ht] at hP1
  obtain ⟨hP, hD⟩ := va_join (wr := [(d0, .inr (10, [.ref d1, .ref d2, .ref d3, .ref d4, .ref d5, .ref d6, .ref d7, .ref d8, .ref d9, .ref d10, .ref d11, .ref d12, .int 0]))]) (w1 := [(d2, .inr (7, [.ref d1, .null, .ref d10, .int 0, .int 1])), (d1, .inr (9, [.ref e1, .ref e2, .int 0, .int 0, .int 0, .int 0, .int 1, .int 0])), (e1, .inl (ax 1, 400, .inl (fun _ => 0))), (e2, .inl (ax 0, 401, .inl (upd (fun _ => 0) 0 0))), (d10, .inr (4, [.ref e3, .ref e4, .ref e5, .int 1])), (e3, .inl (ax 1, 8, .inl (upd (fun _ => 0) 0 0))), (e4, .inl (ax 0, 8, .inl (upd (fun _ => 0) 0 10))), (e5, .inl (ax 0, 8, .inl (upd (fun _ => 0) 0 10)))]) hP hD [1, 2, 3, 4, 5, 6, 7, 8] [0] rfl rfl (by decide) (by decide) hk1 hFc hP1 hD1
  have hP : va_P D classes [(d0, .inr (10, [.ref d1, .ref d2, .ref d3, .ref d4, .ref d5, .ref d6, .ref d7, .ref d8, .ref d9, .ref d10, .ref d11, .ref d12, .int 0])), (d2, .inr (7, [.ref d1, .null, .ref d10, .int 0, .int 1])), (d1, .inr (9, [.ref e1, .ref e2, .int 0, .int 0, .int 0, .int 0, .int 1, .int 0])), (e1, .inl (ax 1, 400, .inl (fun _ => 0))), (e2, .inl (ax 0, 401, .inl (upd (fun _ => 0) 0 0))), (d10, .inr (4, [.ref e3, .ref e4, .ref e5, .int 1])), (e3, .inl (ax 1, 8, .inl (upd (fun _ => 0) 0 0))), (e4, .inl (ax 0, 8, .inl (upd (fun _ => 0) 0 10))), (e5, .inl (ax 0, 8, .inl (upd (fun _ => 0) 0 10)))] H_2 := hP
  have hD : va_D A [(d0, .inr (10, [.ref d1, .ref d2, .ref d3, .ref d4, .ref d5, .ref d6, .ref d7, .ref d8, .ref d9, .ref d10, .ref d11, .ref d12, .int 0])), (d2, .inr (7, [.ref d1, .null, .ref d10, .int 0, .int 1])), (d1, .inr (9, [.ref e1, .ref e2, .int 0, .int 0, .int 0, .int 0, .int 1, .int 0])), (e1, .inl (ax 1, 400, .inl (fun _ => 0))), (e2, .inl (ax 0, 401, .inl (upd (fun _ => 0) 0 0))), (d10, .inr (4, [.ref e3, .ref e4, .ref e5, .int 1])), (e3, .inl (ax 1, 8, .inl (upd (fun _ => 0) 0 0))), (e4, .inl (ax 0, 8, .inl (upd (fun _ => 0) 0 10))), (e5, .inl (ax 0, 8, .inl (upd (fun _ => 0) 0 10)))] := hD
  refine lv_istore_n (lv' := [(1, .int 1), (0, .ref d0)]) hx hb d_Desk_pre_11 rfl hl1 (by decide) rfl (fun ls hl1 => ?_)
  refine lv_iload_n hx hb d_Desk_pre_12 rfl (lv_at hl1 0 rfl) ?_
  refine lv_if_ne (tgt := 38) hx hb d_Desk_pre_13 (by decide) (fun c_4 => ?_) (fun c_4 => ?_)
  rotate_left
  · first | exact absurd c_4 (by decide) | exact absurd (by decide) c_4
  refine lv_iload_n hx hb d_Desk_pre_38 rfl (lv_at hl1 0 rfl) ?_
  exact W.iret (v := 1) hx hb hr (fun t ht hW => ⟨⟨1, fun _ => 0, rfl, rfl, trivial⟩, hS.F ht⟩) hS.2.2 d_Desk_pre_39
abbrev b_Desk_post : ByteArray := prog_1_method_4_code
def y_Desk_post : MethodName := ⟨R_Desk, "post", "()I"⟩
theorem d_Desk_post_0 : decode b_Desk_post 0 = .ok (.aload_n 0, 1) := by decide +kernel
theorem d_Desk_post_1 : decode b_Desk_post 1 = .ok (.getfield 21, 3) := by decide +kernel
theorem d_Desk_post_4 : decode b_Desk_post 4 = .ok (.aload_n 0, 1) := by decide +kernel
theorem d_Desk_post_5 : decode b_Desk_post 5 = .ok (.getfield 70, 3) := by decide +kernel
theorem d_Desk_post_8 : decode b_Desk_post 8 = .ok (.invokevirtual 91, 3) := by decide +kernel
theorem d_Desk_post_11 : decode b_Desk_post 11 = .ok (.istore_n 1, 1) := by decide +kernel
theorem d_Desk_post_12 : decode b_Desk_post 12 = .ok (.iload_n 1, 1) := by decide +kernel
theorem d_Desk_post_13 : decode b_Desk_post 13 = .ok (.ifCond .ne 25, 3) := by decide +kernel
theorem d_Desk_post_38 : decode b_Desk_post 38 = .ok (.iload_n 1, 1) := by decide +kernel
theorem d_Desk_post_39 : decode b_Desk_post 39 = .ok (.ireturn, 1) := by decide +kernel
set_option maxHeartbeats 4000000 in
set_option maxRecDepth 100000 in
theorem c_Desk_post (l : Launch) (D : va_G) (ax : Nat → ClassId) (d0 d1 d2 d3 d4 d5 d6 d7 d8 d9 d10 d11 d12 : Nat) (e1 e2 e3 e4 e5 : Nat) (sz : Nat) : Met l y_Desk_post (xws (.code y_Desk_post b_Desk_post 3 (some .int))) ({ frames := 100, cells := 0, slots := 0, locals := 4000 }) (va_Pc [.ref d0] (xo D ax [(d0, .inr (10, [.ref d1, .ref d2, .ref d3, .ref d4, .ref d5, .ref d6, .ref d7, .ref d8, .ref d9, .ref d10, .ref d11, .ref d12, .int 0])), (d2, .inr (7, [.ref d1, .null, .null, .int 0, .int 0])), (d1, .inr (9, [.ref e1, .ref e2, .int 0, .int 0, .int 0, .int (-1), .int 0, .int 0])), (e1, .inl (ax 1, 400, .inl (fun _ => 0))), (e2, .inl (ax 0, 401, .inl (fun _ => 0))), (d10, .inr (4, [.ref e3, .ref e4, .ref e5, .int 0])), (e3, .inl (ax 1, 8, .inl (fun _ => 0))), (e4, .inl (ax 0, 8, .inl (fun _ => 0))), (e5, .inl (ax 0, 8, .inl (fun _ => 0)))] sz)) ((va_Qi (fun (r : Int32) (u : Nat → Nat) => r = 1) (fun (_ : Nat → Nat) (_ : State) => True) (va_A [(d0, .inr (10, [.ref d1, .ref d2, .ref d3, .ref d4, .ref d5, .ref d6, .ref d7, .ref d8, .ref d9, .ref d10, .ref d11, .ref d12, .int 0])), (d2, .inr (7, [.ref d1, .null, .null, .int 0, .int 0])), (d1, .inr (9, [.ref e1, .ref e2, .int 0, .int 0, .int 0, .int (-1), .int 0, .int 0])), (e1, .inl (ax 1, 400, .inl (fun _ => 0))), (e2, .inl (ax 0, 401, .inl (fun _ => 0))), (d10, .inr (4, [.ref e3, .ref e4, .ref e5, .int 0])), (e3, .inl (ax 1, 8, .inl (fun _ => 0))), (e4, .inl (ax 0, 8, .inl (fun _ => 0))), (e5, .inl (ax 0, 8, .inl (fun _ => 0)))] sz))) 0 0 (va_A [(d0, .inr (10, [.ref d1, .ref d2, .ref d3, .ref d4, .ref d5, .ref d6, .ref d7, .ref d8, .ref d9, .ref d10, .ref d11, .ref d12, .int 0])), (d2, .inr (7, [.ref d1, .null, .null, .int 0, .int 0])), (d1, .inr (9, [.ref e1, .ref e2, .int 0, .int 0, .int 0, .int (-1), .int 0, .int 0])), (e1, .inl (ax 1, 400, .inl (fun _ => 0))), (e2, .inl (ax 0, 401, .inl (fun _ => 0))), (d10, .inr (4, [.ref e3, .ref e4, .ref e5, .int 0])), (e3, .inl (ax 1, 8, .inl (fun _ => 0))), (e4, .inl (ax 0, 8, .inl (fun _ => 0))), (e5, .inl (ax 0, 8, .inl (fun _ => 0)))] sz) := by
  refine Met.ofW (cc := b_Desk_post) (maxL := 3) (ret := (some .int)) (by decide) rfl ?_
  intro p e s m args below meth c s₁ B hml hv
  obtain ⟨rfl, hsz, hP, hK, hD0⟩ := hv
  have hx := B.exec
  have hb := B.bytes
  have hr := B.returns
  have hts := xw_hts B.pre
  have hown : s.vm.findClass R_Desk = some m.cls := findClass_of_methodNamed B.named
  have hlocks := B.notSynchronized
  subst hsz
  have hD := hD0.self (sz := s.heap.size)
  have hN := xz_entry hP
  generalize hAe : va_A [(d0, .inr (10, [.ref d1, .ref d2, .ref d3, .ref d4, .ref d5, .ref d6, .ref d7, .ref d8, .ref d9, .ref d10, .ref d11, .ref d12, .int 0])), (d2, .inr (7, [.ref d1, .null, .null, .int 0, .int 0])), (d1, .inr (9, [.ref e1, .ref e2, .int 0, .int 0, .int 0, .int (-1), .int 0, .int 0])), (e1, .inl (ax 1, 400, .inl (fun _ => 0))), (e2, .inl (ax 0, 401, .inl (fun _ => 0))), (d10, .inr (4, [.ref e3, .ref e4, .ref e5, .int 0])), (e3, .inl (ax 1, 8, .inl (fun _ => 0))), (e4, .inl (ax 0, 8, .inl (fun _ => 0))), (e5, .inl (ax 0, 8, .inl (fun _ => 0)))] s.heap.size = A at hD hN ⊢
  have hA : ∀ q : Nat, s.heap.size ≤ q → A q := fun q h => by rw [← hAe]; exact Or.inr h
  have hS : va_S A s.heap s.heap [] := va_S.rf
  have hl0 := lv_entry ([.ref d0]) (n := 3) (Nat.le_of_ble_eq_true rfl)
  rw [lg_entry_eq]
  generalize (lg_sl ([.ref d0]) ++ List.replicate (3 - (lg_sl ([.ref d0])).length) Slot.unset).toArray = ls at hl0 ⊢
  have hl1 : lv_has ls 3 [(0, .ref d0)] := hl0
  refine lv_aload_n hx hb d_Desk_post_0 rfl (lv_at hl1 0 rfl) ?_
  refine va_get (D := D) (ci := 10) (v := .ref d2) (C := R_Desk) (T := F_Desk) (N := 13) hx hb hts i_Desk hown hK.1 hP 0 rfl rfl 1 (by decide) (hts _ wd_376) (fun _ h9 => h9) rfl d_Desk_post_1 ?_
  refine lv_aload_n hx hb d_Desk_post_4 rfl (lv_at hl1 0 rfl) ?_
  refine va_get (D := D) (ci := 10) (v := .ref d10) (C := R_Desk) (T := F_Desk) (N := 13) hx hb hts i_Desk hown hK.1 hP 0 rfl rfl 9 (by decide) (hts _ wd_384) (fun _ h9 => h9) rfl d_Desk_post_5 ?_
  have hPc := hP.sub (ws' := [(d2, .inr (7, [.ref d1, .null, .null, .int 0, .int 0])), (d1, .inr (9, [.ref e1, .ref e2, .int 0, .int 0, .int 0, .int (-1), .int 0, .int 0])), (e1, .inl (ax 1, 400, .inl (fun _ => 0))), (e2, .inl (ax 0, 401, .inl (fun _ => 0))), (d10, .inr (4, [.ref e3, .ref e4, .ref e5, .int 0])), (e3, .inl (ax 1, 8, .inl (fun _ => 0))), (e4, .inl (ax 0, 8, .inl (fun _ => 0))), (e5, .inl (ax 0, 8, .inl (fun _ => 0)))]) [1, 2, 3, 4, 5, 6, 7, 8] rfl
  have hDc := hD.sub (ws' := [(d2, .inr (7, [.ref d1, .null, .null, .int 0, .int 0])), (d1, .inr (9, [.ref e1, .ref e2, .int 0, .int 0, .int 0, .int (-1), .int 0, .int 0])), (e1, .inl (ax 1, 400, .inl (fun _ => 0))), (e2, .inl (ax 0, 401, .inl (fun _ => 0))), (d10, .inr (4, [.ref e3, .ref e4, .ref e5, .int 0])), (e3, .inl (ax 1, 8, .inl (fun _ => 0))), (e4, .inl (ax 0, 8, .inl (fun _ => 0))), (e5, .inl (ax 0, 8, .inl (fun _ => 0)))]) [1, 2, 3, 4, 5, 6, 7, 8] (by decide) rfl
  have hFc := va_free (wc := [(d2, .inr (7, [.ref d1, .null, .null, .int 0, .int 0])), (d1, .inr (9, [.ref e1, .ref e2, .int 0, .int 0, .int 0, .int (-1), .int 0, .int 0])), (e1, .inl (ax 1, 400, .inl (fun _ => 0))), (e2, .inl (ax 0, 401, .inl (fun _ => 0))), (d10, .inr (4, [.ref e3, .ref e4, .ref e5, .int 0])), (e3, .inl (ax 1, 8, .inl (fun _ => 0))), (e4, .inl (ax 0, 8, .inl (fun _ => 0))), (e5, .inl (ax 0, 8, .inl (fun _ => 0)))]) hD hS hA [1, 2, 3, 4, 5, 6, 7, 8] rfl
  have hz := xz_of hN hS
  refine va_calli (va_runV (As := [.ref d10]) (rest := []) ⟨hx, hb, hml, hown, hts⟩ (c_Reader_takeCondition l D ax d2 d1 e1 e2 d10 e3 e4 e5 s.heap.size) (xcV (n := 1) hts wd_430 wd_3 wd_427 wd_428 wd_429 rfl rfl (by decide +kernel) ⟨Nat.le_of_ble_eq_true rfl, Nat.le_of_ble_eq_true rfl⟩) (xpV (ci := 7) (q0 := 0) (As := [.ref d10]) hPc hK hz hDc rfl rfl) rfl rfl hl1.1 rfl (lv_room (Nat.le_of_ble_eq_true rfl)) d_Desk_post_8 ⟨Nat.le_of_ble_eq_true rfl, Nat.le_of_ble_eq_true rfl⟩) hS (fun q _ h => hFc q h) hFc (fun r_3 u_1 t H_2 locs ht hvm hw hB hz1 hk1 hS => ?_)
  try dsimp only at hw
  subst hw
  obtain ⟨hP1, hD1⟩ := hB
  rw [ht] at hP1
  obtain ⟨hP, hD⟩ := va_join (wr := [(d0, .inr (10, [.ref d1, .ref d2, .ref d3, .ref d4, .ref d5, .ref d6, .ref d7, .ref d8, .ref d9, .ref d10, .ref d11, .ref d12, .int 0]))]) (w1 := [(d2, .inr (7, [.ref d1, .null, .ref d10, .int 0, .int 1])), (d1, .inr (9, [.ref e1, .ref e2, .int 0, .int 0, .int 0, .int 0, .int 1, .int 0])), (e1, .inl (ax 1, 400, .inl (fun _ => 0))), (e2, .inl (ax 0, 401, .inl (upd (fun _ => 0) 0 0))), (d10, .inr (4, [.ref e3, .ref e4, .ref e5, .int 1])), (e3, .inl (ax 1, 8, .inl (upd (fun _ => 0) 0 0))), (e4, .inl (ax 0, 8, .inl (upd (fun _ => 0) 0 10))), (e5, .inl (ax 0, 8, .inl (upd (fun _ => 0) 0 10)))]) hP hD [1, 2, 3, 4, 5, 6, 7, 8] [0] rfl rfl (by decide) (by decide) hk1 hFc hP1 hD1
  have hP : va_P D classes [(d0, .inr (10, [.ref d1, .ref d2, .ref d3, .ref d4, .ref d5, .ref d6, .ref d7, .ref d8, .ref d9, .ref d10, .ref d11, .ref d12, .int 0])), (d2, .inr (7, [.ref d1, .null, .ref d10, .int 0, .int 1])), (d1, .inr (9, [.ref e1, .ref e2, .int 0, .int 0, .int 0, .int 0, .int 1, .int 0])), (e1, .inl (ax 1, 400, .inl (fun _ => 0))), (e2, .inl (ax 0, 401, .inl (upd (fun _ => 0) 0 0))), (d10, .inr (4, [.ref e3, .ref e4, .ref e5, .int 1])), (e3, .inl (ax 1, 8, .inl (upd (fun _ => 0) 0 0))), (e4, .inl (ax 0, 8, .inl (upd (fun _ => 0) 0 10))), (e5, .inl (ax 0, 8, .inl (upd (fun _ => 0) 0 10)))] H_2 := hP
  have hD : va_D A [(d0, .inr (10, [.ref d1, .ref d2, .ref d3, .ref d4, .ref d5, .ref d6, .ref d7, .ref d8, .ref d9, .ref d10, .ref d11, .ref d12, .int 0])), (d2, .inr (7, [.ref d1, .null, .ref d10, .int 0, .int 1])), (d1, .inr (9, [.ref e1, .ref e2, .int 0, .int 0, .int 0, .int 0, .int 1, .int 0])), (e1, .inl (ax 1, 400, .inl (fun _ => 0))), (e2, .inl (ax 0, 401, .inl (upd (fun _ => 0) 0 0))), (d10, .inr (4, [.ref e3, .ref e4, .ref e5, .int 1])), (e3, .inl (ax 1, 8, .inl (upd (fun _ => 0) 0 0))), (e4, .inl (ax 0, 8, .inl (upd (fun _ => 0) 0 10))), (e5, .inl (ax 0, 8, .inl (upd (fun _ => 0) 0 10)))] := hD
  refine lv_istore_n (lv' := [(1, .int 1), (0, .ref d0)]) hx hb d_Desk_post_11 rfl hl1 (by decide) rfl (fun ls hl1 => ?_)
  refine lv_iload_n hx hb d_Desk_post_12 rfl (lv_at hl1 0 rfl) ?_
  refine lv_if_ne (tgt := 38) hx hb d_Desk_post_13 (by decide) (fun c_4 => ?_) (fun c_4 => ?_)
  rotate_left
  · first | exact absurd c_4 (by decide) | exact absurd (by decide) c_4
  refine lv_iload_n hx hb d_Desk_post_38 rfl (lv_at hl1 0 rfl) ?_
  exact W.iret (v := 1) hx hb hr (fun t ht hW => ⟨⟨1, fun _ => 0, rfl, rfl, trivial⟩, hS.F ht⟩) hS.2.2 d_Desk_post_39
abbrev b_Desk_program : ByteArray := prog_1_method_5_code
def y_Desk_program : MethodName := ⟨R_Desk, "program", "()I"⟩
theorem d_Desk_program_0 : decode b_Desk_program 0 = .ok (.aload_n 0, 1) := by decide +kernel
theorem d_Desk_program_1 : decode b_Desk_program 1 = .ok (.getfield 21, 3) := by decide +kernel
theorem d_Desk_program_4 : decode b_Desk_program 4 = .ok (.aload_n 0, 1) := by decide +kernel
theorem d_Desk_program_5 : decode b_Desk_program 5 = .ok (.getfield 80, 3) := by decide +kernel
theorem d_Desk_program_8 : decode b_Desk_program 8 = .ok (.invokevirtual 98, 3) := by decide +kernel
theorem d_Desk_program_11 : decode b_Desk_program 11 = .ok (.istore_n 1, 1) := by decide +kernel
theorem d_Desk_program_12 : decode b_Desk_program 12 = .ok (.iload_n 1, 1) := by decide +kernel
theorem d_Desk_program_13 : decode b_Desk_program 13 = .ok (.ifCond .ne 37, 3) := by decide +kernel
theorem d_Desk_program_50 : decode b_Desk_program 50 = .ok (.iload_n 1, 1) := by decide +kernel
theorem d_Desk_program_51 : decode b_Desk_program 51 = .ok (.ireturn, 1) := by decide +kernel
set_option maxHeartbeats 4000000 in
set_option maxRecDepth 100000 in
theorem c_Desk_program (l : Launch) (D : va_G) (ax : Nat → ClassId) (d0 d1 d2 d3 d4 d5 d6 d7 d8 d9 d10 d11 d12 : Nat) (e1 e2 e3 e4 e5 e6 e7 e8 e9 e10 e11 e12 e13 e14 e15 e16 e17 : Nat) (sz : Nat) : Met l y_Desk_program (xws (.code y_Desk_program b_Desk_program 3 (some .int))) ({ frames := 100, cells := 0, slots := 0, locals := 4000 }) (va_Pc [.ref d0] (xo D ax [(d0, .inr (10, [.ref d1, .ref d2, .ref d3, .ref d4, .ref d5, .ref d6, .ref d7, .ref d8, .ref d9, .ref d10, .ref d11, .ref d12, .int 0])), (d2, .inr (7, [.ref d1, .null, .null, .int 0, .int 0])), (d1, .inr (9, [.ref e1, .ref e2, .int 0, .int 0, .int 0, .int (-1), .int 0, .int 0])), (e1, .inl (ax 1, 400, .inl (fun _ => 0))), (e2, .inl (ax 0, 401, .inl (fun _ => 0))), (d12, .inr (2, [.ref e3, .ref e7, .ref e8, .ref e9, .ref e10, .ref e11, .ref e12, .ref e13, .ref e14, .ref e15, .ref e16, .ref e17, .int 0, .int 0, .int 0, .int 0, .int 0])), (e3, .inr (4, [.ref e4, .ref e5, .ref e6, .int 0])), (e4, .inl (ax 1, 8, .inl (fun _ => 0))), (e5, .inl (ax 0, 8, .inl (fun _ => 0))), (e6, .inl (ax 0, 8, .inl (fun _ => 0))), (e7, .inl (ax 1, 20, .inl (fun _ => 0))), (e8, .inl (ax 1, 20, .inl (fun _ => 0))), (e9, .inl (ax 1, 20, .inl (fun _ => 0))), (e10, .inl (ax 1, 20, .inl (fun _ => 0))), (e11, .inl (ax 1, 20, .inl (fun _ => 0))), (e12, .inl (ax 2, 20, .inl (fun _ => 0))), (e13, .inl (ax 2, 20, .inl (fun _ => 0))), (e14, .inl (ax 0, 20, .inl (fun _ => 0))), (e15, .inl (ax 1, 20, .inl (fun _ => 0))), (e16, .inl (ax 1, 29, .inl (fun _ => 0))), (e17, .inl (ax 1, 29, .inl (fun _ => 0)))] sz)) ((va_Qi (fun (r : Int32) (u : Nat → Nat) => r = 1) (fun (_ : Nat → Nat) (_ : State) => True) (va_A [(d0, .inr (10, [.ref d1, .ref d2, .ref d3, .ref d4, .ref d5, .ref d6, .ref d7, .ref d8, .ref d9, .ref d10, .ref d11, .ref d12, .int 0])), (d2, .inr (7, [.ref d1, .null, .null, .int 0, .int 0])), (d1, .inr (9, [.ref e1, .ref e2, .int 0, .int 0, .int 0, .int (-1), .int 0, .int 0])), (e1, .inl (ax 1, 400, .inl (fun _ => 0))), (e2, .inl (ax 0, 401, .inl (fun _ => 0))), (d12, .inr (2, [.ref e3, .ref e7, .ref e8, .ref e9, .ref e10, .ref e11, .ref e12, .ref e13, .ref e14, .ref e15, .ref e16, .ref e17, .int 0, .int 0, .int 0, .int 0, .int 0])), (e3, .inr (4, [.ref e4, .ref e5, .ref e6, .int 0])), (e4, .inl (ax 1, 8, .inl (fun _ => 0))), (e5, .inl (ax 0, 8, .inl (fun _ => 0))), (e6, .inl (ax 0, 8, .inl (fun _ => 0))), (e7, .inl (ax 1, 20, .inl (fun _ => 0))), (e8, .inl (ax 1, 20, .inl (fun _ => 0))), (e9, .inl (ax 1, 20, .inl (fun _ => 0))), (e10, .inl (ax 1, 20, .inl (fun _ => 0))), (e11, .inl (ax 1, 20, .inl (fun _ => 0))), (e12, .inl (ax 2, 20, .inl (fun _ => 0))), (e13, .inl (ax 2, 20, .inl (fun _ => 0))), (e14, .inl (ax 0, 20, .inl (fun _ => 0))), (e15, .inl (ax 1, 20, .inl (fun _ => 0))), (e16, .inl (ax 1, 29, .inl (fun _ => 0))), (e17, .inl (ax 1, 29, .inl (fun _ => 0)))] sz))) 0 0 (va_A [(d0, .inr (10, [.ref d1, .ref d2, .ref d3, .ref d4, .ref d5, .ref d6, .ref d7, .ref d8, .ref d9, .ref d10, .ref d11, .ref d12, .int 0])), (d2, .inr (7, [.ref d1, .null, .null, .int 0, .int 0])), (d1, .inr (9, [.ref e1, .ref e2, .int 0, .int 0, .int 0, .int (-1), .int 0, .int 0])), (e1, .inl (ax 1, 400, .inl (fun _ => 0))), (e2, .inl (ax 0, 401, .inl (fun _ => 0))), (d12, .inr (2, [.ref e3, .ref e7, .ref e8, .ref e9, .ref e10, .ref e11, .ref e12, .ref e13, .ref e14, .ref e15, .ref e16, .ref e17, .int 0, .int 0, .int 0, .int 0, .int 0])), (e3, .inr (4, [.ref e4, .ref e5, .ref e6, .int 0])), (e4, .inl (ax 1, 8, .inl (fun _ => 0))), (e5, .inl (ax 0, 8, .inl (fun _ => 0))), (e6, .inl (ax 0, 8, .inl (fun _ => 0))), (e7, .inl (ax 1, 20, .inl (fun _ => 0))), (e8, .inl (ax 1, 20, .inl (fun _ => 0))), (e9, .inl (ax 1, 20, .inl (fun _ => 0))), (e10, .inl (ax 1, 20, .inl (fun _ => 0))), (e11, .inl (ax 1, 20, .inl (fun _ => 0))), (e12, .inl (ax 2, 20, .inl (fun _ => 0))), (e13, .inl (ax 2, 20, .inl (fun _ => 0))), (e14, .inl (ax 0, 20, .inl (fun _ => 0))), (e15, .inl (ax 1, 20, .inl (fun _ => 0))), (e16, .inl (ax 1, 29, .inl (fun _ => 0))), (e17, .inl (ax 1, 29, .inl (fun _ => 0)))] sz) := by
  refine Met.ofW (cc := b_Desk_program) (maxL := 3) (ret := (some .int)) (by decide) rfl ?_
  intro p e s m args below meth c s₁ B hml hv
  obtain ⟨rfl, hsz, hP, hK, hD0⟩ := hv
  have hx := B.exec
  have hb := B.bytes
  have hr := B.returns
  have hts := xw_hts B.pre
  have hown : s.vm.findClass R_Desk = some m.cls := findClass_of_methodNamed B.named
  have hlocks := B.notSynchronized
  subst hsz
  have hD := hD0.self (sz := s.heap.size)
  have hN := xz_entry hP
  generalize hAe : va_A [(d0, .inr (10, [.ref d1, .ref d2, .ref d3, .ref d4, .ref d5, .ref d6, .ref d7, .ref d8, .ref d9, .ref d10, .ref d11, .ref d12, .int 0])), (d2, .inr (7, [.ref d1, .null, .null, .int 0, .int 0])), (d1, .inr (9, [.ref e1, .ref e2, .int 0, .int 0, .int 0, .int (-1), .int 0, .int 0])), (e1, .inl (ax 1, 400, .inl (fun _ => 0))), (e2, .inl (ax 0, 401, .inl (fun _ => 0))), (d12, .inr (2, [.ref e3, .ref e7, .ref e8, .ref e9, .ref e10, .ref e11, .ref e12, .ref e13, .ref e14, .ref e15, .ref e16, .ref e17, .int 0, .int 0, .int 0, .int 0, .int 0])), (e3, .inr (4, [.ref e4, .ref e5, .ref e6, .int 0])), (e4, .inl (ax 1, 8, .inl (fun _ => 0))), (e5, .inl (ax 0, 8, .inl (fun _ => 0))), (e6, .inl (ax 0, 8, .inl (fun _ => 0))), (e7, .inl (ax 1, 20, .inl (fun _ => 0))), (e8, .inl (ax 1, 20, .inl (fun _ => 0))), (e9, .inl (ax 1, 20, .inl (fun _ => 0))), (e10, .inl (ax 1, 20, .inl (fun _ => 0))), (e11, .inl (ax 1, 20, .inl (fun _ => 0))), (e12, .inl (ax 2, 20, .inl (fun _ => 0))), (e13, .inl (ax 2, 20, .inl (fun _ => 0))), (e14, .inl (ax 0, 20, .inl (fun _ => 0))), (e15, .inl (ax 1, 20, .inl (fun _ => 0))), (e16, .inl (ax 1, 29, .inl (fun _ => 0))), (e17, .inl (ax 1, 29, .inl (fun _ => 0)))] s.heap.size = A at hD hN ⊢
  have hA : ∀ q : Nat, s.heap.size ≤ q → A q := fun q h => by rw [← hAe]; exact Or.inr h
  have hS : va_S A s.heap s.heap [] := va_S.rf
  have hl0 := lv_entry ([.ref d0]) (n := 3) (Nat.le_of_ble_eq_true rfl)
  rw [lg_entry_eq]
  generalize (lg_sl ([.ref d0]) ++ List.replicate (3 - (lg_sl ([.ref d0])).length) Slot.unset).toArray = ls at hl0 ⊢
  have hl1 : lv_has ls 3 [(0, .ref d0)] := hl0
  refine lv_aload_n hx hb d_Desk_program_0 rfl (lv_at hl1 0 rfl) ?_
  refine va_get (D := D) (ci := 10) (v := .ref d2) (C := R_Desk) (T := F_Desk) (N := 13) hx hb hts i_Desk hown hK.1 hP 0 rfl rfl 1 (by decide) (hts _ wd_376) (fun _ h9 => h9) rfl d_Desk_program_1 ?_
  refine lv_aload_n hx hb d_Desk_program_4 rfl (lv_at hl1 0 rfl) ?_
  refine va_get (D := D) (ci := 10) (v := .ref d12) (C := R_Desk) (T := F_Desk) (N := 13) hx hb hts i_Desk hown hK.1 hP 0 rfl rfl 11 (by decide) (hts _ wd_386) (fun _ h9 => h9) rfl d_Desk_program_5 ?_
  have hPc := hP.sub (ws' := [(d2, .inr (7, [.ref d1, .null, .null, .int 0, .int 0])), (d1, .inr (9, [.ref e1, .ref e2, .int 0, .int 0, .int 0, .int (-1), .int 0, .int 0])), (e1, .inl (ax 1, 400, .inl (fun _ => 0))), (e2, .inl (ax 0, 401, .inl (fun _ => 0))), (d12, .inr (2, [.ref e3, .ref e7, .ref e8, .ref e9, .ref e10, .ref e11, .ref e12, .ref e13, .ref e14, .ref e15, .ref e16, .ref e17, .int 0, .int 0, .int 0, .int 0, .int 0])), (e3, .inr (4, [.ref e4, .ref e5, .ref e6, .int 0])), (e4, .inl (ax 1, 8, .inl (fun _ => 0))), (e5, .inl (ax 0, 8, .inl (fun _ => 0))), (e6, .inl (ax 0, 8, .inl (fun _ => 0))), (e7, .inl (ax 1, 20, .inl (fun _ => 0))), (e8, .inl (ax 1, 20, .inl (fun _ => 0))), (e9, .inl (ax 1, 20, .inl (fun _ => 0))), (e10, .inl (ax 1, 20, .inl (fun _ => 0))), (e11, .inl (ax 1, 20, .inl (fun _ => 0))), (e12, .inl (ax 2, 20, .inl (fun _ => 0))), (e13, .inl (ax 2, 20, .inl (fun _ => 0))), (e14, .inl (ax 0, 20, .inl (fun _ => 0))), (e15, .inl (ax 1, 20, .inl (fun _ => 0))), (e16, .inl (ax 1, 29, .inl (fun _ => 0))), (e17, .inl (ax 1, 29, .inl (fun _ => 0)))]) [1, 2, 3, 4, 5, 6, 7, 8, 9, 10, 11, 12, 13, 14, 15, 16, 17, 18, 19, 20] rfl
  have hDc := hD.sub (ws' := [(d2, .inr (7, [.ref d1, .null, .null, .int 0, .int 0])), (d1, .inr (9, [.ref e1, .ref e2, .int 0, .int 0, .int 0, .int (-1), .int 0, .int 0])), (e1, .inl (ax 1, 400, .inl (fun _ => 0))), (e2, .inl (ax 0, 401, .inl (fun _ => 0))), (d12, .inr (2, [.ref e3, .ref e7, .ref e8, .ref e9, .ref e10, .ref e11, .ref e12, .ref e13, .ref e14, .ref e15, .ref e16, .ref e17, .int 0, .int 0, .int 0, .int 0, .int 0])), (e3, .inr (4, [.ref e4, .ref e5, .ref e6, .int 0])), (e4, .inl (ax 1, 8, .inl (fun _ => 0))), (e5, .inl (ax 0, 8, .inl (fun _ => 0))), (e6, .inl (ax 0, 8, .inl (fun _ => 0))), (e7, .inl (ax 1, 20, .inl (fun _ => 0))), (e8, .inl (ax 1, 20, .inl (fun _ => 0))), (e9, .inl (ax 1, 20, .inl (fun _ => 0))), (e10, .inl (ax 1, 20, .inl (fun _ => 0))), (e11, .inl (ax 1, 20, .inl (fun _ => 0))), (e12, .inl (ax 2, 20, .inl (fun _ => 0))), (e13, .inl (ax 2, 20, .inl (fun _ => 0))), (e14, .inl (ax 0, 20, .inl (fun _ => 0))), (e15, .inl (ax 1, 20, .inl (fun _ => 0))), (e16, .inl (ax 1, 29, .inl (fun _ => 0))), (e17, .inl (ax 1, 29, .inl (fun _ => 0)))]) [1, 2, 3, 4, 5, 6, 7, 8, 9, 10, 11, 12, 13, 14, 15, 16, 17, 18, 19, 20] (by decide) rfl
  have hFc := va_free (wc := [(d2, .inr (7, [.ref d1, .null, .null, .int 0, .int 0])), (d1, .inr (9, [.ref e1, .ref e2, .int 0, .int 0, .int 0, .int (-1), .int 0, .int 0])), (e1, .inl (ax 1, 400, .inl (fun _ => 0))), (e2, .inl (ax 0, 401, .inl (fun _ => 0))), (d12, .inr (2, [.ref e3, .ref e7, .ref e8, .ref e9, .ref e10, .ref e11, .ref e12, .ref e13, .ref e14, .ref e15, .ref e16, .ref e17, .int 0, .int 0, .int 0, .int 0, .int 0])), (e3, .inr (4, [.ref e4, .ref e5, .ref e6, .int 0])), (e4, .inl (ax 1, 8, .inl (fun _ => 0))), (e5, .inl (ax 0, 8, .inl (fun _ => 0))), (e6, .inl (ax 0, 8, .inl (fun _ => 0))), (e7, .inl (ax 1, 20, .inl (fun _ => 0))), (e8, .inl (ax 1, 20, .inl (fun _ => 0))), (e9, .inl (ax 1, 20, .inl (fun _ => 0))), (e10, .inl (ax 1, 20, .inl (fun _ => 0))), (e11, .inl (ax 1, 20, .inl (fun _ => 0))), (e12, .inl (ax 2, 20, .inl (fun _ => 0))), (e13, .inl (ax 2, 20, .inl (fun _ => 0))), (e14, .inl (ax 0, 20, .inl (fun _ => 0))), (e15, .inl (ax 1, 20, .inl (fun _ => 0))), (e16, .inl (ax 1, 29, .inl (fun _ => 0))), (e17, .inl (ax 1, 29, .inl (fun _ => 0)))]) hD hS hA [1, 2, 3, 4, 5, 6, 7, 8, 9, 10, 11, 12, 13, 14, 15, 16, 17, 18, 19, 20] rfl
  have hz := xz_of hN hS
  refine va_calli (va_runV (As := [.ref d12]) (rest := []) ⟨hx, hb, hml, hown, hts⟩ (c_Reader_takeProgram l D ax d2 d1 e1 e2 d12 e3 e4 e5 e6 e7 e8 e9 e10 e11 e12 e13 e14 e15 e16 e17 s.heap.size) (xcV (n := 1) hts wd_604 wd_3 wd_601 wd_602 wd_603 rfl rfl (by decide +kernel) ⟨Nat.le_of_ble_eq_true rfl, Nat.le_of_ble_eq_true rfl⟩) (xpV (ci := 7) (q0 := 0) (As := [.ref d12]) hPc hK hz hDc rfl rfl) rfl rfl hl1.1 rfl (lv_room (Nat.le_of_ble_eq_true rfl)) d_Desk_program_8 ⟨Nat.le_of_ble_eq_true rfl, Nat.le_of_ble_eq_true rfl⟩) hS (fun q _ h => hFc q h) hFc (fun r_3 u_1 t H_2 locs ht hvm hw hB hz1 hk1 hS => ?_)
  try dsimp only at hw
  subst hw
  obtain ⟨hP1, hD1⟩ := hB
  rw [ht] at hP1
  obtain ⟨hP, hD⟩ := va_join (wr := [(d0, .inr (10, [.ref d1, .ref d2, .ref d3, .ref d4, .ref d5, .ref d6, .ref d7, .ref d8, .ref d9, .ref d10, .ref d11, .ref d12, .int 0]))]) (w1 := [(d2, .inr (7, [.ref d1, .ref d12, .ref e3, .int 0, .int 0])), (d1, .inr (9, [.ref e1, .ref e2, .int 0, .int 0, .int 0, .int 0, .int 1, .int 0])), (e1, .inl (ax 1, 400, .inl (fun _ => 0))), (e2, .inl (ax 0, 401, .inl (upd (fun _ => 0) 0 0))), (d12, .inr (2, [.ref e3, .ref e7, .ref e8, .ref e9, .ref e10, .ref e11, .ref e12, .ref e13, .ref e14, .ref e15, .ref e16, .ref e17, .int 1, .int 0, .int 0, .int 0, .int 0])), (e3, .inr (4, [.ref e4, .ref e5, .ref e6, .int 0])), (e4, .inl (ax 1, 8, .inl (fun _ => 0))), (e5, .inl (ax 0, 8, .inl (fun _ => 0))), (e6, .inl (ax 0, 8, .inl (fun _ => 0))), (e7, .inl (ax 1, 20, .inl (fun _ => 0))), (e8, .inl (ax 1, 20, .inl (fun _ => 0))), (e9, .inl (ax 1, 20, .inl (fun _ => 0))), (e10, .inl (ax 1, 20, .inl (fun _ => 0))), (e11, .inl (ax 1, 20, .inl (fun _ => 0))), (e12, .inl (ax 2, 20, .inl (fun _ => 0))), (e13, .inl (ax 2, 20, .inl (fun _ => 0))), (e14, .inl (ax 0, 20, .inl (fun _ => 0))), (e15, .inl (ax 1, 20, .inl (fun _ => 0))), (e16, .inl (ax 1, 29, .inl (upd (fun _ => 0) 0 0))), (e17, .inl (ax 1, 29, .inl (upd (fun _ => 0) 0 (-1))))]) hP hD [1, 2, 3, 4, 5, 6, 7, 8, 9, 10, 11, 12, 13, 14, 15, 16, 17, 18, 19, 20] [0] rfl rfl (by decide) (by decide) hk1 hFc hP1 hD1
  have hP : va_P D classes [(d0, .inr (10, [.ref d1, .ref d2, .ref d3, .ref d4, .ref d5, .ref d6, .ref d7, .ref d8, .ref d9, .ref d10, .ref d11, .ref d12, .int 0])), (d2, .inr (7, [.ref d1, .ref d12, .ref e3, .int 0, .int 0])), (d1, .inr (9, [.ref e1, .ref e2, .int 0, .int 0, .int 0, .int 0, .int 1, .int 0])), (e1, .inl (ax 1, 400, .inl (fun _ => 0))), (e2, .inl (ax 0, 401, .inl (upd (fun _ => 0) 0 0))), (d12, .inr (2, [.ref e3, .ref e7, .ref e8, .ref e9, .ref e10, .ref e11, .ref e12, .ref e13, .ref e14, .ref e15, .ref e16, .ref e17, .int 1, .int 0, .int 0, .int 0, .int 0])), (e3, .inr (4, [.ref e4, .ref e5, .ref e6, .int 0])), (e4, .inl (ax 1, 8, .inl (fun _ => 0))), (e5, .inl (ax 0, 8, .inl (fun _ => 0))), (e6, .inl (ax 0, 8, .inl (fun _ => 0))), (e7, .inl (ax 1, 20, .inl (fun _ => 0))), (e8, .inl (ax 1, 20, .inl (fun _ => 0))), (e9, .inl (ax 1, 20, .inl (fun _ => 0))), (e10, .inl (ax 1, 20, .inl (fun _ => 0))), (e11, .inl (ax 1, 20, .inl (fun _ => 0))), (e12, .inl (ax 2, 20, .inl (fun _ => 0))), (e13, .inl (ax 2, 20, .inl (fun _ => 0))), (e14, .inl (ax 0, 20, .inl (fun _ => 0))), (e15, .inl (ax 1, 20, .inl (fun _ => 0))), (e16, .inl (ax 1, 29, .inl (upd (fun _ => 0) 0 0))), (e17, .inl (ax 1, 29, .inl (upd (fun _ => 0) 0 (-1))))] H_2 := hP
  have hD : va_D A [(d0, .inr (10, [.ref d1, .ref d2, .ref d3, .ref d4, .ref d5, .ref d6, .ref d7, .ref d8, .ref d9, .ref d10, .ref d11, .ref d12, .int 0])), (d2, .inr (7, [.ref d1, .ref d12, .ref e3, .int 0, .int 0])), (d1, .inr (9, [.ref e1, .ref e2, .int 0, .int 0, .int 0, .int 0, .int 1, .int 0])), (e1, .inl (ax 1, 400, .inl (fun _ => 0))), (e2, .inl (ax 0, 401, .inl (upd (fun _ => 0) 0 0))), (d12, .inr (2, [.ref e3, .ref e7, .ref e8, .ref e9, .ref e10, .ref e11, .ref e12, .ref e13, .ref e14, .ref e15, .ref e16, .ref e17, .int 1, .int 0, .int 0, .int 0, .int 0])), (e3, .inr (4, [.ref e4, .ref e5, .ref e6, .int 0])), (e4, .inl (ax 1, 8, .inl (fun _ => 0))), (e5, .inl (ax 0, 8, .inl (fun _ => 0))), (e6, .inl (ax 0, 8, .inl (fun _ => 0))), (e7, .inl (ax 1, 20, .inl (fun _ => 0))), (e8, .inl (ax 1, 20, .inl (fun _ => 0))), (e9, .inl (ax 1, 20, .inl (fun _ => 0))), (e10, .inl (ax 1, 20, .inl (fun _ => 0))), (e11, .inl (ax 1, 20, .inl (fun _ => 0))), (e12, .inl (ax 2, 20, .inl (fun _ => 0))), (e13, .inl (ax 2, 20, .inl (fun _ => 0))), (e14, .inl (ax 0, 20, .inl (fun _ => 0))), (e15, .inl (ax 1, 20, .inl (fun _ => 0))), (e16, .inl (ax 1, 29, .inl (upd (fun _ => 0) 0 0))), (e17, .inl (ax 1, 29, .inl (upd (fun _ => 0) 0 (-1))))] := hD
  refine lv_istore_n (lv' := [(1, .int 1), (0, .ref d0)]) hx hb d_Desk_program_11 rfl hl1 (by decide) rfl (fun ls hl1 => ?_)
  refine lv_iload_n hx hb d_Desk_program_12 rfl (lv_at hl1 0 rfl) ?_
  refine lv_if_ne (tgt := 50) hx hb d_Desk_program_13 (by decide) (fun c_4 => ?_) (fun c_4 => ?_)
  rotate_left
  · first | exact absurd c_4 (by decide) | exact absurd (by decide) c_4
  refine lv_iload_n hx hb d_Desk_program_50 rfl (lv_at hl1 0 rfl) ?_
  exact W.iret (v := 1) hx hb hr (fun t ht hW => ⟨⟨1, fun _ => 0, rfl, rfl, trivial⟩, hS.F ht⟩) hS.2.2 d_Desk_program_51
abbrev b_Tokens_append : ByteArray := prog_11_method_2_code
def y_Tokens_append : MethodName := ⟨R_Tokens, "append", "(JI)Z"⟩
theorem d_Tokens_append_0 : decode b_Tokens_append 0 = .ok (.iload_n 3, 1) := by decide +kernel
theorem d_Tokens_append_1 : decode b_Tokens_append 1 = .ok (.iconst 1, 1) := by decide +kernel
theorem d_Tokens_append_2 : decode b_Tokens_append 2 = .ok (.if_icmp .lt 21, 3) := by decide +kernel
theorem d_Tokens_append_5 : decode b_Tokens_append 5 = .ok (.iload_n 3, 1) := by decide +kernel
theorem d_Tokens_append_6 : decode b_Tokens_append 6 = .ok (.bipush 8, 2) := by decide +kernel
theorem d_Tokens_append_8 : decode b_Tokens_append 8 = .ok (.if_icmp .gt 15, 3) := by decide +kernel
theorem d_Tokens_append_11 : decode b_Tokens_append 11 = .ok (.aload_n 0, 1) := by decide +kernel
theorem d_Tokens_append_12 : decode b_Tokens_append 12 = .ok (.getfield 23, 3) := by decide +kernel
theorem d_Tokens_append_15 : decode b_Tokens_append 15 = .ok (.iload_n 3, 1) := by decide +kernel
theorem d_Tokens_append_16 : decode b_Tokens_append 16 = .ok (.iadd, 1) := by decide +kernel
theorem d_Tokens_append_17 : decode b_Tokens_append 17 = .ok (.sipush 400, 3) := by decide +kernel
theorem d_Tokens_append_20 : decode b_Tokens_append 20 = .ok (.if_icmp .le 5, 3) := by decide +kernel
theorem d_Tokens_append_23 : decode b_Tokens_append 23 = .ok (.iconst 0, 1) := by decide +kernel
theorem d_Tokens_append_24 : decode b_Tokens_append 24 = .ok (.ireturn, 1) := by decide +kernel
theorem d_Tokens_append_25 : decode b_Tokens_append 25 = .ok (.iconst 0, 1) := by decide +kernel
theorem d_Tokens_append_26 : decode b_Tokens_append 26 = .ok (.istore 4, 2) := by decide +kernel
theorem d_Tokens_append_28 : decode b_Tokens_append 28 = .ok (.iload 4, 2) := by decide +kernel
theorem d_Tokens_append_30 : decode b_Tokens_append 30 = .ok (.iload_n 3, 1) := by decide +kernel
theorem d_Tokens_append_31 : decode b_Tokens_append 31 = .ok (.if_icmp .ge 30, 3) := by decide +kernel
theorem d_Tokens_append_34 : decode b_Tokens_append 34 = .ok (.aload_n 0, 1) := by decide +kernel
theorem d_Tokens_append_35 : decode b_Tokens_append 35 = .ok (.getfield 9, 3) := by decide +kernel
theorem d_Tokens_append_38 : decode b_Tokens_append 38 = .ok (.aload_n 0, 1) := by decide +kernel
theorem d_Tokens_append_39 : decode b_Tokens_append 39 = .ok (.getfield 23, 3) := by decide +kernel
theorem d_Tokens_append_42 : decode b_Tokens_append 42 = .ok (.iload 4, 2) := by decide +kernel
theorem d_Tokens_append_44 : decode b_Tokens_append 44 = .ok (.iadd, 1) := by decide +kernel
theorem d_Tokens_append_45 : decode b_Tokens_append 45 = .ok (.lload_n 1, 1) := by decide +kernel
theorem d_Tokens_append_46 : decode b_Tokens_append 46 = .ok (.bipush 8, 2) := by decide +kernel
theorem d_Tokens_append_48 : decode b_Tokens_append 48 = .ok (.iload 4, 2) := by decide +kernel
theorem d_Tokens_append_50 : decode b_Tokens_append 50 = .ok (.imul, 1) := by decide +kernel
theorem d_Tokens_append_51 : decode b_Tokens_append 51 = .ok (.lushr, 1) := by decide +kernel
theorem d_Tokens_append_52 : decode b_Tokens_append 52 = .ok (.l2i, 1) := by decide +kernel
theorem d_Tokens_append_53 : decode b_Tokens_append 53 = .ok (.i2b, 1) := by decide +kernel
theorem d_Tokens_append_54 : decode b_Tokens_append 54 = .ok (.bastore, 1) := by decide +kernel
theorem d_Tokens_append_55 : decode b_Tokens_append 55 = .ok (.iinc 4 1, 3) := by decide +kernel
theorem d_Tokens_append_58 : decode b_Tokens_append 58 = .ok (.goto (-30), 3) := by decide +kernel
theorem d_Tokens_append_61 : decode b_Tokens_append 61 = .ok (.aload_n 0, 1) := by decide +kernel
theorem d_Tokens_append_62 : decode b_Tokens_append 62 = .ok (.dup, 1) := by decide +kernel
theorem d_Tokens_append_63 : decode b_Tokens_append 63 = .ok (.getfield 23, 3) := by decide +kernel
theorem d_Tokens_append_66 : decode b_Tokens_append 66 = .ok (.iload_n 3, 1) := by decide +kernel
theorem d_Tokens_append_67 : decode b_Tokens_append 67 = .ok (.iadd, 1) := by decide +kernel
theorem d_Tokens_append_68 : decode b_Tokens_append 68 = .ok (.putfield 23, 3) := by decide +kernel
theorem d_Tokens_append_71 : decode b_Tokens_append 71 = .ok (.iconst 1, 1) := by decide +kernel
theorem d_Tokens_append_72 : decode b_Tokens_append 72 = .ok (.ireturn, 1) := by decide +kernel
set_option maxHeartbeats 4000000 in
set_option maxRecDepth 100000 in
theorem c_Tokens_append_1 (l : Launch) (D : va_G) (ax : Nat → ClassId) (h1 h2 h3 : Nat) (w : Int64) (sz : Nat) : Met l y_Tokens_append (xws (.code y_Tokens_append b_Tokens_append 5 (some .boolean))) ({ frames := 10, cells := 0, slots := 0, locals := 400 }) (va_Pc [.ref h1, .long w, .int 1] (xo D ax [(h1, .inr (9, [.ref h2, .ref h3, .int 0, .int 0, .int 0, .int (-1), .int 0, .int 0])), (h2, .inl (ax 1, 400, .inl (fun _ => 0))), (h3, .inl (ax 0, 401, .inl (fun _ => 0)))] sz)) ((va_Qi (fun (r : Int32) (u : Nat → Nat) => r = 1) (fun (_ : Nat → Nat) (_ : State) => True) (va_A [(h1, .inr (9, [.ref h2, .ref h3, .int 0, .int 0, .int 0, .int (-1), .int 0, .int 0])), (h2, .inl (ax 1, 400, .inl (fun _ => 0))), (h3, .inl (ax 0, 401, .inl (fun _ => 0)))] sz))) 0 0 (va_A [(h1, .inr (9, [.ref h2, .ref h3, .int 0, .int 0, .int 0, .int (-1), .int 0, .int 0])), (h2, .inl (ax 1, 400, .inl (fun _ => 0))), (h3, .inl (ax 0, 401, .inl (fun _ => 0)))] sz) := by
  refine Met.ofW (cc := b_Tokens_append) (maxL := 5) (ret := (some .boolean)) (by decide) rfl ?_
  intro p e s m args below meth c s₁ B hml hv
  obtain ⟨rfl, hsz, hP, hK, hD0⟩ := hv
  have hx := B.exec
  have hb := B.bytes
  have hr := B.returns
  have hts := xw_hts B.pre
  have hown : s.vm.findClass R_Tokens = some m.cls := findClass_of_methodNamed B.named
  have hlocks := B.notSynchronized
  subst hsz
  have hD := hD0.self (sz := s.heap.size)
  have hN := xz_entry hP
  generalize hAe : va_A [(h1, .inr (9, [.ref h2, .ref h3, .int 0, .int 0, .int 0, .int (-1), .int 0, .int 0])), (h2, .inl (ax 1, 400, .inl (fun _ => 0))), (h3, .inl (ax 0, 401, .inl (fun _ => 0)))] s.heap.size = A at hD hN ⊢
  have hA : ∀ q : Nat, s.heap.size ≤ q → A q := fun q h => by rw [← hAe]; exact Or.inr h
  have hS : va_S A s.heap s.heap [] := va_S.rf
  have hl0 := lv_entry ([.ref h1, .long w, .int 1]) (n := 5) (Nat.le_of_ble_eq_true rfl)
  rw [lg_entry_eq]
  generalize (lg_sl ([.ref h1, .long w, .int 1]) ++ List.replicate (5 - (lg_sl ([.ref h1, .long w, .int 1])).length) Slot.unset).toArray = ls at hl0 ⊢
  have hl1 : lv_has ls 5 [(0, .ref h1), (1, .long w), (3, .int 1)] := hl0
  refine lv_iload_n hx hb d_Tokens_append_0 rfl (lv_at hl1 2 rfl) ?_
  refine lv_iconst (v := 1) hx hb d_Tokens_append_1 (by decide) ?_
  refine lv_icmp_lt (tgt := 23) hx hb d_Tokens_append_2 (by decide) (fun c_1 => ?_) (fun c_1 => ?_)
  · first | exact absurd c_1 (by decide) | exact absurd (by decide) c_1
  refine lv_iload_n hx hb d_Tokens_append_5 rfl (lv_at hl1 2 rfl) ?_
  refine lv_bipush (v := 8) hx hb d_Tokens_append_6 (by decide) ?_
  refine lv_icmp_gt (tgt := 23) hx hb d_Tokens_append_8 (by decide) (fun c_2 => ?_) (fun c_2 => ?_)
  · first | exact absurd c_2 (by decide) | exact absurd (by decide) c_2
  refine lv_aload_n hx hb d_Tokens_append_11 rfl (lv_at hl1 0 rfl) ?_
  refine va_get (D := D) (ci := 9) (v := .int 0) (C := R_Tokens) (T := F_Tokens) (N := 8) hx hb hts i_Tokens hown hK.1 hP 0 rfl rfl 2 (by decide) (hts _ wd_42) (fun _ h9 => h9) rfl d_Tokens_append_12 ?_
  refine lv_iload_n hx hb d_Tokens_append_15 rfl (lv_at hl1 2 rfl) ?_
  refine lv_iadd hx hb d_Tokens_append_16 ?_
  refine lv_topi (fun z_3 ez_3 => ?_)
  have ez_3 : z_3 = 1 := ez_3.trans (by first | rfl | decide)
  subst ez_3
  refine lv_sipush (v := 400) hx hb d_Tokens_append_17 (by decide) ?_
  refine lv_icmp_le (tgt := 25) hx hb d_Tokens_append_20 (by decide) (fun c_4 => ?_) (fun c_4 => ?_)
  rotate_left
  · first | exact absurd c_4 (by decide) | exact absurd (by decide) c_4
  refine lv_iconst (v := 0) hx hb d_Tokens_append_25 (by decide) ?_
  refine lv_istore (lv' := [(4, .int 0), (0, .ref h1), (1, .long w), (3, .int 1)]) hx hb d_Tokens_append_26 hl1 (by decide) rfl (fun ls hl1 => ?_)
  refine lv_iload hx hb d_Tokens_append_28 (lv_at hl1 0 rfl) ?_
  refine lv_iload_n hx hb d_Tokens_append_30 rfl (lv_at hl1 3 rfl) ?_
  refine lv_icmp_ge (tgt := 61) hx hb d_Tokens_append_31 (by decide) (fun c_5 => ?_) (fun c_5 => ?_)
  · first | exact absurd c_5 (by decide) | exact absurd (by decide) c_5
  refine lv_aload_n hx hb d_Tokens_append_34 rfl (lv_at hl1 1 rfl) ?_
  refine va_get (D := D) (ci := 9) (v := .ref h2) (C := R_Tokens) (T := F_Tokens) (N := 8) hx hb hts i_Tokens hown hK.1 hP 0 rfl rfl 0 (by decide) (hts _ wd_40) (fun _ h9 => h9) rfl d_Tokens_append_35 ?_
  refine lv_aload_n hx hb d_Tokens_append_38 rfl (lv_at hl1 1 rfl) ?_
  refine va_get (D := D) (ci := 9) (v := .int 0) (C := R_Tokens) (T := F_Tokens) (N := 8) hx hb hts i_Tokens hown hK.1 hP 0 rfl rfl 2 (by decide) (hts _ wd_42) (fun _ h9 => h9) rfl d_Tokens_append_39 ?_
  refine lv_iload hx hb d_Tokens_append_42 (lv_at hl1 0 rfl) ?_
  refine lv_iadd hx hb d_Tokens_append_44 ?_
  refine lv_topi (fun z_6 ez_6 => ?_)
  have ez_6 : z_6 = 0 := ez_6.trans (by first | rfl | decide)
  subst ez_6
  refine lv_lload_n hx hb d_Tokens_append_45 rfl (lv_at hl1 2 rfl) ?_
  refine lv_bipush (v := 8) hx hb d_Tokens_append_46 (by decide) ?_
  refine lv_iload hx hb d_Tokens_append_48 (lv_at hl1 0 rfl) ?_
  refine lv_imul hx hb d_Tokens_append_50 ?_
  refine lv_topi (fun z_7 ez_7 => ?_)
  have ez_7 : z_7 = 0 := ez_7.trans (by first | rfl | decide)
  subst ez_7
  refine lv_lushr hx hb d_Tokens_append_51 rfl ?_
  refine lv_topl (fun z_8 ez_8 => ?_)
  refine lv_l2i hx hb d_Tokens_append_52 rfl ?_
  refine lv_topi (fun z_9 ez_9 => ?_)
  refine lv_i2b hx hb d_Tokens_append_53 rfl ?_
  refine lv_topi (fun z_10 ez_10 => ?_)
  refine va_bast hx hb hK.1 hP hD hS 1 1 rfl rfl (by unfold vp_in; decide) d_Tokens_append_54 (fun H_11 locs hP hD hS => ?_)
  have hP : va_P D classes [(h1, .inr (9, [.ref h2, .ref h3, .int 0, .int 0, .int 0, .int (-1), .int 0, .int 0])), (h2, .inl (ax 1, 400, .inl (upd (fun _ => 0) 0 (vp_nar .byte z_10)))), (h3, .inl (ax 0, 401, .inl (fun _ => 0)))] H_11 := hP
  have hD : va_D A [(h1, .inr (9, [.ref h2, .ref h3, .int 0, .int 0, .int 0, .int (-1), .int 0, .int 0])), (h2, .inl (ax 1, 400, .inl (upd (fun _ => 0) 0 (vp_nar .byte z_10)))), (h3, .inl (ax 0, 401, .inl (fun _ => 0)))] := hD
  refine lv_iinc (v := 1) (lv' := [(4, .int 1), (0, .ref h1), (1, .long w), (3, .int 1)]) hx hb d_Tokens_append_55 hl1 (k := 0) rfl (by decide) (by decide) rfl (fun ls hl1 => ?_)
  refine lv_goto (tgt := 28) hx hb d_Tokens_append_58 (by decide) ?_
  refine lv_iload hx hb d_Tokens_append_28 (lv_at hl1 0 rfl) ?_
  refine lv_iload_n hx hb d_Tokens_append_30 rfl (lv_at hl1 3 rfl) ?_
  refine lv_icmp_ge (tgt := 61) hx hb d_Tokens_append_31 (by decide) (fun c_12 => ?_) (fun c_12 => ?_)
  rotate_left
  · first | exact absurd c_12 (by decide) | exact absurd (by decide) c_12
  refine lv_aload_n hx hb d_Tokens_append_61 rfl (lv_at hl1 1 rfl) ?_
  refine lv_dup hx hb d_Tokens_append_62 rfl ?_
  refine va_get (D := D) (ci := 9) (v := .int 0) (C := R_Tokens) (T := F_Tokens) (N := 8) hx hb hts i_Tokens hown hK.1 hP 0 rfl rfl 2 (by decide) (hts _ wd_42) (fun _ h9 => h9) rfl d_Tokens_append_63 ?_
  refine lv_iload_n hx hb d_Tokens_append_66 rfl (lv_at hl1 3 rfl) ?_
  refine lv_iadd hx hb d_Tokens_append_67 ?_
  refine lv_topi (fun z_13 ez_13 => ?_)
  have ez_13 : z_13 = 1 := ez_13.trans (by first | rfl | decide)
  subst ez_13
  refine va_put (D := D) (ci := 9) (v := .int 1) (ty := .int) (C := R_Tokens) (T := F_Tokens) (N := 8) hx hb hts i_Tokens t_Tokens t_Tokens_ok n_Tokens hown hK.1 hP hD hS 0 rfl rfl 2 (by decide) (hts _ wd_42) (fun _ h9 => h9) rfl (by decide +kernel) rfl rfl (Nat.le_of_ble_eq_true rfl) d_Tokens_append_68 (fun H_14 locs hP hD hS => ?_)
  have hP : va_P D classes [(h1, .inr (9, [.ref h2, .ref h3, .int 1, .int 0, .int 0, .int (-1), .int 0, .int 0])), (h2, .inl (ax 1, 400, .inl (upd (fun _ => 0) 0 (vp_nar .byte z_10)))), (h3, .inl (ax 0, 401, .inl (fun _ => 0)))] H_14 := hP
  have hD : va_D A [(h1, .inr (9, [.ref h2, .ref h3, .int 1, .int 0, .int 0, .int (-1), .int 0, .int 0])), (h2, .inl (ax 1, 400, .inl (upd (fun _ => 0) 0 (vp_nar .byte z_10)))), (h3, .inl (ax 0, 401, .inl (fun _ => 0)))] := hD
  refine lv_iconst (v := 1) hx hb d_Tokens_append_71 (by decide) ?_
  exact W.zret (v := 1) hx hb hr rfl (fun t ht hW => ⟨⟨1, fun _ => 0, rfl, rfl, trivial⟩, hS.F ht⟩) hS.2.2 d_Tokens_append_72
abbrev b_Desk_type : ByteArray := prog_1_method_2_code
def y_Desk_type : MethodName := ⟨R_Desk, "type", "(JI)Z"⟩
theorem d_Desk_type_0 : decode b_Desk_type 0 = .ok (.aload_n 0, 1) := by decide +kernel
theorem d_Desk_type_1 : decode b_Desk_type 1 = .ok (.getfield 12, 3) := by decide +kernel
theorem d_Desk_type_4 : decode b_Desk_type 4 = .ok (.lload_n 1, 1) := by decide +kernel
theorem d_Desk_type_5 : decode b_Desk_type 5 = .ok (.iload_n 3, 1) := by decide +kernel
theorem d_Desk_type_6 : decode b_Desk_type 6 = .ok (.invokevirtual 87, 3) := by decide +kernel
theorem d_Desk_type_9 : decode b_Desk_type 9 = .ok (.ireturn, 1) := by decide +kernel
set_option maxHeartbeats 4000000 in
set_option maxRecDepth 100000 in
theorem c_Desk_type_1 (l : Launch) (D : va_G) (ax : Nat → ClassId) (d0 d1 d2 d3 d4 d5 d6 d7 d8 d9 d10 d11 d12 : Nat) (e1 e2 : Nat) (w : Int64) (sz : Nat) : Met l y_Desk_type (xws (.code y_Desk_type b_Desk_type 4 (some .boolean))) ({ frames := 20, cells := 0, slots := 0, locals := 800 }) (va_Pc [.ref d0, .long w, .int 1] (xo D ax [(d0, .inr (10, [.ref d1, .ref d2, .ref d3, .ref d4, .ref d5, .ref d6, .ref d7, .ref d8, .ref d9, .ref d10, .ref d11, .ref d12, .int 0])), (d1, .inr (9, [.ref e1, .ref e2, .int 0, .int 0, .int 0, .int (-1), .int 0, .int 0])), (e1, .inl (ax 1, 400, .inl (fun _ => 0))), (e2, .inl (ax 0, 401, .inl (fun _ => 0)))] sz)) ((va_Qi (fun (r : Int32) (u : Nat → Nat) => r = 1) (fun (_ : Nat → Nat) (_ : State) => True) (va_A [(d0, .inr (10, [.ref d1, .ref d2, .ref d3, .ref d4, .ref d5, .ref d6, .ref d7, .ref d8, .ref d9, .ref d10, .ref d11, .ref d12, .int 0])), (d1, .inr (9, [.ref e1, .ref e2, .int 0, .int 0, .int 0, .int (-1), .int 0, .int 0])), (e1, .inl (ax 1, 400, .inl (fun _ => 0))), (e2, .inl (ax 0, 401, .inl (fun _ => 0)))] sz))) 0 0 (va_A [(d0, .inr (10, [.ref d1, .ref d2, .ref d3, .ref d4, .ref d5, .ref d6, .ref d7, .ref d8, .ref d9, .ref d10, .ref d11, .ref d12, .int 0])), (d1, .inr (9, [.ref e1, .ref e2, .int 0, .int 0, .int 0, .int (-1), .int 0, .int 0])), (e1, .inl (ax 1, 400, .inl (fun _ => 0))), (e2, .inl (ax 0, 401, .inl (fun _ => 0)))] sz) := by
  refine Met.ofW (cc := b_Desk_type) (maxL := 4) (ret := (some .boolean)) (by decide) rfl ?_
  intro p e s m args below meth c s₁ B hml hv
  obtain ⟨rfl, hsz, hP, hK, hD0⟩ := hv
  have hx := B.exec
  have hb := B.bytes
  have hr := B.returns
  have hts := xw_hts B.pre
  have hown : s.vm.findClass R_Desk = some m.cls := findClass_of_methodNamed B.named
  have hlocks := B.notSynchronized
  subst hsz
  have hD := hD0.self (sz := s.heap.size)
  have hN := xz_entry hP
  generalize hAe : va_A [(d0, .inr (10, [.ref d1, .ref d2, .ref d3, .ref d4, .ref d5, .ref d6, .ref d7, .ref d8, .ref d9, .ref d10, .ref d11, .ref d12, .int 0])), (d1, .inr (9, [.ref e1, .ref e2, .int 0, .int 0, .int 0, .int (-1), .int 0, .int 0])), (e1, .inl (ax 1, 400, .inl (fun _ => 0))), (e2, .inl (ax 0, 401, .inl (fun _ => 0)))] s.heap.size = A at hD hN ⊢
  have hA : ∀ q : Nat, s.heap.size ≤ q → A q := fun q h => by rw [← hAe]; exact Or.inr h
  have hS : va_S A s.heap s.heap [] := va_S.rf
  have hl0 := lv_entry ([.ref d0, .long w, .int 1]) (n := 4) (Nat.le_of_ble_eq_true rfl)
  rw [lg_entry_eq]
  generalize (lg_sl ([.ref d0, .long w, .int 1]) ++ List.replicate (4 - (lg_sl ([.ref d0, .long w, .int 1])).length) Slot.unset).toArray = ls at hl0 ⊢
  have hl1 : lv_has ls 4 [(0, .ref d0), (1, .long w), (3, .int 1)] := hl0
  refine lv_aload_n hx hb d_Desk_type_0 rfl (lv_at hl1 0 rfl) ?_
  refine va_get (D := D) (ci := 10) (v := .ref d1) (C := R_Desk) (T := F_Desk) (N := 13) hx hb hts i_Desk hown hK.1 hP 0 rfl rfl 0 (by decide) (hts _ wd_375) (fun _ h9 => h9) rfl d_Desk_type_1 ?_
  refine lv_lload_n hx hb d_Desk_type_4 rfl (lv_at hl1 1 rfl) ?_
  refine lv_iload_n hx hb d_Desk_type_5 rfl (lv_at hl1 2 rfl) ?_
  have hPc := hP.sub (ws' := [(d1, .inr (9, [.ref e1, .ref e2, .int 0, .int 0, .int 0, .int (-1), .int 0, .int 0])), (e1, .inl (ax 1, 400, .inl (fun _ => 0))), (e2, .inl (ax 0, 401, .inl (fun _ => 0)))]) [1, 2, 3] rfl
  have hDc := hD.sub (ws' := [(d1, .inr (9, [.ref e1, .ref e2, .int 0, .int 0, .int 0, .int (-1), .int 0, .int 0])), (e1, .inl (ax 1, 400, .inl (fun _ => 0))), (e2, .inl (ax 0, 401, .inl (fun _ => 0)))]) [1, 2, 3] (by decide) rfl
  have hFc := va_free (wc := [(d1, .inr (9, [.ref e1, .ref e2, .int 0, .int 0, .int 0, .int (-1), .int 0, .int 0])), (e1, .inl (ax 1, 400, .inl (fun _ => 0))), (e2, .inl (ax 0, 401, .inl (fun _ => 0)))]) hD hS hA [1, 2, 3] rfl
  have hz := xz_of hN hS
  refine va_calli (va_runV (As := [.long w, .int 1]) (rest := []) ⟨hx, hb, hml, hown, hts⟩ (c_Tokens_append_1 l D ax d1 e1 e2 w s.heap.size) (xcV (n := 2) hts wd_422 wd_2 wd_419 wd_420 wd_421 rfl rfl (by decide +kernel) ⟨Nat.le_of_ble_eq_true rfl, Nat.le_of_ble_eq_true rfl⟩) (xpV (ci := 9) (q0 := 0) (As := [.long w, .int 1]) hPc hK hz hDc rfl rfl) rfl rfl hl1.1 rfl (lv_room (Nat.le_of_ble_eq_true rfl)) d_Desk_type_6 ⟨Nat.le_of_ble_eq_true rfl, Nat.le_of_ble_eq_true rfl⟩) hS (fun q _ h => hFc q h) hFc (fun r_3 u_1 t H_2 locs ht hvm hw hB hz1 hk1 hS => ?_)
  try dsimp only at hw
  subst hw
  obtain ⟨hP, hD⟩ := va_join (wr := [(d0, .inr (10, [.ref d1, .ref d2, .ref d3, .ref d4, .ref d5, .ref d6, .ref d7, .ref d8, .ref d9, .ref d10, .ref d11, .ref d12, .int 0]))]) (w1 := []) hP hD [1, 2, 3] [0] rfl rfl (by decide) (by decide) hk1 hFc x_nilP x_nilD
  have hP : va_P D classes [(d0, .inr (10, [.ref d1, .ref d2, .ref d3, .ref d4, .ref d5, .ref d6, .ref d7, .ref d8, .ref d9, .ref d10, .ref d11, .ref d12, .int 0]))] H_2 := hP
  have hD : va_D A [(d0, .inr (10, [.ref d1, .ref d2, .ref d3, .ref d4, .ref d5, .ref d6, .ref d7, .ref d8, .ref d9, .ref d10, .ref d11, .ref d12, .int 0]))] := hD
  exact W.zret (v := 1) hx hb hr rfl (fun t ht hW => ⟨⟨1, fun _ => 0, rfl, rfl, trivial⟩, hS.F ht⟩) hS.2.2 d_Desk_type_9
set_option maxHeartbeats 4000000 in
set_option maxRecDepth 100000 in
theorem c_Tokens_append_2 (l : Launch) (D : va_G) (ax : Nat → ClassId) (h1 h2 h3 : Nat) (w : Int64) (sz : Nat) : Met l y_Tokens_append (xws (.code y_Tokens_append b_Tokens_append 5 (some .boolean))) ({ frames := 10, cells := 0, slots := 0, locals := 400 }) (va_Pc [.ref h1, .long w, .int 2] (xo D ax [(h1, .inr (9, [.ref h2, .ref h3, .int 0, .int 0, .int 0, .int (-1), .int 0, .int 0])), (h2, .inl (ax 1, 400, .inl (fun _ => 0))), (h3, .inl (ax 0, 401, .inl (fun _ => 0)))] sz)) ((va_Qi (fun (r : Int32) (u : Nat → Nat) => r = 1) (fun (_ : Nat → Nat) (_ : State) => True) (va_A [(h1, .inr (9, [.ref h2, .ref h3, .int 0, .int 0, .int 0, .int (-1), .int 0, .int 0])), (h2, .inl (ax 1, 400, .inl (fun _ => 0))), (h3, .inl (ax 0, 401, .inl (fun _ => 0)))] sz))) 0 0 (va_A [(h1, .inr (9, [.ref h2, .ref h3, .int 0, .int 0, .int 0, .int (-1), .int 0, .int 0])), (h2, .inl (ax 1, 400, .inl (fun _ => 0))), (h3, .inl (ax 0, 401, .inl (fun _ => 0)))] sz) := by
  refine Met.ofW (cc := b_Tokens_append) (maxL := 5) (ret := (some .boolean)) (by decide) rfl ?_
  intro p e s m args below meth c s₁ B hml hv
  obtain ⟨rfl, hsz, hP, hK, hD0⟩ := hv
  have hx := B.exec
  have hb := B.bytes
  have hr := B.returns
  have hts := xw_hts B.pre
  have hown : s.vm.findClass R_Tokens = some m.cls := findClass_of_methodNamed B.named
  have hlocks := B.notSynchronized
  subst hsz
  have hD := hD0.self (sz := s.heap.size)
  have hN := xz_entry hP
  generalize hAe : va_A [(h1, .inr (9, [.ref h2, .ref h3, .int 0, .int 0, .int 0, .int (-1), .int 0, .int 0])), (h2, .inl (ax 1, 400, .inl (fun _ => 0))), (h3, .inl (ax 0, 401, .inl (fun _ => 0)))] s.heap.size = A at hD hN ⊢
  have hA : ∀ q : Nat, s.heap.size ≤ q → A q := fun q h => by rw [← hAe]; exact Or.inr h
  have hS : va_S A s.heap s.heap [] := va_S.rf
  have hl0 := lv_entry ([.ref h1, .long w, .int 2]) (n := 5) (Nat.le_of_ble_eq_true rfl)
  rw [lg_entry_eq]
  generalize (lg_sl ([.ref h1, .long w, .int 2]) ++ List.replicate (5 - (lg_sl ([.ref h1, .long w, .int 2])).length) Slot.unset).toArray = ls at hl0 ⊢
  have hl1 : lv_has ls 5 [(0, .ref h1), (1, .long w), (3, .int 2)] := hl0
  refine lv_iload_n hx hb d_Tokens_append_0 rfl (lv_at hl1 2 rfl) ?_
  refine lv_iconst (v := 1) hx hb d_Tokens_append_1 (by decide) ?_
  refine lv_icmp_lt (tgt := 23) hx hb d_Tokens_append_2 (by decide) (fun c_1 => ?_) (fun c_1 => ?_)
  · first | exact absurd c_1 (by decide) | exact absurd (by decide) c_1
  refine lv_iload_n hx hb d_Tokens_append_5 rfl (lv_at hl1 2 rfl) ?_
  refine lv_bipush (v := 8) hx hb d_Tokens_append_6 (by decide) ?_
  refine lv_icmp_gt (tgt := 23) hx hb d_Tokens_append_8 (by decide) (fun c_2 => ?_) (fun c_2 => ?_)
  · first | exact absurd c_2 (by decide) | exact absurd (by decide) c_2
  refine lv_aload_n hx hb d_Tokens_append_11 rfl (lv_at hl1 0 rfl) ?_
  refine va_get (D := D) (ci := 9) (v := .int 0) (C := R_Tokens) (T := F_Tokens) (N := 8) hx hb hts i_Tokens hown hK.1 hP 0 rfl rfl 2 (by decide) (hts _ wd_42) (fun _ h9 => h9) rfl d_Tokens_append_12 ?_
  refine lv_iload_n hx hb d_Tokens_append_15 rfl (lv_at hl1 2 rfl) ?_
  refine lv_iadd hx hb d_Tokens_append_16 ?_
  refine lv_topi (fun z_3 ez_3 => ?_)
  have ez_3 : z_3 = 2 := ez_3.trans (by first | rfl | decide)
  subst ez_3
  refine lv_sipush (v := 400) hx hb d_Tokens_append_17 (by decide) ?_
  refine lv_icmp_le (tgt := 25) hx hb d_Tokens_append_20 (by decide) (fun c_4 => ?_) (fun c_4 => ?_)
  rotate_left
  · first | exact absurd c_4 (by decide) | exact absurd (by decide) c_4
  refine lv_iconst (v := 0) hx hb d_Tokens_append_25 (by decide) ?_
  refine lv_istore (lv' := [(4, .int 0), (0, .ref h1), (1, .long w), (3, .int 2)]) hx hb d_Tokens_append_26 hl1 (by decide) rfl (fun ls hl1 => ?_)
  refine lv_iload hx hb d_Tokens_append_28 (lv_at hl1 0 rfl) ?_
  refine lv_iload_n hx hb d_Tokens_append_30 rfl (lv_at hl1 3 rfl) ?_
  refine lv_icmp_ge (tgt := 61) hx hb d_Tokens_append_31 (by decide) (fun c_5 => ?_) (fun c_5 => ?_)
  · first | exact absurd c_5 (by decide) | exact absurd (by decide) c_5
  refine lv_aload_n hx hb d_Tokens_append_34 rfl (lv_at hl1 1 rfl) ?_
  refine va_get (D := D) (ci := 9) (v := .ref h2) (C := R_Tokens) (T := F_Tokens) (N := 8) hx hb hts i_Tokens hown hK.1 hP 0 rfl rfl 0 (by decide) (hts _ wd_40) (fun _ h9 => h9) rfl d_Tokens_append_35 ?_
  refine lv_aload_n hx hb d_Tokens_append_38 rfl (lv_at hl1 1 rfl) ?_
  refine va_get (D := D) (ci := 9) (v := .int 0) (C := R_Tokens) (T := F_Tokens) (N := 8) hx hb hts i_Tokens hown hK.1 hP 0 rfl rfl 2 (by decide) (hts _ wd_42) (fun _ h9 => h9) rfl d_Tokens_append_39 ?_
  refine lv_iload hx hb d_Tokens_append_42 (lv_at hl1 0 rfl) ?_
  refine lv_iadd hx hb d_Tokens_append_44 ?_
  refine lv_topi (fun z_6 ez_6 => ?_)
  have ez_6 : z_6 = 0 := ez_6.trans (by first | rfl | decide)
  subst ez_6
  refine lv_lload_n hx hb d_Tokens_append_45 rfl (lv_at hl1 2 rfl) ?_
  refine lv_bipush (v := 8) hx hb d_Tokens_append_46 (by decide) ?_
  refine lv_iload hx hb d_Tokens_append_48 (lv_at hl1 0 rfl) ?_
  refine lv_imul hx hb d_Tokens_append_50 ?_
  refine lv_topi (fun z_7 ez_7 => ?_)
  have ez_7 : z_7 = 0 := ez_7.trans (by first | rfl | decide)
  subst ez_7
  refine lv_lushr hx hb d_Tokens_append_51 rfl ?_
  refine lv_topl (fun z_8 ez_8 => ?_)
  refine lv_l2i hx hb d_Tokens_append_52 rfl ?_
  refine lv_topi (fun z_9 ez_9 => ?_)
  refine lv_i2b hx hb d_Tokens_append_53 rfl ?_
  refine lv_topi (fun z_10 ez_10 => ?_)
  refine va_bast hx hb hK.1 hP hD hS 1 1 rfl rfl (by unfold vp_in; decide) d_Tokens_append_54 (fun H_11 locs hP hD hS => ?_)
  have hP : va_P D classes [(h1, .inr (9, [.ref h2, .ref h3, .int 0, .int 0, .int 0, .int (-1), .int 0, .int 0])), (h2, .inl (ax 1, 400, .inl (upd (fun _ => 0) 0 (vp_nar .byte z_10)))), (h3, .inl (ax 0, 401, .inl (fun _ => 0)))] H_11 := hP
  have hD : va_D A [(h1, .inr (9, [.ref h2, .ref h3, .int 0, .int 0, .int 0, .int (-1), .int 0, .int 0])), (h2, .inl (ax 1, 400, .inl (upd (fun _ => 0) 0 (vp_nar .byte z_10)))), (h3, .inl (ax 0, 401, .inl (fun _ => 0)))] := hD
  refine lv_iinc (v := 1) (lv' := [(4, .int 1), (0, .ref h1), (1, .long w), (3, .int 2)]) hx hb d_Tokens_append_55 hl1 (k := 0) rfl (by decide) (by decide) rfl (fun ls hl1 => ?_)
  refine lv_goto (tgt := 28) hx hb d_Tokens_append_58 (by decide) ?_
  refine lv_iload hx hb d_Tokens_append_28 (lv_at hl1 0 rfl) ?_
  refine lv_iload_n hx hb d_Tokens_append_30 rfl (lv_at hl1 3 rfl) ?_
  refine lv_icmp_ge (tgt := 61) hx hb d_Tokens_append_31 (by decide) (fun c_12 => ?_) (fun c_12 => ?_)
  · first | exact absurd c_12 (by decide) | exact absurd (by decide) c_12
  refine lv_aload_n hx hb d_Tokens_append_34 rfl (lv_at hl1 1 rfl) ?_
  refine va_get (D := D) (ci := 9) (v := .ref h2) (C := R_Tokens) (T := F_Tokens) (N := 8) hx hb hts i_Tokens hown hK.1 hP 0 rfl rfl 0 (by decide) (hts _ wd_40) (fun _ h9 => h9) rfl d_Tokens_append_35 ?_
  refine lv_aload_n hx hb d_Tokens_append_38 rfl (lv_at hl1 1 rfl) ?_
  refine va_get (D := D) (ci := 9) (v := .int 0) (C := R_Tokens) (T := F_Tokens) (N := 8) hx hb hts i_Tokens hown hK.1 hP 0 rfl rfl 2 (by decide) (hts _ wd_42) (fun _ h9 => h9) rfl d_Tokens_append_39 ?_
  refine lv_iload hx hb d_Tokens_append_42 (lv_at hl1 0 rfl) ?_
  refine lv_iadd hx hb d_Tokens_append_44 ?_
  refine lv_topi (fun z_13 ez_13 => ?_)
  have ez_13 : z_13 = 1 := ez_13.trans (by first | rfl | decide)
  subst ez_13
  refine lv_lload_n hx hb d_Tokens_append_45 rfl (lv_at hl1 2 rfl) ?_
  refine lv_bipush (v := 8) hx hb d_Tokens_append_46 (by decide) ?_
  refine lv_iload hx hb d_Tokens_append_48 (lv_at hl1 0 rfl) ?_
  refine lv_imul hx hb d_Tokens_append_50 ?_
  refine lv_topi (fun z_14 ez_14 => ?_)
  have ez_14 : z_14 = 8 := ez_14.trans (by first | rfl | decide)
  subst ez_14
  refine lv_lushr hx hb d_Tokens_append_51 rfl ?_
  refine lv_topl (fun z_15 ez_15 => ?_)
  refine lv_l2i hx hb d_Tokens_append_52 rfl ?_
  refine lv_topi (fun z_16 ez_16 => ?_)
  refine lv_i2b hx hb d_Tokens_append_53 rfl ?_
  refine lv_topi (fun z_17 ez_17 => ?_)
  refine va_bast hx hb hK.1 hP hD hS 1 1 rfl rfl (by unfold vp_in; decide) d_Tokens_append_54 (fun H_18 locs hP hD hS => ?_)
  have hP : va_P D classes [(h1, .inr (9, [.ref h2, .ref h3, .int 0, .int 0, .int 0, .int (-1), .int 0, .int 0])), (h2, .inl (ax 1, 400, .inl (upd (upd (fun _ => 0) 0 (vp_nar .byte z_10)) 1 (vp_nar .byte z_17)))), (h3, .inl (ax 0, 401, .inl (fun _ => 0)))] H_18 := hP
  have hD : va_D A [(h1, .inr (9, [.ref h2, .ref h3, .int 0, .int 0, .int 0, .int (-1), .int 0, .int 0])), (h2, .inl (ax 1, 400, .inl (upd (upd (fun _ => 0) 0 (vp_nar .byte z_10)) 1 (vp_nar .byte z_17)))), (h3, .inl (ax 0, 401, .inl (fun _ => 0)))] := hD
  refine lv_iinc (v := 2) (lv' := [(4, .int 2), (0, .ref h1), (1, .long w), (3, .int 2)]) hx hb d_Tokens_append_55 hl1 (k := 0) rfl (by decide) (by decide) rfl (fun ls hl1 => ?_)
  refine lv_goto (tgt := 28) hx hb d_Tokens_append_58 (by decide) ?_
  refine lv_iload hx hb d_Tokens_append_28 (lv_at hl1 0 rfl) ?_
  refine lv_iload_n hx hb d_Tokens_append_30 rfl (lv_at hl1 3 rfl) ?_
  refine lv_icmp_ge (tgt := 61) hx hb d_Tokens_append_31 (by decide) (fun c_19 => ?_) (fun c_19 => ?_)
  rotate_left
  · first | exact absurd c_19 (by decide) | exact absurd (by decide) c_19
  refine lv_aload_n hx hb d_Tokens_append_61 rfl (lv_at hl1 1 rfl) ?_
  refine lv_dup hx hb d_Tokens_append_62 rfl ?_
  refine va_get (D := D) (ci := 9) (v := .int 0) (C := R_Tokens) (T := F_Tokens) (N := 8) hx hb hts i_Tokens hown hK.1 hP 0 rfl rfl 2 (by decide) (hts _ wd_42) (fun _ h9 => h9) rfl d_Tokens_append_63 ?_
  refine lv_iload_n hx hb d_Tokens_append_66 rfl (lv_at hl1 3 rfl) ?_
  refine lv_iadd hx hb d_Tokens_append_67 ?_
  refine lv_topi (fun z_20 ez_20 => ?_)
  have ez_20 : z_20 = 2 := ez_20.trans (by first | rfl | decide)
  subst ez_20
  refine va_put (D := D) (ci := 9) (v := .int 2) (ty := .int) (C := R_Tokens) (T := F_Tokens) (N := 8) hx hb hts i_Tokens t_Tokens t_Tokens_ok n_Tokens hown hK.1 hP hD hS 0 rfl rfl 2 (by decide) (hts _ wd_42) (fun _ h9 => h9) rfl (by decide +kernel) rfl rfl (Nat.le_of_ble_eq_true rfl) d_Tokens_append_68 (fun H_21 locs hP hD hS => ?_)
  have hP : va_P D classes [(h1, .inr (9, [.ref h2, .ref h3, .int 2, .int 0, .int 0, .int (-1), .int 0, .int 0])), (h2, .inl (ax 1, 400, .inl (upd (upd (fun _ => 0) 0 (vp_nar .byte z_10)) 1 (vp_nar .byte z_17)))), (h3, .inl (ax 0, 401, .inl (fun _ => 0)))] H_21 := hP
  have hD : va_D A [(h1, .inr (9, [.ref h2, .ref h3, .int 2, .int 0, .int 0, .int (-1), .int 0, .int 0])), (h2, .inl (ax 1, 400, .inl (upd (upd (fun _ => 0) 0 (vp_nar .byte z_10)) 1 (vp_nar .byte z_17)))), (h3, .inl (ax 0, 401, .inl (fun _ => 0)))] := hD
  refine lv_iconst (v := 1) hx hb d_Tokens_append_71 (by decide) ?_
  exact W.zret (v := 1) hx hb hr rfl (fun t ht hW => ⟨⟨1, fun _ => 0, rfl, rfl, trivial⟩, hS.F ht⟩) hS.2.2 d_Tokens_append_72
set_option maxHeartbeats 4000000 in
set_option maxRecDepth 100000 in
theorem c_Desk_type_2 (l : Launch) (D : va_G) (ax : Nat → ClassId) (d0 d1 d2 d3 d4 d5 d6 d7 d8 d9 d10 d11 d12 : Nat) (e1 e2 : Nat) (w : Int64) (sz : Nat) : Met l y_Desk_type (xws (.code y_Desk_type b_Desk_type 4 (some .boolean))) ({ frames := 20, cells := 0, slots := 0, locals := 800 }) (va_Pc [.ref d0, .long w, .int 2] (xo D ax [(d0, .inr (10, [.ref d1, .ref d2, .ref d3, .ref d4, .ref d5, .ref d6, .ref d7, .ref d8, .ref d9, .ref d10, .ref d11, .ref d12, .int 0])), (d1, .inr (9, [.ref e1, .ref e2, .int 0, .int 0, .int 0, .int (-1), .int 0, .int 0])), (e1, .inl (ax 1, 400, .inl (fun _ => 0))), (e2, .inl (ax 0, 401, .inl (fun _ => 0)))] sz)) ((va_Qi (fun (r : Int32) (u : Nat → Nat) => r = 1) (fun (_ : Nat → Nat) (_ : State) => True) (va_A [(d0, .inr (10, [.ref d1, .ref d2, .ref d3, .ref d4, .ref d5, .ref d6, .ref d7, .ref d8, .ref d9, .ref d10, .ref d11, .ref d12, .int 0])), (d1, .inr (9, [.ref e1, .ref e2, .int 0, .int 0, .int 0, .int (-1), .int 0, .int 0])), (e1, .inl (ax 1, 400, .inl (fun _ => 0))), (e2, .inl (ax 0, 401, .inl (fun _ => 0)))] sz))) 0 0 (va_A [(d0, .inr (10, [.ref d1, .ref d2, .ref d3, .ref d4, .ref d5, .ref d6, .ref d7, .ref d8, .ref d9, .ref d10, .ref d11, .ref d12, .int 0])), (d1, .inr (9, [.ref e1, .ref e2, .int 0, .int 0, .int 0, .int (-1), .int 0, .int 0])), (e1, .inl (ax 1, 400, .inl (fun _ => 0))), (e2, .inl (ax 0, 401, .inl (fun _ => 0)))] sz) := by
  refine Met.ofW (cc := b_Desk_type) (maxL := 4) (ret := (some .boolean)) (by decide) rfl ?_
  intro p e s m args below meth c s₁ B hml hv
  obtain ⟨rfl, hsz, hP, hK, hD0⟩ := hv
  have hx := B.exec
  have hb := B.bytes
  have hr := B.returns
  have hts := xw_hts B.pre
  have hown : s.vm.findClass R_Desk = some m.cls := findClass_of_methodNamed B.named
  have hlocks := B.notSynchronized
  subst hsz
  have hD := hD0.self (sz := s.heap.size)
  have hN := xz_entry hP
  generalize hAe : va_A [(d0, .inr (10, [.ref d1, .ref d2, .ref d3, .ref d4, .ref d5, .ref d6, .ref d7, .ref d8, .ref d9, .ref d10, .ref d11, .ref d12, .int 0])), (d1, .inr (9, [.ref e1, .ref e2, .int 0, .int 0, .int 0, .int (-1), .int 0, .int 0])), (e1, .inl (ax 1, 400, .inl (fun _ => 0))), (e2, .inl (ax 0, 401, .inl (fun _ => 0)))] s.heap.size = A at hD hN ⊢
  have hA : ∀ q : Nat, s.heap.size ≤ q → A q := fun q h => by rw [← hAe]; exact Or.inr h
  have hS : va_S A s.heap s.heap [] := va_S.rf
  have hl0 := lv_entry ([.ref d0, .long w, .int 2]) (n := 4) (Nat.le_of_ble_eq_true rfl)
  rw [lg_entry_eq]
  generalize (lg_sl ([.ref d0, .long w, .int 2]) ++ List.replicate (4 - (lg_sl ([.ref d0, .long w, .int 2])).length) Slot.unset).toArray = ls at hl0 ⊢
  have hl1 : lv_has ls 4 [(0, .ref d0), (1, .long w), (3, .int 2)] := hl0
  refine lv_aload_n hx hb d_Desk_type_0 rfl (lv_at hl1 0 rfl) ?_
  refine va_get (D := D) (ci := 10) (v := .ref d1) (C := R_Desk) (T := F_Desk) (N := 13) hx hb hts i_Desk hown hK.1 hP 0 rfl rfl 0 (by decide) (hts _ wd_375) (fun _ h9 => h9) rfl d_Desk_type_1 ?_
  refine lv_lload_n hx hb d_Desk_type_4 rfl (lv_at hl1 1 rfl) ?_
  refine lv_iload_n hx hb d_Desk_type_5 rfl (lv_at hl1 2 rfl) ?_
  have hPc := hP.sub (ws' := [(d1, .inr (9, [.ref e1, .ref e2, .int 0, .int 0, .int 0, .int (-1), .int 0, .int 0])), (e1, .inl (ax 1, 400, .inl (fun _ => 0))), (e2, .inl (ax 0, 401, .inl (fun _ => 0)))]) [1, 2, 3] rfl
  have hDc := hD.sub (ws' := [(d1, .inr (9, [.ref e1, .ref e2, .int 0, .int 0, .int 0, .int (-1), .int 0, .int 0])), (e1, .inl (ax 1, 400, .inl (fun _ => 0))), (e2, .inl (ax 0, 401, .inl (fun _ => 0)))]) [1, 2, 3] (by decide) rfl
  have hFc := va_free (wc := [(d1, .inr (9, [.ref e1, .ref e2, .int 0, .int 0, .int 0, .int (-1), .int 0, .int 0])), (e1, .inl (ax 1, 400, .inl (fun _ => 0))), (e2, .inl (ax 0, 401, .inl (fun _ => 0)))]) hD hS hA [1, 2, 3] rfl
  have hz := xz_of hN hS
  refine va_calli (va_runV (As := [.long w, .int 2]) (rest := []) ⟨hx, hb, hml, hown, hts⟩ (c_Tokens_append_2 l D ax d1 e1 e2 w s.heap.size) (xcV (n := 2) hts wd_422 wd_2 wd_419 wd_420 wd_421 rfl rfl (by decide +kernel) ⟨Nat.le_of_ble_eq_true rfl, Nat.le_of_ble_eq_true rfl⟩) (xpV (ci := 9) (q0 := 0) (As := [.long w, .int 2]) hPc hK hz hDc rfl rfl) rfl rfl hl1.1 rfl (lv_room (Nat.le_of_ble_eq_true rfl)) d_Desk_type_6 ⟨Nat.le_of_ble_eq_true rfl, Nat.le_of_ble_eq_true rfl⟩) hS (fun q _ h => hFc q h) hFc (fun r_3 u_1 t H_2 locs ht hvm hw hB hz1 hk1 hS => ?_)
  try dsimp only at hw
  subst hw
  obtain ⟨hP, hD⟩ := va_join (wr := [(d0, .inr (10, [.ref d1, .ref d2, .ref d3, .ref d4, .ref d5, .ref d6, .ref d7, .ref d8, .ref d9, .ref d10, .ref d11, .ref d12, .int 0]))]) (w1 := []) hP hD [1, 2, 3] [0] rfl rfl (by decide) (by decide) hk1 hFc x_nilP x_nilD
  have hP : va_P D classes [(d0, .inr (10, [.ref d1, .ref d2, .ref d3, .ref d4, .ref d5, .ref d6, .ref d7, .ref d8, .ref d9, .ref d10, .ref d11, .ref d12, .int 0]))] H_2 := hP
  have hD : va_D A [(d0, .inr (10, [.ref d1, .ref d2, .ref d3, .ref d4, .ref d5, .ref d6, .ref d7, .ref d8, .ref d9, .ref d10, .ref d11, .ref d12, .int 0]))] := hD
  exact W.zret (v := 1) hx hb hr rfl (fun t ht hW => ⟨⟨1, fun _ => 0, rfl, rfl, trivial⟩, hS.F ht⟩) hS.2.2 d_Desk_type_9
set_option maxHeartbeats 4000000 in
set_option maxRecDepth 100000 in
theorem c_Tokens_append_3 (l : Launch) (D : va_G) (ax : Nat → ClassId) (h1 h2 h3 : Nat) (w : Int64) (sz : Nat) : Met l y_Tokens_append (xws (.code y_Tokens_append b_Tokens_append 5 (some .boolean))) ({ frames := 10, cells := 0, slots := 0, locals := 400 }) (va_Pc [.ref h1, .long w, .int 3] (xo D ax [(h1, .inr (9, [.ref h2, .ref h3, .int 0, .int 0, .int 0, .int (-1), .int 0, .int 0])), (h2, .inl (ax 1, 400, .inl (fun _ => 0))), (h3, .inl (ax 0, 401, .inl (fun _ => 0)))] sz)) ((va_Qi (fun (r : Int32) (u : Nat → Nat) => r = 1) (fun (_ : Nat → Nat) (_ : State) => True) (va_A [(h1, .inr (9, [.ref h2, .ref h3, .int 0, .int 0, .int 0, .int (-1), .int 0, .int 0])), (h2, .inl (ax 1, 400, .inl (fun _ => 0))), (h3, .inl (ax 0, 401, .inl (fun _ => 0)))] sz))) 0 0 (va_A [(h1, .inr (9, [.ref h2, .ref h3, .int 0, .int 0, .int 0, .int (-1), .int 0, .int 0])), (h2, .inl (ax 1, 400, .inl (fun _ => 0))), (h3, .inl (ax 0, 401, .inl (fun _ => 0)))] sz) := by
  refine Met.ofW (cc := b_Tokens_append) (maxL := 5) (ret := (some .boolean)) (by decide) rfl ?_
  intro p e s m args below meth c s₁ B hml hv
  obtain ⟨rfl, hsz, hP, hK, hD0⟩ := hv
  have hx := B.exec
  have hb := B.bytes
  have hr := B.returns
  have hts := xw_hts B.pre
  have hown : s.vm.findClass R_Tokens = some m.cls := findClass_of_methodNamed B.named
  have hlocks := B.notSynchronized
  subst hsz
  have hD := hD0.self (sz := s.heap.size)
  have hN := xz_entry hP
  generalize hAe : va_A [(h1, .inr (9, [.ref h2, .ref h3, .int 0, .int 0, .int 0, .int (-1), .int 0, .int 0])), (h2, .inl (ax 1, 400, .inl (fun _ => 0))), (h3, .inl (ax 0, 401, .inl (fun _ => 0)))] s.heap.size = A at hD hN ⊢
  have hA : ∀ q : Nat, s.heap.size ≤ q → A q := fun q h => by rw [← hAe]; exact Or.inr h
  have hS : va_S A s.heap s.heap [] := va_S.rf
  have hl0 := lv_entry ([.ref h1, .long w, .int 3]) (n := 5) (Nat.le_of_ble_eq_true rfl)
  rw [lg_entry_eq]
  generalize (lg_sl ([.ref h1, .long w, .int 3]) ++ List.replicate (5 - (lg_sl ([.ref h1, .long w, .int 3])).length) Slot.unset).toArray = ls at hl0 ⊢
  have hl1 : lv_has ls 5 [(0, .ref h1), (1, .long w), (3, .int 3)] := hl0
  refine lv_iload_n hx hb d_Tokens_append_0 rfl (lv_at hl1 2 rfl) ?_
  refine lv_iconst (v := 1) hx hb d_Tokens_append_1 (by decide) ?_
  refine lv_icmp_lt (tgt := 23) hx hb d_Tokens_append_2 (by decide) (fun c_1 => ?_) (fun c_1 => ?_)
  · first | exact absurd c_1 (by decide) | exact absurd (by decide) c_1
  refine lv_iload_n hx hb d_Tokens_append_5 rfl (lv_at hl1 2 rfl) ?_
  refine lv_bipush (v := 8) hx hb d_Tokens_append_6 (by decide) ?_
  refine lv_icmp_gt (tgt := 23) hx hb d_Tokens_append_8 (by decide) (fun c_2 => ?_) (fun c_2 => ?_)
  · first | exact absurd c_2 (by decide) | exact absurd (by decide) c_2
  refine lv_aload_n hx hb d_Tokens_append_11 rfl (lv_at hl1 0 rfl) ?_
  refine va_get (D := D) (ci := 9) (v := .int 0) (C := R_Tokens) (T := F_Tokens) (N := 8) hx hb hts i_Tokens hown hK.1 hP 0 rfl rfl 2 (by decide) (hts _ wd_42) (fun _ h9 => h9) rfl d_Tokens_append_12 ?_
  refine lv_iload_n hx hb d_Tokens_append_15 rfl (lv_at hl1 2 rfl) ?_
  refine lv_iadd hx hb d_Tokens_append_16 ?_
  refine lv_topi (fun z_3 ez_3 => ?_)
  have ez_3 : z_3 = 3 := ez_3.trans (by first | rfl | decide)
  subst ez_3
  refine lv_sipush (v := 400) hx hb d_Tokens_append_17 (by decide) ?_
  refine lv_icmp_le (tgt := 25) hx hb d_Tokens_append_20 (by decide) (fun c_4 => ?_) (fun c_4 => ?_)
  rotate_left
  · first | exact absurd c_4 (by decide) | exact absurd (by decide) c_4
  refine lv_iconst (v := 0) hx hb d_Tokens_append_25 (by decide) ?_
  refine lv_istore (lv' := [(4, .int 0), (0, .ref h1), (1, .long w), (3, .int 3)]) hx hb d_Tokens_append_26 hl1 (by decide) rfl (fun ls hl1 => ?_)
  refine lv_iload hx hb d_Tokens_append_28 (lv_at hl1 0 rfl) ?_
  refine lv_iload_n hx hb d_Tokens_append_30 rfl (lv_at hl1 3 rfl) ?_
  refine lv_icmp_ge (tgt := 61) hx hb d_Tokens_append_31 (by decide) (fun c_5 => ?_) (fun c_5 => ?_)
  · first | exact absurd c_5 (by decide) | exact absurd (by decide) c_5
  refine lv_aload_n hx hb d_Tokens_append_34 rfl (lv_at hl1 1 rfl) ?_
  refine va_get (D := D) (ci := 9) (v := .ref h2) (C := R_Tokens) (T := F_Tokens) (N := 8) hx hb hts i_Tokens hown hK.1 hP 0 rfl rfl 0 (by decide) (hts _ wd_40) (fun _ h9 => h9) rfl d_Tokens_append_35 ?_
  refine lv_aload_n hx hb d_Tokens_append_38 rfl (lv_at hl1 1 rfl) ?_
  refine va_get (D := D) (ci := 9) (v := .int 0) (C := R_Tokens) (T := F_Tokens) (N := 8) hx hb hts i_Tokens hown hK.1 hP 0 rfl rfl 2 (by decide) (hts _ wd_42) (fun _ h9 => h9) rfl d_Tokens_append_39 ?_
  refine lv_iload hx hb d_Tokens_append_42 (lv_at hl1 0 rfl) ?_
  refine lv_iadd hx hb d_Tokens_append_44 ?_
  refine lv_topi (fun z_6 ez_6 => ?_)
  have ez_6 : z_6 = 0 := ez_6.trans (by first | rfl | decide)
  subst ez_6
  refine lv_lload_n hx hb d_Tokens_append_45 rfl (lv_at hl1 2 rfl) ?_
  refine lv_bipush (v := 8) hx hb d_Tokens_append_46 (by decide) ?_
  refine lv_iload hx hb d_Tokens_append_48 (lv_at hl1 0 rfl) ?_
  refine lv_imul hx hb d_Tokens_append_50 ?_
  refine lv_topi (fun z_7 ez_7 => ?_)
  have ez_7 : z_7 = 0 := ez_7.trans (by first | rfl | decide)
  subst ez_7
  refine lv_lushr hx hb d_Tokens_append_51 rfl ?_
  refine lv_topl (fun z_8 ez_8 => ?_)
  refine lv_l2i hx hb d_Tokens_append_52 rfl ?_
  refine lv_topi (fun z_9 ez_9 => ?_)
  refine lv_i2b hx hb d_Tokens_append_53 rfl ?_
  refine lv_topi (fun z_10 ez_10 => ?_)
  refine va_bast hx hb hK.1 hP hD hS 1 1 rfl rfl (by unfold vp_in; decide) d_Tokens_append_54 (fun H_11 locs hP hD hS => ?_)
  have hP : va_P D classes [(h1, .inr (9, [.ref h2, .ref h3, .int 0, .int 0, .int 0, .int (-1), .int 0, .int 0])), (h2, .inl (ax 1, 400, .inl (upd (fun _ => 0) 0 (vp_nar .byte z_10)))), (h3, .inl (ax 0, 401, .inl (fun _ => 0)))] H_11 := hP
  have hD : va_D A [(h1, .inr (9, [.ref h2, .ref h3, .int 0, .int 0, .int 0, .int (-1), .int 0, .int 0])), (h2, .inl (ax 1, 400, .inl (upd (fun _ => 0) 0 (vp_nar .byte z_10)))), (h3, .inl (ax 0, 401, .inl (fun _ => 0)))] := hD
  refine lv_iinc (v := 1) (lv' := [(4, .int 1), (0, .ref h1), (1, .long w), (3, .int 3)]) hx hb d_Tokens_append_55 hl1 (k := 0) rfl (by decide) (by decide) rfl (fun ls hl1 => ?_)
  refine lv_goto (tgt := 28) hx hb d_Tokens_append_58 (by decide) ?_
  refine lv_iload hx hb d_Tokens_append_28 (lv_at hl1 0 rfl) ?_
  refine lv_iload_n hx hb d_Tokens_append_30 rfl (lv_at hl1 3 rfl) ?_
  refine lv_icmp_ge (tgt := 61) hx hb d_Tokens_append_31 (by decide) (fun c_12 => ?_) (fun c_12 => ?_)
  · first | exact absurd c_12 (by decide) | exact absurd (by decide) c_12
  refine lv_aload_n hx hb d_Tokens_append_34 rfl (lv_at hl1 1 rfl) ?_
  refine va_get (D := D) (ci := 9) (v := .ref h2) (C := R_Tokens) (T := F_Tokens) (N := 8) hx hb hts i_Tokens hown hK.1 hP 0 rfl rfl 0 (by decide) (hts _ wd_40) (fun _ h9 => h9) rfl d_Tokens_append_35 ?_
  refine lv_aload_n hx hb d_Tokens_append_38 rfl (lv_at hl1 1 rfl) ?_
  refine va_get (D := D) (ci := 9) (v := .int 0) (C := R_Tokens) (T := F_Tokens) (N := 8) hx hb hts i_Tokens hown hK.1 hP 0 rfl rfl 2 (by decide) (hts _ wd_42) (fun _ h9 => h9) rfl d_Tokens_append_39 ?_
  refine lv_iload hx hb d_Tokens_append_42 (lv_at hl1 0 rfl) ?_
  refine lv_iadd hx hb d_Tokens_append_44 ?_
  refine lv_topi (fun z_13 ez_13 => ?_)
  have ez_13 : z_13 = 1 := ez_13.trans (by first | rfl | decide)
  subst ez_13
  refine lv_lload_n hx hb d_Tokens_append_45 rfl (lv_at hl1 2 rfl) ?_
  refine lv_bipush (v := 8) hx hb d_Tokens_append_46 (by decide) ?_
  refine lv_iload hx hb d_Tokens_append_48 (lv_at hl1 0 rfl) ?_
  refine lv_imul hx hb d_Tokens_append_50 ?_
  refine lv_topi (fun z_14 ez_14 => ?_)
  have ez_14 : z_14 = 8 := ez_14.trans (by first | rfl | decide)
  subst ez_14
  refine lv_lushr hx hb d_Tokens_append_51 rfl ?_
  refine lv_topl (fun z_15 ez_15 => ?_)
  refine lv_l2i hx hb d_Tokens_append_52 rfl ?_
  refine lv_topi (fun z_16 ez_16 => ?_)
  refine lv_i2b hx hb d_Tokens_append_53 rfl ?_
  refine lv_topi (fun z_17 ez_17 => ?_)
  refine va_bast hx hb hK.1 hP hD hS 1 1 rfl rfl (by unfold vp_in; decide) d_Tokens_append_54 (fun H_18 locs hP hD hS => ?_)
  have hP : va_P D classes [(h1, .inr (9, [.ref h2, .ref h3, .int 0, .int 0, .int 0, .int (-1), .int 0, .int 0])), (h2, .inl (ax 1, 400, .inl (upd (upd (fun _ => 0) 0 (vp_nar .byte z_10)) 1 (vp_nar .byte z_17)))), (h3, .inl (ax 0, 401, .inl (fun _ => 0)))] H_18 := hP
  have hD : va_D A [(h1, .inr (9, [.ref h2, .ref h3, .int 0, .int 0, .int 0, .int (-1), .int 0, .int 0])), (h2, .inl (ax 1, 400, .inl (upd (upd (fun _ => 0) 0 (vp_nar .byte z_10)) 1 (vp_nar .byte z_17)))), (h3, .inl (ax 0, 401, .inl (fun _ => 0)))] := hD
  refine lv_iinc (v := 2) (lv' := [(4, .int 2), (0, .ref h1), (1, .long w), (3, .int 3)]) hx hb d_Tokens_append_55 hl1 (k := 0) rfl (by decide) (by decide) rfl (fun ls hl1 => ?_)
  refine lv_goto (tgt := 28) hx hb d_Tokens_append_58 (by decide) ?_
  refine lv_iload hx hb d_Tokens_append_28 (lv_at hl1 0 rfl) ?_
  refine lv_iload_n hx hb d_Tokens_append_30 rfl (lv_at hl1 3 rfl) ?_
  refine lv_icmp_ge (tgt := 61) hx hb d_Tokens_append_31 (by decide) (fun c_19 => ?_) (fun c_19 => ?_)
  · first | exact absurd c_19 (by decide) | exact absurd (by decide) c_19
  refine lv_aload_n hx hb d_Tokens_append_34 rfl (lv_at hl1 1 rfl) ?_
  refine va_get (D := D) (ci := 9) (v := .ref h2) (C := R_Tokens) (T := F_Tokens) (N := 8) hx hb hts i_Tokens hown hK.1 hP 0 rfl rfl 0 (by decide) (hts _ wd_40) (fun _ h9 => h9) rfl d_Tokens_append_35 ?_
  refine lv_aload_n hx hb d_Tokens_append_38 rfl (lv_at hl1 1 rfl) ?_
  refine va_get (D := D) (ci := 9) (v := .int 0) (C := R_Tokens) (T := F_Tokens) (N := 8) hx hb hts i_Tokens hown hK.1 hP 0 rfl rfl 2 (by decide) (hts _ wd_42) (fun _ h9 => h9) rfl d_Tokens_append_39 ?_
  refine lv_iload hx hb d_Tokens_append_42 (lv_at hl1 0 rfl) ?_
  refine lv_iadd hx hb d_Tokens_append_44 ?_
  refine lv_topi (fun z_20 ez_20 => ?_)
  have ez_20 : z_20 = 2 := ez_20.trans (by first | rfl | decide)
  subst ez_20
  refine lv_lload_n hx hb d_Tokens_append_45 rfl (lv_at hl1 2 rfl) ?_
  refine lv_bipush (v := 8) hx hb d_Tokens_append_46 (by decide) ?_
  refine lv_iload hx hb d_Tokens_append_48 (lv_at hl1 0 rfl) ?_
  refine lv_imul hx hb d_Tokens_append_50 ?_
  refine lv_topi (fun z_21 ez_21 => ?_)
  have ez_21 : z_21 = 16 := ez_21.trans (by first | rfl | decide)
  subst ez_21
  refine lv_lushr hx hb d_Tokens_append_51 rfl ?_
  refine lv_topl (fun z_22 ez_22 => ?_)
  refine lv_l2i hx hb d_Tokens_append_52 rfl ?_
  refine lv_topi (fun z_23 ez_23 => ?_)
  refine lv_i2b hx hb d_Tokens_append_53 rfl ?_
  refine lv_topi (fun z_24 ez_24 => ?_)
  refine va_bast hx hb hK.1 hP hD hS 1 1 rfl rfl (by unfold vp_in; decide) d_Tokens_append_54 (fun H_25 locs hP hD hS => ?_)
  have hP : va_P D classes [(h1, .inr (9, [.ref h2, .ref h3, .int 0, .int 0, .int 0, .int (-1), .int 0, .int 0])), (h2, .inl (ax 1, 400, .inl (upd (upd (upd (fun _ => 0) 0 (vp_nar .byte z_10)) 1 (vp_nar .byte z_17)) 2 (vp_nar .byte z_24)))), (h3, .inl (ax 0, 401, .inl (fun _ => 0)))] H_25 := hP
  have hD : va_D A [(h1, .inr (9, [.ref h2, .ref h3, .int 0, .int 0, .int 0, .int (-1), .int 0, .int 0])), (h2, .inl (ax 1, 400, .inl (upd (upd (upd (fun _ => 0) 0 (vp_nar .byte z_10)) 1 (vp_nar .byte z_17)) 2 (vp_nar .byte z_24)))), (h3, .inl (ax 0, 401, .inl (fun _ => 0)))] := hD
  refine lv_iinc (v := 3) (lv' := [(4, .int 3), (0, .ref h1), (1, .long w), (3, .int 3)]) hx hb d_Tokens_append_55 hl1 (k := 0) rfl (by decide) (by decide) rfl (fun ls hl1 => ?_)
  refine lv_goto (tgt := 28) hx hb d_Tokens_append_58 (by decide) ?_
  refine lv_iload hx hb d_Tokens_append_28 (lv_at hl1 0 rfl) ?_
  refine lv_iload_n hx hb d_Tokens_append_30 rfl (lv_at hl1 3 rfl) ?_
  refine lv_icmp_ge (tgt := 61) hx hb d_Tokens_append_31 (by decide) (fun c_26 => ?_) (fun c_26 => ?_)
  rotate_left
  · first | exact absurd c_26 (by decide) | exact absurd (by decide) c_26
  refine lv_aload_n hx hb d_Tokens_append_61 rfl (lv_at hl1 1 rfl) ?_
  refine lv_dup hx hb d_Tokens_append_62 rfl ?_
  refine va_get (D := D) (ci := 9) (v := .int 0) (C := R_Tokens) (T := F_Tokens) (N := 8) hx hb hts i_Tokens hown hK.1 hP 0 rfl rfl 2 (by decide) (hts _ wd_42) (fun _ h9 => h9) rfl d_Tokens_append_63 ?_
  refine lv_iload_n hx hb d_Tokens_append_66 rfl (lv_at hl1 3 rfl) ?_
  refine lv_iadd hx hb d_Tokens_append_67 ?_
  refine lv_topi (fun z_27 ez_27 => ?_)
  have ez_27 : z_27 = 3 := ez_27.trans (by first | rfl | decide)
  subst ez_27
  refine va_put (D := D) (ci := 9) (v := .int 3) (ty := .int) (C := R_Tokens) (T := F_Tokens) (N := 8) hx hb hts i_Tokens t_Tokens t_Tokens_ok n_Tokens hown hK.1 hP hD hS 0 rfl rfl 2 (by decide) (hts _ wd_42) (fun _ h9 => h9) rfl (by decide +kernel) rfl rfl (Nat.le_of_ble_eq_true rfl) d_Tokens_append_68 (fun H_28 locs hP hD hS => ?_)
  have hP : va_P D classes [(h1, .inr (9, [.ref h2, .ref h3, .int 3, .int 0, .int 0, .int (-1), .int 0, .int 0])), (h2, .inl (ax 1, 400, .inl (upd (upd (upd (fun _ => 0) 0 (vp_nar .byte z_10)) 1 (vp_nar .byte z_17)) 2 (vp_nar .byte z_24)))), (h3, .inl (ax 0, 401, .inl (fun _ => 0)))] H_28 := hP
  have hD : va_D A [(h1, .inr (9, [.ref h2, .ref h3, .int 3, .int 0, .int 0, .int (-1), .int 0, .int 0])), (h2, .inl (ax 1, 400, .inl (upd (upd (upd (fun _ => 0) 0 (vp_nar .byte z_10)) 1 (vp_nar .byte z_17)) 2 (vp_nar .byte z_24)))), (h3, .inl (ax 0, 401, .inl (fun _ => 0)))] := hD
  refine lv_iconst (v := 1) hx hb d_Tokens_append_71 (by decide) ?_
  exact W.zret (v := 1) hx hb hr rfl (fun t ht hW => ⟨⟨1, fun _ => 0, rfl, rfl, trivial⟩, hS.F ht⟩) hS.2.2 d_Tokens_append_72
set_option maxHeartbeats 4000000 in
set_option maxRecDepth 100000 in
theorem c_Desk_type_3 (l : Launch) (D : va_G) (ax : Nat → ClassId) (d0 d1 d2 d3 d4 d5 d6 d7 d8 d9 d10 d11 d12 : Nat) (e1 e2 : Nat) (w : Int64) (sz : Nat) : Met l y_Desk_type (xws (.code y_Desk_type b_Desk_type 4 (some .boolean))) ({ frames := 20, cells := 0, slots := 0, locals := 800 }) (va_Pc [.ref d0, .long w, .int 3] (xo D ax [(d0, .inr (10, [.ref d1, .ref d2, .ref d3, .ref d4, .ref d5, .ref d6, .ref d7, .ref d8, .ref d9, .ref d10, .ref d11, .ref d12, .int 0])), (d1, .inr (9, [.ref e1, .ref e2, .int 0, .int 0, .int 0, .int (-1), .int 0, .int 0])), (e1, .inl (ax 1, 400, .inl (fun _ => 0))), (e2, .inl (ax 0, 401, .inl (fun _ => 0)))] sz)) ((va_Qi (fun (r : Int32) (u : Nat → Nat) => r = 1) (fun (_ : Nat → Nat) (_ : State) => True) (va_A [(d0, .inr (10, [.ref d1, .ref d2, .ref d3, .ref d4, .ref d5, .ref d6, .ref d7, .ref d8, .ref d9, .ref d10, .ref d11, .ref d12, .int 0])), (d1, .inr (9, [.ref e1, .ref e2, .int 0, .int 0, .int 0, .int (-1), .int 0, .int 0])), (e1, .inl (ax 1, 400, .inl (fun _ => 0))), (e2, .inl (ax 0, 401, .inl (fun _ => 0)))] sz))) 0 0 (va_A [(d0, .inr (10, [.ref d1, .ref d2, .ref d3, .ref d4, .ref d5, .ref d6, .ref d7, .ref d8, .ref d9, .ref d10, .ref d11, .ref d12, .int 0])), (d1, .inr (9, [.ref e1, .ref e2, .int 0, .int 0, .int 0, .int (-1), .int 0, .int 0])), (e1, .inl (ax 1, 400, .inl (fun _ => 0))), (e2, .inl (ax 0, 401, .inl (fun _ => 0)))] sz) := by
  refine Met.ofW (cc := b_Desk_type) (maxL := 4) (ret := (some .boolean)) (by decide) rfl ?_
  intro p e s m args below meth c s₁ B hml hv
  obtain ⟨rfl, hsz, hP, hK, hD0⟩ := hv
  have hx := B.exec
  have hb := B.bytes
  have hr := B.returns
  have hts := xw_hts B.pre
  have hown : s.vm.findClass R_Desk = some m.cls := findClass_of_methodNamed B.named
  have hlocks := B.notSynchronized
  subst hsz
  have hD := hD0.self (sz := s.heap.size)
  have hN := xz_entry hP
  generalize hAe : va_A [(d0, .inr (10, [.ref d1, .ref d2, .ref d3, .ref d4, .ref d5, .ref d6, .ref d7, .ref d8, .ref d9, .ref d10, .ref d11, .ref d12, .int 0])), (d1, .inr (9, [.ref e1, .ref e2, .int 0, .int 0, .int 0, .int (-1), .int 0, .int 0])), (e1, .inl (ax 1, 400, .inl (fun _ => 0))), (e2, .inl (ax 0, 401, .inl (fun _ => 0)))] s.heap.size = A at hD hN ⊢
  have hA : ∀ q : Nat, s.heap.size ≤ q → A q := fun q h => by rw [← hAe]; exact Or.inr h
  have hS : va_S A s.heap s.heap [] := va_S.rf
  have hl0 := lv_entry ([.ref d0, .long w, .int 3]) (n := 4) (Nat.le_of_ble_eq_true rfl)
  rw [lg_entry_eq]
  generalize (lg_sl ([.ref d0, .long w, .int 3]) ++ List.replicate (4 - (lg_sl ([.ref d0, .long w, .int 3])).length) Slot.unset).toArray = ls at hl0 ⊢
  have hl1 : lv_has ls 4 [(0, .ref d0), (1, .long w), (3, .int 3)] := hl0
  refine lv_aload_n hx hb d_Desk_type_0 rfl (lv_at hl1 0 rfl) ?_
  refine va_get (D := D) (ci := 10) (v := .ref d1) (C := R_Desk) (T := F_Desk) (N := 13) hx hb hts i_Desk hown hK.1 hP 0 rfl rfl 0 (by decide) (hts _ wd_375) (fun _ h9 => h9) rfl d_Desk_type_1 ?_
  refine lv_lload_n hx hb d_Desk_type_4 rfl (lv_at hl1 1 rfl) ?_
  refine lv_iload_n hx hb d_Desk_type_5 rfl (lv_at hl1 2 rfl) ?_
  have hPc := hP.sub (ws' := [(d1, .inr (9, [.ref e1, .ref e2, .int 0, .int 0, .int 0, .int (-1), .int 0, .int 0])), (e1, .inl (ax 1, 400, .inl (fun _ => 0))), (e2, .inl (ax 0, 401, .inl (fun _ => 0)))]) [1, 2, 3] rfl
  have hDc := hD.sub (ws' := [(d1, .inr (9, [.ref e1, .ref e2, .int 0, .int 0, .int 0, .int (-1), .int 0, .int 0])), (e1, .inl (ax 1, 400, .inl (fun _ => 0))), (e2, .inl (ax 0, 401, .inl (fun _ => 0)))]) [1, 2, 3] (by decide) rfl
  have hFc := va_free (wc := [(d1, .inr (9, [.ref e1, .ref e2, .int 0, .int 0, .int 0, .int (-1), .int 0, .int 0])), (e1, .inl (ax 1, 400, .inl (fun _ => 0))), (e2, .inl (ax 0, 401, .inl (fun _ => 0)))]) hD hS hA [1, 2, 3] rfl
  have hz := xz_of hN hS
  refine va_calli (va_runV (As := [.long w, .int 3]) (rest := []) ⟨hx, hb, hml, hown, hts⟩ (c_Tokens_append_3 l D ax d1 e1 e2 w s.heap.size) (xcV (n := 2) hts wd_422 wd_2 wd_419 wd_420 wd_421 rfl rfl (by decide +kernel) ⟨Nat.le_of_ble_eq_true rfl, Nat.le_of_ble_eq_true rfl⟩) (xpV (ci := 9) (q0 := 0) (As := [.long w, .int 3]) hPc hK hz hDc rfl rfl) rfl rfl hl1.1 rfl (lv_room (Nat.le_of_ble_eq_true rfl)) d_Desk_type_6 ⟨Nat.le_of_ble_eq_true rfl, Nat.le_of_ble_eq_true rfl⟩) hS (fun q _ h => hFc q h) hFc (fun r_3 u_1 t H_2 locs ht hvm hw hB hz1 hk1 hS => ?_)
  try dsimp only at hw
  subst hw
  obtain ⟨hP, hD⟩ := va_join (wr := [(d0, .inr (10, [.ref d1, .ref d2, .ref d3, .ref d4, .ref d5, .ref d6, .ref d7, .ref d8, .ref d9, .ref d10, .ref d11, .ref d12, .int 0]))]) (w1 := []) hP hD [1, 2, 3] [0] rfl rfl (by decide) (by decide) hk1 hFc x_nilP x_nilD
  have hP : va_P D classes [(d0, .inr (10, [.ref d1, .ref d2, .ref d3, .ref d4, .ref d5, .ref d6, .ref d7, .ref d8, .ref d9, .ref d10, .ref d11, .ref d12, .int 0]))] H_2 := hP
  have hD : va_D A [(d0, .inr (10, [.ref d1, .ref d2, .ref d3, .ref d4, .ref d5, .ref d6, .ref d7, .ref d8, .ref d9, .ref d10, .ref d11, .ref d12, .int 0]))] := hD
  exact W.zret (v := 1) hx hb hr rfl (fun t ht hW => ⟨⟨1, fun _ => 0, rfl, rfl, trivial⟩, hS.F ht⟩) hS.2.2 d_Desk_type_9
set_option maxHeartbeats 4000000 in
set_option maxRecDepth 100000 in
theorem c_Tokens_append_4 (l : Launch) (D : va_G) (ax : Nat → ClassId) (h1 h2 h3 : Nat) (w : Int64) (sz : Nat) : Met l y_Tokens_append (xws (.code y_Tokens_append b_Tokens_append 5 (some .boolean))) ({ frames := 10, cells := 0, slots := 0, locals := 400 }) (va_Pc [.ref h1, .long w, .int 4] (xo D ax [(h1, .inr (9, [.ref h2, .ref h3, .int 0, .int 0, .int 0, .int (-1), .int 0, .int 0])), (h2, .inl (ax 1, 400, .inl (fun _ => 0))), (h3, .inl (ax 0, 401, .inl (fun _ => 0)))] sz)) ((va_Qi (fun (r : Int32) (u : Nat → Nat) => r = 1) (fun (_ : Nat → Nat) (_ : State) => True) (va_A [(h1, .inr (9, [.ref h2, .ref h3, .int 0, .int 0, .int 0, .int (-1), .int 0, .int 0])), (h2, .inl (ax 1, 400, .inl (fun _ => 0))), (h3, .inl (ax 0, 401, .inl (fun _ => 0)))] sz))) 0 0 (va_A [(h1, .inr (9, [.ref h2, .ref h3, .int 0, .int 0, .int 0, .int (-1), .int 0, .int 0])), (h2, .inl (ax 1, 400, .inl (fun _ => 0))), (h3, .inl (ax 0, 401, .inl (fun _ => 0)))] sz) := by
  refine Met.ofW (cc := b_Tokens_append) (maxL := 5) (ret := (some .boolean)) (by decide) rfl ?_
  intro p e s m args below meth c s₁ B hml hv
  obtain ⟨rfl, hsz, hP, hK, hD0⟩ := hv
  have hx := B.exec
  have hb := B.bytes
  have hr := B.returns
  have hts := xw_hts B.pre
  have hown : s.vm.findClass R_Tokens = some m.cls := findClass_of_methodNamed B.named
  have hlocks := B.notSynchronized
  subst hsz
  have hD := hD0.self (sz := s.heap.size)
  have hN := xz_entry hP
  generalize hAe : va_A [(h1, .inr (9, [.ref h2, .ref h3, .int 0, .int 0, .int 0, .int (-1), .int 0, .int 0])), (h2, .inl (ax 1, 400, .inl (fun _ => 0))), (h3, .inl (ax 0, 401, .inl (fun _ => 0)))] s.heap.size = A at hD hN ⊢
  have hA : ∀ q : Nat, s.heap.size ≤ q → A q := fun q h => by rw [← hAe]; exact Or.inr h
  have hS : va_S A s.heap s.heap [] := va_S.rf
  have hl0 := lv_entry ([.ref h1, .long w, .int 4]) (n := 5) (Nat.le_of_ble_eq_true rfl)
  rw [lg_entry_eq]
  generalize (lg_sl ([.ref h1, .long w, .int 4]) ++ List.replicate (5 - (lg_sl ([.ref h1, .long w, .int 4])).length) Slot.unset).toArray = ls at hl0 ⊢
  have hl1 : lv_has ls 5 [(0, .ref h1), (1, .long w), (3, .int 4)] := hl0
  refine lv_iload_n hx hb d_Tokens_append_0 rfl (lv_at hl1 2 rfl) ?_
  refine lv_iconst (v := 1) hx hb d_Tokens_append_1 (by decide) ?_
  refine lv_icmp_lt (tgt := 23) hx hb d_Tokens_append_2 (by decide) (fun c_1 => ?_) (fun c_1 => ?_)
  · first | exact absurd c_1 (by decide) | exact absurd (by decide) c_1
  refine lv_iload_n hx hb d_Tokens_append_5 rfl (lv_at hl1 2 rfl) ?_
  refine lv_bipush (v := 8) hx hb d_Tokens_append_6 (by decide) ?_
  refine lv_icmp_gt (tgt := 23) hx hb d_Tokens_append_8 (by decide) (fun c_2 => ?_) (fun c_2 => ?_)
  · first | exact absurd c_2 (by decide) | exact absurd (by decide) c_2
  refine lv_aload_n hx hb d_Tokens_append_11 rfl (lv_at hl1 0 rfl) ?_
  refine va_get (D := D) (ci := 9) (v := .int 0) (C := R_Tokens) (T := F_Tokens) (N := 8) hx hb hts i_Tokens hown hK.1 hP 0 rfl rfl 2 (by decide) (hts _ wd_42) (fun _ h9 => h9) rfl d_Tokens_append_12 ?_
  refine lv_iload_n hx hb d_Tokens_append_15 rfl (lv_at hl1 2 rfl) ?_
  refine lv_iadd hx hb d_Tokens_append_16 ?_
  refine lv_topi (fun z_3 ez_3 => ?_)
  have ez_3 : z_3 = 4 := ez_3.trans (by first | rfl | decide)
  subst ez_3
  refine lv_sipush (v := 400) hx hb d_Tokens_append_17 (by decide) ?_
  refine lv_icmp_le (tgt := 25) hx hb d_Tokens_append_20 (by decide) (fun c_4 => ?_) (fun c_4 => ?_)
  rotate_left
  · first | exact absurd c_4 (by decide) | exact absurd (by decide) c_4
  refine lv_iconst (v := 0) hx hb d_Tokens_append_25 (by decide) ?_
  refine lv_istore (lv' := [(4, .int 0), (0, .ref h1), (1, .long w), (3, .int 4)]) hx hb d_Tokens_append_26 hl1 (by decide) rfl (fun ls hl1 => ?_)
  refine lv_iload hx hb d_Tokens_append_28 (lv_at hl1 0 rfl) ?_
  refine lv_iload_n hx hb d_Tokens_append_30 rfl (lv_at hl1 3 rfl) ?_
  refine lv_icmp_ge (tgt := 61) hx hb d_Tokens_append_31 (by decide) (fun c_5 => ?_) (fun c_5 => ?_)
  · first | exact absurd c_5 (by decide) | exact absurd (by decide) c_5
  refine lv_aload_n hx hb d_Tokens_append_34 rfl (lv_at hl1 1 rfl) ?_
  refine va_get (D := D) (ci := 9) (v := .ref h2) (C := R_Tokens) (T := F_Tokens) (N := 8) hx hb hts i_Tokens hown hK.1 hP 0 rfl rfl 0 (by decide) (hts _ wd_40) (fun _ h9 => h9) rfl d_Tokens_append_35 ?_
  refine lv_aload_n hx hb d_Tokens_append_38 rfl (lv_at hl1 1 rfl) ?_
  refine va_get (D := D) (ci := 9) (v := .int 0) (C := R_Tokens) (T := F_Tokens) (N := 8) hx hb hts i_Tokens hown hK.1 hP 0 rfl rfl 2 (by decide) (hts _ wd_42) (fun _ h9 => h9) rfl d_Tokens_append_39 ?_
  refine lv_iload hx hb d_Tokens_append_42 (lv_at hl1 0 rfl) ?_
  refine lv_iadd hx hb d_Tokens_append_44 ?_
  refine lv_topi (fun z_6 ez_6 => ?_)
  have ez_6 : z_6 = 0 := ez_6.trans (by first | rfl | decide)
  subst ez_6
  refine lv_lload_n hx hb d_Tokens_append_45 rfl (lv_at hl1 2 rfl) ?_
  refine lv_bipush (v := 8) hx hb d_Tokens_append_46 (by decide) ?_
  refine lv_iload hx hb d_Tokens_append_48 (lv_at hl1 0 rfl) ?_
  refine lv_imul hx hb d_Tokens_append_50 ?_
  refine lv_topi (fun z_7 ez_7 => ?_)
  have ez_7 : z_7 = 0 := ez_7.trans (by first | rfl | decide)
  subst ez_7
  refine lv_lushr hx hb d_Tokens_append_51 rfl ?_
  refine lv_topl (fun z_8 ez_8 => ?_)
  refine lv_l2i hx hb d_Tokens_append_52 rfl ?_
  refine lv_topi (fun z_9 ez_9 => ?_)
  refine lv_i2b hx hb d_Tokens_append_53 rfl ?_
  refine lv_topi (fun z_10 ez_10 => ?_)
  refine va_bast hx hb hK.1 hP hD hS 1 1 rfl rfl (by unfold vp_in; decide) d_Tokens_append_54 (fun H_11 locs hP hD hS => ?_)
  have hP : va_P D classes [(h1, .inr (9, [.ref h2, .ref h3, .int 0, .int 0, .int 0, .int (-1), .int 0, .int 0])), (h2, .inl (ax 1, 400, .inl (upd (fun _ => 0) 0 (vp_nar .byte z_10)))), (h3, .inl (ax 0, 401, .inl (fun _ => 0)))] H_11 := hP
  have hD : va_D A [(h1, .inr (9, [.ref h2, .ref h3, .int 0, .int 0, .int 0, .int (-1), .int 0, .int 0])), (h2, .inl (ax 1, 400, .inl (upd (fun _ => 0) 0 (vp_nar .byte z_10)))), (h3, .inl (ax 0, 401, .inl (fun _ => 0)))] := hD
  refine lv_iinc (v := 1) (lv' := [(4, .int 1), (0, .ref h1), (1, .long w), (3, .int 4)]) hx hb d_Tokens_append_55 hl1 (k := 0) rfl (by decide) (by decide) rfl (fun ls hl1 => ?_)
  refine lv_goto (tgt := 28) hx hb d_Tokens_append_58 (by decide) ?_
  refine lv_iload hx hb d_Tokens_append_28 (lv_at hl1 0 rfl) ?_
  refine lv_iload_n hx hb d_Tokens_append_30 rfl (lv_at hl1 3 rfl) ?_
  refine lv_icmp_ge (tgt := 61) hx hb d_Tokens_append_31 (by decide) (fun c_12 => ?_) (fun c_12 => ?_)
  · first | exact absurd c_12 (by decide) | exact absurd (by decide) c_12
  refine lv_aload_n hx hb d_Tokens_append_34 rfl (lv_at hl1 1 rfl) ?_
  refine va_get (D := D) (ci := 9) (v := .ref h2) (C := R_Tokens) (T := F_Tokens) (N := 8) hx hb hts i_Tokens hown hK.1 hP 0 rfl rfl 0 (by decide) (hts _ wd_40) (fun _ h9 => h9) rfl d_Tokens_append_35 ?_
  refine lv_aload_n hx hb d_Tokens_append_38 rfl (lv_at hl1 1 rfl) ?_
  refine va_get (D := D) (ci := 9) (v := .int 0) (C := R_Tokens) (T := F_Tokens) (N := 8) hx hb hts i_Tokens hown hK.1 hP 0 rfl rfl 2 (by decide) (hts _ wd_42) (fun _ h9 => h9) rfl d_Tokens_append_39 ?_
  refine lv_iload hx hb d_Tokens_append_42 (lv_at hl1 0 rfl) ?_
  refine lv_iadd hx hb d_Tokens_append_44 ?_
  refine lv_topi (fun z_13 ez_13 => ?_)
  have ez_13 : z_13 = 1 := ez_13.trans (by first | rfl | decide)
  subst ez_13
  refine lv_lload_n hx hb d_Tokens_append_45 rfl (lv_at hl1 2 rfl) ?_
  refine lv_bipush (v := 8) hx hb d_Tokens_append_46 (by decide) ?_
  refine lv_iload hx hb d_Tokens_append_48 (lv_at hl1 0 rfl) ?_
  refine lv_imul hx hb d_Tokens_append_50 ?_
  refine lv_topi (fun z_14 ez_14 => ?_)
  have ez_14 : z_14 = 8 := ez_14.trans (by first | rfl | decide)
  subst ez_14
  refine lv_lushr hx hb d_Tokens_append_51 rfl ?_
  refine lv_topl (fun z_15 ez_15 => ?_)
  refine lv_l2i hx hb d_Tokens_append_52 rfl ?_
  refine lv_topi (fun z_16 ez_16 => ?_)
  refine lv_i2b hx hb d_Tokens_append_53 rfl ?_
  refine lv_topi (fun z_17 ez_17 => ?_)
  refine va_bast hx hb hK.1 hP hD hS 1 1 rfl rfl (by unfold vp_in; decide) d_Tokens_append_54 (fun H_18 locs hP hD hS => ?_)
  have hP : va_P D classes [(h1, .inr (9, [.ref h2, .ref h3, .int 0, .int 0, .int 0, .int (-1), .int 0, .int 0])), (h2, .inl (ax 1, 400, .inl (upd (upd (fun _ => 0) 0 (vp_nar .byte z_10)) 1 (vp_nar .byte z_17)))), (h3, .inl (ax 0, 401, .inl (fun _ => 0)))] H_18 := hP
  have hD : va_D A [(h1, .inr (9, [.ref h2, .ref h3, .int 0, .int 0, .int 0, .int (-1), .int 0, .int 0])), (h2, .inl (ax 1, 400, .inl (upd (upd (fun _ => 0) 0 (vp_nar .byte z_10)) 1 (vp_nar .byte z_17)))), (h3, .inl (ax 0, 401, .inl (fun _ => 0)))] := hD
  refine lv_iinc (v := 2) (lv' := [(4, .int 2), (0, .ref h1), (1, .long w), (3, .int 4)]) hx hb d_Tokens_append_55 hl1 (k := 0) rfl (by decide) (by decide) rfl (fun ls hl1 => ?_)
  refine lv_goto (tgt := 28) hx hb d_Tokens_append_58 (by decide) ?_
  refine lv_iload hx hb d_Tokens_append_28 (lv_at hl1 0 rfl) ?_
  refine lv_iload_n hx hb d_Tokens_append_30 rfl (lv_at hl1 3 rfl) ?_
  refine lv_icmp_ge (tgt := 61) hx hb d_Tokens_append_31 (by decide) (fun c_19 => ?_) (fun c_19 => ?_)
  · first | exact absurd c_19 (by decide) | exact absurd (by decide) c_19
  refine lv_aload_n hx hb d_Tokens_append_34 rfl (lv_at hl1 1 rfl) ?_
  refine va_get (D := D) (ci := 9) (v := .ref h2) (C := R_Tokens) (T := F_Tokens) (N := 8) hx hb hts i_Tokens hown hK.1 hP 0 rfl rfl 0 (by decide) (hts _ wd_40) (fun _ h9 => h9) rfl d_Tokens_append_35 ?_
  refine lv_aload_n hx hb d_Tokens_append_38 rfl (lv_at hl1 1 rfl) ?_
  refine va_get (D := D) (ci := 9) (v := .int 0) (C := R_Tokens) (T := F_Tokens) (N := 8) hx hb hts i_Tokens hown hK.1 hP 0 rfl rfl 2 (by decide) (hts _ wd_42) (fun _ h9 => h9) rfl d_Tokens_append_39 ?_
  refine lv_iload hx hb d_Tokens_append_42 (lv_at hl1 0 rfl) ?_
  refine lv_iadd hx hb d_Tokens_append_44 ?_
  refine lv_topi (fun z_20 ez_20 => ?_)
  have ez_20 : z_20 = 2 := ez_20.trans (by first | rfl | decide)
  subst ez_20
  refine lv_lload_n hx hb d_Tokens_append_45 rfl (lv_at hl1 2 rfl) ?_
  refine lv_bipush (v := 8) hx hb d_Tokens_append_46 (by decide) ?_
  refine lv_iload hx hb d_Tokens_append_48 (lv_at hl1 0 rfl) ?_
  refine lv_imul hx hb d_Tokens_append_50 ?_
  refine lv_topi (fun z_21 ez_21 => ?_)
  have ez_21 : z_21 = 16 := ez_21.trans (by first | rfl | decide)
  subst ez_21
  refine lv_lushr hx hb d_Tokens_append_51 rfl ?_
  refine lv_topl (fun z_22 ez_22 => ?_)
  refine lv_l2i hx hb d_Tokens_append_52 rfl ?_
  refine lv_topi (fun z_23 ez_23 => ?_)
  refine lv_i2b hx hb d_Tokens_append_53 rfl ?_
  refine lv_topi (fun z_24 ez_24 => ?_)
  refine va_bast hx hb hK.1 hP hD hS 1 1 rfl rfl (by unfold vp_in; decide) d_Tokens_append_54 (fun H_25 locs hP hD hS => ?_)
  have hP : va_P D classes [(h1, .inr (9, [.ref h2, .ref h3, .int 0, .int 0, .int 0, .int (-1), .int 0, .int 0])), (h2, .inl (ax 1, 400, .inl (upd (upd (upd (fun _ => 0) 0 (vp_nar .byte z_10)) 1 (vp_nar .byte z_17)) 2 (vp_nar .byte z_24)))), (h3, .inl (ax 0, 401, .inl (fun _ => 0)))] H_25 := hP
  have hD : va_D A [(h1, .inr (9, [.ref h2, .ref h3, .int 0, .int 0, .int 0, .int (-1), .int 0, .int 0])), (h2, .inl (ax 1, 400, .inl (upd (upd (upd (fun _ => 0) 0 (vp_nar .byte z_10)) 1 (vp_nar .byte z_17)) 2 (vp_nar .byte z_24)))), (h3, .inl (ax 0, 401, .inl (fun _ => 0)))] := hD
  refine lv_iinc (v := 3) (lv' := [(4, .int 3), (0, .ref h1), (1, .long w), (3, .int 4)]) hx hb d_Tokens_append_55 hl1 (k := 0) rfl (by decide) (by decide) rfl (fun ls hl1 => ?_)
  refine lv_goto (tgt := 28) hx hb d_Tokens_append_58 (by decide) ?_
  refine lv_iload hx hb d_Tokens_append_28 (lv_at hl1 0 rfl) ?_
  refine lv_iload_n hx hb d_Tokens_append_30 rfl (lv_at hl1 3 rfl) ?_
  refine lv_icmp_ge (tgt := 61) hx hb d_Tokens_append_31 (by decide) (fun c_26 => ?_) (fun c_26 => ?_)
  · first | exact absurd c_26 (by decide) | exact absurd (by decide) c_26
  refine lv_aload_n hx hb d_Tokens_append_34 rfl (lv_at hl1 1 rfl) ?_
  refine va_get (D := D) (ci := 9) (v := .ref h2) (C := R_Tokens) (T := F_Tokens) (N := 8) hx hb hts i_Tokens hown hK.1 hP 0 rfl rfl 0 (by decide) (hts _ wd_40) (fun _ h9 => h9) rfl d_Tokens_append_35 ?_
  refine lv_aload_n hx hb d_Tokens_append_38 rfl (lv_at hl1 1 rfl) ?_
  refine va_get (D := D) (ci := 9) (v := .int 0) (C := R_Tokens) (T := F_Tokens) (N := 8) hx hb hts i_Tokens hown hK.1 hP 0 rfl rfl 2 (by decide) (hts _ wd_42) (fun _ h9 => h9) rfl d_Tokens_append_39 ?_
  refine lv_iload hx hb d_Tokens_append_42 (lv_at hl1 0 rfl) ?_
  refine lv_iadd hx hb d_Tokens_append_44 ?_
  refine lv_topi (fun z_27 ez_27 => ?_)
  have ez_27 : z_27 = 3 := ez_27.trans (by first | rfl | decide)
  subst ez_27
  refine lv_lload_n hx hb d_Tokens_append_45 rfl (lv_at hl1 2 rfl) ?_
  refine lv_bipush (v := 8) hx hb d_Tokens_append_46 (by decide) ?_
  refine lv_iload hx hb d_Tokens_append_48 (lv_at hl1 0 rfl) ?_
  refine lv_imul hx hb d_Tokens_append_50 ?_
  refine lv_topi (fun z_28 ez_28 => ?_)
  have ez_28 : z_28 = 24 := ez_28.trans (by first | rfl | decide)
  subst ez_28
  refine lv_lushr hx hb d_Tokens_append_51 rfl ?_
  refine lv_topl (fun z_29 ez_29 => ?_)
  refine lv_l2i hx hb d_Tokens_append_52 rfl ?_
  refine lv_topi (fun z_30 ez_30 => ?_)
  refine lv_i2b hx hb d_Tokens_append_53 rfl ?_
  refine lv_topi (fun z_31 ez_31 => ?_)
  refine va_bast hx hb hK.1 hP hD hS 1 1 rfl rfl (by unfold vp_in; decide) d_Tokens_append_54 (fun H_32 locs hP hD hS => ?_)
  have hP : va_P D classes [(h1, .inr (9, [.ref h2, .ref h3, .int 0, .int 0, .int 0, .int (-1), .int 0, .int 0])), (h2, .inl (ax 1, 400, .inl (upd (upd (upd (upd (fun _ => 0) 0 (vp_nar .byte z_10)) 1 (vp_nar .byte z_17)) 2 (vp_nar .byte z_24)) 3 (vp_nar .byte z_31)))), (h3, .inl (ax 0, 401, .inl (fun _ => 0)))] H_32 := hP
  have hD : va_D A [(h1, .inr (9, [.ref h2, .ref h3, .int 0, .int 0, .int 0, .int (-1), .int 0, .int 0])), (h2, .inl (ax 1, 400, .inl (upd (upd (upd (upd (fun _ => 0) 0 (vp_nar .byte z_10)) 1 (vp_nar .byte z_17)) 2 (vp_nar .byte z_24)) 3 (vp_nar .byte z_31)))), (h3, .inl (ax 0, 401, .inl (fun _ => 0)))] := hD
  refine lv_iinc (v := 4) (lv' := [(4, .int 4), (0, .ref h1), (1, .long w), (3, .int 4)]) hx hb d_Tokens_append_55 hl1 (k := 0) rfl (by decide) (by decide) rfl (fun ls hl1 => ?_)
  refine lv_goto (tgt := 28) hx hb d_Tokens_append_58 (by decide) ?_
  refine lv_iload hx hb d_Tokens_append_28 (lv_at hl1 0 rfl) ?_
  refine lv_iload_n hx hb d_Tokens_append_30 rfl (lv_at hl1 3 rfl) ?_
  refine lv_icmp_ge (tgt := 61) hx hb d_Tokens_append_31 (by decide) (fun c_33 => ?_) (fun c_33 => ?_)
  rotate_left
  · first | exact absurd c_33 (by decide) | exact absurd (by decide) c_33
  refine lv_aload_n hx hb d_Tokens_append_61 rfl (lv_at hl1 1 rfl) ?_
  refine lv_dup hx hb d_Tokens_append_62 rfl ?_
  refine va_get (D := D) (ci := 9) (v := .int 0) (C := R_Tokens) (T := F_Tokens) (N := 8) hx hb hts i_Tokens hown hK.1 hP 0 rfl rfl 2 (by decide) (hts _ wd_42) (fun _ h9 => h9) rfl d_Tokens_append_63 ?_
  refine lv_iload_n hx hb d_Tokens_append_66 rfl (lv_at hl1 3 rfl) ?_
  refine lv_iadd hx hb d_Tokens_append_67 ?_
  refine lv_topi (fun z_34 ez_34 => ?_)
  have ez_34 : z_34 = 4 := ez_34.trans (by first | rfl | decide)
  subst ez_34
  refine va_put (D := D) (ci := 9) (v := .int 4) (ty := .int) (C := R_Tokens) (T := F_Tokens) (N := 8) hx hb hts i_Tokens t_Tokens t_Tokens_ok n_Tokens hown hK.1 hP hD hS 0 rfl rfl 2 (by decide) (hts _ wd_42) (fun _ h9 => h9) rfl (by decide +kernel) rfl rfl (Nat.le_of_ble_eq_true rfl) d_Tokens_append_68 (fun H_35 locs hP hD hS => ?_)
  have hP : va_P D classes [(h1, .inr (9, [.ref h2, .ref h3, .int 4, .int 0, .int 0, .int (-1), .int 0, .int 0])), (h2, .inl (ax 1, 400, .inl (upd (upd (upd (upd (fun _ => 0) 0 (vp_nar .byte z_10)) 1 (vp_nar .byte z_17)) 2 (vp_nar .byte z_24)) 3 (vp_nar .byte z_31)))), (h3, .inl (ax 0, 401, .inl (fun _ => 0)))] H_35 := hP
  have hD : va_D A [(h1, .inr (9, [.ref h2, .ref h3, .int 4, .int 0, .int 0, .int (-1), .int 0, .int 0])), (h2, .inl (ax 1, 400, .inl (upd (upd (upd (upd (fun _ => 0) 0 (vp_nar .byte z_10)) 1 (vp_nar .byte z_17)) 2 (vp_nar .byte z_24)) 3 (vp_nar .byte z_31)))), (h3, .inl (ax 0, 401, .inl (fun _ => 0)))] := hD
  refine lv_iconst (v := 1) hx hb d_Tokens_append_71 (by decide) ?_
  exact W.zret (v := 1) hx hb hr rfl (fun t ht hW => ⟨⟨1, fun _ => 0, rfl, rfl, trivial⟩, hS.F ht⟩) hS.2.2 d_Tokens_append_72
set_option maxHeartbeats 4000000 in
set_option maxRecDepth 100000 in
theorem c_Desk_type_4 (l : Launch) (D : va_G) (ax : Nat → ClassId) (d0 d1 d2 d3 d4 d5 d6 d7 d8 d9 d10 d11 d12 : Nat) (e1 e2 : Nat) (w : Int64) (sz : Nat) : Met l y_Desk_type (xws (.code y_Desk_type b_Desk_type 4 (some .boolean))) ({ frames := 20, cells := 0, slots := 0, locals := 800 }) (va_Pc [.ref d0, .long w, .int 4] (xo D ax [(d0, .inr (10, [.ref d1, .ref d2, .ref d3, .ref d4, .ref d5, .ref d6, .ref d7, .ref d8, .ref d9, .ref d10, .ref d11, .ref d12, .int 0])), (d1, .inr (9, [.ref e1, .ref e2, .int 0, .int 0, .int 0, .int (-1), .int 0, .int 0])), (e1, .inl (ax 1, 400, .inl (fun _ => 0))), (e2, .inl (ax 0, 401, .inl (fun _ => 0)))] sz)) ((va_Qi (fun (r : Int32) (u : Nat → Nat) => r = 1) (fun (_ : Nat → Nat) (_ : State) => True) (va_A [(d0, .inr (10, [.ref d1, .ref d2, .ref d3, .ref d4, .ref d5, .ref d6, .ref d7, .ref d8, .ref d9, .ref d10, .ref d11, .ref d12, .int 0])), (d1, .inr (9, [.ref e1, .ref e2, .int 0, .int 0, .int 0, .int (-1), .int 0, .int 0])), (e1, .inl (ax 1, 400, .inl (fun _ => 0))), (e2, .inl (ax 0, 401, .inl (fun _ => 0)))] sz))) 0 0 (va_A [(d0, .inr (10, [.ref d1, .ref d2, .ref d3, .ref d4, .ref d5, .ref d6, .ref d7, .ref d8, .ref d9, .ref d10, .ref d11, .ref d12, .int 0])), (d1, .inr (9, [.ref e1, .ref e2, .int 0, .int 0, .int 0, .int (-1), .int 0, .int 0])), (e1, .inl (ax 1, 400, .inl (fun _ => 0))), (e2, .inl (ax 0, 401, .inl (fun _ => 0)))] sz) := by
  refine Met.ofW (cc := b_Desk_type) (maxL := 4) (ret := (some .boolean)) (by decide) rfl ?_
  intro p e s m args below meth c s₁ B hml hv
  obtain ⟨rfl, hsz, hP, hK, hD0⟩ := hv
  have hx := B.exec
  have hb := B.bytes
  have hr := B.returns
  have hts := xw_hts B.pre
  have hown : s.vm.findClass R_Desk = some m.cls := findClass_of_methodNamed B.named
  have hlocks := B.notSynchronized
  subst hsz
  have hD := hD0.self (sz := s.heap.size)
  have hN := xz_entry hP
  generalize hAe : va_A [(d0, .inr (10, [.ref d1, .ref d2, .ref d3, .ref d4, .ref d5, .ref d6, .ref d7, .ref d8, .ref d9, .ref d10, .ref d11, .ref d12, .int 0])), (d1, .inr (9, [.ref e1, .ref e2, .int 0, .int 0, .int 0, .int (-1), .int 0, .int 0])), (e1, .inl (ax 1, 400, .inl (fun _ => 0))), (e2, .inl (ax 0, 401, .inl (fun _ => 0)))] s.heap.size = A at hD hN ⊢
  have hA : ∀ q : Nat, s.heap.size ≤ q → A q := fun q h => by rw [← hAe]; exact Or.inr h
  have hS : va_S A s.heap s.heap [] := va_S.rf
  have hl0 := lv_entry ([.ref d0, .long w, .int 4]) (n := 4) (Nat.le_of_ble_eq_true rfl)
  rw [lg_entry_eq]
  generalize (lg_sl ([.ref d0, .long w, .int 4]) ++ List.replicate (4 - (lg_sl ([.ref d0, .long w, .int 4])).length) Slot.unset).toArray = ls at hl0 ⊢
  have hl1 : lv_has ls 4 [(0, .ref d0), (1, .long w), (3, .int 4)] := hl0
  refine lv_aload_n hx hb d_Desk_type_0 rfl (lv_at hl1 0 rfl) ?_
  refine va_get (D := D) (ci := 10) (v := .ref d1) (C := R_Desk) (T := F_Desk) (N := 13) hx hb hts i_Desk hown hK.1 hP 0 rfl rfl 0 (by decide) (hts _ wd_375) (fun _ h9 => h9) rfl d_Desk_type_1 ?_
  refine lv_lload_n hx hb d_Desk_type_4 rfl (lv_at hl1 1 rfl) ?_
  refine lv_iload_n hx hb d_Desk_type_5 rfl (lv_at hl1 2 rfl) ?_
  have hPc := hP.sub (ws' := [(d1, .inr (9, [.ref e1, .ref e2, .int 0, .int 0, .int 0, .int (-1), .int 0, .int 0])), (e1, .inl (ax 1, 400, .inl (fun _ => 0))), (e2, .inl (ax 0, 401, .inl (fun _ => 0)))]) [1, 2, 3] rfl
  have hDc := hD.sub (ws' := [(d1, .inr (9, [.ref e1, .ref e2, .int 0, .int 0, .int 0, .int (-1), .int 0, .int 0])), (e1, .inl (ax 1, 400, .inl (fun _ => 0))), (e2, .inl (ax 0, 401, .inl (fun _ => 0)))]) [1, 2, 3] (by decide) rfl
  have hFc := va_free (wc := [(d1, .inr (9, [.ref e1, .ref e2, .int 0, .int 0, .int 0, .int (-1), .int 0, .int 0])), (e1, .inl (ax 1, 400, .inl (fun _ => 0))), (e2, .inl (ax 0, 401, .inl (fun _ => 0)))]) hD hS hA [1, 2, 3] rfl
  have hz := xz_of hN hS
  refine va_calli (va_runV (As := [.long w, .int 4]) (rest := []) ⟨hx, hb, hml, hown, hts⟩ (c_Tokens_append_4 l D ax d1 e1 e2 w s.heap.size) (xcV (n := 2) hts wd_422 wd_2 wd_419 wd_420 wd_421 rfl rfl (by decide +kernel) ⟨Nat.le_of_ble_eq_true rfl, Nat.le_of_ble_eq_true rfl⟩) (xpV (ci := 9) (q0 := 0) (As := [.long w, .int 4]) hPc hK hz hDc rfl rfl) rfl rfl hl1.1 rfl (lv_room (Nat.le_of_ble_eq_true rfl)) d_Desk_type_6 ⟨Nat.le_of_ble_eq_true rfl, Nat.le_of_ble_eq_true rfl⟩) hS (fun q _ h => hFc q h) hFc (fun r_3 u_1 t H_2 locs ht hvm hw hB hz1 hk1 hS => ?_)
  try dsimp only at hw
  subst hw
  obtain ⟨hP, hD⟩ := va_join (wr := [(d0, .inr (10, [.ref d1, .ref d2, .ref d3, .ref d4, .ref d5, .ref d6, .ref d7, .ref d8, .ref d9, .ref d10, .ref d11, .ref d12, .int 0]))]) (w1 := []) hP hD [1, 2, 3] [0] rfl rfl (by decide) (by decide) hk1 hFc x_nilP x_nilD
  have hP : va_P D classes [(d0, .inr (10, [.ref d1, .ref d2, .ref d3, .ref d4, .ref d5, .ref d6, .ref d7, .ref d8, .ref d9, .ref d10, .ref d11, .ref d12, .int 0]))] H_2 := hP
  have hD : va_D A [(d0, .inr (10, [.ref d1, .ref d2, .ref d3, .ref d4, .ref d5, .ref d6, .ref d7, .ref d8, .ref d9, .ref d10, .ref d11, .ref d12, .int 0]))] := hD
  exact W.zret (v := 1) hx hb hr rfl (fun t ht hW => ⟨⟨1, fun _ => 0, rfl, rfl, trivial⟩, hS.F ht⟩) hS.2.2 d_Desk_type_9
set_option maxHeartbeats 4000000 in
set_option maxRecDepth 100000 in
theorem c_Tokens_append_5 (l : Launch) (D : va_G) (ax : Nat → ClassId) (h1 h2 h3 : Nat) (w : Int64) (sz : Nat) : Met l y_Tokens_append (xws (.code y_Tokens_append b_Tokens_append 5 (some .boolean))) ({ frames := 10, cells := 0, slots := 0, locals := 400 }) (va_Pc [.ref h1, .long w, .int 5] (xo D ax [(h1, .inr (9, [.ref h2, .ref h3, .int 0, .int 0, .int 0, .int (-1), .int 0, .int 0])), (h2, .inl (ax 1, 400, .inl (fun _ => 0))), (h3, .inl (ax 0, 401, .inl (fun _ => 0)))] sz)) ((va_Qi (fun (r : Int32) (u : Nat → Nat) => r = 1) (fun (_ : Nat → Nat) (_ : State) => True) (va_A [(h1, .inr (9, [.ref h2, .ref h3, .int 0, .int 0, .int 0, .int (-1), .int 0, .int 0])), (h2, .inl (ax 1, 400, .inl (fun _ => 0))), (h3, .inl (ax 0, 401, .inl (fun _ => 0)))] sz))) 0 0 (va_A [(h1, .inr (9, [.ref h2, .ref h3, .int 0, .int 0, .int 0, .int (-1), .int 0, .int 0])), (h2, .inl (ax 1, 400, .inl (fun _ => 0))), (h3, .inl (ax 0, 401, .inl (fun _ => 0)))] sz) := by
  refine Met.ofW (cc := b_Tokens_append) (maxL := 5) (ret := (some .boolean)) (by decide) rfl ?_
  intro p e s m args below meth c s₁ B hml hv
  obtain ⟨rfl, hsz, hP, hK, hD0⟩ := hv
  have hx := B.exec
  have hb := B.bytes
  have hr := B.returns
  have hts := xw_hts B.pre
  have hown : s.vm.findClass R_Tokens = some m.cls := findClass_of_methodNamed B.named
  have hlocks := B.notSynchronized
  subst hsz
  have hD := hD0.self (sz := s.heap.size)
  have hN := xz_entry hP
  generalize hAe : va_A [(h1, .inr (9, [.ref h2, .ref h3, .int 0, .int 0, .int 0, .int (-1), .int 0, .int 0])), (h2, .inl (ax 1, 400, .inl (fun _ => 0))), (h3, .inl (ax 0, 401, .inl (fun _ => 0)))] s.heap.size = A at hD hN ⊢
  have hA : ∀ q : Nat, s.heap.size ≤ q → A q := fun q h => by rw [← hAe]; exact Or.inr h
  have hS : va_S A s.heap s.heap [] := va_S.rf
  have hl0 := lv_entry ([.ref h1, .long w, .int 5]) (n := 5) (Nat.le_of_ble_eq_true rfl)
  rw [lg_entry_eq]
  generalize (lg_sl ([.ref h1, .long w, .int 5]) ++ List.replicate (5 - (lg_sl ([.ref h1, .long w, .int 5])).length) Slot.unset).toArray = ls at hl0 ⊢
  have hl1 : lv_has ls 5 [(0, .ref h1), (1, .long w), (3, .int 5)] := hl0
  refine lv_iload_n hx hb d_Tokens_append_0 rfl (lv_at hl1 2 rfl) ?_
  refine lv_iconst (v := 1) hx hb d_Tokens_append_1 (by decide) ?_
  refine lv_icmp_lt (tgt := 23) hx hb d_Tokens_append_2 (by decide) (fun c_1 => ?_) (fun c_1 => ?_)
  · first | exact absurd c_1 (by decide) | exact absurd (by decide) c_1
  refine lv_iload_n hx hb d_Tokens_append_5 rfl (lv_at hl1 2 rfl) ?_
  refine lv_bipush (v := 8) hx hb d_Tokens_append_6 (by decide) ?_
  refine lv_icmp_gt (tgt := 23) hx hb d_Tokens_append_8 (by decide) (fun c_2 => ?_) (fun c_2 => ?_)
  · first | exact absurd c_2 (by decide) | exact absurd (by decide) c_2
  refine lv_aload_n hx hb d_Tokens_append_11 rfl (lv_at hl1 0 rfl) ?_
  refine va_get (D := D) (ci := 9) (v := .int 0) (C := R_Tokens) (T := F_Tokens) (N := 8) hx hb hts i_Tokens hown hK.1 hP 0 rfl rfl 2 (by decide) (hts _ wd_42) (fun _ h9 => h9) rfl d_Tokens_append_12 ?_
  refine lv_iload_n hx hb d_Tokens_append_15 rfl (lv_at hl1 2 rfl) ?_
  refine lv_iadd hx hb d_Tokens_append_16 ?_
  refine lv_topi (fun z_3 ez_3 => ?_)
  have ez_3 : z_3 = 5 := ez_3.trans (by first | rfl | decide)
  subst ez_3
  refine lv_sipush (v := 400) hx hb d_Tokens_append_17 (by decide) ?_
  refine lv_icmp_le (tgt := 25) hx hb d_Tokens_append_20 (by decide) (fun c_4 => ?_) (fun c_4 => ?_)
  rotate_left
  · first | exact absurd c_4 (by decide) | exact absurd (by decide) c_4
  refine lv_iconst (v := 0) hx hb d_Tokens_append_25 (by decide) ?_
  refine lv_istore (lv' := [(4, .int 0), (0, .ref h1), (1, .long w), (3, .int 5)]) hx hb d_Tokens_append_26 hl1 (by decide) rfl (fun ls hl1 => ?_)
  refine lv_iload hx hb d_Tokens_append_28 (lv_at hl1 0 rfl) ?_
  refine lv_iload_n hx hb d_Tokens_append_30 rfl (lv_at hl1 3 rfl) ?_
  refine lv_icmp_ge (tgt := 61) hx hb d_Tokens_append_31 (by decide) (fun c_5 => ?_) (fun c_5 => ?_)
  · first | exact absurd c_5 (by decide) | exact absurd (by decide) c_5
  refine lv_aload_n hx hb d_Tokens_append_34 rfl (lv_at hl1 1 rfl) ?_
  refine va_get (D := D) (ci := 9) (v := .ref h2) (C := R_Tokens) (T := F_Tokens) (N := 8) hx hb hts i_Tokens hown hK.1 hP 0 rfl rfl 0 (by decide) (hts _ wd_40) (fun _ h9 => h9) rfl d_Tokens_append_35 ?_
  refine lv_aload_n hx hb d_Tokens_append_38 rfl (lv_at hl1 1 rfl) ?_
  refine va_get (D := D) (ci := 9) (v := .int 0) (C := R_Tokens) (T := F_Tokens) (N := 8) hx hb hts i_Tokens hown hK.1 hP 0 rfl rfl 2 (by decide) (hts _ wd_42) (fun _ h9 => h9) rfl d_Tokens_append_39 ?_
  refine lv_iload hx hb d_Tokens_append_42 (lv_at hl1 0 rfl) ?_
  refine lv_iadd hx hb d_Tokens_append_44 ?_
  refine lv_topi (fun z_6 ez_6 => ?_)
  have ez_6 : z_6 = 0 := ez_6.trans (by first | rfl | decide)
  subst ez_6
  refine lv_lload_n hx hb d_Tokens_append_45 rfl (lv_at hl1 2 rfl) ?_
  refine lv_bipush (v := 8) hx hb d_Tokens_append_46 (by decide) ?_
  refine lv_iload hx hb d_Tokens_append_48 (lv_at hl1 0 rfl) ?_
  refine lv_imul hx hb d_Tokens_append_50 ?_
  refine lv_topi (fun z_7 ez_7 => ?_)
  have ez_7 : z_7 = 0 := ez_7.trans (by first | rfl | decide)
  subst ez_7
  refine lv_lushr hx hb d_Tokens_append_51 rfl ?_
  refine lv_topl (fun z_8 ez_8 => ?_)
  refine lv_l2i hx hb d_Tokens_append_52 rfl ?_
  refine lv_topi (fun z_9 ez_9 => ?_)
  refine lv_i2b hx hb d_Tokens_append_53 rfl ?_
  refine lv_topi (fun z_10 ez_10 => ?_)
  refine va_bast hx hb hK.1 hP hD hS 1 1 rfl rfl (by unfold vp_in; decide) d_Tokens_append_54 (fun H_11 locs hP hD hS => ?_)
  have hP : va_P D classes [(h1, .inr (9, [.ref h2, .ref h3, .int 0, .int 0, .int 0, .int (-1), .int 0, .int 0])), (h2, .inl (ax 1, 400, .inl (upd (fun _ => 0) 0 (vp_nar .byte z_10)))), (h3, .inl (ax 0, 401, .inl (fun _ => 0)))] H_11 := hP
  have hD : va_D A [(h1, .inr (9, [.ref h2, .ref h3, .int 0, .int 0, .int 0, .int (-1), .int 0, .int 0])), (h2, .inl (ax 1, 400, .inl (upd (fun _ => 0) 0 (vp_nar .byte z_10)))), (h3, .inl (ax 0, 401, .inl (fun _ => 0)))] := hD
  refine lv_iinc (v := 1) (lv' := [(4, .int 1), (0, .ref h1), (1, .long w), (3, .int 5)]) hx hb d_Tokens_append_55 hl1 (k := 0) rfl (by decide) (by decide) rfl (fun ls hl1 => ?_)
  refine lv_goto (tgt := 28) hx hb d_Tokens_append_58 (by decide) ?_
  refine lv_iload hx hb d_Tokens_append_28 (lv_at hl1 0 rfl) ?_
  refine lv_iload_n hx hb d_Tokens_append_30 rfl (lv_at hl1 3 rfl) ?_
  refine lv_icmp_ge (tgt := 61) hx hb d_Tokens_append_31 (by decide) (fun c_12 => ?_) (fun c_12 => ?_)
  · first | exact absurd c_12 (by decide) | exact absurd (by decide) c_12
  refine lv_aload_n hx hb d_Tokens_append_34 rfl (lv_at hl1 1 rfl) ?_
  refine va_get (D := D) (ci := 9) (v := .ref h2) (C := R_Tokens) (T := F_Tokens) (N := 8) hx hb hts i_Tokens hown hK.1 hP 0 rfl rfl 0 (by decide) (hts _ wd_40) (fun _ h9 => h9) rfl d_Tokens_append_35 ?_
  refine lv_aload_n hx hb d_Tokens_append_38 rfl (lv_at hl1 1 rfl) ?_
  refine va_get (D := D) (ci := 9) (v := .int 0) (C := R_Tokens) (T := F_Tokens) (N := 8) hx hb hts i_Tokens hown hK.1 hP 0 rfl rfl 2 (by decide) (hts _ wd_42) (fun _ h9 => h9) rfl d_Tokens_append_39 ?_
  refine lv_iload hx hb d_Tokens_append_42 (lv_at hl1 0 rfl) ?_
  refine lv_iadd hx hb d_Tokens_append_44 ?_
  refine lv_topi (fun z_13 ez_13 => ?_)
  have ez_13 : z_13 = 1 := ez_13.trans (by first | rfl | decide)
  subst ez_13
  refine lv_lload_n hx hb d_Tokens_append_45 rfl (lv_at hl1 2 rfl) ?_
  refine lv_bipush (v := 8) hx hb d_Tokens_append_46 (by decide) ?_
  refine lv_iload hx hb d_Tokens_append_48 (lv_at hl1 0 rfl) ?_
  refine lv_imul hx hb d_Tokens_append_50 ?_
  refine lv_topi (fun z_14 ez_14 => ?_)
  have ez_14 : z_14 = 8 := ez_14.trans (by first | rfl | decide)
  subst ez_14
  refine lv_lushr hx hb d_Tokens_append_51 rfl ?_
  refine lv_topl (fun z_15 ez_15 => ?_)
  refine lv_l2i hx hb d_Tokens_append_52 rfl ?_
  refine lv_topi (fun z_16 ez_16 => ?_)
  refine lv_i2b hx hb d_Tokens_append_53 rfl ?_
  refine lv_topi (fun z_17 ez_17 => ?_)
  refine va_bast hx hb hK.1 hP hD hS 1 1 rfl rfl (by unfold vp_in; decide) d_Tokens_append_54 (fun H_18 locs hP hD hS => ?_)
  have hP : va_P D classes [(h1, .inr (9, [.ref h2, .ref h3, .int 0, .int 0, .int 0, .int (-1), .int 0, .int 0])), (h2, .inl (ax 1, 400, .inl (upd (upd (fun _ => 0) 0 (vp_nar .byte z_10)) 1 (vp_nar .byte z_17)))), (h3, .inl (ax 0, 401, .inl (fun _ => 0)))] H_18 := hP
  have hD : va_D A [(h1, .inr (9, [.ref h2, .ref h3, .int 0, .int 0, .int 0, .int (-1), .int 0, .int 0])), (h2, .inl (ax 1, 400, .inl (upd (upd (fun _ => 0) 0 (vp_nar .byte z_10)) 1 (vp_nar .byte z_17)))), (h3, .inl (ax 0, 401, .inl (fun _ => 0)))] := hD
  refine lv_iinc (v := 2) (lv' := [(4, .int 2), (0, .ref h1), (1, .long w), (3, .int 5)]) hx hb d_Tokens_append_55 hl1 (k := 0) rfl (by decide) (by decide) rfl (fun ls hl1 => ?_)
  refine lv_goto (tgt := 28) hx hb d_Tokens_append_58 (by decide) ?_
  refine lv_iload hx hb d_Tokens_append_28 (lv_at hl1 0 rfl) ?_
  refine lv_iload_n hx hb d_Tokens_append_30 rfl (lv_at hl1 3 rfl) ?_
  refine lv_icmp_ge (tgt := 61) hx hb d_Tokens_append_31 (by decide) (fun c_19 => ?_) (fun c_19 => ?_)
  · first | exact absurd c_19 (by decide) | exact absurd (by decide) c_19
  refine lv_aload_n hx hb d_Tokens_append_34 rfl (lv_at hl1 1 rfl) ?_
  refine va_get (D := D) (ci := 9) (v := .ref h2) (C := R_Tokens) (T := F_Tokens) (N := 8) hx hb hts i_Tokens hown hK.1 hP 0 rfl rfl 0 (by decide) (hts _ wd_40) (fun _ h9 => h9) rfl d_Tokens_append_35 ?_
  refine lv_aload_n hx hb d_Tokens_append_38 rfl (lv_at hl1 1 rfl) ?_
  refine va_get (D := D) (ci := 9) (v := .int 0) (C := R_Tokens) (T := F_Tokens) (N := 8) hx hb hts i_Tokens hown hK.1 hP 0 rfl rfl 2 (by decide) (hts _ wd_42) (fun _ h9 => h9) rfl d_Tokens_append_39 ?_
  refine lv_iload hx hb d_Tokens_append_42 (lv_at hl1 0 rfl) ?_
  refine lv_iadd hx hb d_Tokens_append_44 ?_
  refine lv_topi (fun z_20 ez_20 => ?_)
  have ez_20 : z_20 = 2 := ez_20.trans (by first | rfl | decide)
  subst ez_20
  refine lv_lload_n hx hb d_Tokens_append_45 rfl (lv_at hl1 2 rfl) ?_
  refine lv_bipush (v := 8) hx hb d_Tokens_append_46 (by decide) ?_
  refine lv_iload hx hb d_Tokens_append_48 (lv_at hl1 0 rfl) ?_
  refine lv_imul hx hb d_Tokens_append_50 ?_
  refine lv_topi (fun z_21 ez_21 => ?_)
  have ez_21 : z_21 = 16 := ez_21.trans (by first | rfl | decide)
  subst ez_21
  refine lv_lushr hx hb d_Tokens_append_51 rfl ?_
  refine lv_topl (fun z_22 ez_22 => ?_)
  refine lv_l2i hx hb d_Tokens_append_52 rfl ?_
  refine lv_topi (fun z_23 ez_23 => ?_)
  refine lv_i2b hx hb d_Tokens_append_53 rfl ?_
  refine lv_topi (fun z_24 ez_24 => ?_)
  refine va_bast hx hb hK.1 hP hD hS 1 1 rfl rfl (by unfold vp_in; decide) d_Tokens_append_54 (fun H_25 locs hP hD hS => ?_)
  have hP : va_P D classes [(h1, .inr (9, [.ref h2, .ref h3, .int 0, .int 0, .int 0, .int (-1), .int 0, .int 0])), (h2, .inl (ax 1, 400, .inl (upd (upd (upd (fun _ => 0) 0 (vp_nar .byte z_10)) 1 (vp_nar .byte z_17)) 2 (vp_nar .byte z_24)))), (h3, .inl (ax 0, 401, .inl (fun _ => 0)))] H_25 := hP
  have hD : va_D A [(h1, .inr (9, [.ref h2, .ref h3, .int 0, .int 0, .int 0, .int (-1), .int 0, .int 0])), (h2, .inl (ax 1, 400, .inl (upd (upd (upd (fun _ => 0) 0 (vp_nar .byte z_10)) 1 (vp_nar .byte z_17)) 2 (vp_nar .byte z_24)))), (h3, .inl (ax 0, 401, .inl (fun _ => 0)))] := hD
  refine lv_iinc (v := 3) (lv' := [(4, .int 3), (0, .ref h1), (1, .long w), (3, .int 5)]) hx hb d_Tokens_append_55 hl1 (k := 0) rfl (by decide) (by decide) rfl (fun ls hl1 => ?_)
  refine lv_goto (tgt := 28) hx hb d_Tokens_append_58 (by decide) ?_
  refine lv_iload hx hb d_Tokens_append_28 (lv_at hl1 0 rfl) ?_
  refine lv_iload_n hx hb d_Tokens_append_30 rfl (lv_at hl1 3 rfl) ?_
  refine lv_icmp_ge (tgt := 61) hx hb d_Tokens_append_31 (by decide) (fun c_26 => ?_) (fun c_26 => ?_)
  · first | exact absurd c_26 (by decide) | exact absurd (by decide) c_26
  refine lv_aload_n hx hb d_Tokens_append_34 rfl (lv_at hl1 1 rfl) ?_
  refine va_get (D := D) (ci := 9) (v := .ref h2) (C := R_Tokens) (T := F_Tokens) (N := 8) hx hb hts i_Tokens hown hK.1 hP 0 rfl rfl 0 (by decide) (hts _ wd_40) (fun _ h9 => h9) rfl d_Tokens_append_35 ?_
  refine lv_aload_n hx hb d_Tokens_append_38 rfl (lv_at hl1 1 rfl) ?_
  refine va_get (D := D) (ci := 9) (v := .int 0) (C := R_Tokens) (T := F_Tokens) (N := 8) hx hb hts i_Tokens hown hK.1 hP 0 rfl rfl 2 (by decide) (hts _ wd_42) (fun _ h9 => h9) rfl d_Tokens_append_39 ?_
  refine lv_iload hx hb d_Tokens_append_42 (lv_at hl1 0 rfl) ?_
  refine lv_iadd hx hb d_Tokens_append_44 ?_
  refine lv_topi (fun z_27 ez_27 => ?_)
  have ez_27 : z_27 = 3 := ez_27.trans (by first | rfl | decide)
  subst ez_27
  refine lv_lload_n hx hb d_Tokens_append_45 rfl (lv_at hl1 2 rfl) ?_
  refine lv_bipush (v := 8) hx hb d_Tokens_append_46 (by decide) ?_
  refine lv_iload hx hb d_Tokens_append_48 (lv_at hl1 0 rfl) ?_
  refine lv_imul hx hb d_Tokens_append_50 ?_
  refine lv_topi (fun z_28 ez_28 => ?_)
  have ez_28 : z_28 = 24 := ez_28.trans (by first | rfl | decide)
  subst ez_28
  refine lv_lushr hx hb d_Tokens_append_51 rfl ?_
  refine lv_topl (fun z_29 ez_29 => ?_)
  refine lv_l2i hx hb d_Tokens_append_52 rfl ?_
  refine lv_topi (fun z_30 ez_30 => ?_)
  refine lv_i2b hx hb d_Tokens_append_53 rfl ?_
  refine lv_topi (fun z_31 ez_31 => ?_)
  refine va_bast hx hb hK.1 hP hD hS 1 1 rfl rfl (by unfold vp_in; decide) d_Tokens_append_54 (fun H_32 locs hP hD hS => ?_)
  have hP : va_P D classes [(h1, .inr (9, [.ref h2, .ref h3, .int 0, .int 0, .int 0, .int (-1), .int 0, .int 0])), (h2, .inl (ax 1, 400, .inl (upd (upd (upd (upd (fun _ => 0) 0 (vp_nar .byte z_10)) 1 (vp_nar .byte z_17)) 2 (vp_nar .byte z_24)) 3 (vp_nar .byte z_31)))), (h3, .inl (ax 0, 401, .inl (fun _ => 0)))] H_32 := hP
  have hD : va_D A [(h1, .inr (9, [.ref h2, .ref h3, .int 0, .int 0, .int 0, .int (-1), .int 0, .int 0])), (h2, .inl (ax 1, 400, .inl (upd (upd (upd (upd (fun _ => 0) 0 (vp_nar .byte z_10)) 1 (vp_nar .byte z_17)) 2 (vp_nar .byte z_24)) 3 (vp_nar .byte z_31)))), (h3, .inl (ax 0, 401, .inl (fun _ => 0)))] := hD
  refine lv_iinc (v := 4) (lv' := [(4, .int 4), (0, .ref h1), (1, .long w), (3, .int 5)]) hx hb d_Tokens_append_55 hl1 (k := 0) rfl (by decide) (by decide) rfl (fun ls hl1 => ?_)
  refine lv_goto (tgt := 28) hx hb d_Tokens_append_58 (by decide) ?_
  refine lv_iload hx hb d_Tokens_append_28 (lv_at hl1 0 rfl) ?_
  refine lv_iload_n hx hb d_Tokens_append_30 rfl (lv_at hl1 3 rfl) ?_
  refine lv_icmp_ge (tgt := 61) hx hb d_Tokens_append_31 (by decide) (fun c_33 => ?_) (fun c_33 => ?_)
  · first | exact absurd c_33 (by decide) | exact absurd (by decide) c_33
  refine lv_aload_n hx hb d_Tokens_append_34 rfl (lv_at hl1 1 rfl) ?_
  refine va_get (D := D) (ci := 9) (v := .ref h2) (C := R_Tokens) (T := F_Tokens) (N := 8) hx hb hts i_Tokens hown hK.1 hP 0 rfl rfl 0 (by decide) (hts _ wd_40) (fun _ h9 => h9) rfl d_Tokens_append_35 ?_
  refine lv_aload_n hx hb d_Tokens_append_38 rfl (lv_at hl1 1 rfl) ?_
  refine va_get (D := D) (ci := 9) (v := .int 0) (C := R_Tokens) (T := F_Tokens) (N := 8) hx hb hts i_Tokens hown hK.1 hP 0 rfl rfl 2 (by decide) (hts _ wd_42) (fun _ h9 => h9) rfl d_Tokens_append_39 ?_
  refine lv_iload hx hb d_Tokens_append_42 (lv_at hl1 0 rfl) ?_
  refine lv_iadd hx hb d_Tokens_append_44 ?_
  refine lv_topi (fun z_34 ez_34 => ?_)
  have ez_34 : z_34 = 4 := ez_34.trans (by first | rfl | decide)
  subst ez_34
  refine lv_lload_n hx hb d_Tokens_append_45 rfl (lv_at hl1 2 rfl) ?_
  refine lv_bipush (v := 8) hx hb d_Tokens_append_46 (by decide) ?_
  refine lv_iload hx hb d_Tokens_append_48 (lv_at hl1 0 rfl) ?_
  refine lv_imul hx hb d_Tokens_append_50 ?_
  refine lv_topi (fun z_35 ez_35 => ?_)
  have ez_35 : z_35 = 32 := ez_35.trans (by first | rfl | decide)
  subst ez_35
  refine lv_lushr hx hb d_Tokens_append_51 rfl ?_
  refine lv_topl (fun z_36 ez_36 => ?_)
  refine lv_l2i hx hb d_Tokens_append_52 rfl ?_
  refine lv_topi (fun z_37 ez_37 => ?_)
  refine lv_i2b hx hb d_Tokens_append_53 rfl ?_
  refine lv_topi (fun z_38 ez_38 => ?_)
  refine va_bast hx hb hK.1 hP hD hS 1 1 rfl rfl (by unfold vp_in; decide) d_Tokens_append_54 (fun H_39 locs hP hD hS => ?_)
  have hP : va_P D classes [(h1, .inr (9, [.ref h2, .ref h3, .int 0, .int 0, .int 0, .int (-1), .int 0, .int 0])), (h2, .inl (ax 1, 400, .inl (upd (upd (upd (upd (upd (fun _ => 0) 0 (vp_nar .byte z_10)) 1 (vp_nar .byte z_17)) 2 (vp_nar .byte z_24)) 3 (vp_nar .byte z_31)) 4 (vp_nar .byte z_38)))), (h3, .inl (ax 0, 401, .inl (fun _ => 0)))] H_39 := hP
  have hD : va_D A [(h1, .inr (9, [.ref h2, .ref h3, .int 0, .int 0, .int 0, .int (-1), .int 0, .int 0])), (h2, .inl (ax 1, 400, .inl (upd (upd (upd (upd (upd (fun _ => 0) 0 (vp_nar .byte z_10)) 1 (vp_nar .byte z_17)) 2 (vp_nar .byte z_24)) 3 (vp_nar .byte z_31)) 4 (vp_nar .byte z_38)))), (h3, .inl (ax 0, 401, .inl (fun _ => 0)))] := hD
  refine lv_iinc (v := 5) (lv' := [(4, .int 5), (0, .ref h1), (1, .long w), (3, .int 5)]) hx hb d_Tokens_append_55 hl1 (k := 0) rfl (by decide) (by decide) rfl (fun ls hl1 => ?_)
  refine lv_goto (tgt := 28) hx hb d_Tokens_append_58 (by decide) ?_
  refine lv_iload hx hb d_Tokens_append_28 (lv_at hl1 0 rfl) ?_
  refine lv_iload_n hx hb d_Tokens_append_30 rfl (lv_at hl1 3 rfl) ?_
  refine lv_icmp_ge (tgt := 61) hx hb d_Tokens_append_31 (by decide) (fun c_40 => ?_) (fun c_40 => ?_)
  rotate_left
  · first | exact absurd c_40 (by decide) | exact absurd (by decide) c_40
  refine lv_aload_n hx hb d_Tokens_append_61 rfl (lv_at hl1 1 rfl) ?_
  refine lv_dup hx hb d_Tokens_append_62 rfl ?_
  refine va_get (D := D) (ci := 9) (v := .int 0) (C := R_Tokens) (T := F_Tokens) (N := 8) hx hb hts i_Tokens hown hK.1 hP 0 rfl rfl 2 (by decide) (hts _ wd_42) (fun _ h9 => h9) rfl d_Tokens_append_63 ?_
  refine lv_iload_n hx hb d_Tokens_append_66 rfl (lv_at hl1 3 rfl) ?_
  refine lv_iadd hx hb d_Tokens_append_67 ?_
  refine lv_topi (fun z_41 ez_41 => ?_)
  have ez_41 : z_41 = 5 := ez_41.trans (by first | rfl | decide)
  subst ez_41
  refine va_put (D := D) (ci := 9) (v := .int 5) (ty := .int) (C := R_Tokens) (T := F_Tokens) (N := 8) hx hb hts i_Tokens t_Tokens t_Tokens_ok n_Tokens hown hK.1 hP hD hS 0 rfl rfl 2 (by decide) (hts _ wd_42) (fun _ h9 => h9) rfl (by decide +kernel) rfl rfl (Nat.le_of_ble_eq_true rfl) d_Tokens_append_68 (fun H_42 locs hP hD hS => ?_)
  have hP : va_P D classes [(h1, .inr (9, [.ref h2, .ref h3, .int 5, .int 0, .int 0, .int (-1), .int 0, .int 0])), (h2, .inl (ax 1, 400, .inl (upd (upd (upd (upd (upd (fun _ => 0) 0 (vp_nar .byte z_10)) 1 (vp_nar .byte z_17)) 2 (vp_nar .byte z_24)) 3 (vp_nar .byte z_31)) 4 (vp_nar .byte z_38)))), (h3, .inl (ax 0, 401, .inl (fun _ => 0)))] H_42 := hP
  have hD : va_D A [(h1, .inr (9, [.ref h2, .ref h3, .int 5, .int 0, .int 0, .int (-1), .int 0, .int 0])), (h2, .inl (ax 1, 400, .inl (upd (upd (upd (upd (upd (fun _ => 0) 0 (vp_nar .byte z_10)) 1 (vp_nar .byte z_17)) 2 (vp_nar .byte z_24)) 3 (vp_nar .byte z_31)) 4 (vp_nar .byte z_38)))), (h3, .inl (ax 0, 401, .inl (fun _ => 0)))] := hD
  refine lv_iconst (v := 1) hx hb d_Tokens_append_71 (by decide) ?_
  exact W.zret (v := 1) hx hb hr rfl (fun t ht hW => ⟨⟨1, fun _ => 0, rfl, rfl, trivial⟩, hS.F ht⟩) hS.2.2 d_Tokens_append_72
set_option maxHeartbeats 4000000 in
set_option maxRecDepth 100000 in
theorem c_Desk_type_5 (l : Launch) (D : va_G) (ax : Nat → ClassId) (d0 d1 d2 d3 d4 d5 d6 d7 d8 d9 d10 d11 d12 : Nat) (e1 e2 : Nat) (w : Int64) (sz : Nat) : Met l y_Desk_type (xws (.code y_Desk_type b_Desk_type 4 (some .boolean))) ({ frames := 20, cells := 0, slots := 0, locals := 800 }) (va_Pc [.ref d0, .long w, .int 5] (xo D ax [(d0, .inr (10, [.ref d1, .ref d2, .ref d3, .ref d4, .ref d5, .ref d6, .ref d7, .ref d8, .ref d9, .ref d10, .ref d11, .ref d12, .int 0])), (d1, .inr (9, [.ref e1, .ref e2, .int 0, .int 0, .int 0, .int (-1), .int 0, .int 0])), (e1, .inl (ax 1, 400, .inl (fun _ => 0))), (e2, .inl (ax 0, 401, .inl (fun _ => 0)))] sz)) ((va_Qi (fun (r : Int32) (u : Nat → Nat) => r = 1) (fun (_ : Nat → Nat) (_ : State) => True) (va_A [(d0, .inr (10, [.ref d1, .ref d2, .ref d3, .ref d4, .ref d5, .ref d6, .ref d7, .ref d8, .ref d9, .ref d10, .ref d11, .ref d12, .int 0])), (d1, .inr (9, [.ref e1, .ref e2, .int 0, .int 0, .int 0, .int (-1), .int 0, .int 0])), (e1, .inl (ax 1, 400, .inl (fun _ => 0))), (e2, .inl (ax 0, 401, .inl (fun _ => 0)))] sz))) 0 0 (va_A [(d0, .inr (10, [.ref d1, .ref d2, .ref d3, .ref d4, .ref d5, .ref d6, .ref d7, .ref d8, .ref d9, .ref d10, .ref d11, .ref d12, .int 0])), (d1, .inr (9, [.ref e1, .ref e2, .int 0, .int 0, .int 0, .int (-1), .int 0, .int 0])), (e1, .inl (ax 1, 400, .inl (fun _ => 0))), (e2, .inl (ax 0, 401, .inl (fun _ => 0)))] sz) := by
  refine Met.ofW (cc := b_Desk_type) (maxL := 4) (ret := (some .boolean)) (by decide) rfl ?_
  intro p e s m args below meth c s₁ B hml hv
  obtain ⟨rfl, hsz, hP, hK, hD0⟩ := hv
  have hx := B.exec
  have hb := B.bytes
  have hr := B.returns
  have hts := xw_hts B.pre
  have hown : s.vm.findClass R_Desk = some m.cls := findClass_of_methodNamed B.named
  have hlocks := B.notSynchronized
  subst hsz
  have hD := hD0.self (sz := s.heap.size)
  have hN := xz_entry hP
  generalize hAe : va_A [(d0, .inr (10, [.ref d1, .ref d2, .ref d3, .ref d4, .ref d5, .ref d6, .ref d7, .ref d8, .ref d9, .ref d10, .ref d11, .ref d12, .int 0])), (d1, .inr (9, [.ref e1, .ref e2, .int 0, .int 0, .int 0, .int (-1), .int 0, .int 0])), (e1, .inl (ax 1, 400, .inl (fun _ => 0))), (e2, .inl (ax 0, 401, .inl (fun _ => 0)))] s.heap.size = A at hD hN ⊢
  have hA : ∀ q : Nat, s.heap.size ≤ q → A q := fun q h => by rw [← hAe]; exact Or.inr h
  have hS : va_S A s.heap s.heap [] := va_S.rf
  have hl0 := lv_entry ([.ref d0, .long w, .int 5]) (n := 4) (Nat.le_of_ble_eq_true rfl)
  rw [lg_entry_eq]
  generalize (lg_sl ([.ref d0, .long w, .int 5]) ++ List.replicate (4 - (lg_sl ([.ref d0, .long w, .int 5])).length) Slot.unset).toArray = ls at hl0 ⊢
  have hl1 : lv_has ls 4 [(0, .ref d0), (1, .long w), (3, .int 5)] := hl0
  refine lv_aload_n hx hb d_Desk_type_0 rfl (lv_at hl1 0 rfl) ?_
  refine va_get (D := D) (ci := 10) (v := .ref d1) (C := R_Desk) (T := F_Desk) (N := 13) hx hb hts i_Desk hown hK.1 hP 0 rfl rfl 0 (by decide) (hts _ wd_375) (fun _ h9 => h9) rfl d_Desk_type_1 ?_
  refine lv_lload_n hx hb d_Desk_type_4 rfl (lv_at hl1 1 rfl) ?_
  refine lv_iload_n hx hb d_Desk_type_5 rfl (lv_at hl1 2 rfl) ?_
  have hPc := hP.sub (ws' := [(d1, .inr (9, [.ref e1, .ref e2, .int 0, .int 0, .int 0, .int (-1), .int 0, .int 0])), (e1, .inl (ax 1, 400, .inl (fun _ => 0))), (e2, .inl (ax 0, 401, .inl (fun _ => 0)))]) [1, 2, 3] rfl
  have hDc := hD.sub (ws' := [(d1, .inr (9, [.ref e1, .ref e2, .int 0, .int 0, .int 0, .int (-1), .int 0, .int 0])), (e1, .inl (ax 1, 400, .inl (fun _ => 0))), (e2, .inl (ax 0, 401, .inl (fun _ => 0)))]) [1, 2, 3] (by decide) rfl
  have hFc := va_free (wc := [(d1, .inr (9, [.ref e1, .ref e2, .int 0, .int 0, .int 0, .int (-1), .int 0, .int 0])), (e1, .inl (ax 1, 400, .inl (fun _ => 0))), (e2, .inl (ax 0, 401, .inl (fun _ => 0)))]) hD hS hA [1, 2, 3] rfl
  have hz := xz_of hN hS
  refine va_calli (va_runV (As := [.long w, .int 5]) (rest := []) ⟨hx, hb, hml, hown, hts⟩ (c_Tokens_append_5 l D ax d1 e1 e2 w s.heap.size) (xcV (n := 2) hts wd_422 wd_2 wd_419 wd_420 wd_421 rfl rfl (by decide +kernel) ⟨Nat.le_of_ble_eq_true rfl, Nat.le_of_ble_eq_true rfl⟩) (xpV (ci := 9) (q0 := 0) (As := [.long w, .int 5]) hPc hK hz hDc rfl rfl) rfl rfl hl1.1 rfl (lv_room (Nat.le_of_ble_eq_true rfl)) d_Desk_type_6 ⟨Nat.le_of_ble_eq_true rfl, Nat.le_of_ble_eq_true rfl⟩) hS (fun q _ h => hFc q h) hFc (fun r_3 u_1 t H_2 locs ht hvm hw hB hz1 hk1 hS => ?_)
  try dsimp only at hw
  subst hw
  obtain ⟨hP, hD⟩ := va_join (wr := [(d0, .inr (10, [.ref d1, .ref d2, .ref d3, .ref d4, .ref d5, .ref d6, .ref d7, .ref d8, .ref d9, .ref d10, .ref d11, .ref d12, .int 0]))]) (w1 := []) hP hD [1, 2, 3] [0] rfl rfl (by decide) (by decide) hk1 hFc x_nilP x_nilD
  have hP : va_P D classes [(d0, .inr (10, [.ref d1, .ref d2, .ref d3, .ref d4, .ref d5, .ref d6, .ref d7, .ref d8, .ref d9, .ref d10, .ref d11, .ref d12, .int 0]))] H_2 := hP
  have hD : va_D A [(d0, .inr (10, [.ref d1, .ref d2, .ref d3, .ref d4, .ref d5, .ref d6, .ref d7, .ref d8, .ref d9, .ref d10, .ref d11, .ref d12, .int 0]))] := hD
  exact W.zret (v := 1) hx hb hr rfl (fun t ht hW => ⟨⟨1, fun _ => 0, rfl, rfl, trivial⟩, hS.F ht⟩) hS.2.2 d_Desk_type_9
set_option maxHeartbeats 4000000 in
set_option maxRecDepth 100000 in
theorem c_Tokens_append_6 (l : Launch) (D : va_G) (ax : Nat → ClassId) (h1 h2 h3 : Nat) (w : Int64) (sz : Nat) : Met l y_Tokens_append (xws (.code y_Tokens_append b_Tokens_append 5 (some .boolean))) ({ frames := 10, cells := 0, slots := 0, locals := 400 }) (va_Pc [.ref h1, .long w, .int 6] (xo D ax [(h1, .inr (9, [.ref h2, .ref h3, .int 0, .int 0, .int 0, .int (-1), .int 0, .int 0])), (h2, .inl (ax 1, 400, .inl (fun _ => 0))), (h3, .inl (ax 0, 401, .inl (fun _ => 0)))] sz)) ((va_Qi (fun (r : Int32) (u : Nat → Nat) => r = 1) (fun (_ : Nat → Nat) (_ : State) => True) (va_A [(h1, .inr (9, [.ref h2, .ref h3, .int 0, .int 0, .int 0, .int (-1), .int 0, .int 0])), (h2, .inl (ax 1, 400, .inl (fun _ => 0))), (h3, .inl (ax 0, 401, .inl (fun _ => 0)))] sz))) 0 0 (va_A [(h1, .inr (9, [.ref h2, .ref h3, .int 0, .int 0, .int 0, .int (-1), .int 0, .int 0])), (h2, .inl (ax 1, 400, .inl (fun _ => 0))), (h3, .inl (ax 0, 401, .inl (fun _ => 0)))] sz) := by
  refine Met.ofW (cc := b_Tokens_append) (maxL := 5) (ret := (some .boolean)) (by decide) rfl ?_
  intro p e s m args below meth c s₁ B hml hv
  obtain ⟨rfl, hsz, hP, hK, hD0⟩ := hv
  have hx := B.exec
  have hb := B.bytes
  have hr := B.returns
  have hts := xw_hts B.pre
  have hown : s.vm.findClass R_Tokens = some m.cls := findClass_of_methodNamed B.named
  have hlocks := B.notSynchronized
  subst hsz
  have hD := hD0.self (sz := s.heap.size)
  have hN := xz_entry hP
  generalize hAe : va_A [(h1, .inr (9, [.ref h2, .ref h3, .int 0, .int 0, .int 0, .int (-1), .int 0, .int 0])), (h2, .inl (ax 1, 400, .inl (fun _ => 0))), (h3, .inl (ax 0, 401, .inl (fun _ => 0)))] s.heap.size = A at hD hN ⊢
  have hA : ∀ q : Nat, s.heap.size ≤ q → A q := fun q h => by rw [← hAe]; exact Or.inr h
  have hS : va_S A s.heap s.heap [] := va_S.rf
  have hl0 := lv_entry ([.ref h1, .long w, .int 6]) (n := 5) (Nat.le_of_ble_eq_true rfl)
  rw [lg_entry_eq]
  generalize (lg_sl ([.ref h1, .long w, .int 6]) ++ List.replicate (5 - (lg_sl ([.ref h1, .long w, .int 6])).length) Slot.unset).toArray = ls at hl0 ⊢
  have hl1 : lv_has ls 5 [(0, .ref h1), (1, .long w), (3, .int 6)] := hl0
  refine lv_iload_n hx hb d_Tokens_append_0 rfl (lv_at hl1 2 rfl) ?_
  refine lv_iconst (v := 1) hx hb d_Tokens_append_1 (by decide) ?_
  refine lv_icmp_lt (tgt := 23) hx hb d_Tokens_append_2 (by decide) (fun c_1 => ?_) (fun c_1 => ?_)
  · first | exact absurd c_1 (by decide) | exact absurd (by decide) c_1
  refine lv_iload_n hx hb d_Tokens_append_5 rfl (lv_at hl1 2 rfl) ?_
  refine lv_bipush (v := 8) hx hb d_Tokens_append_6 (by decide) ?_
  refine lv_icmp_gt (tgt := 23) hx hb d_Tokens_append_8 (by decide) (fun c_2 => ?_) (fun c_2 => ?_)
  · first | exact absurd c_2 (by decide) | exact absurd (by decide) c_2
  refine lv_aload_n hx hb d_Tokens_append_11 rfl (lv_at hl1 0 rfl) ?_
  refine va_get (D := D) (ci := 9) (v := .int 0) (C := R_Tokens) (T := F_Tokens) (N := 8) hx hb hts i_Tokens hown hK.1 hP 0 rfl rfl 2 (by decide) (hts _ wd_42) (fun _ h9 => h9) rfl d_Tokens_append_12 ?_
  refine lv_iload_n hx hb d_Tokens_append_15 rfl (lv_at hl1 2 rfl) ?_
  refine lv_iadd hx hb d_Tokens_append_16 ?_
  refine lv_topi (fun z_3 ez_3 => ?_)
  have ez_3 : z_3 = 6 := ez_3.trans (by first | rfl | decide)
  subst ez_3
  refine lv_sipush (v := 400) hx hb d_Tokens_append_17 (by decide) ?_
  refine lv_icmp_le (tgt := 25) hx hb d_Tokens_append_20 (by decide) (fun c_4 => ?_) (fun c_4 => ?_)
  rotate_left
  · first | exact absurd c_4 (by decide) | exact absurd (by decide) c_4
  refine lv_iconst (v := 0) hx hb d_Tokens_append_25 (by decide) ?_
  refine lv_istore (lv' := [(4, .int 0), (0, .ref h1), (1, .long w), (3, .int 6)]) hx hb d_Tokens_append_26 hl1 (by decide) rfl (fun ls hl1 => ?_)
  refine lv_iload hx hb d_Tokens_append_28 (lv_at hl1 0 rfl) ?_
  refine lv_iload_n hx hb d_Tokens_append_30 rfl (lv_at hl1 3 rfl) ?_
  refine lv_icmp_ge (tgt := 61) hx hb d_Tokens_append_31 (by decide) (fun c_5 => ?_) (fun c_5 => ?_)
  · first | exact absurd c_5 (by decide) | exact absurd (by decide) c_5
  refine lv_aload_n hx hb d_Tokens_append_34 rfl (lv_at hl1 1 rfl) ?_
  refine va_get (D := D) (ci := 9) (v := .ref h2) (C := R_Tokens) (T := F_Tokens) (N := 8) hx hb hts i_Tokens hown hK.1 hP 0 rfl rfl 0 (by decide) (hts _ wd_40) (fun _ h9 => h9) rfl d_Tokens_append_35 ?_
  refine lv_aload_n hx hb d_Tokens_append_38 rfl (lv_at hl1 1 rfl) ?_
  refine va_get (D := D) (ci := 9) (v := .int 0) (C := R_Tokens) (T := F_Tokens) (N := 8) hx hb hts i_Tokens hown hK.1 hP 0 rfl rfl 2 (by decide) (hts _ wd_42) (fun _ h9 => h9) rfl d_Tokens_append_39 ?_
  refine lv_iload hx hb d_Tokens_append_42 (lv_at hl1 0 rfl) ?_
  refine lv_iadd hx hb d_Tokens_append_44 ?_
  refine lv_topi (fun z_6 ez_6 => ?_)
  have ez_6 : z_6 = 0 := ez_6.trans (by first | rfl | decide)
  subst ez_6
  refine lv_lload_n hx hb d_Tokens_append_45 rfl (lv_at hl1 2 rfl) ?_
  refine lv_bipush (v := 8) hx hb d_Tokens_append_46 (by decide) ?_
  refine lv_iload hx hb d_Tokens_append_48 (lv_at hl1 0 rfl) ?_
  refine lv_imul hx hb d_Tokens_append_50 ?_
  refine lv_topi (fun z_7 ez_7 => ?_)
  have ez_7 : z_7 = 0 := ez_7.trans (by first | rfl | decide)
  subst ez_7
  refine lv_lushr hx hb d_Tokens_append_51 rfl ?_
  refine lv_topl (fun z_8 ez_8 => ?_)
  refine lv_l2i hx hb d_Tokens_append_52 rfl ?_
  refine lv_topi (fun z_9 ez_9 => ?_)
  refine lv_i2b hx hb d_Tokens_append_53 rfl ?_
  refine lv_topi (fun z_10 ez_10 => ?_)
  refine va_bast hx hb hK.1 hP hD hS 1 1 rfl rfl (by unfold vp_in; decide) d_Tokens_append_54 (fun H_11 locs hP hD hS => ?_)
  have hP : va_P D classes [(h1, .inr (9, [.ref h2, .ref h3, .int 0, .int 0, .int 0, .int (-1), .int 0, .int 0])), (h2, .inl (ax 1, 400, .inl (upd (fun _ => 0) 0 (vp_nar .byte z_10)))), (h3, .inl (ax 0, 401, .inl (fun _ => 0)))] H_11 := hP
  have hD : va_D A [(h1, .inr (9, [.ref h2, .ref h3, .int 0, .int 0, .int 0, .int (-1), .int 0, .int 0])), (h2, .inl (ax 1, 400, .inl (upd (fun _ => 0) 0 (vp_nar .byte z_10)))), (h3, .inl (ax 0, 401, .inl (fun _ => 0)))] := hD
  refine lv_iinc (v := 1) (lv' := [(4, .int 1), (0, .ref h1), (1, .long w), (3, .int 6)]) hx hb d_Tokens_append_55 hl1 (k := 0) rfl (by decide) (by decide) rfl (fun ls hl1 => ?_)
  refine lv_goto (tgt := 28) hx hb d_Tokens_append_58 (by decide) ?_
  refine lv_iload hx hb d_Tokens_append_28 (lv_at hl1 0 rfl) ?_
  refine lv_iload_n hx hb d_Tokens_append_30 rfl (lv_at hl1 3 rfl) ?_
  refine lv_icmp_ge (tgt := 61) hx hb d_Tokens_append_31 (by decide) (fun c_12 => ?_) (fun c_12 => ?_)
  · first | exact absurd c_12 (by decide) | exact absurd (by decide) c_12
  refine lv_aload_n hx hb d_Tokens_append_34 rfl (lv_at hl1 1 rfl) ?_
  refine va_get (D := D) (ci := 9) (v := .ref h2) (C := R_Tokens) (T := F_Tokens) (N := 8) hx hb hts i_Tokens hown hK.1 hP 0 rfl rfl 0 (by decide) (hts _ wd_40) (fun _ h9 => h9) rfl d_Tokens_append_35 ?_
  refine lv_aload_n hx hb d_Tokens_append_38 rfl (lv_at hl1 1 rfl) ?_
  refine va_get (D := D) (ci := 9) (v := .int 0) (C := R_Tokens) (T := F_Tokens) (N := 8) hx hb hts i_Tokens hown hK.1 hP 0 rfl rfl 2 (by decide) (hts _ wd_42) (fun _ h9 => h9) rfl d_Tokens_append_39 ?_
  refine lv_iload hx hb d_Tokens_append_42 (lv_at hl1 0 rfl) ?_
  refine lv_iadd hx hb d_Tokens_append_44 ?_
  refine lv_topi (fun z_13 ez_13 => ?_)
  have ez_13 : z_13 = 1 := ez_13.trans (by first | rfl | decide)
  subst ez_13
  refine lv_lload_n hx hb d_Tokens_append_45 rfl (lv_at hl1 2 rfl) ?_
  refine lv_bipush (v := 8) hx hb d_Tokens_append_46 (by decide) ?_
  refine lv_iload hx hb d_Tokens_append_48 (lv_at hl1 0 rfl) ?_
  refine lv_imul hx hb d_Tokens_append_50 ?_
  refine lv_topi (fun z_14 ez_14 => ?_)
  have ez_14 : z_14 = 8 := ez_14.trans (by first | rfl | decide)
  subst ez_14
  refine lv_lushr hx hb d_Tokens_append_51 rfl ?_
  refine lv_topl (fun z_15 ez_15 => ?_)
  refine lv_l2i hx hb d_Tokens_append_52 rfl ?_
  refine lv_topi (fun z_16 ez_16 => ?_)
  refine lv_i2b hx hb d_Tokens_append_53 rfl ?_
  refine lv_topi (fun z_17 ez_17 => ?_)
  refine va_bast hx hb hK.1 hP hD hS 1 1 rfl rfl (by unfold vp_in; decide) d_Tokens_append_54 (fun H_18 locs hP hD hS => ?_)
  have hP : va_P D classes [(h1, .inr (9, [.ref h2, .ref h3, .int 0, .int 0, .int 0, .int (-1), .int 0, .int 0])), (h2, .inl (ax 1, 400, .inl (upd (upd (fun _ => 0) 0 (vp_nar .byte z_10)) 1 (vp_nar .byte z_17)))), (h3, .inl (ax 0, 401, .inl (fun _ => 0)))] H_18 := hP
  have hD : va_D A [(h1, .inr (9, [.ref h2, .ref h3, .int 0, .int 0, .int 0, .int (-1), .int 0, .int 0])), (h2, .inl (ax 1, 400, .inl (upd (upd (fun _ => 0) 0 (vp_nar .byte z_10)) 1 (vp_nar .byte z_17)))), (h3, .inl (ax 0, 401, .inl (fun _ => 0)))] := hD
  refine lv_iinc (v := 2) (lv' := [(4, .int 2), (0, .ref h1), (1, .long w), (3, .int 6)]) hx hb d_Tokens_append_55 hl1 (k := 0) rfl (by decide) (by decide) rfl (fun ls hl1 => ?_)
  refine lv_goto (tgt := 28) hx hb d_Tokens_append_58 (by decide) ?_
  refine lv_iload hx hb d_Tokens_append_28 (lv_at hl1 0 rfl) ?_
  refine lv_iload_n hx hb d_Tokens_append_30 rfl (lv_at hl1 3 rfl) ?_
  refine lv_icmp_ge (tgt := 61) hx hb d_Tokens_append_31 (by decide) (fun c_19 => ?_) (fun c_19 => ?_)
  · first | exact absurd c_19 (by decide) | exact absurd (by decide) c_19
  refine lv_aload_n hx hb d_Tokens_append_34 rfl (lv_at hl1 1 rfl) ?_
  refine va_get (D := D) (ci := 9) (v := .ref h2) (C := R_Tokens) (T := F_Tokens) (N := 8) hx hb hts i_Tokens hown hK.1 hP 0 rfl rfl 0 (by decide) (hts _ wd_40) (fun _ h9 => h9) rfl d_Tokens_append_35 ?_
  refine lv_aload_n hx hb d_Tokens_append_38 rfl (lv_at hl1 1 rfl) ?_
  refine va_get (D := D) (ci := 9) (v := .int 0) (C := R_Tokens) (T := F_Tokens) (N := 8) hx hb hts i_Tokens hown hK.1 hP 0 rfl rfl 2 (by decide) (hts _ wd_42) (fun _ h9 => h9) rfl d_Tokens_append_39 ?_
  refine lv_iload hx hb d_Tokens_append_42 (lv_at hl1 0 rfl) ?_
  refine lv_iadd hx hb d_Tokens_append_44 ?_
  refine lv_topi (fun z_20 ez_20 => ?_)
  have ez_20 : z_20 = 2 := ez_20.trans (by first | rfl | decide)
  subst ez_20
  refine lv_lload_n hx hb d_Tokens_append_45 rfl (lv_at hl1 2 rfl) ?_
  refine lv_bipush (v := 8) hx hb d_Tokens_append_46 (by decide) ?_
  refine lv_iload hx hb d_Tokens_append_48 (lv_at hl1 0 rfl) ?_
  refine lv_imul hx hb d_Tokens_append_50 ?_
  refine lv_topi (fun z_21 ez_21 => ?_)
  have ez_21 : z_21 = 16 := ez_21.trans (by first | rfl | decide)
  subst ez_21
  refine lv_lushr hx hb d_Tokens_append_51 rfl ?_
  refine lv_topl (fun z_22 ez_22 => ?_)
  refine lv_l2i hx hb d_Tokens_append_52 rfl ?_
  refine lv_topi (fun z_23 ez_23 => ?_)
  refine lv_i2b hx hb d_Tokens_append_53 rfl ?_
  refine lv_topi (fun z_24 ez_24 => ?_)
  refine va_bast hx hb hK.1 hP hD hS 1 1 rfl rfl (by unfold vp_in; decide) d_Tokens_append_54 (fun H_25 locs hP hD hS => ?_)
  have hP : va_P D classes [(h1, .inr (9, [.ref h2, .ref h3, .int 0, .int 0, .int 0, .int (-1), .int 0, .int 0])), (h2, .inl (ax 1, 400, .inl (upd (upd (upd (fun _ => 0) 0 (vp_nar .byte z_10)) 1 (vp_nar .byte z_17)) 2 (vp_nar .byte z_24)))), (h3, .inl (ax 0, 401, .inl (fun _ => 0)))] H_25 := hP
  have hD : va_D A [(h1, .inr (9, [.ref h2, .ref h3, .int 0, .int 0, .int 0, .int (-1), .int 0, .int 0])), (h2, .inl (ax 1, 400, .inl (upd (upd (upd (fun _ => 0) 0 (vp_nar .byte z_10)) 1 (vp_nar .byte z_17)) 2 (vp_nar .byte z_24)))), (h3, .inl (ax 0, 401, .inl (fun _ => 0)))] := hD
  refine lv_iinc (v := 3) (lv' := [(4, .int 3), (0, .ref h1), (1, .long w), (3, .int 6)]) hx hb d_Tokens_append_55 hl1 (k := 0) rfl (by decide) (by decide) rfl (fun ls hl1 => ?_)
  refine lv_goto (tgt := 28) hx hb d_Tokens_append_58 (by decide) ?_
  refine lv_iload hx hb d_Tokens_append_28 (lv_at hl1 0 rfl) ?_
  refine lv_iload_n hx hb d_Tokens_append_30 rfl (lv_at hl1 3 rfl) ?_
  refine lv_icmp_ge (tgt := 61) hx hb d_Tokens_append_31 (by decide) (fun c_26 => ?_) (fun c_26 => ?_)
  · first | exact absurd c_26 (by decide) | exact absurd (by decide) c_26
  refine lv_aload_n hx hb d_Tokens_append_34 rfl (lv_at hl1 1 rfl) ?_
  refine va_get (D := D) (ci := 9) (v := .ref h2) (C := R_Tokens) (T := F_Tokens) (N := 8) hx hb hts i_Tokens hown hK.1 hP 0 rfl rfl 0 (by decide) (hts _ wd_40) (fun _ h9 => h9) rfl d_Tokens_append_35 ?_
  refine lv_aload_n hx hb d_Tokens_append_38 rfl (lv_at hl1 1 rfl) ?_
  refine va_get (D := D) (ci := 9) (v := .int 0) (C := R_Tokens) (T := F_Tokens) (N := 8) hx hb hts i_Tokens hown hK.1 hP 0 rfl rfl 2 (by decide) (hts _ wd_42) (fun _ h9 => h9) rfl d_Tokens_append_39 ?_
  refine lv_iload hx hb d_Tokens_append_42 (lv_at hl1 0 rfl) ?_
  refine lv_iadd hx hb d_Tokens_append_44 ?_
  refine lv_topi (fun z_27 ez_27 => ?_)
  have ez_27 : z_27 = 3 := ez_27.trans (by first | rfl | decide)
  subst ez_27
  refine lv_lload_n hx hb d_Tokens_append_45 rfl (lv_at hl1 2 rfl) ?_
  refine lv_bipush (v := 8) hx hb d_Tokens_append_46 (by decide) ?_
  refine lv_iload hx hb d_Tokens_append_48 (lv_at hl1 0 rfl) ?_
  refine lv_imul hx hb d_Tokens_append_50 ?_
  refine lv_topi (fun z_28 ez_28 => ?_)
  have ez_28 : z_28 = 24 := ez_28.trans (by first | rfl | decide)
  subst ez_28
  refine lv_lushr hx hb d_Tokens_append_51 rfl ?_
  refine lv_topl (fun z_29 ez_29 => ?_)
  refine lv_l2i hx hb d_Tokens_append_52 rfl ?_
  refine lv_topi (fun z_30 ez_30 => ?_)
  refine lv_i2b hx hb d_Tokens_append_53 rfl ?_
  refine lv_topi (fun z_31 ez_31 => ?_)
  refine va_bast hx hb hK.1 hP hD hS 1 1 rfl rfl (by unfold vp_in; decide) d_Tokens_append_54 (fun H_32 locs hP hD hS => ?_)
  have hP : va_P D classes [(h1, .inr (9, [.ref h2, .ref h3, .int 0, .int 0, .int 0, .int (-1), .int 0, .int 0])), (h2, .inl (ax 1, 400, .inl (upd (upd (upd (upd (fun _ => 0) 0 (vp_nar .byte z_10)) 1 (vp_nar .byte z_17)) 2 (vp_nar .byte z_24)) 3 (vp_nar .byte z_31)))), (h3, .inl (ax 0, 401, .inl (fun _ => 0)))] H_32 := hP
  have hD : va_D A [(h1, .inr (9, [.ref h2, .ref h3, .int 0, .int 0, .int 0, .int (-1), .int 0, .int 0])), (h2, .inl (ax 1, 400, .inl (upd (upd (upd (upd (fun _ => 0) 0 (vp_nar .byte z_10)) 1 (vp_nar .byte z_17)) 2 (vp_nar .byte z_24)) 3 (vp_nar .byte z_31)))), (h3, .inl (ax 0, 401, .inl (fun _ => 0)))] := hD
  refine lv_iinc (v := 4) (lv' := [(4, .int 4), (0, .ref h1), (1, .long w), (3, .int 6)]) hx hb d_Tokens_append_55 hl1 (k := 0) rfl (by decide) (by decide) rfl (fun ls hl1 => ?_)
  refine lv_goto (tgt := 28) hx hb d_Tokens_append_58 (by decide) ?_
  refine lv_iload hx hb d_Tokens_append_28 (lv_at hl1 0 rfl) ?_
  refine lv_iload_n hx hb d_Tokens_append_30 rfl (lv_at hl1 3 rfl) ?_
  refine lv_icmp_ge (tgt := 61) hx hb d_Tokens_append_31 (by decide) (fun c_33 => ?_) (fun c_33 => ?_)
  · first | exact absurd c_33 (by decide) | exact absurd (by decide) c_33
  refine lv_aload_n hx hb d_Tokens_append_34 rfl (lv_at hl1 1 rfl) ?_
  refine va_get (D := D) (ci := 9) (v := .ref h2) (C := R_Tokens) (T := F_Tokens) (N := 8) hx hb hts i_Tokens hown hK.1 hP 0 rfl rfl 0 (by decide) (hts _ wd_40) (fun _ h9 => h9) rfl d_Tokens_append_35 ?_
  refine lv_aload_n hx hb d_Tokens_append_38 rfl (lv_at hl1 1 rfl) ?_
  refine va_get (D := D) (ci := 9) (v := .int 0) (C := R_Tokens) (T := F_Tokens) (N := 8) hx hb hts i_Tokens hown hK.1 hP 0 rfl rfl 2 (by decide) (hts _ wd_42) (fun _ h9 => h9) rfl d_Tokens_append_39 ?_
  refine lv_iload hx hb d_Tokens_append_42 (lv_at hl1 0 rfl) ?_
  refine lv_iadd hx hb d_Tokens_append_44 ?_
  refine lv_topi (fun z_34 ez_34 => ?_)
  have ez_34 : z_34 = 4 := ez_34.trans (by first | rfl | decide)
  subst ez_34
  refine lv_lload_n hx hb d_Tokens_append_45 rfl (lv_at hl1 2 rfl) ?_
  refine lv_bipush (v := 8) hx hb d_Tokens_append_46 (by decide) ?_
  refine lv_iload hx hb d_Tokens_append_48 (lv_at hl1 0 rfl) ?_
  refine lv_imul hx hb d_Tokens_append_50 ?_
  refine lv_topi (fun z_35 ez_35 => ?_)
  have ez_35 : z_35 = 32 := ez_35.trans (by first | rfl | decide)
  subst ez_35
  refine lv_lushr hx hb d_Tokens_append_51 rfl ?_
  refine lv_topl (fun z_36 ez_36 => ?_)
  refine lv_l2i hx hb d_Tokens_append_52 rfl ?_
  refine lv_topi (fun z_37 ez_37 => ?_)
  refine lv_i2b hx hb d_Tokens_append_53 rfl ?_
  refine lv_topi (fun z_38 ez_38 => ?_)
  refine va_bast hx hb hK.1 hP hD hS 1 1 rfl rfl (by unfold vp_in; decide) d_Tokens_append_54 (fun H_39 locs hP hD hS => ?_)
  have hP : va_P D classes [(h1, .inr (9, [.ref h2, .ref h3, .int 0, .int 0, .int 0, .int (-1), .int 0, .int 0])), (h2, .inl (ax 1, 400, .inl (upd (upd (upd (upd (upd (fun _ => 0) 0 (vp_nar .byte z_10)) 1 (vp_nar .byte z_17)) 2 (vp_nar .byte z_24)) 3 (vp_nar .byte z_31)) 4 (vp_nar .byte z_38)))), (h3, .inl (ax 0, 401, .inl (fun _ => 0)))] H_39 := hP
  have hD : va_D A [(h1, .inr (9, [.ref h2, .ref h3, .int 0, .int 0, .int 0, .int (-1), .int 0, .int 0])), (h2, .inl (ax 1, 400, .inl (upd (upd (upd (upd (upd (fun _ => 0) 0 (vp_nar .byte z_10)) 1 (vp_nar .byte z_17)) 2 (vp_nar .byte z_24)) 3 (vp_nar .byte z_31)) 4 (vp_nar .byte z_38)))), (h3, .inl (ax 0, 401, .inl (fun _ => 0)))] := hD
  refine lv_iinc (v := 5) (lv' := [(4, .int 5), (0, .ref h1), (1, .long w), (3, .int 6)]) hx hb d_Tokens_append_55 hl1 (k := 0) rfl (by decide) (by decide) rfl (fun ls hl1 => ?_)
  refine lv_goto (tgt := 28) hx hb d_Tokens_append_58 (by decide) ?_
  refine lv_iload hx hb d_Tokens_append_28 (lv_at hl1 0 rfl) ?_
  refine lv_iload_n hx hb d_Tokens_append_30 rfl (lv_at hl1 3 rfl) ?_
  refine lv_icmp_ge (tgt := 61) hx hb d_Tokens_append_31 (by decide) (fun c_40 => ?_) (fun c_40 => ?_)
  · first | exact absurd c_40 (by decide) | exact absurd (by decide) c_40
  refine lv_aload_n hx hb d_Tokens_append_34 rfl (lv_at hl1 1 rfl) ?_
  refine va_get (D := D) (ci := 9) (v := .ref h2) (C := R_Tokens) (T := F_Tokens) (N := 8) hx hb hts i_Tokens hown hK.1 hP 0 rfl rfl 0 (by decide) (hts _ wd_40) (fun _ h9 => h9) rfl d_Tokens_append_35 ?_
  refine lv_aload_n hx hb d_Tokens_append_38 rfl (lv_at hl1 1 rfl) ?_
  refine va_get (D := D) (ci := 9) (v := .int 0) (C := R_Tokens) (T := F_Tokens) (N := 8) hx hb hts i_Tokens hown hK.1 hP 0 rfl rfl 2 (by decide) (hts _ wd_42) (fun _ h9 => h9) rfl d_Tokens_append_39 ?_
  refine lv_iload hx hb d_Tokens_append_42 (lv_at hl1 0 rfl) ?_
  refine lv_iadd hx hb d_Tokens_append_44 ?_
  refine lv_topi (fun z_41 ez_41 => ?_)
  have ez_41 : z_41 = 5 := ez_41.trans (by first | rfl | decide)
  subst ez_41
  refine lv_lload_n hx hb d_Tokens_append_45 rfl (lv_at hl1 2 rfl) ?_
  refine lv_bipush (v := 8) hx hb d_Tokens_append_46 (by decide) ?_
  refine lv_iload hx hb d_Tokens_append_48 (lv_at hl1 0 rfl) ?_
  refine lv_imul hx hb d_Tokens_append_50 ?_
  refine lv_topi (fun z_42 ez_42 => ?_)
  have ez_42 : z_42 = 40 := ez_42.trans (by first | rfl | decide)
  subst ez_42
  refine lv_lushr hx hb d_Tokens_append_51 rfl ?_
  refine lv_topl (fun z_43 ez_43 => ?_)
  refine lv_l2i hx hb d_Tokens_append_52 rfl ?_
  refine lv_topi (fun z_44 ez_44 => ?_)
  refine lv_i2b hx hb d_Tokens_append_53 rfl ?_
  refine lv_topi (fun z_45 ez_45 => ?_)
  refine va_bast hx hb hK.1 hP hD hS 1 1 rfl rfl (by unfold vp_in; decide) d_Tokens_append_54 (fun H_46 locs hP hD hS => ?_)
  have hP : va_P D classes [(h1, .inr (9, [.ref h2, .ref h3, .int 0, .int 0, .int 0, .int (-1), .int 0, .int 0])), (h2, .inl (ax 1, 400, .inl (upd (upd (upd (upd (upd (upd (fun _ => 0) 0 (vp_nar .byte z_10)) 1 (vp_nar .byte z_17)) 2 (vp_nar .byte z_24)) 3 (vp_nar .byte z_31)) 4 (vp_nar .byte z_38)) 5 (vp_nar .byte z_45)))), (h3, .inl (ax 0, 401, .inl (fun _ => 0)))] H_46 := hP
  have hD : va_D A [(h1, .inr (9, [.ref h2, .ref h3, .int 0, .int 0, .int 0, .int (-1), .int 0, .int 0])), (h2, .inl (ax 1, 400, .inl (upd (upd (upd (upd (upd (upd (fun _ => 0) 0 (vp_nar .byte z_10)) 1 (vp_nar .byte z_17)) 2 (vp_nar .byte z_24)) 3 (vp_nar .byte z_31)) 4 (vp_nar .byte z_38)) 5 (vp_nar .byte z_45)))), (h3, .inl (ax 0, 401, .inl (fun _ => 0)))] := hD
  refine lv_iinc (v := 6) (lv' := [(4, .int 6), (0, .ref h1), (1, .long w), (3, .int 6)]) hx hb d_Tokens_append_55 hl1 (k := 0) rfl (by decide) (by decide) rfl (fun ls hl1 => ?_)
  refine lv_goto (tgt := 28) hx hb d_Tokens_append_58 (by decide) ?_
  refine lv_iload hx hb d_Tokens_append_28 (lv_at hl1 0 rfl) ?_
  refine lv_iload_n hx hb d_Tokens_append_30 rfl (lv_at hl1 3 rfl) ?_
  refine lv_icmp_ge (tgt := 61) hx hb d_Tokens_append_31 (by decide) (fun c_47 => ?_) (fun c_47 => ?_)
  rotate_left
  · first | exact absurd c_47 (by decide) | exact absurd (by decide) c_47
  refine lv_aload_n hx hb d_Tokens_append_61 rfl (lv_at hl1 1 rfl) ?_
  refine lv_dup hx hb d_Tokens_append_62 rfl ?_
  refine va_get (D := D) (ci := 9) (v := .int 0) (C := R_Tokens) (T := F_Tokens) (N := 8) hx hb hts i_Tokens hown hK.1 hP 0 rfl rfl 2 (by decide) (hts _ wd_42) (fun _ h9 => h9) rfl d_Tokens_append_63 ?_
  refine lv_iload_n hx hb d_Tokens_append_66 rfl (lv_at hl1 3 rfl) ?_
  refine lv_iadd hx hb d_Tokens_append_67 ?_
  refine lv_topi (fun z_48 ez_48 => ?_)
  have ez_48 : z_48 = 6 := ez_48.trans (by first | rfl | decide)
  subst ez_48
  refine va_put (D := D) (ci := 9) (v := .int 6) (ty := .int) (C := R_Tokens) (T := F_Tokens) (N := 8) hx hb hts i_Tokens t_Tokens t_Tokens_ok n_Tokens hown hK.1 hP hD hS 0 rfl rfl 2 (by decide) (hts _ wd_42) (fun _ h9 => h9) rfl (by decide +kernel) rfl rfl (Nat.le_of_ble_eq_true rfl) d_Tokens_append_68 (fun H_49 locs hP hD hS => ?_)
  have hP : va_P D classes [(h1, .inr (9, [.ref h2, .ref h3, .int 6, .int 0, .int 0, .int (-1), .int 0, .int 0])), (h2, .inl (ax 1, 400, .inl (upd (upd (upd (upd (upd (upd (fun _ => 0) 0 (vp_nar .byte z_10)) 1 (vp_nar .byte z_17)) 2 (vp_nar .byte z_24)) 3 (vp_nar .byte z_31)) 4 (vp_nar .byte z_38)) 5 (vp_nar .byte z_45)))), (h3, .inl (ax 0, 401, .inl (fun _ => 0)))] H_49 := hP
  have hD : va_D A [(h1, .inr (9, [.ref h2, .ref h3, .int 6, .int 0, .int 0, .int (-1), .int 0, .int 0])), (h2, .inl (ax 1, 400, .inl (upd (upd (upd (upd (upd (upd (fun _ => 0) 0 (vp_nar .byte z_10)) 1 (vp_nar .byte z_17)) 2 (vp_nar .byte z_24)) 3 (vp_nar .byte z_31)) 4 (vp_nar .byte z_38)) 5 (vp_nar .byte z_45)))), (h3, .inl (ax 0, 401, .inl (fun _ => 0)))] := hD
  refine lv_iconst (v := 1) hx hb d_Tokens_append_71 (by decide) ?_
  exact W.zret (v := 1) hx hb hr rfl (fun t ht hW => ⟨⟨1, fun _ => 0, rfl, rfl, trivial⟩, hS.F ht⟩) hS.2.2 d_Tokens_append_72
set_option maxHeartbeats 4000000 in
set_option maxRecDepth 100000 in
theorem c_Desk_type_6 (l : Launch) (D : va_G) (ax : Nat → ClassId) (d0 d1 d2 d3 d4 d5 d6 d7 d8 d9 d10 d11 d12 : Nat) (e1 e2 : Nat) (w : Int64) (sz : Nat) : Met l y_Desk_type (xws (.code y_Desk_type b_Desk_type 4 (some .boolean))) ({ frames := 20, cells := 0, slots := 0, locals := 800 }) (va_Pc [.ref d0, .long w, .int 6] (xo D ax [(d0, .inr (10, [.ref d1, .ref d2, .ref d3, .ref d4, .ref d5, .ref d6, .ref d7, .ref d8, .ref d9, .ref d10, .ref d11, .ref d12, .int 0])), (d1, .inr (9, [.ref e1, .ref e2, .int 0, .int 0, .int 0, .int (-1), .int 0, .int 0])), (e1, .inl (ax 1, 400, .inl (fun _ => 0))), (e2, .inl (ax 0, 401, .inl (fun _ => 0)))] sz)) ((va_Qi (fun (r : Int32) (u : Nat → Nat) => r = 1) (fun (_ : Nat → Nat) (_ : State) => True) (va_A [(d0, .inr (10, [.ref d1, .ref d2, .ref d3, .ref d4, .ref d5, .ref d6, .ref d7, .ref d8, .ref d9, .ref d10, .ref d11, .ref d12, .int 0])), (d1, .inr (9, [.ref e1, .ref e2, .int 0, .int 0, .int 0, .int (-1), .int 0, .int 0])), (e1, .inl (ax 1, 400, .inl (fun _ => 0))), (e2, .inl (ax 0, 401, .inl (fun _ => 0)))] sz))) 0 0 (va_A [(d0, .inr (10, [.ref d1, .ref d2, .ref d3, .ref d4, .ref d5, .ref d6, .ref d7, .ref d8, .ref d9, .ref d10, .ref d11, .ref d12, .int 0])), (d1, .inr (9, [.ref e1, .ref e2, .int 0, .int 0, .int 0, .int (-1), .int 0, .int 0])), (e1, .inl (ax 1, 400, .inl (fun _ => 0))), (e2, .inl (ax 0, 401, .inl (fun _ => 0)))] sz) := by
  refine Met.ofW (cc := b_Desk_type) (maxL := 4) (ret := (some .boolean)) (by decide) rfl ?_
  intro p e s m args below meth c s₁ B hml hv
  obtain ⟨rfl, hsz, hP, hK, hD0⟩ := hv
  have hx := B.exec
  have hb := B.bytes
  have hr := B.returns
  have hts := xw_hts B.pre
  have hown : s.vm.findClass R_Desk = some m.cls := findClass_of_methodNamed B.named
  have hlocks := B.notSynchronized
  subst hsz
  have hD := hD0.self (sz := s.heap.size)
  have hN := xz_entry hP
  generalize hAe : va_A [(d0, .inr (10, [.ref d1, .ref d2, .ref d3, .ref d4, .ref d5, .ref d6, .ref d7, .ref d8, .ref d9, .ref d10, .ref d11, .ref d12, .int 0])), (d1, .inr (9, [.ref e1, .ref e2, .int 0, .int 0, .int 0, .int (-1), .int 0, .int 0])), (e1, .inl (ax 1, 400, .inl (fun _ => 0))), (e2, .inl (ax 0, 401, .inl (fun _ => 0)))] s.heap.size = A at hD hN ⊢
  have hA : ∀ q : Nat, s.heap.size ≤ q → A q := fun q h => by rw [← hAe]; exact Or.inr h
  have hS : va_S A s.heap s.heap [] := va_S.rf
  have hl0 := lv_entry ([.ref d0, .long w, .int 6]) (n := 4) (Nat.le_of_ble_eq_true rfl)
  rw [lg_entry_eq]
  generalize (lg_sl ([.ref d0, .long w, .int 6]) ++ List.replicate (4 - (lg_sl ([.ref d0, .long w, .int 6])).length) Slot.unset).toArray = ls at hl0 ⊢
  have hl1 : lv_has ls 4 [(0, .ref d0), (1, .long w), (3, .int 6)] := hl0
  refine lv_aload_n hx hb d_Desk_type_0 rfl (lv_at hl1 0 rfl) ?_
  refine va_get (D := D) (ci := 10) (v := .ref d1) (C := R_Desk) (T := F_Desk) (N := 13) hx hb hts i_Desk hown hK.1 hP 0 rfl rfl 0 (by decide) (hts _ wd_375) (fun _ h9 => h9) rfl d_Desk_type_1 ?_
  refine lv_lload_n hx hb d_Desk_type_4 rfl (lv_at hl1 1 rfl) ?_
  refine lv_iload_n hx hb d_Desk_type_5 rfl (lv_at hl1 2 rfl) ?_
  have hPc := hP.sub (ws' := [(d1, .inr (9, [.ref e1, .ref e2, .int 0, .int 0, .int 0, .int (-1), .int 0, .int 0])), (e1, .inl (ax 1, 400, .inl (fun _ => 0))), (e2, .inl (ax 0, 401, .inl (fun _ => 0)))]) [1, 2, 3] rfl
  have hDc := hD.sub (ws' := [(d1, .inr (9, [.ref e1, .ref e2, .int 0, .int 0, .int 0, .int (-1), .int 0, .int 0])), (e1, .inl (ax 1, 400, .inl (fun _ => 0))), (e2, .inl (ax 0, 401, .inl (fun _ => 0)))]) [1, 2, 3] (by decide) rfl
  have hFc := va_free (wc := [(d1, .inr (9, [.ref e1, .ref e2, .int 0, .int 0, .int 0, .int (-1), .int 0, .int 0])), (e1, .inl (ax 1, 400, .inl (fun _ => 0))), (e2, .inl (ax 0, 401, .inl (fun _ => 0)))]) hD hS hA [1, 2, 3] rfl
  have hz := xz_of hN hS
  refine va_calli (va_runV (As := [.long w, .int 6]) (rest := []) ⟨hx, hb, hml, hown, hts⟩ (c_Tokens_append_6 l D ax d1 e1 e2 w s.heap.size) (xcV (n := 2) hts wd_422 wd_2 wd_419 wd_420 wd_421 rfl rfl (by decide +kernel) ⟨Nat.le_of_ble_eq_true rfl, Nat.le_of_ble_eq_true rfl⟩) (xpV (ci := 9) (q0 := 0) (As := [.long w, .int 6]) hPc hK hz hDc rfl rfl) rfl rfl hl1.1 rfl (lv_room (Nat.le_of_ble_eq_true rfl)) d_Desk_type_6 ⟨Nat.le_of_ble_eq_true rfl, Nat.le_of_ble_eq_true rfl⟩) hS (fun q _ h => hFc q h) hFc (fun r_3 u_1 t H_2 locs ht hvm hw hB hz1 hk1 hS => ?_)
  try dsimp only at hw
  subst hw
  obtain ⟨hP, hD⟩ := va_join (wr := [(d0, .inr (10, [.ref d1, .ref d2, .ref d3, .ref d4, .ref d5, .ref d6, .ref d7, .ref d8, .ref d9, .ref d10, .ref d11, .ref d12, .int 0]))]) (w1 := []) hP hD [1, 2, 3] [0] rfl rfl (by decide) (by decide) hk1 hFc x_nilP x_nilD
  have hP : va_P D classes [(d0, .inr (10, [.ref d1, .ref d2, .ref d3, .ref d4, .ref d5, .ref d6, .ref d7, .ref d8, .ref d9, .ref d10, .ref d11, .ref d12, .int 0]))] H_2 := hP
  have hD : va_D A [(d0, .inr (10, [.ref d1, .ref d2, .ref d3, .ref d4, .ref d5, .ref d6, .ref d7, .ref d8, .ref d9, .ref d10, .ref d11, .ref d12, .int 0]))] := hD
  exact W.zret (v := 1) hx hb hr rfl (fun t ht hW => ⟨⟨1, fun _ => 0, rfl, rfl, trivial⟩, hS.F ht⟩) hS.2.2 d_Desk_type_9
set_option maxHeartbeats 4000000 in
set_option maxRecDepth 100000 in
theorem c_Tokens_append_7 (l : Launch) (D : va_G) (ax : Nat → ClassId) (h1 h2 h3 : Nat) (w : Int64) (sz : Nat) : Met l y_Tokens_append (xws (.code y_Tokens_append b_Tokens_append 5 (some .boolean))) ({ frames := 10, cells := 0, slots := 0, locals := 400 }) (va_Pc [.ref h1, .long w, .int 7] (xo D ax [(h1, .inr (9, [.ref h2, .ref h3, .int 0, .int 0, .int 0, .int (-1), .int 0, .int 0])), (h2, .inl (ax 1, 400, .inl (fun _ => 0))), (h3, .inl (ax 0, 401, .inl (fun _ => 0)))] sz)) ((va_Qi (fun (r : Int32) (u : Nat → Nat) => r = 1) (fun (_ : Nat → Nat) (_ : State) => True) (va_A [(h1, .inr (9, [.ref h2, .ref h3, .int 0, .int 0, .int 0, .int (-1), .int 0, .int 0])), (h2, .inl (ax 1, 400, .inl (fun _ => 0))), (h3, .inl (ax 0, 401, .inl (fun _ => 0)))] sz))) 0 0 (va_A [(h1, .inr (9, [.ref h2, .ref h3, .int 0, .int 0, .int 0, .int (-1), .int 0, .int 0])), (h2, .inl (ax 1, 400, .inl (fun _ => 0))), (h3, .inl (ax 0, 401, .inl (fun _ => 0)))] sz) := by
  refine Met.ofW (cc := b_Tokens_append) (maxL := 5) (ret := (some .boolean)) (by decide) rfl ?_
  intro p e s m args below meth c s₁ B hml hv
  obtain ⟨rfl, hsz, hP, hK, hD0⟩ := hv
  have hx := B.exec
  have hb := B.bytes
  have hr := B.returns
  have hts := xw_hts B.pre
  have hown : s.vm.findClass R_Tokens = some m.cls := findClass_of_methodNamed B.named
  have hlocks := B.notSynchronized
  subst hsz
  have hD := hD0.self (sz := s.heap.size)
  have hN := xz_entry hP
  generalize hAe : va_A [(h1, .inr (9, [.ref h2, .ref h3, .int 0, .int 0, .int 0, .int (-1), .int 0, .int 0])), (h2, .inl (ax 1, 400, .inl (fun _ => 0))), (h3, .inl (ax 0, 401, .inl (fun _ => 0)))] s.heap.size = A at hD hN ⊢
  have hA : ∀ q : Nat, s.heap.size ≤ q → A q := fun q h => by rw [← hAe]; exact Or.inr h
  have hS : va_S A s.heap s.heap [] := va_S.rf
  have hl0 := lv_entry ([.ref h1, .long w, .int 7]) (n := 5) (Nat.le_of_ble_eq_true rfl)
  rw [lg_entry_eq]
  generalize (lg_sl ([.ref h1, .long w, .int 7]) ++ List.replicate (5 - (lg_sl ([.ref h1, .long w, .int 7])).length) Slot.unset).toArray = ls at hl0 ⊢
  have hl1 : lv_has ls 5 [(0, .ref h1), (1, .long w), (3, .int 7)] := hl0
  refine lv_iload_n hx hb d_Tokens_append_0 rfl (lv_at hl1 2 rfl) ?_
  refine lv_iconst (v := 1) hx hb d_Tokens_append_1 (by decide) ?_
  refine lv_icmp_lt (tgt := 23) hx hb d_Tokens_append_2 (by decide) (fun c_1 => ?_) (fun c_1 => ?_)
  · first | exact absurd c_1 (by decide) | exact absurd (by decide) c_1
  refine lv_iload_n hx hb d_Tokens_append_5 rfl (lv_at hl1 2 rfl) ?_
  refine lv_bipush (v := 8) hx hb d_Tokens_append_6 (by decide) ?_
  refine lv_icmp_gt (tgt := 23) hx hb d_Tokens_append_8 (by decide) (fun c_2 => ?_) (fun c_2 => ?_)
  · first | exact absurd c_2 (by decide) | exact absurd (by decide) c_2
  refine lv_aload_n hx hb d_Tokens_append_11 rfl (lv_at hl1 0 rfl) ?_
  refine va_get (D := D) (ci := 9) (v := .int 0) (C := R_Tokens) (T := F_Tokens) (N := 8) hx hb hts i_Tokens hown hK.1 hP 0 rfl rfl 2 (by decide) (hts _ wd_42) (fun _ h9 => h9) rfl d_Tokens_append_12 ?_
  refine lv_iload_n hx hb d_Tokens_append_15 rfl (lv_at hl1 2 rfl) ?_
  refine lv_iadd hx hb d_Tokens_append_16 ?_
  refine lv_topi (fun z_3 ez_3 => ?_)
  have ez_3 : z_3 = 7 := ez_3.trans (by first | rfl | decide)
  subst ez_3
  refine lv_sipush (v := 400) hx hb d_Tokens_append_17 (by decide) ?_
  refine lv_icmp_le (tgt := 25) hx hb d_Tokens_append_20 (by decide) (fun c_4 => ?_) (fun c_4 => ?_)
  rotate_left
  · first | exact absurd c_4 (by decide) | exact absurd (by decide) c_4
  refine lv_iconst (v := 0) hx hb d_Tokens_append_25 (by decide) ?_
  refine lv_istore (lv' := [(4, .int 0), (0, .ref h1), (1, .long w), (3, .int 7)]) hx hb d_Tokens_append_26 hl1 (by decide) rfl (fun ls hl1 => ?_)
  refine lv_iload hx hb d_Tokens_append_28 (lv_at hl1 0 rfl) ?_
  refine lv_iload_n hx hb d_Tokens_append_30 rfl (lv_at hl1 3 rfl) ?_
  refine lv_icmp_ge (tgt := 61) hx hb d_Tokens_append_31 (by decide) (fun c_5 => ?_) (fun c_5 => ?_)
  · first | exact absurd c_5 (by decide) | exact absurd (by decide) c_5
  refine lv_aload_n hx hb d_Tokens_append_34 rfl (lv_at hl1 1 rfl) ?_
  refine va_get (D := D) (ci := 9) (v := .ref h2) (C := R_Tokens) (T := F_Tokens) (N := 8) hx hb hts i_Tokens hown hK.1 hP 0 rfl rfl 0 (by decide) (hts _ wd_40) (fun _ h9 => h9) rfl d_Tokens_append_35 ?_
  refine lv_aload_n hx hb d_Tokens_append_38 rfl (lv_at hl1 1 rfl) ?_
  refine va_get (D := D) (ci := 9) (v := .int 0) (C := R_Tokens) (T := F_Tokens) (N := 8) hx hb hts i_Tokens hown hK.1 hP 0 rfl rfl 2 (by decide) (hts _ wd_42) (fun _ h9 => h9) rfl d_Tokens_append_39 ?_
  refine lv_iload hx hb d_Tokens_append_42 (lv_at hl1 0 rfl) ?_
  refine lv_iadd hx hb d_Tokens_append_44 ?_
  refine lv_topi (fun z_6 ez_6 => ?_)
  have ez_6 : z_6 = 0 := ez_6.trans (by first | rfl | decide)
  subst ez_6
  refine lv_lload_n hx hb d_Tokens_append_45 rfl (lv_at hl1 2 rfl) ?_
  refine lv_bipush (v := 8) hx hb d_Tokens_append_46 (by decide) ?_
  refine lv_iload hx hb d_Tokens_append_48 (lv_at hl1 0 rfl) ?_
  refine lv_imul hx hb d_Tokens_append_50 ?_
  refine lv_topi (fun z_7 ez_7 => ?_)
  have ez_7 : z_7 = 0 := ez_7.trans (by first | rfl | decide)
  subst ez_7
  refine lv_lushr hx hb d_Tokens_append_51 rfl ?_
  refine lv_topl (fun z_8 ez_8 => ?_)
  refine lv_l2i hx hb d_Tokens_append_52 rfl ?_
  refine lv_topi (fun z_9 ez_9 => ?_)
  refine lv_i2b hx hb d_Tokens_append_53 rfl ?_
  refine lv_topi (fun z_10 ez_10 => ?_)
  refine va_bast hx hb hK.1 hP hD hS 1 1 rfl rfl (by unfold vp_in; decide) d_Tokens_append_54 (fun H_11 locs hP hD hS => ?_)
  have hP : va_P D classes [(h1, .inr (9, [.ref h2, .ref h3, .int 0, .int 0, .int 0, .int (-1), .int 0, .int 0])), (h2, .inl (ax 1, 400, .inl (upd (fun _ => 0) 0 (vp_nar .byte z_10)))), (h3, .inl (ax 0, 401, .inl (fun _ => 0)))] H_11 := hP
  have hD : va_D A [(h1, .inr (9, [.ref h2, .ref h3, .int 0, .int 0, .int 0, .int (-1), .int 0, .int 0])), (h2, .inl (ax 1, 400, .inl (upd (fun _ => 0) 0 (vp_nar .byte z_10)))), (h3, .inl (ax 0, 401, .inl (fun _ => 0)))] := hD
  refine lv_iinc (v := 1) (lv' := [(4, .int 1), (0, .ref h1), (1, .long w), (3, .int 7)]) hx hb d_Tokens_append_55 hl1 (k := 0) rfl (by decide) (by decide) rfl (fun ls hl1 => ?_)
  refine lv_goto (tgt := 28) hx hb d_Tokens_append_58 (by decide) ?_
  refine lv_iload hx hb d_Tokens_append_28 (lv_at hl1 0 rfl) ?_
  refine lv_iload_n hx hb d_Tokens_append_30 rfl (lv_at hl1 3 rfl) ?_
  refine lv_icmp_ge (tgt := 61) hx hb d_Tokens_append_31 (by decide) (fun c_12 => ?_) (fun c_12 => ?_)
  · first | exact absurd c_12 (by decide) | exact absurd (by decide) c_12
  refine lv_aload_n hx hb d_Tokens_append_34 rfl (lv_at hl1 1 rfl) ?_
  refine va_get (D := D) (ci := 9) (v := .ref h2) (C := R_Tokens) (T := F_Tokens) (N := 8) hx hb hts i_Tokens hown hK.1 hP 0 rfl rfl 0 (by decide) (hts _ wd_40) (fun _ h9 => h9) rfl d_Tokens_append_35 ?_
  refine lv_aload_n hx hb d_Tokens_append_38 rfl (lv_at hl1 1 rfl) ?_
  refine va_get (D := D) (ci := 9) (v := .int 0) (C := R_Tokens) (T := F_Tokens) (N := 8) hx hb hts i_Tokens hown hK.1 hP 0 rfl rfl 2 (by decide) (hts _ wd_42) (fun _ h9 => h9) rfl d_Tokens_append_39 ?_
  refine lv_iload hx hb d_Tokens_append_42 (lv_at hl1 0 rfl) ?_
  refine lv_iadd hx hb d_Tokens_append_44 ?_
  refine lv_topi (fun z_13 ez_13 => ?_)
  have ez_13 : z_13 = 1 := ez_13.trans (by first | rfl | decide)
  subst ez_13
  refine lv_lload_n hx hb d_Tokens_append_45 rfl (lv_at hl1 2 rfl) ?_
  refine lv_bipush (v := 8) hx hb d_Tokens_append_46 (by decide) ?_
  refine lv_iload hx hb d_Tokens_append_48 (lv_at hl1 0 rfl) ?_
  refine lv_imul hx hb d_Tokens_append_50 ?_
  refine lv_topi (fun z_14 ez_14 => ?_)
  have ez_14 : z_14 = 8 := ez_14.trans (by first | rfl | decide)
  subst ez_14
  refine lv_lushr hx hb d_Tokens_append_51 rfl ?_
  refine lv_topl (fun z_15 ez_15 => ?_)
  refine lv_l2i hx hb d_Tokens_append_52 rfl ?_
  refine lv_topi (fun z_16 ez_16 => ?_)
  refine lv_i2b hx hb d_Tokens_append_53 rfl ?_
  refine lv_topi (fun z_17 ez_17 => ?_)
  refine va_bast hx hb hK.1 hP hD hS 1 1 rfl rfl (by unfold vp_in; decide) d_Tokens_append_54 (fun H_18 locs hP hD hS => ?_)
  have hP : va_P D classes [(h1, .inr (9, [.ref h2, .ref h3, .int 0, .int 0, .int 0, .int (-1), .int 0, .int 0])), (h2, .inl (ax 1, 400, .inl (upd (upd (fun _ => 0) 0 (vp_nar .byte z_10)) 1 (vp_nar .byte z_17)))), (h3, .inl (ax 0, 401, .inl (fun _ => 0)))] H_18 := hP
  have hD : va_D A [(h1, .inr (9, [.ref h2, .ref h3, .int 0, .int 0, .int 0, .int (-1), .int 0, .int 0])), (h2, .inl (ax 1, 400, .inl (upd (upd (fun _ => 0) 0 (vp_nar .byte z_10)) 1 (vp_nar .byte z_17)))), (h3, .inl (ax 0, 401, .inl (fun _ => 0)))] := hD
  refine lv_iinc (v := 2) (lv' := [(4, .int 2), (0, .ref h1), (1, .long w), (3, .int 7)]) hx hb d_Tokens_append_55 hl1 (k := 0) rfl (by decide) (by decide) rfl (fun ls hl1 => ?_)
  refine lv_goto (tgt := 28) hx hb d_Tokens_append_58 (by decide) ?_
  refine lv_iload hx hb d_Tokens_append_28 (lv_at hl1 0 rfl) ?_
  refine lv_iload_n hx hb d_Tokens_append_30 rfl (lv_at hl1 3 rfl) ?_
  refine lv_icmp_ge (tgt := 61) hx hb d_Tokens_append_31 (by decide) (fun c_19 => ?_) (fun c_19 => ?_)
  · first | exact absurd c_19 (by decide) | exact absurd (by decide) c_19
  refine lv_aload_n hx hb d_Tokens_append_34 rfl (lv_at hl1 1 rfl) ?_
  refine va_get (D := D) (ci := 9) (v := .ref h2) (C := R_Tokens) (T := F_Tokens) (N := 8) hx hb hts i_Tokens hown hK.1 hP 0 rfl rfl 0 (by decide) (hts _ wd_40) (fun _ h9 => h9) rfl d_Tokens_append_35 ?_
  refine lv_aload_n hx hb d_Tokens_append_38 rfl (lv_at hl1 1 rfl) ?_
  refine va_get (D := D) (ci := 9) (v := .int 0) (C := R_Tokens) (T := F_Tokens) (N := 8) hx hb hts i_Tokens hown hK.1 hP 0 rfl rfl 2 (by decide) (hts _ wd_42) (fun _ h9 => h9) rfl d_Tokens_append_39 ?_
  refine lv_iload hx hb d_Tokens_append_42 (lv_at hl1 0 rfl) ?_
  refine lv_iadd hx hb d_Tokens_append_44 ?_
  refine lv_topi (fun z_20 ez_20 => ?_)
  have ez_20 : z_20 = 2 := ez_20.trans (by first | rfl | decide)
  subst ez_20
  refine lv_lload_n hx hb d_Tokens_append_45 rfl (lv_at hl1 2 rfl) ?_
  refine lv_bipush (v := 8) hx hb d_Tokens_append_46 (by decide) ?_
  refine lv_iload hx hb d_Tokens_append_48 (lv_at hl1 0 rfl) ?_
  refine lv_imul hx hb d_Tokens_append_50 ?_
  refine lv_topi (fun z_21 ez_21 => ?_)
  have ez_21 : z_21 = 16 := ez_21.trans (by first | rfl | decide)
  subst ez_21
  refine lv_lushr hx hb d_Tokens_append_51 rfl ?_
  refine lv_topl (fun z_22 ez_22 => ?_)
  refine lv_l2i hx hb d_Tokens_append_52 rfl ?_
  refine lv_topi (fun z_23 ez_23 => ?_)
  refine lv_i2b hx hb d_Tokens_append_53 rfl ?_
  refine lv_topi (fun z_24 ez_24 => ?_)
  refine va_bast hx hb hK.1 hP hD hS 1 1 rfl rfl (by unfold vp_in; decide) d_Tokens_append_54 (fun H_25 locs hP hD hS => ?_)
  have hP : va_P D classes [(h1, .inr (9, [.ref h2, .ref h3, .int 0, .int 0, .int 0, .int (-1), .int 0, .int 0])), (h2, .inl (ax 1, 400, .inl (upd (upd (upd (fun _ => 0) 0 (vp_nar .byte z_10)) 1 (vp_nar .byte z_17)) 2 (vp_nar .byte z_24)))), (h3, .inl (ax 0, 401, .inl (fun _ => 0)))] H_25 := hP
  have hD : va_D A [(h1, .inr (9, [.ref h2, .ref h3, .int 0, .int 0, .int 0, .int (-1), .int 0, .int 0])), (h2, .inl (ax 1, 400, .inl (upd (upd (upd (fun _ => 0) 0 (vp_nar .byte z_10)) 1 (vp_nar .byte z_17)) 2 (vp_nar .byte z_24)))), (h3, .inl (ax 0, 401, .inl (fun _ => 0)))] := hD
  refine lv_iinc (v := 3) (lv' := [(4, .int 3), (0, .ref h1), (1, .long w), (3, .int 7)]) hx hb d_Tokens_append_55 hl1 (k := 0) rfl (by decide) (by decide) rfl (fun ls hl1 => ?_)
  refine lv_goto (tgt := 28) hx hb d_Tokens_append_58 (by decide) ?_
  refine lv_iload hx hb d_Tokens_append_28 (lv_at hl1 0 rfl) ?_
  refine lv_iload_n hx hb d_Tokens_append_30 rfl (lv_at hl1 3 rfl) ?_
  refine lv_icmp_ge (tgt := 61) hx hb d_Tokens_append_31 (by decide) (fun c_26 => ?_) (fun c_26 => ?_)
  · first | exact absurd c_26 (by decide) | exact absurd (by decide) c_26
  refine lv_aload_n hx hb d_Tokens_append_34 rfl (lv_at hl1 1 rfl) ?_
  refine va_get (D := D) (ci := 9) (v := .ref h2) (C := R_Tokens) (T := F_Tokens) (N := 8) hx hb hts i_Tokens hown hK.1 hP 0 rfl rfl 0 (by decide) (hts _ wd_40) (fun _ h9 => h9) rfl d_Tokens_append_35 ?_
  refine lv_aload_n hx hb d_Tokens_append_38 rfl (lv_at hl1 1 rfl) ?_
  refine va_get (D := D) (ci := 9) (v := .int 0) (C := R_Tokens) (T := F_Tokens) (N := 8) hx hb hts i_Tokens hown hK.1 hP 0 rfl rfl 2 (by decide) (hts _ wd_42) (fun _ h9 => h9) rfl d_Tokens_append_39 ?_
  refine lv_iload hx hb d_Tokens_append_42 (lv_at hl1 0 rfl) ?_
  refine lv_iadd hx hb d_Tokens_append_44 ?_
  refine lv_topi (fun z_27 ez_27 => ?_)
  have ez_27 : z_27 = 3 := ez_27.trans (by first | rfl | decide)
  subst ez_27
  refine lv_lload_n hx hb d_Tokens_append_45 rfl (lv_at hl1 2 rfl) ?_
  refine lv_bipush (v := 8) hx hb d_Tokens_append_46 (by decide) ?_
  refine lv_iload hx hb d_Tokens_append_48 (lv_at hl1 0 rfl) ?_
  refine lv_imul hx hb d_Tokens_append_50 ?_
  refine lv_topi (fun z_28 ez_28 => ?_)
  have ez_28 : z_28 = 24 := ez_28.trans (by first | rfl | decide)
  subst ez_28
  refine lv_lushr hx hb d_Tokens_append_51 rfl ?_
  refine lv_topl (fun z_29 ez_29 => ?_)
  refine lv_l2i hx hb d_Tokens_append_52 rfl ?_
  refine lv_topi (fun z_30 ez_30 => ?_)
  refine lv_i2b hx hb d_Tokens_append_53 rfl ?_
  refine lv_topi (fun z_31 ez_31 => ?_)
  refine va_bast hx hb hK.1 hP hD hS 1 1 rfl rfl (by unfold vp_in; decide) d_Tokens_append_54 (fun H_32 locs hP hD hS => ?_)
  have hP : va_P D classes [(h1, .inr (9, [.ref h2, .ref h3, .int 0, .int 0, .int 0, .int (-1), .int 0, .int 0])), (h2, .inl (ax 1, 400, .inl (upd (upd (upd (upd (fun _ => 0) 0 (vp_nar .byte z_10)) 1 (vp_nar .byte z_17)) 2 (vp_nar .byte z_24)) 3 (vp_nar .byte z_31)))), (h3, .inl (ax 0, 401, .inl (fun _ => 0)))] H_32 := hP
  have hD : va_D A [(h1, .inr (9, [.ref h2, .ref h3, .int 0, .int 0, .int 0, .int (-1), .int 0, .int 0])), (h2, .inl (ax 1, 400, .inl (upd (upd (upd (upd (fun _ => 0) 0 (vp_nar .byte z_10)) 1 (vp_nar .byte z_17)) 2 (vp_nar .byte z_24)) 3 (vp_nar .byte z_31)))), (h3, .inl (ax 0, 401, .inl (fun _ => 0)))] := hD
  refine lv_iinc (v := 4) (lv' := [(4, .int 4), (0, .ref h1), (1, .long w), (3, .int 7)]) hx hb d_Tokens_append_55 hl1 (k := 0) rfl (by decide) (by decide) rfl (fun ls hl1 => ?_)
  refine lv_goto (tgt := 28) hx hb d_Tokens_append_58 (by decide) ?_
  refine lv_iload hx hb d_Tokens_append_28 (lv_at hl1 0 rfl) ?_
  refine lv_iload_n hx hb d_Tokens_append_30 rfl (lv_at hl1 3 rfl) ?_
  refine lv_icmp_ge (tgt := 61) hx hb d_Tokens_append_31 (by decide) (fun c_33 => ?_) (fun c_33 => ?_)
  · first | exact absurd c_33 (by decide) | exact absurd (by decide) c_33
  refine lv_aload_n hx hb d_Tokens_append_34 rfl (lv_at hl1 1 rfl) ?_
  refine va_get (D := D) (ci := 9) (v := .ref h2) (C := R_Tokens) (T := F_Tokens) (N := 8) hx hb hts i_Tokens hown hK.1 hP 0 rfl rfl 0 (by decide) (hts _ wd_40) (fun _ h9 => h9) rfl d_Tokens_append_35 ?_
  refine lv_aload_n hx hb d_Tokens_append_38 rfl (lv_at hl1 1 rfl) ?_
  refine va_get (D := D) (ci := 9) (v := .int 0) (C := R_Tokens) (T := F_Tokens) (N := 8) hx hb hts i_Tokens hown hK.1 hP 0 rfl rfl 2 (by decide) (hts _ wd_42) (fun _ h9 => h9) rfl d_Tokens_append_39 ?_
  refine lv_iload hx hb d_Tokens_append_42 (lv_at hl1 0 rfl) ?_
  refine lv_iadd hx hb d_Tokens_append_44 ?_
  refine lv_topi (fun z_34 ez_34 => ?_)
  have ez_34 : z_34 = 4 := ez_34.trans (by first | rfl | decide)
  subst ez_34
  refine lv_lload_n hx hb d_Tokens_append_45 rfl (lv_at hl1 2 rfl) ?_
  refine lv_bipush (v := 8) hx hb d_Tokens_append_46 (by decide) ?_
  refine lv_iload hx hb d_Tokens_append_48 (lv_at hl1 0 rfl) ?_
  refine lv_imul hx hb d_Tokens_append_50 ?_
  refine lv_topi (fun z_35 ez_35 => ?_)
  have ez_35 : z_35 = 32 := ez_35.trans (by first | rfl | decide)
  subst ez_35
  refine lv_lushr hx hb d_Tokens_append_51 rfl ?_
  refine lv_topl (fun z_36 ez_36 => ?_)
  refine lv_l2i hx hb d_Tokens_append_52 rfl ?_
  refine lv_topi (fun z_37 ez_37 => ?_)
  refine lv_i2b hx hb d_Tokens_append_53 rfl ?_
  refine lv_topi (fun z_38 ez_38 => ?_)
  refine va_bast hx hb hK.1 hP hD hS 1 1 rfl rfl (by unfold vp_in; decide) d_Tokens_append_54 (fun H_39 locs hP hD hS => ?_)
  have hP : va_P D classes [(h1, .inr (9, [.ref h2, .ref h3, .int 0, .int 0, .int 0, .int (-1), .int 0, .int 0])), (h2, .inl (ax 1, 400, .inl (upd (upd (upd (upd (upd (fun _ => 0) 0 (vp_nar .byte z_10)) 1 (vp_nar .byte z_17)) 2 (vp_nar .byte z_24)) 3 (vp_nar .byte z_31)) 4 (vp_nar .byte z_38)))), (h3, .inl (ax 0, 401, .inl (fun _ => 0)))] H_39 := hP
  have hD : va_D A [(h1, .inr (9, [.ref h2, .ref h3, .int 0, .int 0, .int 0, .int (-1), .int 0, .int 0])), (h2, .inl (ax 1, 400, .inl (upd (upd (upd (upd (upd (fun _ => 0) 0 (vp_nar .byte z_10)) 1 (vp_nar .byte z_17)) 2 (vp_nar .byte z_24)) 3 (vp_nar .byte z_31)) 4 (vp_nar .byte z_38)))), (h3, .inl (ax 0, 401, .inl (fun _ => 0)))] := hD
  refine lv_iinc (v := 5) (lv' := [(4, .int 5), (0, .ref h1), (1, .long w), (3, .int 7)]) hx hb d_Tokens_append_55 hl1 (k := 0) rfl (by decide) (by decide) rfl (fun ls hl1 => ?_)
  refine lv_goto (tgt := 28) hx hb d_Tokens_append_58 (by decide) ?_
  refine lv_iload hx hb d_Tokens_append_28 (lv_at hl1 0 rfl) ?_
  refine lv_iload_n hx hb d_Tokens_append_30 rfl (lv_at hl1 3 rfl) ?_
  refine lv_icmp_ge (tgt := 61) hx hb d_Tokens_append_31 (by decide) (fun c_40 => ?_) (fun c_40 => ?_)
  · first | exact absurd c_40 (by decide) | exact absurd (by decide) c_40
  refine lv_aload_n hx hb d_Tokens_append_34 rfl (lv_at hl1 1 rfl) ?_
  refine va_get (D := D) (ci := 9) (v := .ref h2) (C := R_Tokens) (T := F_Tokens) (N := 8) hx hb hts i_Tokens hown hK.1 hP 0 rfl rfl 0 (by decide) (hts _ wd_40) (fun _ h9 => h9) rfl d_Tokens_append_35 ?_
  refine lv_aload_n hx hb d_Tokens_append_38 rfl (lv_at hl1 1 rfl) ?_
  refine va_get (D := D) (ci := 9) (v := .int 0) (C := R_Tokens) (T := F_Tokens) (N := 8) hx hb hts i_Tokens hown hK.1 hP 0 rfl rfl 2 (by decide) (hts _ wd_42) (fun _ h9 => h9) rfl d_Tokens_append_39 ?_
  refine lv_iload hx hb d_Tokens_append_42 (lv_at hl1 0 rfl) ?_
  refine lv_iadd hx hb d_Tokens_append_44 ?_
  refine lv_topi (fun z_41 ez_41 => ?_)
  have ez_41 : z_41 = 5 := ez_41.trans (by first | rfl | decide)
  subst ez_41
  refine lv_lload_n hx hb d_Tokens_append_45 rfl (lv_at hl1 2 rfl) ?_
  refine lv_bipush (v := 8) hx hb d_Tokens_append_46 (by decide) ?_
  refine lv_iload hx hb d_Tokens_append_48 (lv_at hl1 0 rfl) ?_
  refine lv_imul hx hb d_Tokens_append_50 ?_
  refine lv_topi (fun z_42 ez_42 => ?_)
  have ez_42 : z_42 = 40 := ez_42.trans (by first | rfl | decide)
  subst ez_42
  refine lv_lushr hx hb d_Tokens_append_51 rfl ?_
  refine lv_topl (fun z_43 ez_43 => ?_)
  refine lv_l2i hx hb d_Tokens_append_52 rfl ?_
  refine lv_topi (fun z_44 ez_44 => ?_)
  refine lv_i2b hx hb d_Tokens_append_53 rfl ?_
  refine lv_topi (fun z_45 ez_45 => ?_)
  refine va_bast hx hb hK.1 hP hD hS 1 1 rfl rfl (by unfold vp_in; decide) d_Tokens_append_54 (fun H_46 locs hP hD hS => ?_)
  have hP : va_P D classes [(h1, .inr (9, [.ref h2, .ref h3, .int 0, .int 0, .int 0, .int (-1), .int 0, .int 0])), (h2, .inl (ax 1, 400, .inl (upd (upd (upd (upd (upd (upd (fun _ => 0) 0 (vp_nar .byte z_10)) 1 (vp_nar .byte z_17)) 2 (vp_nar .byte z_24)) 3 (vp_nar .byte z_31)) 4 (vp_nar .byte z_38)) 5 (vp_nar .byte z_45)))), (h3, .inl (ax 0, 401, .inl (fun _ => 0)))] H_46 := hP
  have hD : va_D A [(h1, .inr (9, [.ref h2, .ref h3, .int 0, .int 0, .int 0, .int (-1), .int 0, .int 0])), (h2, .inl (ax 1, 400, .inl (upd (upd (upd (upd (upd (upd (fun _ => 0) 0 (vp_nar .byte z_10)) 1 (vp_nar .byte z_17)) 2 (vp_nar .byte z_24)) 3 (vp_nar .byte z_31)) 4 (vp_nar .byte z_38)) 5 (vp_nar .byte z_45)))), (h3, .inl (ax 0, 401, .inl (fun _ => 0)))] := hD
  refine lv_iinc (v := 6) (lv' := [(4, .int 6), (0, .ref h1), (1, .long w), (3, .int 7)]) hx hb d_Tokens_append_55 hl1 (k := 0) rfl (by decide) (by decide) rfl (fun ls hl1 => ?_)
  refine lv_goto (tgt := 28) hx hb d_Tokens_append_58 (by decide) ?_
  refine lv_iload hx hb d_Tokens_append_28 (lv_at hl1 0 rfl) ?_
  refine lv_iload_n hx hb d_Tokens_append_30 rfl (lv_at hl1 3 rfl) ?_
  refine lv_icmp_ge (tgt := 61) hx hb d_Tokens_append_31 (by decide) (fun c_47 => ?_) (fun c_47 => ?_)
  · first | exact absurd c_47 (by decide) | exact absurd (by decide) c_47
  refine lv_aload_n hx hb d_Tokens_append_34 rfl (lv_at hl1 1 rfl) ?_
  refine va_get (D := D) (ci := 9) (v := .ref h2) (C := R_Tokens) (T := F_Tokens) (N := 8) hx hb hts i_Tokens hown hK.1 hP 0 rfl rfl 0 (by decide) (hts _ wd_40) (fun _ h9 => h9) rfl d_Tokens_append_35 ?_
  refine lv_aload_n hx hb d_Tokens_append_38 rfl (lv_at hl1 1 rfl) ?_
  refine va_get (D := D) (ci := 9) (v := .int 0) (C := R_Tokens) (T := F_Tokens) (N := 8) hx hb hts i_Tokens hown hK.1 hP 0 rfl rfl 2 (by decide) (hts _ wd_42) (fun _ h9 => h9) rfl d_Tokens_append_39 ?_
  refine lv_iload hx hb d_Tokens_append_42 (lv_at hl1 0 rfl) ?_
  refine lv_iadd hx hb d_Tokens_append_44 ?_
  refine lv_topi (fun z_48 ez_48 => ?_)
  have ez_48 : z_48 = 6 := ez_48.trans (by first | rfl | decide)
  subst ez_48
  refine lv_lload_n hx hb d_Tokens_append_45 rfl (lv_at hl1 2 rfl) ?_
  refine lv_bipush (v := 8) hx hb d_Tokens_append_46 (by decide) ?_
  refine lv_iload hx hb d_Tokens_append_48 (lv_at hl1 0 rfl) ?_
  refine lv_imul hx hb d_Tokens_append_50 ?_
  refine lv_topi (fun z_49 ez_49 => ?_)
  have ez_49 : z_49 = 48 := ez_49.trans (by first | rfl | decide)
  subst ez_49
  refine lv_lushr hx hb d_Tokens_append_51 rfl ?_
  refine lv_topl (fun z_50 ez_50 => ?_)
  refine lv_l2i hx hb d_Tokens_append_52 rfl ?_
  refine lv_topi (fun z_51 ez_51 => ?_)
  refine lv_i2b hx hb d_Tokens_append_53 rfl ?_
  refine lv_topi (fun z_52 ez_52 => ?_)
  refine va_bast hx hb hK.1 hP hD hS 1 1 rfl rfl (by unfold vp_in; decide) d_Tokens_append_54 (fun H_53 locs hP hD hS => ?_)
  have hP : va_P D classes [(h1, .inr (9, [.ref h2, .ref h3, .int 0, .int 0, .int 0, .int (-1), .int 0, .int 0])), (h2, .inl (ax 1, 400, .inl (upd (upd (upd (upd (upd (upd (upd (fun _ => 0) 0 (vp_nar .byte z_10)) 1 (vp_nar .byte z_17)) 2 (vp_nar .byte z_24)) 3 (vp_nar .byte z_31)) 4 (vp_nar .byte z_38)) 5 (vp_nar .byte z_45)) 6 (vp_nar .byte z_52)))), (h3, .inl (ax 0, 401, .inl (fun _ => 0)))] H_53 := hP
  have hD : va_D A [(h1, .inr (9, [.ref h2, .ref h3, .int 0, .int 0, .int 0, .int (-1), .int 0, .int 0])), (h2, .inl (ax 1, 400, .inl (upd (upd (upd (upd (upd (upd (upd (fun _ => 0) 0 (vp_nar .byte z_10)) 1 (vp_nar .byte z_17)) 2 (vp_nar .byte z_24)) 3 (vp_nar .byte z_31)) 4 (vp_nar .byte z_38)) 5 (vp_nar .byte z_45)) 6 (vp_nar .byte z_52)))), (h3, .inl (ax 0, 401, .inl (fun _ => 0)))] := hD
  refine lv_iinc (v := 7) (lv' := [(4, .int 7), (0, .ref h1), (1, .long w), (3, .int 7)]) hx hb d_Tokens_append_55 hl1 (k := 0) rfl (by decide) (by decide) rfl (fun ls hl1 => ?_)
  refine lv_goto (tgt := 28) hx hb d_Tokens_append_58 (by decide) ?_
  refine lv_iload hx hb d_Tokens_append_28 (lv_at hl1 0 rfl) ?_
  refine lv_iload_n hx hb d_Tokens_append_30 rfl (lv_at hl1 3 rfl) ?_
  refine lv_icmp_ge (tgt := 61) hx hb d_Tokens_append_31 (by decide) (fun c_54 => ?_) (fun c_54 => ?_)
  rotate_left
  · first | exact absurd c_54 (by decide) | exact absurd (by decide) c_54
  refine lv_aload_n hx hb d_Tokens_append_61 rfl (lv_at hl1 1 rfl) ?_
  refine lv_dup hx hb d_Tokens_append_62 rfl ?_
  refine va_get (D := D) (ci := 9) (v := .int 0) (C := R_Tokens) (T := F_Tokens) (N := 8) hx hb hts i_Tokens hown hK.1 hP 0 rfl rfl 2 (by decide) (hts _ wd_42) (fun _ h9 => h9) rfl d_Tokens_append_63 ?_
  refine lv_iload_n hx hb d_Tokens_append_66 rfl (lv_at hl1 3 rfl) ?_
  refine lv_iadd hx hb d_Tokens_append_67 ?_
  refine lv_topi (fun z_55 ez_55 => ?_)
  have ez_55 : z_55 = 7 := ez_55.trans (by first | rfl | decide)
  subst ez_55
  refine va_put (D := D) (ci := 9) (v := .int 7) (ty := .int) (C := R_Tokens) (T := F_Tokens) (N := 8) hx hb hts i_Tokens t_Tokens t_Tokens_ok n_Tokens hown hK.1 hP hD hS 0 rfl rfl 2 (by decide) (hts _ wd_42) (fun _ h9 => h9) rfl (by decide +kernel) rfl rfl (Nat.le_of_ble_eq_true rfl) d_Tokens_append_68 (fun H_56 locs hP hD hS => ?_)
  have hP : va_P D classes [(h1, .inr (9, [.ref h2, .ref h3, .int 7, .int 0, .int 0, .int (-1), .int 0, .int 0])), (h2, .inl (ax 1, 400, .inl (upd (upd (upd (upd (upd (upd (upd (fun _ => 0) 0 (vp_nar .byte z_10)) 1 (vp_nar .byte z_17)) 2 (vp_nar .byte z_24)) 3 (vp_nar .byte z_31)) 4 (vp_nar .byte z_38)) 5 (vp_nar .byte z_45)) 6 (vp_nar .byte z_52)))), (h3, .inl (ax 0, 401, .inl (fun _ => 0)))] H_56 := hP
  have hD : va_D A [(h1, .inr (9, [.ref h2, .ref h3, .int 7, .int 0, .int 0, .int (-1), .int 0, .int 0])), (h2, .inl (ax 1, 400, .inl (upd (upd (upd (upd (upd (upd (upd (fun _ => 0) 0 (vp_nar .byte z_10)) 1 (vp_nar .byte z_17)) 2 (vp_nar .byte z_24)) 3 (vp_nar .byte z_31)) 4 (vp_nar .byte z_38)) 5 (vp_nar .byte z_45)) 6 (vp_nar .byte z_52)))), (h3, .inl (ax 0, 401, .inl (fun _ => 0)))] := hD
  refine lv_iconst (v := 1) hx hb d_Tokens_append_71 (by decide) ?_
  exact W.zret (v := 1) hx hb hr rfl (fun t ht hW => ⟨⟨1, fun _ => 0, rfl, rfl, trivial⟩, hS.F ht⟩) hS.2.2 d_Tokens_append_72
set_option maxHeartbeats 4000000 in
set_option maxRecDepth 100000 in
theorem c_Desk_type_7 (l : Launch) (D : va_G) (ax : Nat → ClassId) (d0 d1 d2 d3 d4 d5 d6 d7 d8 d9 d10 d11 d12 : Nat) (e1 e2 : Nat) (w : Int64) (sz : Nat) : Met l y_Desk_type (xws (.code y_Desk_type b_Desk_type 4 (some .boolean))) ({ frames := 20, cells := 0, slots := 0, locals := 800 }) (va_Pc [.ref d0, .long w, .int 7] (xo D ax [(d0, .inr (10, [.ref d1, .ref d2, .ref d3, .ref d4, .ref d5, .ref d6, .ref d7, .ref d8, .ref d9, .ref d10, .ref d11, .ref d12, .int 0])), (d1, .inr (9, [.ref e1, .ref e2, .int 0, .int 0, .int 0, .int (-1), .int 0, .int 0])), (e1, .inl (ax 1, 400, .inl (fun _ => 0))), (e2, .inl (ax 0, 401, .inl (fun _ => 0)))] sz)) ((va_Qi (fun (r : Int32) (u : Nat → Nat) => r = 1) (fun (_ : Nat → Nat) (_ : State) => True) (va_A [(d0, .inr (10, [.ref d1, .ref d2, .ref d3, .ref d4, .ref d5, .ref d6, .ref d7, .ref d8, .ref d9, .ref d10, .ref d11, .ref d12, .int 0])), (d1, .inr (9, [.ref e1, .ref e2, .int 0, .int 0, .int 0, .int (-1), .int 0, .int 0])), (e1, .inl (ax 1, 400, .inl (fun _ => 0))), (e2, .inl (ax 0, 401, .inl (fun _ => 0)))] sz))) 0 0 (va_A [(d0, .inr (10, [.ref d1, .ref d2, .ref d3, .ref d4, .ref d5, .ref d6, .ref d7, .ref d8, .ref d9, .ref d10, .ref d11, .ref d12, .int 0])), (d1, .inr (9, [.ref e1, .ref e2, .int 0, .int 0, .int 0, .int (-1), .int 0, .int 0])), (e1, .inl (ax 1, 400, .inl (fun _ => 0))), (e2, .inl (ax 0, 401, .inl (fun _ => 0)))] sz) := by
  refine Met.ofW (cc := b_Desk_type) (maxL := 4) (ret := (some .boolean)) (by decide) rfl ?_
  intro p e s m args below meth c s₁ B hml hv
  obtain ⟨rfl, hsz, hP, hK, hD0⟩ := hv
  have hx := B.exec
  have hb := B.bytes
  have hr := B.returns
  have hts := xw_hts B.pre
  have hown : s.vm.findClass R_Desk = some m.cls := findClass_of_methodNamed B.named
  have hlocks := B.notSynchronized
  subst hsz
  have hD := hD0.self (sz := s.heap.size)
  have hN := xz_entry hP
  generalize hAe : va_A [(d0, .inr (10, [.ref d1, .ref d2, .ref d3, .ref d4, .ref d5, .ref d6, .ref d7, .ref d8, .ref d9, .ref d10, .ref d11, .ref d12, .int 0])), (d1, .inr (9, [.ref e1, .ref e2, .int 0, .int 0, .int 0, .int (-1), .int 0, .int 0])), (e1, .inl (ax 1, 400, .inl (fun _ => 0))), (e2, .inl (ax 0, 401, .inl (fun _ => 0)))] s.heap.size = A at hD hN ⊢
  have hA : ∀ q : Nat, s.heap.size ≤ q → A q := fun q h => by rw [← hAe]; exact Or.inr h
  have hS : va_S A s.heap s.heap [] := va_S.rf
  have hl0 := lv_entry ([.ref d0, .long w, .int 7]) (n := 4) (Nat.le_of_ble_eq_true rfl)
  rw [lg_entry_eq]
  generalize (lg_sl ([.ref d0, .long w, .int 7]) ++ List.replicate (4 - (lg_sl ([.ref d0, .long w, .int 7])).length) Slot.unset).toArray = ls at hl0 ⊢
  have hl1 : lv_has ls 4 [(0, .ref d0), (1, .long w), (3, .int 7)] := hl0
  refine lv_aload_n hx hb d_Desk_type_0 rfl (lv_at hl1 0 rfl) ?_
  refine va_get (D := D) (ci := 10) (v := .ref d1) (C := R_Desk) (T := F_Desk) (N := 13) hx hb hts i_Desk hown hK.1 hP 0 rfl rfl 0 (by decide) (hts _ wd_375) (fun _ h9 => h9) rfl d_Desk_type_1 ?_
  refine lv_lload_n hx hb d_Desk_type_4 rfl (lv_at hl1 1 rfl) ?_
  refine lv_iload_n hx hb d_Desk_type_5 rfl (lv_at hl1 2 rfl) ?_
  have hPc := hP.sub (ws' := [(d1, .inr (9, [.ref e1, .ref e2, .int 0, .int 0, .int 0, .int (-1), .int 0, .int 0])), (e1, .inl (ax 1, 400, .inl (fun _ => 0))), (e2, .inl (ax 0, 401, .inl (fun _ => 0)))]) [1, 2, 3] rfl
  have hDc := hD.sub (ws' := [(d1, .inr (9, [.ref e1, .ref e2, .int 0, .int 0, .int 0, .int (-1), .int 0, .int 0])), (e1, .inl (ax 1, 400, .inl (fun _ => 0))), (e2, .inl (ax 0, 401, .inl (fun _ => 0)))]) [1, 2, 3] (by decide) rfl
  have hFc := va_free (wc := [(d1, .inr (9, [.ref e1, .ref e2, .int 0, .int 0, .int 0, .int (-1), .int 0, .int 0])), (e1, .inl (ax 1, 400, .inl (fun _ => 0))), (e2, .inl (ax 0, 401, .inl (fun _ => 0)))]) hD hS hA [1, 2, 3] rfl
  have hz := xz_of hN hS
  refine va_calli (va_runV (As := [.long w, .int 7]) (rest := []) ⟨hx, hb, hml, hown, hts⟩ (c_Tokens_append_7 l D ax d1 e1 e2 w s.heap.size) (xcV (n := 2) hts wd_422 wd_2 wd_419 wd_420 wd_421 rfl rfl (by decide +kernel) ⟨Nat.le_of_ble_eq_true rfl, Nat.le_of_ble_eq_true rfl⟩) (xpV (ci := 9) (q0 := 0) (As := [.long w, .int 7]) hPc hK hz hDc rfl rfl) rfl rfl hl1.1 rfl (lv_room (Nat.le_of_ble_eq_true rfl)) d_Desk_type_6 ⟨Nat.le_of_ble_eq_true rfl, Nat.le_of_ble_eq_true rfl⟩) hS (fun q _ h => hFc q h) hFc (fun r_3 u_1 t H_2 locs ht hvm hw hB hz1 hk1 hS => ?_)
  try dsimp only at hw
  subst hw
  obtain ⟨hP, hD⟩ := va_join (wr := [(d0, .inr (10, [.ref d1, .ref d2, .ref d3, .ref d4, .ref d5, .ref d6, .ref d7, .ref d8, .ref d9, .ref d10, .ref d11, .ref d12, .int 0]))]) (w1 := []) hP hD [1, 2, 3] [0] rfl rfl (by decide) (by decide) hk1 hFc x_nilP x_nilD
  have hP : va_P D classes [(d0, .inr (10, [.ref d1, .ref d2, .ref d3, .ref d4, .ref d5, .ref d6, .ref d7, .ref d8, .ref d9, .ref d10, .ref d11, .ref d12, .int 0]))] H_2 := hP
  have hD : va_D A [(d0, .inr (10, [.ref d1, .ref d2, .ref d3, .ref d4, .ref d5, .ref d6, .ref d7, .ref d8, .ref d9, .ref d10, .ref d11, .ref d12, .int 0]))] := hD
  exact W.zret (v := 1) hx hb hr rfl (fun t ht hW => ⟨⟨1, fun _ => 0, rfl, rfl, trivial⟩, hS.F ht⟩) hS.2.2 d_Desk_type_9
set_option maxHeartbeats 4000000 in
set_option maxRecDepth 100000 in
theorem c_Tokens_append_8 (l : Launch) (D : va_G) (ax : Nat → ClassId) (h1 h2 h3 : Nat) (w : Int64) (sz : Nat) : Met l y_Tokens_append (xws (.code y_Tokens_append b_Tokens_append 5 (some .boolean))) ({ frames := 10, cells := 0, slots := 0, locals := 400 }) (va_Pc [.ref h1, .long w, .int 8] (xo D ax [(h1, .inr (9, [.ref h2, .ref h3, .int 0, .int 0, .int 0, .int (-1), .int 0, .int 0])), (h2, .inl (ax 1, 400, .inl (fun _ => 0))), (h3, .inl (ax 0, 401, .inl (fun _ => 0)))] sz)) ((va_Qi (fun (r : Int32) (u : Nat → Nat) => r = 1) (fun (_ : Nat → Nat) (_ : State) => True) (va_A [(h1, .inr (9, [.ref h2, .ref h3, .int 0, .int 0, .int 0, .int (-1), .int 0, .int 0])), (h2, .inl (ax 1, 400, .inl (fun _ => 0))), (h3, .inl (ax 0, 401, .inl (fun _ => 0)))] sz))) 0 0 (va_A [(h1, .inr (9, [.ref h2, .ref h3, .int 0, .int 0, .int 0, .int (-1), .int 0, .int 0])), (h2, .inl (ax 1, 400, .inl (fun _ => 0))), (h3, .inl (ax 0, 401, .inl (fun _ => 0)))] sz) := by
  refine Met.ofW (cc := b_Tokens_append) (maxL := 5) (ret := (some .boolean)) (by decide) rfl ?_
  intro p e s m args below meth c s₁ B hml hv
  obtain ⟨rfl, hsz, hP, hK, hD0⟩ := hv
  have hx := B.exec
  have hb := B.bytes
  have hr := B.returns
  have hts := xw_hts B.pre
  have hown : s.vm.findClass R_Tokens = some m.cls := findClass_of_methodNamed B.named
  have hlocks := B.notSynchronized
  subst hsz
  have hD := hD0.self (sz := s.heap.size)
  have hN := xz_entry hP
  generalize hAe : va_A [(h1, .inr (9, [.ref h2, .ref h3, .int 0, .int 0, .int 0, .int (-1), .int 0, .int 0])), (h2, .inl (ax 1, 400, .inl (fun _ => 0))), (h3, .inl (ax 0, 401, .inl (fun _ => 0)))] s.heap.size = A at hD hN ⊢
  have hA : ∀ q : Nat, s.heap.size ≤ q → A q := fun q h => by rw [← hAe]; exact Or.inr h
  have hS : va_S A s.heap s.heap [] := va_S.rf
  have hl0 := lv_entry ([.ref h1, .long w, .int 8]) (n := 5) (Nat.le_of_ble_eq_true rfl)
  rw [lg_entry_eq]
  generalize (lg_sl ([.ref h1, .long w, .int 8]) ++ List.replicate (5 - (lg_sl ([.ref h1, .long w, .int 8])).length) Slot.unset).toArray = ls at hl0 ⊢
  have hl1 : lv_has ls 5 [(0, .ref h1), (1, .long w), (3, .int 8)] := hl0
  refine lv_iload_n hx hb d_Tokens_append_0 rfl (lv_at hl1 2 rfl) ?_
  refine lv_iconst (v := 1) hx hb d_Tokens_append_1 (by decide) ?_
  refine lv_icmp_lt (tgt := 23) hx hb d_Tokens_append_2 (by decide) (fun c_1 => ?_) (fun c_1 => ?_)
  · first | exact absurd c_1 (by decide) | exact absurd (by decide) c_1
  refine lv_iload_n hx hb d_Tokens_append_5 rfl (lv_at hl1 2 rfl) ?_
  refine lv_bipush (v := 8) hx hb d_Tokens_append_6 (by decide) ?_
  refine lv_icmp_gt (tgt := 23) hx hb d_Tokens_append_8 (by decide) (fun c_2 => ?_) (fun c_2 => ?_)
  · first | exact absurd c_2 (by decide) | exact absurd (by decide) c_2
  refine lv_aload_n hx hb d_Tokens_append_11 rfl (lv_at hl1 0 rfl) ?_
  refine va_get (D := D) (ci := 9) (v := .int 0) (C := R_Tokens) (T := F_Tokens) (N := 8) hx hb hts i_Tokens hown hK.1 hP 0 rfl rfl 2 (by decide) (hts _ wd_42) (fun _ h9 => h9) rfl d_Tokens_append_12 ?_
  refine lv_iload_n hx hb d_Tokens_append_15 rfl (lv_at hl1 2 rfl) ?_
  refine lv_iadd hx hb d_Tokens_append_16 ?_
  refine lv_topi (fun z_3 ez_3 => ?_)
  have ez_3 : z_3 = 8 := ez_3.trans (by first | rfl | decide)
  subst ez_3
  refine lv_sipush (v := 400) hx hb d_Tokens_append_17 (by decide) ?_
  refine lv_icmp_le (tgt := 25) hx hb d_Tokens_append_20 (by decide) (fun c_4 => ?_) (fun c_4 => ?_)
  rotate_left
  · first | exact absurd c_4 (by decide) | exact absurd (by decide) c_4
  refine lv_iconst (v := 0) hx hb d_Tokens_append_25 (by decide) ?_
  refine lv_istore (lv' := [(4, .int 0), (0, .ref h1), (1, .long w), (3, .int 8)]) hx hb d_Tokens_append_26 hl1 (by decide) rfl (fun ls hl1 => ?_)
  refine lv_iload hx hb d_Tokens_append_28 (lv_at hl1 0 rfl) ?_
  refine lv_iload_n hx hb d_Tokens_append_30 rfl (lv_at hl1 3 rfl) ?_
  refine lv_icmp_ge (tgt := 61) hx hb d_Tokens_append_31 (by decide) (fun c_5 => ?_) (fun c_5 => ?_)
  · first | exact absurd c_5 (by decide) | exact absurd (by decide) c_5
  refine lv_aload_n hx hb d_Tokens_append_34 rfl (lv_at hl1 1 rfl) ?_
  refine va_get (D := D) (ci := 9) (v := .ref h2) (C := R_Tokens) (T := F_Tokens) (N := 8) hx hb hts i_Tokens hown hK.1 hP 0 rfl rfl 0 (by decide) (hts _ wd_40) (fun _ h9 => h9) rfl d_Tokens_append_35 ?_
  refine lv_aload_n hx hb d_Tokens_append_38 rfl (lv_at hl1 1 rfl) ?_
  refine va_get (D := D) (ci := 9) (v := .int 0) (C := R_Tokens) (T := F_Tokens) (N := 8) hx hb hts i_Tokens hown hK.1 hP 0 rfl rfl 2 (by decide) (hts _ wd_42) (fun _ h9 => h9) rfl d_Tokens_append_39 ?_
  refine lv_iload hx hb d_Tokens_append_42 (lv_at hl1 0 rfl) ?_
  refine lv_iadd hx hb d_Tokens_append_44 ?_
  refine lv_topi (fun z_6 ez_6 => ?_)
  have ez_6 : z_6 = 0 := ez_6.trans (by first | rfl | decide)
  subst ez_6
  refine lv_lload_n hx hb d_Tokens_append_45 rfl (lv_at hl1 2 rfl) ?_
  refine lv_bipush (v := 8) hx hb d_Tokens_append_46 (by decide) ?_
  refine lv_iload hx hb d_Tokens_append_48 (lv_at hl1 0 rfl) ?_
  refine lv_imul hx hb d_Tokens_append_50 ?_
  refine lv_topi (fun z_7 ez_7 => ?_)
  have ez_7 : z_7 = 0 := ez_7.trans (by first | rfl | decide)
  subst ez_7
  refine lv_lushr hx hb d_Tokens_append_51 rfl ?_
  refine lv_topl (fun z_8 ez_8 => ?_)
  refine lv_l2i hx hb d_Tokens_append_52 rfl ?_
  refine lv_topi (fun z_9 ez_9 => ?_)
  refine lv_i2b hx hb d_Tokens_append_53 rfl ?_
  refine lv_topi (fun z_10 ez_10 => ?_)
  refine va_bast hx hb hK.1 hP hD hS 1 1 rfl rfl (by unfold vp_in; decide) d_Tokens_append_54 (fun H_11 locs hP hD hS => ?_)
  have hP : va_P D classes [(h1, .inr (9, [.ref h2, .ref h3, .int 0, .int 0, .int 0, .int (-1), .int 0, .int 0])), (h2, .inl (ax 1, 400, .inl (upd (fun _ => 0) 0 (vp_nar .byte z_10)))), (h3, .inl (ax 0, 401, .inl (fun _ => 0)))] H_11 := hP
  have hD : va_D A [(h1, .inr (9, [.ref h2, .ref h3, .int 0, .int 0, .int 0, .int (-1), .int 0, .int 0])), (h2, .inl (ax 1, 400, .inl (upd (fun _ => 0) 0 (vp_nar .byte z_10)))), (h3, .inl (ax 0, 401, .inl (fun _ => 0)))] := hD
  refine lv_iinc (v := 1) (lv' := [(4, .int 1), (0, .ref h1), (1, .long w), (3, .int 8)]) hx hb d_Tokens_append_55 hl1 (k := 0) rfl (by decide) (by decide) rfl (fun ls hl1 => ?_)
  refine lv_goto (tgt := 28) hx hb d_Tokens_append_58 (by decide) ?_
  refine lv_iload hx hb d_Tokens_append_28 (lv_at hl1 0 rfl) ?_
  refine lv_iload_n hx hb d_Tokens_append_30 rfl (lv_at hl1 3 rfl) ?_
  refine lv_icmp_ge (tgt := 61) hx hb d_Tokens_append_31 (by decide) (fun c_12 => ?_) (fun c_12 => ?_)
  · first | exact absurd c_12 (by decide) | exact absurd (by decide) c_12
  refine lv_aload_n hx hb d_Tokens_append_34 rfl (lv_at hl1 1 rfl) ?_
  refine va_get (D := D) (ci := 9) (v := .ref h2) (C := R_Tokens) (T := F_Tokens) (N := 8) hx hb hts i_Tokens hown hK.1 hP 0 rfl rfl 0 (by decide) (hts _ wd_40) (fun _ h9 => h9) rfl d_Tokens_append_35 ?_
  refine lv_aload_n hx hb d_Tokens_append_38 rfl (lv_at hl1 1 rfl) ?_
  refine va_get (D := D) (ci := 9) (v := .int 0) (C := R_Tokens) (T := F_Tokens) (N := 8) hx hb hts i_Tokens hown hK.1 hP 0 rfl rfl 2 (by decide) (hts _ wd_42) (fun _ h9 => h9) rfl d_Tokens_append_39 ?_
  refine lv_iload hx hb d_Tokens_append_42 (lv_at hl1 0 rfl) ?_
  refine lv_iadd hx hb d_Tokens_append_44 ?_
  refine lv_topi (fun z_13 ez_13 => ?_)
  have ez_13 : z_13 = 1 := ez_13.trans (by first | rfl | decide)
  subst ez_13
  refine lv_lload_n hx hb d_Tokens_append_45 rfl (lv_at hl1 2 rfl) ?_
  refine lv_bipush (v := 8) hx hb d_Tokens_append_46 (by decide) ?_
  refine lv_iload hx hb d_Tokens_append_48 (lv_at hl1 0 rfl) ?_
  refine lv_imul hx hb d_Tokens_append_50 ?_
  refine lv_topi (fun z_14 ez_14 => ?_)
  have ez_14 : z_14 = 8 := ez_14.trans (by first | rfl | decide)
  subst ez_14
  refine lv_lushr hx hb d_Tokens_append_51 rfl ?_
  refine lv_topl (fun z_15 ez_15 => ?_)
  refine lv_l2i hx hb d_Tokens_append_52 rfl ?_
  refine lv_topi (fun z_16 ez_16 => ?_)
  refine lv_i2b hx hb d_Tokens_append_53 rfl ?_
  refine lv_topi (fun z_17 ez_17 => ?_)
  refine va_bast hx hb hK.1 hP hD hS 1 1 rfl rfl (by unfold vp_in; decide) d_Tokens_append_54 (fun H_18 locs hP hD hS => ?_)
  have hP : va_P D classes [(h1, .inr (9, [.ref h2, .ref h3, .int 0, .int 0, .int 0, .int (-1), .int 0, .int 0])), (h2, .inl (ax 1, 400, .inl (upd (upd (fun _ => 0) 0 (vp_nar .byte z_10)) 1 (vp_nar .byte z_17)))), (h3, .inl (ax 0, 401, .inl (fun _ => 0)))] H_18 := hP
  have hD : va_D A [(h1, .inr (9, [.ref h2, .ref h3, .int 0, .int 0, .int 0, .int (-1), .int 0, .int 0])), (h2, .inl (ax 1, 400, .inl (upd (upd (fun _ => 0) 0 (vp_nar .byte z_10)) 1 (vp_nar .byte z_17)))), (h3, .inl (ax 0, 401, .inl (fun _ => 0)))] := hD
  refine lv_iinc (v := 2) (lv' := [(4, .int 2), (0, .ref h1), (1, .long w), (3, .int 8)]) hx hb d_Tokens_append_55 hl1 (k := 0) rfl (by decide) (by decide) rfl (fun ls hl1 => ?_)
  refine lv_goto (tgt := 28) hx hb d_Tokens_append_58 (by decide) ?_
  refine lv_iload hx hb d_Tokens_append_28 (lv_at hl1 0 rfl) ?_
  refine lv_iload_n hx hb d_Tokens_append_30 rfl (lv_at hl1 3 rfl) ?_
  refine lv_icmp_ge (tgt := 61) hx hb d_Tokens_append_31 (by decide) (fun c_19 => ?_) (fun c_19 => ?_)
  · first | exact absurd c_19 (by decide) | exact absurd (by decide) c_19
  refine lv_aload_n hx hb d_Tokens_append_34 rfl (lv_at hl1 1 rfl) ?_
  refine va_get (D := D) (ci := 9) (v := .ref h2) (C := R_Tokens) (T := F_Tokens) (N := 8) hx hb hts i_Tokens hown hK.1 hP 0 rfl rfl 0 (by decide) (hts _ wd_40) (fun _ h9 => h9) rfl d_Tokens_append_35 ?_
  refine lv_aload_n hx hb d_Tokens_append_38 rfl (lv_at hl1 1 rfl) ?_
  refine va_get (D := D) (ci := 9) (v := .int 0) (C := R_Tokens) (T := F_Tokens) (N := 8) hx hb hts i_Tokens hown hK.1 hP 0 rfl rfl 2 (by decide) (hts _ wd_42) (fun _ h9 => h9) rfl d_Tokens_append_39 ?_
  refine lv_iload hx hb d_Tokens_append_42 (lv_at hl1 0 rfl) ?_
  refine lv_iadd hx hb d_Tokens_append_44 ?_
  refine lv_topi (fun z_20 ez_20 => ?_)
  have ez_20 : z_20 = 2 := ez_20.trans (by first | rfl | decide)
  subst ez_20
  refine lv_lload_n hx hb d_Tokens_append_45 rfl (lv_at hl1 2 rfl) ?_
  refine lv_bipush (v := 8) hx hb d_Tokens_append_46 (by decide) ?_
  refine lv_iload hx hb d_Tokens_append_48 (lv_at hl1 0 rfl) ?_
  refine lv_imul hx hb d_Tokens_append_50 ?_
  refine lv_topi (fun z_21 ez_21 => ?_)
  have ez_21 : z_21 = 16 := ez_21.trans (by first | rfl | decide)
  subst ez_21
  refine lv_lushr hx hb d_Tokens_append_51 rfl ?_
  refine lv_topl (fun z_22 ez_22 => ?_)
  refine lv_l2i hx hb d_Tokens_append_52 rfl ?_
  refine lv_topi (fun z_23 ez_23 => ?_)
  refine lv_i2b hx hb d_Tokens_append_53 rfl ?_
  refine lv_topi (fun z_24 ez_24 => ?_)
  refine va_bast hx hb hK.1 hP hD hS 1 1 rfl rfl (by unfold vp_in; decide) d_Tokens_append_54 (fun H_25 locs hP hD hS => ?_)
  have hP : va_P D classes [(h1, .inr (9, [.ref h2, .ref h3, .int 0, .int 0, .int 0, .int (-1), .int 0, .int 0])), (h2, .inl (ax 1, 400, .inl (upd (upd (upd (fun _ => 0) 0 (vp_nar .byte z_10)) 1 (vp_nar .byte z_17)) 2 (vp_nar .byte z_24)))), (h3, .inl (ax 0, 401, .inl (fun _ => 0)))] H_25 := hP
  have hD : va_D A [(h1, .inr (9, [.ref h2, .ref h3, .int 0, .int 0, .int 0, .int (-1), .int 0, .int 0])), (h2, .inl (ax 1, 400, .inl (upd (upd (upd (fun _ => 0) 0 (vp_nar .byte z_10)) 1 (vp_nar .byte z_17)) 2 (vp_nar .byte z_24)))), (h3, .inl (ax 0, 401, .inl (fun _ => 0)))] := hD
  refine lv_iinc (v := 3) (lv' := [(4, .int 3), (0, .ref h1), (1, .long w), (3, .int 8)]) hx hb d_Tokens_append_55 hl1 (k := 0) rfl (by decide) (by decide) rfl (fun ls hl1 => ?_)
  refine lv_goto (tgt := 28) hx hb d_Tokens_append_58 (by decide) ?_
  refine lv_iload hx hb d_Tokens_append_28 (lv_at hl1 0 rfl) ?_
  refine lv_iload_n hx hb d_Tokens_append_30 rfl (lv_at hl1 3 rfl) ?_
  refine lv_icmp_ge (tgt := 61) hx hb d_Tokens_append_31 (by decide) (fun c_26 => ?_) (fun c_26 => ?_)
  · first | exact absurd c_26 (by decide) | exact absurd (by decide) c_26
  refine lv_aload_n hx hb d_Tokens_append_34 rfl (lv_at hl1 1 rfl) ?_
  refine va_get (D := D) (ci := 9) (v := .ref h2) (C := R_Tokens) (T := F_Tokens) (N := 8) hx hb hts i_Tokens hown hK.1 hP 0 rfl rfl 0 (by decide) (hts _ wd_40) (fun _ h9 => h9) rfl d_Tokens_append_35 ?_
  refine lv_aload_n hx hb d_Tokens_append_38 rfl (lv_at hl1 1 rfl) ?_
  refine va_get (D := D) (ci := 9) (v := .int 0) (C := R_Tokens) (T := F_Tokens) (N := 8) hx hb hts i_Tokens hown hK.1 hP 0 rfl rfl 2 (by decide) (hts _ wd_42) (fun _ h9 => h9) rfl d_Tokens_append_39 ?_
  refine lv_iload hx hb d_Tokens_append_42 (lv_at hl1 0 rfl) ?_
  refine lv_iadd hx hb d_Tokens_append_44 ?_
  refine lv_topi (fun z_27 ez_27 => ?_)
  have ez_27 : z_27 = 3 := ez_27.trans (by first | rfl | decide)
  subst ez_27
  refine lv_lload_n hx hb d_Tokens_append_45 rfl (lv_at hl1 2 rfl) ?_
  refine lv_bipush (v := 8) hx hb d_Tokens_append_46 (by decide) ?_
  refine lv_iload hx hb d_Tokens_append_48 (lv_at hl1 0 rfl) ?_
  refine lv_imul hx hb d_Tokens_append_50 ?_
  refine lv_topi (fun z_28 ez_28 => ?_)
  have ez_28 : z_28 = 24 := ez_28.trans (by first | rfl | decide)
  subst ez_28
  refine lv_lushr hx hb d_Tokens_append_51 rfl ?_
  refine lv_topl (fun z_29 ez_29 => ?_)
  refine lv_l2i hx hb d_Tokens_append_52 rfl ?_
  refine lv_topi (fun z_30 ez_30 => ?_)
  refine lv_i2b hx hb d_Tokens_append_53 rfl ?_
  refine lv_topi (fun z_31 ez_31 => ?_)
  refine va_bast hx hb hK.1 hP hD hS 1 1 rfl rfl (by unfold vp_in; decide) d_Tokens_append_54 (fun H_32 locs hP hD hS => ?_)
  have hP : va_P D classes [(h1, .inr (9, [.ref h2, .ref h3, .int 0, .int 0, .int 0, .int (-1), .int 0, .int 0])), (h2, .inl (ax 1, 400, .inl (upd (upd (upd (upd (fun _ => 0) 0 (vp_nar .byte z_10)) 1 (vp_nar .byte z_17)) 2 (vp_nar .byte z_24)) 3 (vp_nar .byte z_31)))), (h3, .inl (ax 0, 401, .inl (fun _ => 0)))] H_32 := hP
  have hD : va_D A [(h1, .inr (9, [.ref h2, .ref h3, .int 0, .int 0, .int 0, .int (-1), .int 0, .int 0])), (h2, .inl (ax 1, 400, .inl (upd (upd (upd (upd (fun _ => 0) 0 (vp_nar .byte z_10)) 1 (vp_nar .byte z_17)) 2 (vp_nar .byte z_24)) 3 (vp_nar .byte z_31)))), (h3, .inl (ax 0, 401, .inl (fun _ => 0)))] := hD
  refine lv_iinc (v := 4) (lv' := [(4, .int 4), (0, .ref h1), (1, .long w), (3, .int 8)]) hx hb d_Tokens_append_55 hl1 (k := 0) rfl (by decide) (by decide) rfl (fun ls hl1 => ?_)
  refine lv_goto (tgt := 28) hx hb d_Tokens_append_58 (by decide) ?_
  refine lv_iload hx hb d_Tokens_append_28 (lv_at hl1 0 rfl) ?_
  refine lv_iload_n hx hb d_Tokens_append_30 rfl (lv_at hl1 3 rfl) ?_
  refine lv_icmp_ge (tgt := 61) hx hb d_Tokens_append_31 (by decide) (fun c_33 => ?_) (fun c_33 => ?_)
  · first | exact absurd c_33 (by decide) | exact absurd (by decide) c_33
  refine lv_aload_n hx hb d_Tokens_append_34 rfl (lv_at hl1 1 rfl) ?_
  refine va_get (D := D) (ci := 9) (v := .ref h2) (C := R_Tokens) (T := F_Tokens) (N := 8) hx hb hts i_Tokens hown hK.1 hP 0 rfl rfl 0 (by decide) (hts _ wd_40) (fun _ h9 => h9) rfl d_Tokens_append_35 ?_
  refine lv_aload_n hx hb d_Tokens_append_38 rfl (lv_at hl1 1 rfl) ?_
  refine va_get (D := D) (ci := 9) (v := .int 0) (C := R_Tokens) (T := F_Tokens) (N := 8) hx hb hts i_Tokens hown hK.1 hP 0 rfl rfl 2 (by decide) (hts _ wd_42) (fun _ h9 => h9) rfl d_Tokens_append_39 ?_
  refine lv_iload hx hb d_Tokens_append_42 (lv_at hl1 0 rfl) ?_
  refine lv_iadd hx hb d_Tokens_append_44 ?_
  refine lv_topi (fun z_34 ez_34 => ?_)
  have ez_34 : z_34 = 4 := ez_34.trans (by first | rfl | decide)
  subst ez_34
  refine lv_lload_n hx hb d_Tokens_append_45 rfl (lv_at hl1 2 rfl) ?_
  refine lv_bipush (v := 8) hx hb d_Tokens_append_46 (by decide) ?_
  refine lv_iload hx hb d_Tokens_append_48 (lv_at hl1 0 rfl) ?_
  refine lv_imul hx hb d_Tokens_append_50 ?_
  refine lv_topi (fun z_35 ez_35 => ?_)
  have ez_35 : z_35 = 32 := ez_35.trans (by first | rfl | decide)
  subst ez_35
  refine lv_lushr hx hb d_Tokens_append_51 rfl ?_
  refine lv_topl (fun z_36 ez_36 => ?_)
  refine lv_l2i hx hb d_Tokens_append_52 rfl ?_
  refine lv_topi (fun z_37 ez_37 => ?_)
  refine lv_i2b hx hb d_Tokens_append_53 rfl ?_
  refine lv_topi (fun z_38 ez_38 => ?_)
  refine va_bast hx hb hK.1 hP hD hS 1 1 rfl rfl (by unfold vp_in; decide) d_Tokens_append_54 (fun H_39 locs hP hD hS => ?_)
  have hP : va_P D classes [(h1, .inr (9, [.ref h2, .ref h3, .int 0, .int 0, .int 0, .int (-1), .int 0, .int 0])), (h2, .inl (ax 1, 400, .inl (upd (upd (upd (upd (upd (fun _ => 0) 0 (vp_nar .byte z_10)) 1 (vp_nar .byte z_17)) 2 (vp_nar .byte z_24)) 3 (vp_nar .byte z_31)) 4 (vp_nar .byte z_38)))), (h3, .inl (ax 0, 401, .inl (fun _ => 0)))] H_39 := hP
  have hD : va_D A [(h1, .inr (9, [.ref h2, .ref h3, .int 0, .int 0, .int 0, .int (-1), .int 0, .int 0])), (h2, .inl (ax 1, 400, .inl (upd (upd (upd (upd (upd (fun _ => 0) 0 (vp_nar .byte z_10)) 1 (vp_nar .byte z_17)) 2 (vp_nar .byte z_24)) 3 (vp_nar .byte z_31)) 4 (vp_nar .byte z_38)))), (h3, .inl (ax 0, 401, .inl (fun _ => 0)))] := hD
  refine lv_iinc (v := 5) (lv' := [(4, .int 5), (0, .ref h1), (1, .long w), (3, .int 8)]) hx hb d_Tokens_append_55 hl1 (k := 0) rfl (by decide) (by decide) rfl (fun ls hl1 => ?_)
  refine lv_goto (tgt := 28) hx hb d_Tokens_append_58 (by decide) ?_
  refine lv_iload hx hb d_Tokens_append_28 (lv_at hl1 0 rfl) ?_
  refine lv_iload_n hx hb d_Tokens_append_30 rfl (lv_at hl1 3 rfl) ?_
  refine lv_icmp_ge (tgt := 61) hx hb d_Tokens_append_31 (by decide) (fun c_40 => ?_) (fun c_40 => ?_)
  · first | exact absurd c_40 (by decide) | exact absurd (by decide) c_40
  refine lv_aload_n hx hb d_Tokens_append_34 rfl (lv_at hl1 1 rfl) ?_
  refine va_get (D := D) (ci := 9) (v := .ref h2) (C := R_Tokens) (T := F_Tokens) (N := 8) hx hb hts i_Tokens hown hK.1 hP 0 rfl rfl 0 (by decide) (hts _ wd_40) (fun _ h9 => h9) rfl d_Tokens_append_35 ?_
  refine lv_aload_n hx hb d_Tokens_append_38 rfl (lv_at hl1 1 rfl) ?_
  refine va_get (D := D) (ci := 9) (v := .int 0) (C := R_Tokens) (T := F_Tokens) (N := 8) hx hb hts i_Tokens hown hK.1 hP 0 rfl rfl 2 (by decide) (hts _ wd_42) (fun _ h9 => h9) rfl d_Tokens_append_39 ?_
  refine lv_iload hx hb d_Tokens_append_42 (lv_at hl1 0 rfl) ?_
  refine lv_iadd hx hb d_Tokens_append_44 ?_
  refine lv_topi (fun z_41 ez_41 => ?_)
  have ez_41 : z_41 = 5 := ez_41.trans (by first | rfl | decide)
  subst ez_41
  refine lv_lload_n hx hb d_Tokens_append_45 rfl (lv_at hl1 2 rfl) ?_
  refine lv_bipush (v := 8) hx hb d_Tokens_append_46 (by decide) ?_
  refine lv_iload hx hb d_Tokens_append_48 (lv_at hl1 0 rfl) ?_
  refine lv_imul hx hb d_Tokens_append_50 ?_
  refine lv_topi (fun z_42 ez_42 => ?_)
  have ez_42 : z_42 = 40 := ez_42.trans (by first | rfl | decide)
  subst ez_42
  refine lv_lushr hx hb d_Tokens_append_51 rfl ?_
  refine lv_topl (fun z_43 ez_43 => ?_)
  refine lv_l2i hx hb d_Tokens_append_52 rfl ?_
  refine lv_topi (fun z_44 ez_44 => ?_)
  refine lv_i2b hx hb d_Tokens_append_53 rfl ?_
  refine lv_topi (fun z_45 ez_45 => ?_)
  refine va_bast hx hb hK.1 hP hD hS 1 1 rfl rfl (by unfold vp_in; decide) d_Tokens_append_54 (fun H_46 locs hP hD hS => ?_)
  have hP : va_P D classes [(h1, .inr (9, [.ref h2, .ref h3, .int 0, .int 0, .int 0, .int (-1), .int 0, .int 0])), (h2, .inl (ax 1, 400, .inl (upd (upd (upd (upd (upd (upd (fun _ => 0) 0 (vp_nar .byte z_10)) 1 (vp_nar .byte z_17)) 2 (vp_nar .byte z_24)) 3 (vp_nar .byte z_31)) 4 (vp_nar .byte z_38)) 5 (vp_nar .byte z_45)))), (h3, .inl (ax 0, 401, .inl (fun _ => 0)))] H_46 := hP
  have hD : va_D A [(h1, .inr (9, [.ref h2, .ref h3, .int 0, .int 0, .int 0, .int (-1), .int 0, .int 0])), (h2, .inl (ax 1, 400, .inl (upd (upd (upd (upd (upd (upd (fun _ => 0) 0 (vp_nar .byte z_10)) 1 (vp_nar .byte z_17)) 2 (vp_nar .byte z_24)) 3 (vp_nar .byte z_31)) 4 (vp_nar .byte z_38)) 5 (vp_nar .byte z_45)))), (h3, .inl (ax 0, 401, .inl (fun _ => 0)))] := hD
  refine lv_iinc (v := 6) (lv' := [(4, .int 6), (0, .ref h1), (1, .long w), (3, .int 8)]) hx hb d_Tokens_append_55 hl1 (k := 0) rfl (by decide) (by decide) rfl (fun ls hl1 => ?_)
  refine lv_goto (tgt := 28) hx hb d_Tokens_append_58 (by decide) ?_
  refine lv_iload hx hb d_Tokens_append_28 (lv_at hl1 0 rfl) ?_
  refine lv_iload_n hx hb d_Tokens_append_30 rfl (lv_at hl1 3 rfl) ?_
  refine lv_icmp_ge (tgt := 61) hx hb d_Tokens_append_31 (by decide) (fun c_47 => ?_) (fun c_47 => ?_)
  · first | exact absurd c_47 (by decide) | exact absurd (by decide) c_47
  refine lv_aload_n hx hb d_Tokens_append_34 rfl (lv_at hl1 1 rfl) ?_
  refine va_get (D := D) (ci := 9) (v := .ref h2) (C := R_Tokens) (T := F_Tokens) (N := 8) hx hb hts i_Tokens hown hK.1 hP 0 rfl rfl 0 (by decide) (hts _ wd_40) (fun _ h9 => h9) rfl d_Tokens_append_35 ?_
  refine lv_aload_n hx hb d_Tokens_append_38 rfl (lv_at hl1 1 rfl) ?_
  refine va_get (D := D) (ci := 9) (v := .int 0) (C := R_Tokens) (T := F_Tokens) (N := 8) hx hb hts i_Tokens hown hK.1 hP 0 rfl rfl 2 (by decide) (hts _ wd_42) (fun _ h9 => h9) rfl d_Tokens_append_39 ?_
  refine lv_iload hx hb d_Tokens_append_42 (lv_at hl1 0 rfl) ?_
  refine lv_iadd hx hb d_Tokens_append_44 ?_
  refine lv_topi (fun z_48 ez_48 => ?_)
  have ez_48 : z_48 = 6 := ez_48.trans (by first | rfl | decide)
  subst ez_48
  refine lv_lload_n hx hb d_Tokens_append_45 rfl (lv_at hl1 2 rfl) ?_
  refine lv_bipush (v := 8) hx hb d_Tokens_append_46 (by decide) ?_
  refine lv_iload hx hb d_Tokens_append_48 (lv_at hl1 0 rfl) ?_
  refine lv_imul hx hb d_Tokens_append_50 ?_
  refine lv_topi (fun z_49 ez_49 => ?_)
  have ez_49 : z_49 = 48 := ez_49.trans (by first | rfl | decide)
  subst ez_49
  refine lv_lushr hx hb d_Tokens_append_51 rfl ?_
  refine lv_topl (fun z_50 ez_50 => ?_)
  refine lv_l2i hx hb d_Tokens_append_52 rfl ?_
  refine lv_topi (fun z_51 ez_51 => ?_)
  refine lv_i2b hx hb d_Tokens_append_53 rfl ?_
  refine lv_topi (fun z_52 ez_52 => ?_)
  refine va_bast hx hb hK.1 hP hD hS 1 1 rfl rfl (by unfold vp_in; decide) d_Tokens_append_54 (fun H_53 locs hP hD hS => ?_)
  have hP : va_P D classes [(h1, .inr (9, [.ref h2, .ref h3, .int 0, .int 0, .int 0, .int (-1), .int 0, .int 0])), (h2, .inl (ax 1, 400, .inl (upd (upd (upd (upd (upd (upd (upd (fun _ => 0) 0 (vp_nar .byte z_10)) 1 (vp_nar .byte z_17)) 2 (vp_nar .byte z_24)) 3 (vp_nar .byte z_31)) 4 (vp_nar .byte z_38)) 5 (vp_nar .byte z_45)) 6 (vp_nar .byte z_52)))), (h3, .inl (ax 0, 401, .inl (fun _ => 0)))] H_53 := hP
  have hD : va_D A [(h1, .inr (9, [.ref h2, .ref h3, .int 0, .int 0, .int 0, .int (-1), .int 0, .int 0])), (h2, .inl (ax 1, 400, .inl (upd (upd (upd (upd (upd (upd (upd (fun _ => 0) 0 (vp_nar .byte z_10)) 1 (vp_nar .byte z_17)) 2 (vp_nar .byte z_24)) 3 (vp_nar .byte z_31)) 4 (vp_nar .byte z_38)) 5 (vp_nar .byte z_45)) 6 (vp_nar .byte z_52)))), (h3, .inl (ax 0, 401, .inl (fun _ => 0)))] := hD
  refine lv_iinc (v := 7) (lv' := [(4, .int 7), (0, .ref h1), (1, .long w), (3, .int 8)]) hx hb d_Tokens_append_55 hl1 (k := 0) rfl (by decide) (by decide) rfl (fun ls hl1 => ?_)
  refine lv_goto (tgt := 28) hx hb d_Tokens_append_58 (by decide) ?_
  refine lv_iload hx hb d_Tokens_append_28 (lv_at hl1 0 rfl) ?_
  refine lv_iload_n hx hb d_Tokens_append_30 rfl (lv_at hl1 3 rfl) ?_
  refine lv_icmp_ge (tgt := 61) hx hb d_Tokens_append_31 (by decide) (fun c_54 => ?_) (fun c_54 => ?_)
  · first | exact absurd c_54 (by decide) | exact absurd (by decide) c_54
  refine lv_aload_n hx hb d_Tokens_append_34 rfl (lv_at hl1 1 rfl) ?_
  refine va_get (D := D) (ci := 9) (v := .ref h2) (C := R_Tokens) (T := F_Tokens) (N := 8) hx hb hts i_Tokens hown hK.1 hP 0 rfl rfl 0 (by decide) (hts _ wd_40) (fun _ h9 => h9) rfl d_Tokens_append_35 ?_
  refine lv_aload_n hx hb d_Tokens_append_38 rfl (lv_at hl1 1 rfl) ?_
  refine va_get (D := D) (ci := 9) (v := .int 0) (C := R_Tokens) (T := F_Tokens) (N := 8) hx hb hts i_Tokens hown hK.1 hP 0 rfl rfl 2 (by decide) (hts _ wd_42) (fun _ h9 => h9) rfl d_Tokens_append_39 ?_
  refine lv_iload hx hb d_Tokens_append_42 (lv_at hl1 0 rfl) ?_
  refine lv_iadd hx hb d_Tokens_append_44 ?_
  refine lv_topi (fun z_55 ez_55 => ?_)
  have ez_55 : z_55 = 7 := ez_55.trans (by first | rfl | decide)
  subst ez_55
  refine lv_lload_n hx hb d_Tokens_append_45 rfl (lv_at hl1 2 rfl) ?_
  refine lv_bipush (v := 8) hx hb d_Tokens_append_46 (by decide) ?_
  refine lv_iload hx hb d_Tokens_append_48 (lv_at hl1 0 rfl) ?_
  refine lv_imul hx hb d_Tokens_append_50 ?_
  refine lv_topi (fun z_56 ez_56 => ?_)
  have ez_56 : z_56 = 56 := ez_56.trans (by first | rfl | decide)
  subst ez_56
  refine lv_lushr hx hb d_Tokens_append_51 rfl ?_
  refine lv_topl (fun z_57 ez_57 => ?_)
  refine lv_l2i hx hb d_Tokens_append_52 rfl ?_
  refine lv_topi (fun z_58 ez_58 => ?_)
  refine lv_i2b hx hb d_Tokens_append_53 rfl ?_
  refine lv_topi (fun z_59 ez_59 => ?_)
  refine va_bast hx hb hK.1 hP hD hS 1 1 rfl rfl (by unfold vp_in; decide) d_Tokens_append_54 (fun H_60 locs hP hD hS => ?_)
  have hP : va_P D classes [(h1, .inr (9, [.ref h2, .ref h3, .int 0, .int 0, .int 0, .int (-1), .int 0, .int 0])), (h2, .inl (ax 1, 400, .inl (upd (upd (upd (upd (upd (upd (upd (upd (fun _ => 0) 0 (vp_nar .byte z_10)) 1 (vp_nar .byte z_17)) 2 (vp_nar .byte z_24)) 3 (vp_nar .byte z_31)) 4 (vp_nar .byte z_38)) 5 (vp_nar .byte z_45)) 6 (vp_nar .byte z_52)) 7 (vp_nar .byte z_59)))), (h3, .inl (ax 0, 401, .inl (fun _ => 0)))] H_60 := hP
  have hD : va_D A [(h1, .inr (9, [.ref h2, .ref h3, .int 0, .int 0, .int 0, .int (-1), .int 0, .int 0])), (h2, .inl (ax 1, 400, .inl (upd (upd (upd (upd (upd (upd (upd (upd (fun _ => 0) 0 (vp_nar .byte z_10)) 1 (vp_nar .byte z_17)) 2 (vp_nar .byte z_24)) 3 (vp_nar .byte z_31)) 4 (vp_nar .byte z_38)) 5 (vp_nar .byte z_45)) 6 (vp_nar .byte z_52)) 7 (vp_nar .byte z_59)))), (h3, .inl (ax 0, 401, .inl (fun _ => 0)))] := hD
  refine lv_iinc (v := 8) (lv' := [(4, .int 8), (0, .ref h1), (1, .long w), (3, .int 8)]) hx hb d_Tokens_append_55 hl1 (k := 0) rfl (by decide) (by decide) rfl (fun ls hl1 => ?_)
  refine lv_goto (tgt := 28) hx hb d_Tokens_append_58 (by decide) ?_
  refine lv_iload hx hb d_Tokens_append_28 (lv_at hl1 0 rfl) ?_
  refine lv_iload_n hx hb d_Tokens_append_30 rfl (lv_at hl1 3 rfl) ?_
  refine lv_icmp_ge (tgt := 61) hx hb d_Tokens_append_31 (by decide) (fun c_61 => ?_) (fun c_61 => ?_)
  rotate_left
  · first | exact absurd c_61 (by decide) | exact absurd (by decide) c_61
  refine lv_aload_n hx hb d_Tokens_append_61 rfl (lv_at hl1 1 rfl) ?_
  refine lv_dup hx hb d_Tokens_append_62 rfl ?_
  refine va_get (D := D) (ci := 9) (v := .int 0) (C := R_Tokens) (T := F_Tokens) (N := 8) hx hb hts i_Tokens hown hK.1 hP 0 rfl rfl 2 (by decide) (hts _ wd_42) (fun _ h9 => h9) rfl d_Tokens_append_63 ?_
  refine lv_iload_n hx hb d_Tokens_append_66 rfl (lv_at hl1 3 rfl) ?_
  refine lv_iadd hx hb d_Tokens_append_67 ?_
  refine lv_topi (fun z_62 ez_62 => ?_)
  have ez_62 : z_62 = 8 := ez_62.trans (by first | rfl | decide)
  subst ez_62
  refine va_put (D := D) (ci := 9) (v := .int 8) (ty := .int) (C := R_Tokens) (T := F_Tokens) (N := 8) hx hb hts i_Tokens t_Tokens t_Tokens_ok n_Tokens hown hK.1 hP hD hS 0 rfl rfl 2 (by decide) (hts _ wd_42) (fun _ h9 => h9) rfl (by decide +kernel) rfl rfl (Nat.le_of_ble_eq_true rfl) d_Tokens_append_68 (fun H_63 locs hP hD hS => ?_)
  have hP : va_P D classes [(h1, .inr (9, [.ref h2, .ref h3, .int 8, .int 0, .int 0, .int (-1), .int 0, .int 0])), (h2, .inl (ax 1, 400, .inl (upd (upd (upd (upd (upd (upd (upd (upd (fun _ => 0) 0 (vp_nar .byte z_10)) 1 (vp_nar .byte z_17)) 2 (vp_nar .byte z_24)) 3 (vp_nar .byte z_31)) 4 (vp_nar .byte z_38)) 5 (vp_nar .byte z_45)) 6 (vp_nar .byte z_52)) 7 (vp_nar .byte z_59)))), (h3, .inl (ax 0, 401, .inl (fun _ => 0)))] H_63 := hP
  have hD : va_D A [(h1, .inr (9, [.ref h2, .ref h3, .int 8, .int 0, .int 0, .int (-1), .int 0, .int 0])), (h2, .inl (ax 1, 400, .inl (upd (upd (upd (upd (upd (upd (upd (upd (fun _ => 0) 0 (vp_nar .byte z_10)) 1 (vp_nar .byte z_17)) 2 (vp_nar .byte z_24)) 3 (vp_nar .byte z_31)) 4 (vp_nar .byte z_38)) 5 (vp_nar .byte z_45)) 6 (vp_nar .byte z_52)) 7 (vp_nar .byte z_59)))), (h3, .inl (ax 0, 401, .inl (fun _ => 0)))] := hD
  refine lv_iconst (v := 1) hx hb d_Tokens_append_71 (by decide) ?_
  exact W.zret (v := 1) hx hb hr rfl (fun t ht hW => ⟨⟨1, fun _ => 0, rfl, rfl, trivial⟩, hS.F ht⟩) hS.2.2 d_Tokens_append_72
set_option maxHeartbeats 4000000 in
set_option maxRecDepth 100000 in
theorem c_Desk_type_8 (l : Launch) (D : va_G) (ax : Nat → ClassId) (d0 d1 d2 d3 d4 d5 d6 d7 d8 d9 d10 d11 d12 : Nat) (e1 e2 : Nat) (w : Int64) (sz : Nat) : Met l y_Desk_type (xws (.code y_Desk_type b_Desk_type 4 (some .boolean))) ({ frames := 20, cells := 0, slots := 0, locals := 800 }) (va_Pc [.ref d0, .long w, .int 8] (xo D ax [(d0, .inr (10, [.ref d1, .ref d2, .ref d3, .ref d4, .ref d5, .ref d6, .ref d7, .ref d8, .ref d9, .ref d10, .ref d11, .ref d12, .int 0])), (d1, .inr (9, [.ref e1, .ref e2, .int 0, .int 0, .int 0, .int (-1), .int 0, .int 0])), (e1, .inl (ax 1, 400, .inl (fun _ => 0))), (e2, .inl (ax 0, 401, .inl (fun _ => 0)))] sz)) ((va_Qi (fun (r : Int32) (u : Nat → Nat) => r = 1) (fun (_ : Nat → Nat) (_ : State) => True) (va_A [(d0, .inr (10, [.ref d1, .ref d2, .ref d3, .ref d4, .ref d5, .ref d6, .ref d7, .ref d8, .ref d9, .ref d10, .ref d11, .ref d12, .int 0])), (d1, .inr (9, [.ref e1, .ref e2, .int 0, .int 0, .int 0, .int (-1), .int 0, .int 0])), (e1, .inl (ax 1, 400, .inl (fun _ => 0))), (e2, .inl (ax 0, 401, .inl (fun _ => 0)))] sz))) 0 0 (va_A [(d0, .inr (10, [.ref d1, .ref d2, .ref d3, .ref d4, .ref d5, .ref d6, .ref d7, .ref d8, .ref d9, .ref d10, .ref d11, .ref d12, .int 0])), (d1, .inr (9, [.ref e1, .ref e2, .int 0, .int 0, .int 0, .int (-1), .int 0, .int 0])), (e1, .inl (ax 1, 400, .inl (fun _ => 0))), (e2, .inl (ax 0, 401, .inl (fun _ => 0)))] sz) := by
  refine Met.ofW (cc := b_Desk_type) (maxL := 4) (ret := (some .boolean)) (by decide) rfl ?_
  intro p e s m args below meth c s₁ B hml hv
  obtain ⟨rfl, hsz, hP, hK, hD0⟩ := hv
  have hx := B.exec
  have hb := B.bytes
  have hr := B.returns
  have hts := xw_hts B.pre
  have hown : s.vm.findClass R_Desk = some m.cls := findClass_of_methodNamed B.named
  have hlocks := B.notSynchronized
  subst hsz
  have hD := hD0.self (sz := s.heap.size)
  have hN := xz_entry hP
  generalize hAe : va_A [(d0, .inr (10, [.ref d1, .ref d2, .ref d3, .ref d4, .ref d5, .ref d6, .ref d7, .ref d8, .ref d9, .ref d10, .ref d11, .ref d12, .int 0])), (d1, .inr (9, [.ref e1, .ref e2, .int 0, .int 0, .int 0, .int (-1), .int 0, .int 0])), (e1, .inl (ax 1, 400, .inl (fun _ => 0))), (e2, .inl (ax 0, 401, .inl (fun _ => 0)))] s.heap.size = A at hD hN ⊢
  have hA : ∀ q : Nat, s.heap.size ≤ q → A q := fun q h => by rw [← hAe]; exact Or.inr h
  have hS : va_S A s.heap s.heap [] := va_S.rf
  have hl0 := lv_entry ([.ref d0, .long w, .int 8]) (n := 4) (Nat.le_of_ble_eq_true rfl)
  rw [lg_entry_eq]
  generalize (lg_sl ([.ref d0, .long w, .int 8]) ++ List.replicate (4 - (lg_sl ([.ref d0, .long w, .int 8])).length) Slot.unset).toArray = ls at hl0 ⊢
  have hl1 : lv_has ls 4 [(0, .ref d0), (1, .long w), (3, .int 8)] := hl0
  refine lv_aload_n hx hb d_Desk_type_0 rfl (lv_at hl1 0 rfl) ?_
  refine va_get (D := D) (ci := 10) (v := .ref d1) (C := R_Desk) (T := F_Desk) (N := 13) hx hb hts i_Desk hown hK.1 hP 0 rfl rfl 0 (by decide) (hts _ wd_375) (fun _ h9 => h9) rfl d_Desk_type_1 ?_
  refine lv_lload_n hx hb d_Desk_type_4 rfl (lv_at hl1 1 rfl) ?_
  refine lv_iload_n hx hb d_Desk_type_5 rfl (lv_at hl1 2 rfl) ?_
  have hPc := hP.sub (ws' := [(d1, .inr (9, [.ref e1, .ref e2, .int 0, .int 0, .int 0, .int (-1), .int 0, .int 0])), (e1, .inl (ax 1, 400, .inl (fun _ => 0))), (e2, .inl (ax 0, 401, .inl (fun _ => 0)))]) [1, 2, 3] rfl
  have hDc := hD.sub (ws' := [(d1, .inr (9, [.ref e1, .ref e2, .int 0, .int 0, .int 0, .int (-1), .int 0, .int 0])), (e1, .inl (ax 1, 400, .inl (fun _ => 0))), (e2, .inl (ax 0, 401, .inl (fun _ => 0)))]) [1, 2, 3] (by decide) rfl
  have hFc := va_free (wc := [(d1, .inr (9, [.ref e1, .ref e2, .int 0, .int 0, .int 0, .int (-1), .int 0, .int 0])), (e1, .inl (ax 1, 400, .inl (fun _ => 0))), (e2, .inl (ax 0, 401, .inl (fun _ => 0)))]) hD hS hA [1, 2, 3] rfl
  have hz := xz_of hN hS
  refine va_calli (va_runV (As := [.long w, .int 8]) (rest := []) ⟨hx, hb, hml, hown, hts⟩ (c_Tokens_append_8 l D ax d1 e1 e2 w s.heap.size) (xcV (n := 2) hts wd_422 wd_2 wd_419 wd_420 wd_421 rfl rfl (by decide +kernel) ⟨Nat.le_of_ble_eq_true rfl, Nat.le_of_ble_eq_true rfl⟩) (xpV (ci := 9) (q0 := 0) (As := [.long w, .int 8]) hPc hK hz hDc rfl rfl) rfl rfl hl1.1 rfl (lv_room (Nat.le_of_ble_eq_true rfl)) d_Desk_type_6 ⟨Nat.le_of_ble_eq_true rfl, Nat.le_of_ble_eq_true rfl⟩) hS (fun q _ h => hFc q h) hFc (fun r_3 u_1 t H_2 locs ht hvm hw hB hz1 hk1 hS => ?_)
  try dsimp only at hw
  subst hw
  obtain ⟨hP, hD⟩ := va_join (wr := [(d0, .inr (10, [.ref d1, .ref d2, .ref d3, .ref d4, .ref d5, .ref d6, .ref d7, .ref d8, .ref d9, .ref d10, .ref d11, .ref d12, .int 0]))]) (w1 := []) hP hD [1, 2, 3] [0] rfl rfl (by decide) (by decide) hk1 hFc x_nilP x_nilD
  have hP : va_P D classes [(d0, .inr (10, [.ref d1, .ref d2, .ref d3, .ref d4, .ref d5, .ref d6, .ref d7, .ref d8, .ref d9, .ref d10, .ref d11, .ref d12, .int 0]))] H_2 := hP
  have hD : va_D A [(d0, .inr (10, [.ref d1, .ref d2, .ref d3, .ref d4, .ref d5, .ref d6, .ref d7, .ref d8, .ref d9, .ref d10, .ref d11, .ref d12, .int 0]))] := hD
  exact W.zret (v := 1) hx hb hr rfl (fun t ht hW => ⟨⟨1, fun _ => 0, rfl, rfl, trivial⟩, hS.F ht⟩) hS.2.2 d_Desk_type_9
