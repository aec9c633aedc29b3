abbrev b_Nodes_add : ByteArray := prog_6_method_4_code
def y_Nodes_add : MethodName := ⟨R_Nodes, "add", "(III)I"⟩
theorem d_Nodes_add_0 : decode b_Nodes_add 0 = .ok (.aload_n 0, 1) := by decide +kernel
theorem d_Nodes_add_1 : decode b_Nodes_add 1 = .ok (.getfield 20, 3) := by decide +kernel
theorem d_Nodes_add_4 : decode b_Nodes_add 4 = .ok (.aload_n 0, 1) := by decide +kernel
theorem d_Nodes_add_5 : decode b_Nodes_add 5 = .ok (.getfield 7, 3) := by decide +kernel
theorem d_Nodes_add_8 : decode b_Nodes_add 8 = .ok (.arraylength, 1) := by decide +kernel
theorem d_Nodes_add_9 : decode b_Nodes_add 9 = .ok (.if_icmp .ne 54, 3) := by decide +kernel
theorem d_Nodes_add_63 : decode b_Nodes_add 63 = .ok (.aload_n 0, 1) := by decide +kernel
theorem d_Nodes_add_64 : decode b_Nodes_add 64 = .ok (.getfield 7, 3) := by decide +kernel
theorem d_Nodes_add_67 : decode b_Nodes_add 67 = .ok (.aload_n 0, 1) := by decide +kernel
theorem d_Nodes_add_68 : decode b_Nodes_add 68 = .ok (.getfield 20, 3) := by decide +kernel
theorem d_Nodes_add_71 : decode b_Nodes_add 71 = .ok (.iload_n 1, 1) := by decide +kernel
theorem d_Nodes_add_72 : decode b_Nodes_add 72 = .ok (.i2b, 1) := by decide +kernel
theorem d_Nodes_add_73 : decode b_Nodes_add 73 = .ok (.bastore, 1) := by decide +kernel
theorem d_Nodes_add_74 : decode b_Nodes_add 74 = .ok (.aload_n 0, 1) := by decide +kernel
theorem d_Nodes_add_75 : decode b_Nodes_add 75 = .ok (.getfield 13, 3) := by decide +kernel
theorem d_Nodes_add_78 : decode b_Nodes_add 78 = .ok (.aload_n 0, 1) := by decide +kernel
theorem d_Nodes_add_79 : decode b_Nodes_add 79 = .ok (.getfield 20, 3) := by decide +kernel
theorem d_Nodes_add_82 : decode b_Nodes_add 82 = .ok (.iload_n 2, 1) := by decide +kernel
theorem d_Nodes_add_83 : decode b_Nodes_add 83 = .ok (.iastore, 1) := by decide +kernel
theorem d_Nodes_add_84 : decode b_Nodes_add 84 = .ok (.aload_n 0, 1) := by decide +kernel
theorem d_Nodes_add_85 : decode b_Nodes_add 85 = .ok (.getfield 17, 3) := by decide +kernel
theorem d_Nodes_add_88 : decode b_Nodes_add 88 = .ok (.aload_n 0, 1) := by decide +kernel
theorem d_Nodes_add_89 : decode b_Nodes_add 89 = .ok (.getfield 20, 3) := by decide +kernel
theorem d_Nodes_add_92 : decode b_Nodes_add 92 = .ok (.iload_n 3, 1) := by decide +kernel
theorem d_Nodes_add_93 : decode b_Nodes_add 93 = .ok (.iastore, 1) := by decide +kernel
theorem d_Nodes_add_94 : decode b_Nodes_add 94 = .ok (.aload_n 0, 1) := by decide +kernel
theorem d_Nodes_add_95 : decode b_Nodes_add 95 = .ok (.dup, 1) := by decide +kernel
theorem d_Nodes_add_96 : decode b_Nodes_add 96 = .ok (.getfield 20, 3) := by decide +kernel
theorem d_Nodes_add_99 : decode b_Nodes_add 99 = .ok (.dup_x1, 1) := by decide +kernel
theorem d_Nodes_add_100 : decode b_Nodes_add 100 = .ok (.iconst 1, 1) := by decide +kernel
theorem d_Nodes_add_101 : decode b_Nodes_add 101 = .ok (.iadd, 1) := by decide +kernel
theorem d_Nodes_add_102 : decode b_Nodes_add 102 = .ok (.putfield 20, 3) := by decide +kernel
theorem d_Nodes_add_105 : decode b_Nodes_add 105 = .ok (.ireturn, 1) := by decide +kernel
set_option maxHeartbeats 4000000 in
set_option maxRecDepth 100000 in
theorem c_Nodes_add_s (l : Launch) (D : va_G) (ax : Nat → ClassId) (h0 h1 h2 h3 : Nat) (sz : Nat) : Met l y_Nodes_add (xws (.code y_Nodes_add b_Nodes_add 4 (some .int))) ({ frames := 10, cells := 0, slots := 0, locals := 400 }) (va_Pc [.ref h0, .int 4, .int 10, .int 10] (xo D ax [(h0, .inr (4, [.ref h1, .ref h2, .ref h3, .int 0])), (h1, .inl (ax 1, 8, .inl (fun _ => 0))), (h2, .inl (ax 0, 8, .inl (fun _ => 0))), (h3, .inl (ax 0, 8, .inl (fun _ => 0)))] sz)) ((va_Qi (fun (r : Int32) (u : Nat → Nat) => r = 0) (xb D (va_A [(h0, .inr (4, [.ref h1, .ref h2, .ref h3, .int 0])), (h1, .inl (ax 1, 8, .inl (fun _ => 0))), (h2, .inl (ax 0, 8, .inl (fun _ => 0))), (h3, .inl (ax 0, 8, .inl (fun _ => 0)))] sz) (fun u => [(h0, .inr (4, [.ref h1, .ref h2, .ref h3, .int 1])), (h1, .inl (ax 1, 8, .inl (upd (fun _ => 0) 0 4))), (h2, .inl (ax 0, 8, .inl (upd (fun _ => 0) 0 10))), (h3, .inl (ax 0, 8, .inl (upd (fun _ => 0) 0 10)))])) (va_A [(h0, .inr (4, [.ref h1, .ref h2, .ref h3, .int 0])), (h1, .inl (ax 1, 8, .inl (fun _ => 0))), (h2, .inl (ax 0, 8, .inl (fun _ => 0))), (h3, .inl (ax 0, 8, .inl (fun _ => 0)))] sz))) 0 0 (va_A [(h0, .inr (4, [.ref h1, .ref h2, .ref h3, .int 0])), (h1, .inl (ax 1, 8, .inl (fun _ => 0))), (h2, .inl (ax 0, 8, .inl (fun _ => 0))), (h3, .inl (ax 0, 8, .inl (fun _ => 0)))] sz) := by
  refine Met.ofW (cc := b_Nodes_add) (maxL := 4) (ret := (some .int)) (by decide) rfl ?_
  intro p e s m args below meth c s₁ B hml hv
  obtain ⟨rfl, hsz, hP, hK, hD0⟩ := hv
  have hx := B.exec
  have hb := B.bytes
  have hr := B.returns
  have hts := xw_hts B.pre
  have hown : s.vm.findClass R_Nodes = some m.cls := findClass_of_methodNamed B.named
  have hlocks := B.notSynchronized
  subst hsz
  have hD := hD0.self (sz := s.heap.size)
  have hN := xz_entry hP
  generalize hAe : va_A [(h0, .inr (4, [.ref h1, .ref h2, .ref h3, .int 0])), (h1, .inl (ax 1, 8, .inl (fun _ => 0))), (h2, .inl (ax 0, 8, .inl (fun _ => 0))), (h3, .inl (ax 0, 8, .inl (fun _ => 0)))] s.heap.size = A at hD hN ⊢
  have hA : ∀ q : Nat, s.heap.size ≤ q → A q := fun q h => by rw [← hAe]; exact Or.inr h
  have hS : va_S A s.heap s.heap [] := va_S.rf
  have hl0 := lv_entry ([.ref h0, .int 4, .int 10, .int 10]) (n := 4) (Nat.le_of_ble_eq_true rfl)
  rw [lg_entry_eq]
  generalize (lg_sl ([.ref h0, .int 4, .int 10, .int 10]) ++ List.replicate (4 - (lg_sl ([.ref h0, .int 4, .int 10, .int 10])).length) Slot.unset).toArray = ls at hl0 ⊢
  have hl1 : lv_has ls 4 [(0, .ref h0), (1, .int 4), (2, .int 10), (3, .int 10)] := hl0
  refine lv_aload_n hx hb d_Nodes_add_0 rfl (lv_at hl1 0 rfl) ?_
  refine va_get (D := D) (ci := 4) (v := .int 0) (C := R_Nodes) (T := F_Nodes) (N := 4) hx hb hts i_Nodes hown hK.1 hP 0 rfl rfl 3 (by decide) (hts _ wd_118) (fun _ h9 => h9) rfl d_Nodes_add_1 ?_
  refine lv_aload_n hx hb d_Nodes_add_4 rfl (lv_at hl1 0 rfl) ?_
  refine va_get (D := D) (ci := 4) (v := .ref h1) (C := R_Nodes) (T := F_Nodes) (N := 4) hx hb hts i_Nodes hown hK.1 hP 0 rfl rfl 0 (by decide) (hts _ wd_103) (fun _ h9 => h9) rfl d_Nodes_add_5 ?_
  refine va_alen hx hb hK.1 hP 1 1 rfl rfl (v := 8) (by decide) d_Nodes_add_8 ?_
  refine lv_icmp_ne (tgt := 63) hx hb d_Nodes_add_9 (by decide) (fun c_1 => ?_) (fun c_1 => ?_)
  rotate_left
  · first | exact absurd c_1 (by decide) | exact absurd (by decide) c_1
  refine lv_aload_n hx hb d_Nodes_add_63 rfl (lv_at hl1 0 rfl) ?_
  refine va_get (D := D) (ci := 4) (v := .ref h1) (C := R_Nodes) (T := F_Nodes) (N := 4) hx hb hts i_Nodes hown hK.1 hP 0 rfl rfl 0 (by decide) (hts _ wd_103) (fun _ h9 => h9) rfl d_Nodes_add_64 ?_
  refine lv_aload_n hx hb d_Nodes_add_67 rfl (lv_at hl1 0 rfl) ?_
  refine va_get (D := D) (ci := 4) (v := .int 0) (C := R_Nodes) (T := F_Nodes) (N := 4) hx hb hts i_Nodes hown hK.1 hP 0 rfl rfl 3 (by decide) (hts _ wd_118) (fun _ h9 => h9) rfl d_Nodes_add_68 ?_
  refine lv_iload_n hx hb d_Nodes_add_71 rfl (lv_at hl1 1 rfl) ?_
  refine lv_i2b hx hb d_Nodes_add_72 rfl ?_
  refine lv_topi (fun z_2 ez_2 => ?_)
  have ez_2 : z_2 = 4 := ez_2.trans (by first | rfl | decide)
  subst ez_2
  refine va_bast hx hb hK.1 hP hD hS 1 1 rfl rfl (by unfold vp_in; decide) d_Nodes_add_73 (fun H_3 locs hP hD hS => ?_)
  have hP : va_P D classes [(h0, .inr (4, [.ref h1, .ref h2, .ref h3, .int 0])), (h1, .inl (ax 1, 8, .inl (upd (fun _ => 0) 0 4))), (h2, .inl (ax 0, 8, .inl (fun _ => 0))), (h3, .inl (ax 0, 8, .inl (fun _ => 0)))] H_3 := hP
  have hD : va_D A [(h0, .inr (4, [.ref h1, .ref h2, .ref h3, .int 0])), (h1, .inl (ax 1, 8, .inl (upd (fun _ => 0) 0 4))), (h2, .inl (ax 0, 8, .inl (fun _ => 0))), (h3, .inl (ax 0, 8, .inl (fun _ => 0)))] := hD
  refine lv_aload_n hx hb d_Nodes_add_74 rfl (lv_at hl1 0 rfl) ?_
  refine va_get (D := D) (ci := 4) (v := .ref h2) (C := R_Nodes) (T := F_Nodes) (N := 4) hx hb hts i_Nodes hown hK.1 hP 0 rfl rfl 1 (by decide) (hts _ wd_108) (fun _ h9 => h9) rfl d_Nodes_add_75 ?_
  refine lv_aload_n hx hb d_Nodes_add_78 rfl (lv_at hl1 0 rfl) ?_
  refine va_get (D := D) (ci := 4) (v := .int 0) (C := R_Nodes) (T := F_Nodes) (N := 4) hx hb hts i_Nodes hown hK.1 hP 0 rfl rfl 3 (by decide) (hts _ wd_118) (fun _ h9 => h9) rfl d_Nodes_add_79 ?_
  refine lv_iload_n hx hb d_Nodes_add_82 rfl (lv_at hl1 2 rfl) ?_
  refine va_iast hx hb hK.1 hP hD hS 2 0 rfl rfl (by unfold vp_in; decide) d_Nodes_add_83 (fun H_4 locs hP hD hS => ?_)
  have hP : va_P D classes [(h0, .inr (4, [.ref h1, .ref h2, .ref h3, .int 0])), (h1, .inl (ax 1, 8, .inl (upd (fun _ => 0) 0 4))), (h2, .inl (ax 0, 8, .inl (upd (fun _ => 0) 0 10))), (h3, .inl (ax 0, 8, .inl (fun _ => 0)))] H_4 := hP
  have hD : va_D A [(h0, .inr (4, [.ref h1, .ref h2, .ref h3, .int 0])), (h1, .inl (ax 1, 8, .inl (upd (fun _ => 0) 0 4))), (h2, .inl (ax 0, 8, .inl (upd (fun _ => 0) 0 10))), (h3, .inl (ax 0, 8, .inl (fun _ => 0)))] := hD
  refine lv_aload_n hx hb d_Nodes_add_84 rfl (lv_at hl1 0 rfl) ?_
  refine va_get (D := D) (ci := 4) (v := .ref h3) (C := R_Nodes) (T := F_Nodes) (N := 4) hx hb hts i_Nodes hown hK.1 hP 0 rfl rfl 2 (by decide) (hts _ wd_113) (fun _ h9 => h9) rfl d_Nodes_add_85 ?_
  refine lv_aload_n hx hb d_Nodes_add_88 rfl (lv_at hl1 0 rfl) ?_
  refine va_get (D := D) (ci := 4) (v := .int 0) (C := R_Nodes) (T := F_Nodes) (N := 4) hx hb hts i_Nodes hown hK.1 hP 0 rfl rfl 3 (by decide) (hts _ wd_118) (fun _ h9 => h9) rfl d_Nodes_add_89 ?_
  refine lv_iload_n hx hb d_Nodes_add_92 rfl (lv_at hl1 3 rfl) ?_
  refine va_iast hx hb hK.1 hP hD hS 3 0 rfl rfl (by unfold vp_in; decide) d_Nodes_add_93 (fun H_5 locs hP hD hS => ?_)
  have hP : va_P D classes [(h0, .inr (4, [.ref h1, .ref h2, .ref h3, .int 0])), (h1, .inl (ax 1, 8, .inl (upd (fun _ => 0) 0 4))), (h2, .inl (ax 0, 8, .inl (upd (fun _ => 0) 0 10))), (h3, .inl (ax 0, 8, .inl (upd (fun _ => 0) 0 10)))] H_5 := hP
  have hD : va_D A [(h0, .inr (4, [.ref h1, .ref h2, .ref h3, .int 0])), (h1, .inl (ax 1, 8, .inl (upd (fun _ => 0) 0 4))), (h2, .inl (ax 0, 8, .inl (upd (fun _ => 0) 0 10))), (h3, .inl (ax 0, 8, .inl (upd (fun _ => 0) 0 10)))] := hD
  refine lv_aload_n hx hb d_Nodes_add_94 rfl (lv_at hl1 0 rfl) ?_
  refine lv_dup hx hb d_Nodes_add_95 rfl ?_
  refine va_get (D := D) (ci := 4) (v := .int 0) (C := R_Nodes) (T := F_Nodes) (N := 4) hx hb hts i_Nodes hown hK.1 hP 0 rfl rfl 3 (by decide) (hts _ wd_118) (fun _ h9 => h9) rfl d_Nodes_add_96 ?_
  refine lv_dup_x1 hx hb d_Nodes_add_99 rfl rfl ?_
  refine lv_iconst (v := 1) hx hb d_Nodes_add_100 (by decide) ?_
  refine lv_iadd hx hb d_Nodes_add_101 ?_
  refine lv_topi (fun z_6 ez_6 => ?_)
  have ez_6 : z_6 = 1 := ez_6.trans (by first | rfl | decide)
  subst ez_6
  refine va_put (D := D) (ci := 4) (v := .int 1) (ty := .int) (C := R_Nodes) (T := F_Nodes) (N := 4) hx hb hts i_Nodes t_Nodes t_Nodes_ok n_Nodes hown hK.1 hP hD hS 0 rfl rfl 3 (by decide) (hts _ wd_118) (fun _ h9 => h9) rfl (by decide +kernel) rfl rfl (Nat.le_of_ble_eq_true rfl) d_Nodes_add_102 (fun H_7 locs hP hD hS => ?_)
  have hP : va_P D classes [(h0, .inr (4, [.ref h1, .ref h2, .ref h3, .int 1])), (h1, .inl (ax 1, 8, .inl (upd (fun _ => 0) 0 4))), (h2, .inl (ax 0, 8, .inl (upd (fun _ => 0) 0 10))), (h3, .inl (ax 0, 8, .inl (upd (fun _ => 0) 0 10)))] H_7 := hP
  have hD : va_D A [(h0, .inr (4, [.ref h1, .ref h2, .ref h3, .int 1])), (h1, .inl (ax 1, 8, .inl (upd (fun _ => 0) 0 4))), (h2, .inl (ax 0, 8, .inl (upd (fun _ => 0) 0 10))), (h3, .inl (ax 0, 8, .inl (upd (fun _ => 0) 0 10)))] := hD
  have hP9 := hP.sub (ws' := (fun u : Nat → Nat => [(h0, .inr (4, [.ref h1, .ref h2, .ref h3, .int 1])), (h1, .inl (ax 1, 8, .inl (upd (fun _ => 0) 0 4))), (h2, .inl (ax 0, 8, .inl (upd (fun _ => 0) 0 10))), (h3, .inl (ax 0, 8, .inl (upd (fun _ => 0) 0 10)))]) (ixn [])) [0, 1, 2, 3] rfl
  have hD9 := hD.sub (ws' := (fun u : Nat → Nat => [(h0, .inr (4, [.ref h1, .ref h2, .ref h3, .int 1])), (h1, .inl (ax 1, 8, .inl (upd (fun _ => 0) 0 4))), (h2, .inl (ax 0, 8, .inl (upd (fun _ => 0) 0 10))), (h3, .inl (ax 0, 8, .inl (upd (fun _ => 0) 0 10)))]) (ixn [])) [0, 1, 2, 3] (by decide) rfl
  exact W.iret (v := 0) hx hb hr (fun t ht hW => ⟨⟨0, ixn [], rfl, rfl, ⟨by rw [ht]; exact hP9, hD9⟩⟩, hS.F ht⟩) hS.2.2 d_Nodes_add_105
set_option maxHeartbeats 4000000 in
set_option maxRecDepth 100000 in
theorem c_Nodes_add_l (l : Launch) (D : va_G) (ax : Nat → ClassId) (h0 h1 h2 h3 : Nat) (sz : Nat) : Met l y_Nodes_add (xws (.code y_Nodes_add b_Nodes_add 4 (some .int))) ({ frames := 10, cells := 0, slots := 0, locals := 400 }) (va_Pc [.ref h0, .int 0, .int 10, .int 10] (xo D ax [(h0, .inr (4, [.ref h1, .ref h2, .ref h3, .int 0])), (h1, .inl (ax 1, 8, .inl (fun _ => 0))), (h2, .inl (ax 0, 8, .inl (fun _ => 0))), (h3, .inl (ax 0, 8, .inl (fun _ => 0)))] sz)) ((va_Qi (fun (r : Int32) (u : Nat → Nat) => r = 0) (xb D (va_A [(h0, .inr (4, [.ref h1, .ref h2, .ref h3, .int 0])), (h1, .inl (ax 1, 8, .inl (fun _ => 0))), (h2, .inl (ax 0, 8, .inl (fun _ => 0))), (h3, .inl (ax 0, 8, .inl (fun _ => 0)))] sz) (fun u => [(h0, .inr (4, [.ref h1, .ref h2, .ref h3, .int 1])), (h1, .inl (ax 1, 8, .inl (upd (fun _ => 0) 0 0))), (h2, .inl (ax 0, 8, .inl (upd (fun _ => 0) 0 10))), (h3, .inl (ax 0, 8, .inl (upd (fun _ => 0) 0 10)))])) (va_A [(h0, .inr (4, [.ref h1, .ref h2, .ref h3, .int 0])), (h1, .inl (ax 1, 8, .inl (fun _ => 0))), (h2, .inl (ax 0, 8, .inl (fun _ => 0))), (h3, .inl (ax 0, 8, .inl (fun _ => 0)))] sz))) 0 0 (va_A [(h0, .inr (4, [.ref h1, .ref h2, .ref h3, .int 0])), (h1, .inl (ax 1, 8, .inl (fun _ => 0))), (h2, .inl (ax 0, 8, .inl (fun _ => 0))), (h3, .inl (ax 0, 8, .inl (fun _ => 0)))] sz) := by
  refine Met.ofW (cc := b_Nodes_add) (maxL := 4) (ret := (some .int)) (by decide) rfl ?_
  intro p e s m args below meth c s₁ B hml hv
  obtain ⟨rfl, hsz, hP, hK, hD0⟩ := hv
  have hx := B.exec
  have hb := B.bytes
  have hr := B.returns
  have hts := xw_hts B.pre
  have hown : s.vm.findClass R_Nodes = some m.cls := findClass_of_methodNamed B.named
  have hlocks := B.notSynchronized
  subst hsz
  have hD := hD0.self (sz := s.heap.size)
  have hN := xz_entry hP
  generalize hAe : va_A [(h0, .inr (4, [.ref h1, .ref h2, .ref h3, .int 0])), (h1, .inl (ax 1, 8, .inl (fun _ => 0))), (h2, .inl (ax 0, 8, .inl (fun _ => 0))), (h3, .inl (ax 0, 8, .inl (fun _ => 0)))] s.heap.size = A at hD hN ⊢
  have hA : ∀ q : Nat, s.heap.size ≤ q → A q := fun q h => by rw [← hAe]; exact Or.inr h
  have hS : va_S A s.heap s.heap [] := va_S.rf
  have hl0 := lv_entry ([.ref h0, .int 0, .int 10, .int 10]) (n := 4) (Nat.le_of_ble_eq_true rfl)
  rw [lg_entry_eq]
  generalize (lg_sl ([.ref h0, .int 0, .int 10, .int 10]) ++ List.replicate (4 - (lg_sl ([.ref h0, .int 0, .int 10, .int 10])).length) Slot.unset).toArray = ls at hl0 ⊢
  have hl1 : lv_has ls 4 [(0, .ref h0), (1, .int 0), (2, .int 10), (3, .int 10)] := hl0
  refine lv_aload_n hx hb d_Nodes_add_0 rfl (lv_at hl1 0 rfl) ?_
  refine va_get (D := D) (ci := 4) (v := .int 0) (C := R_Nodes) (T := F_Nodes) (N := 4) hx hb hts i_Nodes hown hK.1 hP 0 rfl rfl 3 (by decide) (hts _ wd_118) (fun _ h9 => h9) rfl d_Nodes_add_1 ?_
  refine lv_aload_n hx hb d_Nodes_add_4 rfl (lv_at hl1 0 rfl) ?_
  refine va_get (D := D) (ci := 4) (v := .ref h1) (C := R_Nodes) (T := F_Nodes) (N := 4) hx hb hts i_Nodes hown hK.1 hP 0 rfl rfl 0 (by decide) (hts _ wd_103) (fun _ h9 => h9) rfl d_Nodes_add_5 ?_
  refine va_alen hx hb hK.1 hP 1 1 rfl rfl (v := 8) (by decide) d_Nodes_add_8 ?_
  refine lv_icmp_ne (tgt := 63) hx hb d_Nodes_add_9 (by decide) (fun c_1 => ?_) (fun c_1 => ?_)
  rotate_left
  · first | exact absurd c_1 (by decide) | exact absurd (by decide) c_1
  refine lv_aload_n hx hb d_Nodes_add_63 rfl (lv_at hl1 0 rfl) ?_
  refine va_get (D := D) (ci := 4) (v := .ref h1) (C := R_Nodes) (T := F_Nodes) (N := 4) hx hb hts i_Nodes hown hK.1 hP 0 rfl rfl 0 (by decide) (hts _ wd_103) (fun _ h9 => h9) rfl d_Nodes_add_64 ?_
  refine lv_aload_n hx hb d_Nodes_add_67 rfl (lv_at hl1 0 rfl) ?_
  refine va_get (D := D) (ci := 4) (v := .int 0) (C := R_Nodes) (T := F_Nodes) (N := 4) hx hb hts i_Nodes hown hK.1 hP 0 rfl rfl 3 (by decide) (hts _ wd_118) (fun _ h9 => h9) rfl d_Nodes_add_68 ?_
  refine lv_iload_n hx hb d_Nodes_add_71 rfl (lv_at hl1 1 rfl) ?_
  refine lv_i2b hx hb d_Nodes_add_72 rfl ?_
  refine lv_topi (fun z_2 ez_2 => ?_)
  have ez_2 : z_2 = 0 := ez_2.trans (by first | rfl | decide)
  subst ez_2
  refine va_bast hx hb hK.1 hP hD hS 1 1 rfl rfl (by unfold vp_in; decide) d_Nodes_add_73 (fun H_3 locs hP hD hS => ?_)
  have hP : va_P D classes [(h0, .inr (4, [.ref h1, .ref h2, .ref h3, .int 0])), (h1, .inl (ax 1, 8, .inl (upd (fun _ => 0) 0 0))), (h2, .inl (ax 0, 8, .inl (fun _ => 0))), (h3, .inl (ax 0, 8, .inl (fun _ => 0)))] H_3 := hP
  have hD : va_D A [(h0, .inr (4, [.ref h1, .ref h2, .ref h3, .int 0])), (h1, .inl (ax 1, 8, .inl (upd (fun _ => 0) 0 0))), (h2, .inl (ax 0, 8, .inl (fun _ => 0))), (h3, .inl (ax 0, 8, .inl (fun _ => 0)))] := hD
  refine lv_aload_n hx hb d_Nodes_add_74 rfl (lv_at hl1 0 rfl) ?_
  refine va_get (D := D) (ci := 4) (v := .ref h2) (C := R_Nodes) (T := F_Nodes) (N := 4) hx hb hts i_Nodes hown hK.1 hP 0 rfl rfl 1 (by decide) (hts _ wd_108) (fun _ h9 => h9) rfl d_Nodes_add_75 ?_
  refine lv_aload_n hx hb d_Nodes_add_78 rfl (lv_at hl1 0 rfl) ?_
  refine va_get (D := D) (ci := 4) (v := .int 0) (C := R_Nodes) (T := F_Nodes) (N := 4) hx hb hts i_Nodes hown hK.1 hP 0 rfl rfl 3 (by decide) (hts _ wd_118) (fun _ h9 => h9) rfl d_Nodes_add_79 ?_
  refine lv_iload_n hx hb d_Nodes_add_82 rfl (lv_at hl1 2 rfl) ?_
  refine va_iast hx hb hK.1 hP hD hS 2 0 rfl rfl (by unfold vp_in; decide) d_Nodes_add_83 (fun H_4 locs hP hD hS => ?_)
  have hP : va_P D classes [(h0, .inr (4, [.ref h1, .ref h2, .ref h3, .int 0])), (h1, .inl (ax 1, 8, .inl (upd (fun _ => 0) 0 0))), (h2, .inl (ax 0, 8, .inl (upd (fun _ => 0) 0 10))), (h3, .inl (ax 0, 8, .inl (fun _ => 0)))] H_4 := hP
  have hD : va_D A [(h0, .inr (4, [.ref h1, .ref h2, .ref h3, .int 0])), (h1, .inl (ax 1, 8, .inl (upd (fun _ => 0) 0 0))), (h2, .inl (ax 0, 8, .inl (upd (fun _ => 0) 0 10))), (h3, .inl (ax 0, 8, .inl (fun _ => 0)))] := hD
  refine lv_aload_n hx hb d_Nodes_add_84 rfl (lv_at hl1 0 rfl) ?_
  refine va_get (D := D) (ci := 4) (v := .ref h3) (C := R_Nodes) (T := F_Nodes) (N := 4) hx hb hts i_Nodes hown hK.1 hP 0 rfl rfl 2 (by decide) (hts _ wd_113) (fun _ h9 => h9) rfl d_Nodes_add_85 ?_
  refine lv_aload_n hx hb d_Nodes_add_88 rfl (lv_at hl1 0 rfl) ?_
  refine va_get (D := D) (ci := 4) (v := .int 0) (C := R_Nodes) (T := F_Nodes) (N := 4) hx hb hts i_Nodes hown hK.1 hP 0 rfl rfl 3 (by decide) (hts _ wd_118) (fun _ h9 => h9) rfl d_Nodes_add_89 ?_
  refine lv_iload_n hx hb d_Nodes_add_92 rfl (lv_at hl1 3 rfl) ?_
  refine va_iast hx hb hK.1 hP hD hS 3 0 rfl rfl (by unfold vp_in; decide) d_Nodes_add_93 (fun H_5 locs hP hD hS => ?_)
  have hP : va_P D classes [(h0, .inr (4, [.ref h1, .ref h2, .ref h3, .int 0])), (h1, .inl (ax 1, 8, .inl (upd (fun _ => 0) 0 0))), (h2, .inl (ax 0, 8, .inl (upd (fun _ => 0) 0 10))), (h3, .inl (ax 0, 8, .inl (upd (fun _ => 0) 0 10)))] H_5 := hP
  have hD : va_D A [(h0, .inr (4, [.ref h1, .ref h2, .ref h3, .int 0])), (h1, .inl (ax 1, 8, .inl (upd (fun _ => 0) 0 0))), (h2, .inl (ax 0, 8, .inl (upd (fun _ => 0) 0 10))), (h3, .inl (ax 0, 8, .inl (upd (fun _ => 0) 0 10)))] := hD
  refine lv_aload_n hx hb d_Nodes_add_94 rfl (lv_at hl1 0 rfl) ?_
  refine lv_dup hx hb d_Nodes_add_95 rfl ?_
  refine va_get (D := D) (ci := 4) (v := .int 0) (C := R_Nodes) (T := F_Nodes) (N := 4) hx hb hts i_Nodes hown hK.1 hP 0 rfl rfl 3 (by decide) (hts _ wd_118) (fun _ h9 => h9) rfl d_Nodes_add_96 ?_
  refine lv_dup_x1 hx hb d_Nodes_add_99 rfl rfl ?_
  refine lv_iconst (v := 1) hx hb d_Nodes_add_100 (by decide) ?_
  refine lv_iadd hx hb d_Nodes_add_101 ?_
  refine lv_topi (fun z_6 ez_6 => ?_)
  have ez_6 : z_6 = 1 := ez_6.trans (by first | rfl | decide)
  subst ez_6
  refine va_put (D := D) (ci := 4) (v := .int 1) (ty := .int) (C := R_Nodes) (T := F_Nodes) (N := 4) hx hb hts i_Nodes t_Nodes t_Nodes_ok n_Nodes hown hK.1 hP hD hS 0 rfl rfl 3 (by decide) (hts _ wd_118) (fun _ h9 => h9) rfl (by decide +kernel) rfl rfl (Nat.le_of_ble_eq_true rfl) d_Nodes_add_102 (fun H_7 locs hP hD hS => ?_)
  have hP : va_P D classes [(h0, .inr (4, [.ref h1, .ref h2, .ref h3, .int 1])), (h1, .inl (ax 1, 8, .inl (upd (fun _ => 0) 0 0))), (h2, .inl (ax 0, 8, .inl (upd (fun _ => 0) 0 10))), (h3, .inl (ax 0, 8, .inl (upd (fun _ => 0) 0 10)))] H_7 := hP
  have hD : va_D A [(h0, .inr (4, [.ref h1, .ref h2, .ref h3, .int 1])), (h1, .inl (ax 1, 8, .inl (upd (fun _ => 0) 0 0))), (h2, .inl (ax 0, 8, .inl (upd (fun _ => 0) 0 10))), (h3, .inl (ax 0, 8, .inl (upd (fun _ => 0) 0 10)))] := hD
  have hP9 := hP.sub (ws' := (fun u : Nat → Nat => [(h0, .inr (4, [.ref h1, .ref h2, .ref h3, .int 1])), (h1, .inl (ax 1, 8, .inl (upd (fun _ => 0) 0 0))), (h2, .inl (ax 0, 8, .inl (upd (fun _ => 0) 0 10))), (h3, .inl (ax 0, 8, .inl (upd (fun _ => 0) 0 10)))]) (ixn [])) [0, 1, 2, 3] rfl
  have hD9 := hD.sub (ws' := (fun u : Nat → Nat => [(h0, .inr (4, [.ref h1, .ref h2, .ref h3, .int 1])), (h1, .inl (ax 1, 8, .inl (upd (fun _ => 0) 0 0))), (h2, .inl (ax 0, 8, .inl (upd (fun _ => 0) 0 10))), (h3, .inl (ax 0, 8, .inl (upd (fun _ => 0) 0 10)))]) (ixn [])) [0, 1, 2, 3] (by decide) rfl
  exact W.iret (v := 0) hx hb hr (fun t ht hW => ⟨⟨0, ixn [], rfl, rfl, ⟨by rw [ht]; exact hP9, hD9⟩⟩, hS.F ht⟩) hS.2.2 d_Nodes_add_105
