abbrev b_Tokens_pass : ByteArray := prog_11_method_7_code
def y_Tokens_pass : MethodName := ⟨R_Tokens, "pass", "()V"⟩
theorem d_Tokens_pass_0 : decode b_Tokens_pass 0 = .ok (.aload_n 0, 1) := by decide +kernel
theorem d_Tokens_pass_1 : decode b_Tokens_pass 1 = .ok (.getfield 19, 3) := by decide +kernel
theorem d_Tokens_pass_4 : decode b_Tokens_pass 4 = .ok (.iconst (-1), 1) := by decide +kernel
theorem d_Tokens_pass_5 : decode b_Tokens_pass 5 = .ok (.if_icmp .ne 59, 3) := by decide +kernel
theorem d_Tokens_pass_8 : decode b_Tokens_pass 8 = .ok (.aload_n 0, 1) := by decide +kernel
theorem d_Tokens_pass_9 : decode b_Tokens_pass 9 = .ok (.getfield 36, 3) := by decide +kernel
theorem d_Tokens_pass_12 : decode b_Tokens_pass 12 = .ok (.sipush 400, 3) := by decide +kernel
theorem d_Tokens_pass_15 : decode b_Tokens_pass 15 = .ok (.if_icmp .ge 49, 3) := by decide +kernel
theorem d_Tokens_pass_18 : decode b_Tokens_pass 18 = .ok (.aload_n 0, 1) := by decide +kernel
theorem d_Tokens_pass_19 : decode b_Tokens_pass 19 = .ok (.dup, 1) := by decide +kernel
theorem d_Tokens_pass_20 : decode b_Tokens_pass 20 = .ok (.getfield 36, 3) := by decide +kernel
theorem d_Tokens_pass_23 : decode b_Tokens_pass 23 = .ok (.iconst 1, 1) := by decide +kernel
theorem d_Tokens_pass_24 : decode b_Tokens_pass 24 = .ok (.iadd, 1) := by decide +kernel
theorem d_Tokens_pass_25 : decode b_Tokens_pass 25 = .ok (.putfield 36, 3) := by decide +kernel
theorem d_Tokens_pass_28 : decode b_Tokens_pass 28 = .ok (.aload_n 0, 1) := by decide +kernel
theorem d_Tokens_pass_29 : decode b_Tokens_pass 29 = .ok (.aload_n 0, 1) := by decide +kernel
theorem d_Tokens_pass_30 : decode b_Tokens_pass 30 = .ok (.getfield 15, 3) := by decide +kernel
theorem d_Tokens_pass_33 : decode b_Tokens_pass 33 = .ok (.aload_n 0, 1) := by decide +kernel
theorem d_Tokens_pass_34 : decode b_Tokens_pass 34 = .ok (.getfield 36, 3) := by decide +kernel
theorem d_Tokens_pass_37 : decode b_Tokens_pass 37 = .ok (.iaload, 1) := by decide +kernel
theorem d_Tokens_pass_38 : decode b_Tokens_pass 38 = .ok (.bipush 127, 2) := by decide +kernel
theorem d_Tokens_pass_40 : decode b_Tokens_pass 40 = .ok (.iand, 1) := by decide +kernel
theorem d_Tokens_pass_41 : decode b_Tokens_pass 41 = .ok (.putfield 42, 3) := by decide +kernel
theorem d_Tokens_pass_44 : decode b_Tokens_pass 44 = .ok (.aload_n 0, 1) := by decide +kernel
theorem d_Tokens_pass_45 : decode b_Tokens_pass 45 = .ok (.aload_n 0, 1) := by decide +kernel
theorem d_Tokens_pass_46 : decode b_Tokens_pass 46 = .ok (.getfield 15, 3) := by decide +kernel
theorem d_Tokens_pass_49 : decode b_Tokens_pass 49 = .ok (.aload_n 0, 1) := by decide +kernel
theorem d_Tokens_pass_50 : decode b_Tokens_pass 50 = .ok (.getfield 36, 3) := by decide +kernel
theorem d_Tokens_pass_53 : decode b_Tokens_pass 53 = .ok (.iaload, 1) := by decide +kernel
theorem d_Tokens_pass_54 : decode b_Tokens_pass 54 = .ok (.bipush 7, 2) := by decide +kernel
theorem d_Tokens_pass_56 : decode b_Tokens_pass 56 = .ok (.ishr, 1) := by decide +kernel
theorem d_Tokens_pass_57 : decode b_Tokens_pass 57 = .ok (.sipush 1023, 3) := by decide +kernel
theorem d_Tokens_pass_60 : decode b_Tokens_pass 60 = .ok (.iand, 1) := by decide +kernel
theorem d_Tokens_pass_61 : decode b_Tokens_pass 61 = .ok (.putfield 29, 3) := by decide +kernel
theorem d_Tokens_pass_64 : decode b_Tokens_pass 64 = .ok (.return_, 1) := by decide +kernel
set_option maxHeartbeats 4000000 in
set_option maxRecDepth 100000 in
theorem c_Tokens_pass_1 (l : Launch) (D : va_G) (ax : Nat → ClassId) (h1 h2 h3 : Nat) (sz : Nat) : Met l y_Tokens_pass (xws (.code y_Tokens_pass b_Tokens_pass 1 none)) ({ frames := 10, cells := 0, slots := 0, locals := 400 }) (va_Pc [.ref h1] (xo D ax [(h1, .inr (9, [.ref h2, .ref h3, .int 0, .int 0, .int (-1), .int (-1), .int 0, .int 0])), (h2, .inl (ax 1, 400, .inl (fun _ => 0))), (h3, .inl (ax 0, 401, .inl (upd (fun _ => 0) 0 0)))] sz)) ((va_Qv (fun (u : Nat → Nat) => True) (xb D (va_A [(h1, .inr (9, [.ref h2, .ref h3, .int 0, .int 0, .int (-1), .int (-1), .int 0, .int 0])), (h2, .inl (ax 1, 400, .inl (fun _ => 0))), (h3, .inl (ax 0, 401, .inl (upd (fun _ => 0) 0 0)))] sz) (fun u => [(h1, .inr (9, [.ref h2, .ref h3, .int 0, .int 0, .int 0, .int (-1), .int 0, .int 0])), (h2, .inl (ax 1, 400, .inl (fun _ => 0))), (h3, .inl (ax 0, 401, .inl (upd (fun _ => 0) 0 0)))])) (va_A [(h1, .inr (9, [.ref h2, .ref h3, .int 0, .int 0, .int (-1), .int (-1), .int 0, .int 0])), (h2, .inl (ax 1, 400, .inl (fun _ => 0))), (h3, .inl (ax 0, 401, .inl (upd (fun _ => 0) 0 0)))] sz))) 0 0 (va_A [(h1, .inr (9, [.ref h2, .ref h3, .int 0, .int 0, .int (-1), .int (-1), .int 0, .int 0])), (h2, .inl (ax 1, 400, .inl (fun _ => 0))), (h3, .inl (ax 0, 401, .inl (upd (fun _ => 0) 0 0)))] sz) := by
  refine Met.ofW (cc := b_Tokens_pass) (maxL := 1) (ret := none) (by decide) rfl ?_
  intro p e s m args below meth c s₁ B hml hv
  obtain ⟨rfl, hsz, hP, hK, hD0⟩ := hv
  have hx := B.exec
  have hb := B.bytes
  have hr := B.returns
  have hts := xw_hts B.pre
  have hown : s.vm.findClass R_Tokens = some m.cls := findClass_of_methodNamed B.named
  have hlocks := B.notSynchronized
  subst hsz
  have hD := hD0.self (sz := s.heap.size)
  have hN := xz_entry hP
  generalize hAe : va_A [(h1, .inr (9, [.ref h2, .ref h3, .int 0, .int 0, .int (-1), .int (-1), .int 0, .int 0])), (h2, .inl (ax 1, 400, .inl (fun _ => 0))), (h3, .inl (ax 0, 401, .inl (upd (fun _ => 0) 0 0)))] s.heap.size = A at hD hN ⊢
  have hA : ∀ q : Nat, s.heap.size ≤ q → A q := fun q h => by rw [← hAe]; exact Or.inr h
  have hS : va_S A s.heap s.heap [] := va_S.rf
  have hl0 := lv_entry ([.ref h1]) (n := 1) (Nat.le_of_ble_eq_true rfl)
  rw [lg_entry_eq]
  generalize (lg_sl ([.ref h1]) ++ List.replicate (1 - (lg_sl ([.ref h1])).length) Slot.unset).toArray = ls at hl0 ⊢
  have hl1 : lv_has ls 1 [(0, .ref h1)] := hl0
  refine lv_aload_n hx hb d_Tokens_pass_0 rfl (lv_at hl1 0 rfl) ?_
  refine va_get (D := D) (ci := 9) (v := .int (-1)) (C := R_Tokens) (T := F_Tokens) (N := 8) hx hb hts i_Tokens hown hK.1 hP 0 rfl rfl 5 (by decide) (hts _ wd_45) (fun _ h9 => h9) rfl d_Tokens_pass_1 ?_
  refine lv_iconst (v := (-1)) hx hb d_Tokens_pass_4 (by decide) ?_
  refine lv_icmp_ne (tgt := 64) hx hb d_Tokens_pass_5 (by decide) (fun c_1 => ?_) (fun c_1 => ?_)
  · first | exact absurd c_1 (by decide) | exact absurd (by decide) c_1
  refine lv_aload_n hx hb d_Tokens_pass_8 rfl (lv_at hl1 0 rfl) ?_
  refine va_get (D := D) (ci := 9) (v := .int (-1)) (C := R_Tokens) (T := F_Tokens) (N := 8) hx hb hts i_Tokens hown hK.1 hP 0 rfl rfl 4 (by decide) (hts _ wd_44) (fun _ h9 => h9) rfl d_Tokens_pass_9 ?_
  refine lv_sipush (v := 400) hx hb d_Tokens_pass_12 (by decide) ?_
  refine lv_icmp_ge (tgt := 64) hx hb d_Tokens_pass_15 (by decide) (fun c_2 => ?_) (fun c_2 => ?_)
  · first | exact absurd c_2 (by decide) | exact absurd (by decide) c_2
  refine lv_aload_n hx hb d_Tokens_pass_18 rfl (lv_at hl1 0 rfl) ?_
  refine lv_dup hx hb d_Tokens_pass_19 rfl ?_
  refine va_get (D := D) (ci := 9) (v := .int (-1)) (C := R_Tokens) (T := F_Tokens) (N := 8) hx hb hts i_Tokens hown hK.1 hP 0 rfl rfl 4 (by decide) (hts _ wd_44) (fun _ h9 => h9) rfl d_Tokens_pass_20 ?_
  refine lv_iconst (v := 1) hx hb d_Tokens_pass_23 (by decide) ?_
  refine lv_iadd hx hb d_Tokens_pass_24 ?_
  refine lv_topi (fun z_3 ez_3 => ?_)
  have ez_3 : z_3 = 0 := ez_3.trans (by first | rfl | decide)
  subst ez_3
  refine va_put (D := D) (ci := 9) (v := .int 0) (ty := .int) (C := R_Tokens) (T := F_Tokens) (N := 8) hx hb hts i_Tokens t_Tokens t_Tokens_ok n_Tokens hown hK.1 hP hD hS 0 rfl rfl 4 (by decide) (hts _ wd_44) (fun _ h9 => h9) rfl (by decide +kernel) rfl rfl (Nat.le_of_ble_eq_true rfl) d_Tokens_pass_25 (fun H_4 locs hP hD hS => ?_)
  have hP : va_P D classes [(h1, .inr (9, [.ref h2, .ref h3, .int 0, .int 0, .int 0, .int (-1), .int 0, .int 0])), (h2, .inl (ax 1, 400, .inl (fun _ => 0))), (h3, .inl (ax 0, 401, .inl (upd (fun _ => 0) 0 0)))] H_4 := hP
  have hD : va_D A [(h1, .inr (9, [.ref h2, .ref h3, .int 0, .int 0, .int 0, .int (-1), .int 0, .int 0])), (h2, .inl (ax 1, 400, .inl (fun _ => 0))), (h3, .inl (ax 0, 401, .inl (upd (fun _ => 0) 0 0)))] := hD
  refine lv_aload_n hx hb d_Tokens_pass_28 rfl (lv_at hl1 0 rfl) ?_
  refine lv_aload_n hx hb d_Tokens_pass_29 rfl (lv_at hl1 0 rfl) ?_
  refine va_get (D := D) (ci := 9) (v := .ref h3) (C := R_Tokens) (T := F_Tokens) (N := 8) hx hb hts i_Tokens hown hK.1 hP 0 rfl rfl 1 (by decide) (hts _ wd_41) (fun _ h9 => h9) rfl d_Tokens_pass_30 ?_
  refine lv_aload_n hx hb d_Tokens_pass_33 rfl (lv_at hl1 0 rfl) ?_
  refine va_get (D := D) (ci := 9) (v := .int 0) (C := R_Tokens) (T := F_Tokens) (N := 8) hx hb hts i_Tokens hown hK.1 hP 0 rfl rfl 4 (by decide) (hts _ wd_44) (fun _ h9 => h9) rfl d_Tokens_pass_34 ?_
  refine va_iald hx hb hK.1 hP 2 0 rfl rfl (by unfold vp_in; decide) d_Tokens_pass_37 ?_
  refine lv_topi (fun z_5 ez_5 => ?_)
  have ez_5 : z_5 = 0 := ez_5.trans (by first | rfl | decide)
  subst ez_5
  refine lv_bipush (v := 127) hx hb d_Tokens_pass_38 (by decide) ?_
  refine lv_iand hx hb d_Tokens_pass_40 ?_
  refine lv_topi (fun z_6 ez_6 => ?_)
  have ez_6 : z_6 = 0 := ez_6.trans (by first | rfl | decide)
  subst ez_6
  refine va_put (D := D) (ci := 9) (v := .int 0) (ty := .int) (C := R_Tokens) (T := F_Tokens) (N := 8) hx hb hts i_Tokens t_Tokens t_Tokens_ok n_Tokens hown hK.1 hP hD hS 0 rfl rfl 6 (by decide) (hts _ wd_46) (fun _ h9 => h9) rfl (by decide +kernel) rfl rfl (Nat.le_of_ble_eq_true rfl) d_Tokens_pass_41 (fun H_7 locs hP hD hS => ?_)
  have hP : va_P D classes [(h1, .inr (9, [.ref h2, .ref h3, .int 0, .int 0, .int 0, .int (-1), .int 0, .int 0])), (h2, .inl (ax 1, 400, .inl (fun _ => 0))), (h3, .inl (ax 0, 401, .inl (upd (fun _ => 0) 0 0)))] H_7 := hP
  have hD : va_D A [(h1, .inr (9, [.ref h2, .ref h3, .int 0, .int 0, .int 0, .int (-1), .int 0, .int 0])), (h2, .inl (ax 1, 400, .inl (fun _ => 0))), (h3, .inl (ax 0, 401, .inl (upd (fun _ => 0) 0 0)))] := hD
  refine lv_aload_n hx hb d_Tokens_pass_44 rfl (lv_at hl1 0 rfl) ?_
  refine lv_aload_n hx hb d_Tokens_pass_45 rfl (lv_at hl1 0 rfl) ?_
  refine va_get (D := D) (ci := 9) (v := .ref h3) (C := R_Tokens) (T := F_Tokens) (N := 8) hx hb hts i_Tokens hown hK.1 hP 0 rfl rfl 1 (by decide) (hts _ wd_41) (fun _ h9 => h9) rfl d_Tokens_pass_46 ?_
  refine lv_aload_n hx hb d_Tokens_pass_49 rfl (lv_at hl1 0 rfl) ?_
  refine va_get (D := D) (ci := 9) (v := .int 0) (C := R_Tokens) (T := F_Tokens) (N := 8) hx hb hts i_Tokens hown hK.1 hP 0 rfl rfl 4 (by decide) (hts _ wd_44) (fun _ h9 => h9) rfl d_Tokens_pass_50 ?_
  refine va_iald hx hb hK.1 hP 2 0 rfl rfl (by unfold vp_in; decide) d_Tokens_pass_53 ?_
  refine lv_topi (fun z_8 ez_8 => ?_)
  have ez_8 : z_8 = 0 := ez_8.trans (by first | rfl | decide)
  subst ez_8
  refine lv_bipush (v := 7) hx hb d_Tokens_pass_54 (by decide) ?_
  refine lv_ishr hx hb d_Tokens_pass_56 ?_
  refine lv_topi (fun z_9 ez_9 => ?_)
  have ez_9 : z_9 = 0 := ez_9.trans (by first | rfl | decide)
  subst ez_9
  refine lv_sipush (v := 1023) hx hb d_Tokens_pass_57 (by decide) ?_
  refine lv_iand hx hb d_Tokens_pass_60 ?_
  refine lv_topi (fun z_10 ez_10 => ?_)
  have ez_10 : z_10 = 0 := ez_10.trans (by first | rfl | decide)
  subst ez_10
  refine va_put (D := D) (ci := 9) (v := .int 0) (ty := .int) (C := R_Tokens) (T := F_Tokens) (N := 8) hx hb hts i_Tokens t_Tokens t_Tokens_ok n_Tokens hown hK.1 hP hD hS 0 rfl rfl 7 (by decide) (hts _ wd_48) (fun _ h9 => h9) rfl (by decide +kernel) rfl rfl (Nat.le_of_ble_eq_true rfl) d_Tokens_pass_61 (fun H_11 locs hP hD hS => ?_)
  have hP : va_P D classes [(h1, .inr (9, [.ref h2, .ref h3, .int 0, .int 0, .int 0, .int (-1), .int 0, .int 0])), (h2, .inl (ax 1, 400, .inl (fun _ => 0))), (h3, .inl (ax 0, 401, .inl (upd (fun _ => 0) 0 0)))] H_11 := hP
  have hD : va_D A [(h1, .inr (9, [.ref h2, .ref h3, .int 0, .int 0, .int 0, .int (-1), .int 0, .int 0])), (h2, .inl (ax 1, 400, .inl (fun _ => 0))), (h3, .inl (ax 0, 401, .inl (upd (fun _ => 0) 0 0)))] := hD
  have hP9 := hP.sub (ws' := (fun u : Nat → Nat => [(h1, .inr (9, [.ref h2, .ref h3, .int 0, .int 0, .int 0, .int (-1), .int 0, .int 0])), (h2, .inl (ax 1, 400, .inl (fun _ => 0))), (h3, .inl (ax 0, 401, .inl (upd (fun _ => 0) 0 0)))]) (ixn [])) [0, 1, 2] rfl
  have hD9 := hD.sub (ws' := (fun u : Nat → Nat => [(h1, .inr (9, [.ref h2, .ref h3, .int 0, .int 0, .int 0, .int (-1), .int 0, .int 0])), (h2, .inl (ax 1, 400, .inl (fun _ => 0))), (h3, .inl (ax 0, 401, .inl (upd (fun _ => 0) 0 0)))]) (ixn [])) [0, 1, 2] (by decide) rfl
  exact W.vret hx hb hr (fun t ht hW => ⟨⟨ixn [], rfl, trivial, ⟨by rw [ht]; exact hP9, hD9⟩⟩, hS.F ht⟩) hS.2.2 d_Tokens_pass_64
set_option maxHeartbeats 4000000 in
set_option maxRecDepth 100000 in
theorem c_Tokens_pass_2 (l : Launch) (D : va_G) (ax : Nat → ClassId) (h1 h2 h3 : Nat) (sz : Nat) : Met l y_Tokens_pass (xws (.code y_Tokens_pass b_Tokens_pass 1 none)) ({ frames := 10, cells := 0, slots := 0, locals := 400 }) (va_Pc [.ref h1] (xo D ax [(h1, .inr (9, [.ref h2, .ref h3, .int 0, .int 0, .int 0, .int 0, .int 1, .int 0])), (h2, .inl (ax 1, 400, .inl (fun _ => 0))), (h3, .inl (ax 0, 401, .inl (upd (fun _ => 0) 0 0)))] sz)) ((va_Qv (fun (u : Nat → Nat) => True) (xb D (va_A [(h1, .inr (9, [.ref h2, .ref h3, .int 0, .int 0, .int 0, .int 0, .int 1, .int 0])), (h2, .inl (ax 1, 400, .inl (fun _ => 0))), (h3, .inl (ax 0, 401, .inl (upd (fun _ => 0) 0 0)))] sz) (fun u => [(h1, .inr (9, [.ref h2, .ref h3, .int 0, .int 0, .int 0, .int 0, .int 1, .int 0])), (h2, .inl (ax 1, 400, .inl (fun _ => 0))), (h3, .inl (ax 0, 401, .inl (upd (fun _ => 0) 0 0)))])) (va_A [(h1, .inr (9, [.ref h2, .ref h3, .int 0, .int 0, .int 0, .int 0, .int 1, .int 0])), (h2, .inl (ax 1, 400, .inl (fun _ => 0))), (h3, .inl (ax 0, 401, .inl (upd (fun _ => 0) 0 0)))] sz))) 0 0 (va_A [(h1, .inr (9, [.ref h2, .ref h3, .int 0, .int 0, .int 0, .int 0, .int 1, .int 0])), (h2, .inl (ax 1, 400, .inl (fun _ => 0))), (h3, .inl (ax 0, 401, .inl (upd (fun _ => 0) 0 0)))] sz) := by
  refine Met.ofW (cc := b_Tokens_pass) (maxL := 1) (ret := none) (by decide) rfl ?_
  intro p e s m args below meth c s₁ B hml hv
  obtain ⟨rfl, hsz, hP, hK, hD0⟩ := hv
  have hx := B.exec
  have hb := B.bytes
  have hr := B.returns
  have hts := xw_hts B.pre
  have hown : s.vm.findClass R_Tokens = some m.cls := findClass_of_methodNamed B.named
  have hlocks := B.notSynchronized
  subst hsz
  have hD := hD0.self (sz := s.heap.size)
  have hN := xz_entry hP
  generalize hAe : va_A [(h1, .inr (9, [.ref h2, .ref h3, .int 0, .int 0, .int 0, .int 0, .int 1, .int 0])), (h2, .inl (ax 1, 400, .inl (fun _ => 0))), (h3, .inl (ax 0, 401, .inl (upd (fun _ => 0) 0 0)))] s.heap.size = A at hD hN ⊢
  have hA : ∀ q : Nat, s.heap.size ≤ q → A q := fun q h => by rw [← hAe]; exact Or.inr h
  have hS : va_S A s.heap s.heap [] := va_S.rf
  have hl0 := lv_entry ([.ref h1]) (n := 1) (Nat.le_of_ble_eq_true rfl)
  rw [lg_entry_eq]
  generalize (lg_sl ([.ref h1]) ++ List.replicate (1 - (lg_sl ([.ref h1])).length) Slot.unset).toArray = ls at hl0 ⊢
  have hl1 : lv_has ls 1 [(0, .ref h1)] := hl0
  refine lv_aload_n hx hb d_Tokens_pass_0 rfl (lv_at hl1 0 rfl) ?_
  refine va_get (D := D) (ci := 9) (v := .int 0) (C := R_Tokens) (T := F_Tokens) (N := 8) hx hb hts i_Tokens hown hK.1 hP 0 rfl rfl 5 (by decide) (hts _ wd_45) (fun _ h9 => h9) rfl d_Tokens_pass_1 ?_
  refine lv_iconst (v := (-1)) hx hb d_Tokens_pass_4 (by decide) ?_
  refine lv_icmp_ne (tgt := 64) hx hb d_Tokens_pass_5 (by decide) (fun c_1 => ?_) (fun c_1 => ?_)
  rotate_left
  · first | exact absurd c_1 (by decide) | exact absurd (by decide) c_1
  have hP9 := hP.sub (ws' := (fun u : Nat → Nat => [(h1, .inr (9, [.ref h2, .ref h3, .int 0, .int 0, .int 0, .int 0, .int 1, .int 0])), (h2, .inl (ax 1, 400, .inl (fun _ => 0))), (h3, .inl (ax 0, 401, .inl (upd (fun _ => 0) 0 0)))]) (ixn [])) [0, 1, 2] rfl
  have hD9 := hD.sub (ws' := (fun u : Nat → Nat => [(h1, .inr (9, [.ref h2, .ref h3, .int 0, .int 0, .int 0, .int 0, .int 1, .int 0])), (h2, .inl (ax 1, 400, .inl (fun _ => 0))), (h3, .inl (ax 0, 401, .inl (upd (fun _ => 0) 0 0)))]) (ixn [])) [0, 1, 2] (by decide) rfl
  exact W.vret hx hb hr (fun t ht hW => ⟨⟨ixn [], rfl, trivial, ⟨by rw [ht]; exact hP9, hD9⟩⟩, hS.F ht⟩) hS.2.2 d_Tokens_pass_64
abbrev b_Tokens_refuse : ByteArray := prog_11_method_6_code
def y_Tokens_refuse : MethodName := ⟨R_Tokens, "refuse", "()V"⟩
theorem d_Tokens_refuse_0 : decode b_Tokens_refuse 0 = .ok (.aload_n 0, 1) := by decide +kernel
theorem d_Tokens_refuse_1 : decode b_Tokens_refuse 1 = .ok (.getfield 19, 3) := by decide +kernel
theorem d_Tokens_refuse_4 : decode b_Tokens_refuse 4 = .ok (.iconst (-1), 1) := by decide +kernel
theorem d_Tokens_refuse_5 : decode b_Tokens_refuse 5 = .ok (.if_icmp .ne 24, 3) := by decide +kernel
theorem d_Tokens_refuse_8 : decode b_Tokens_refuse 8 = .ok (.aload_n 0, 1) := by decide +kernel
theorem d_Tokens_refuse_9 : decode b_Tokens_refuse 9 = .ok (.aload_n 0, 1) := by decide +kernel
theorem d_Tokens_refuse_10 : decode b_Tokens_refuse 10 = .ok (.getfield 15, 3) := by decide +kernel
theorem d_Tokens_refuse_13 : decode b_Tokens_refuse 13 = .ok (.aload_n 0, 1) := by decide +kernel
theorem d_Tokens_refuse_14 : decode b_Tokens_refuse 14 = .ok (.getfield 36, 3) := by decide +kernel
theorem d_Tokens_refuse_17 : decode b_Tokens_refuse 17 = .ok (.iaload, 1) := by decide +kernel
theorem d_Tokens_refuse_18 : decode b_Tokens_refuse 18 = .ok (.bipush 17, 2) := by decide +kernel
theorem d_Tokens_refuse_20 : decode b_Tokens_refuse 20 = .ok (.ishr, 1) := by decide +kernel
theorem d_Tokens_refuse_21 : decode b_Tokens_refuse 21 = .ok (.putfield 19, 3) := by decide +kernel
theorem d_Tokens_refuse_24 : decode b_Tokens_refuse 24 = .ok (.aload_n 0, 1) := by decide +kernel
theorem d_Tokens_refuse_25 : decode b_Tokens_refuse 25 = .ok (.iconst 1, 1) := by decide +kernel
theorem d_Tokens_refuse_26 : decode b_Tokens_refuse 26 = .ok (.putfield 42, 3) := by decide +kernel
theorem d_Tokens_refuse_29 : decode b_Tokens_refuse 29 = .ok (.return_, 1) := by decide +kernel
set_option maxHeartbeats 4000000 in
set_option maxRecDepth 100000 in
theorem c_Tokens_refuse_1 (l : Launch) (D : va_G) (ax : Nat → ClassId) (h1 h2 h3 : Nat) (sz : Nat) : Met l y_Tokens_refuse (xws (.code y_Tokens_refuse b_Tokens_refuse 1 none)) ({ frames := 10, cells := 0, slots := 0, locals := 400 }) (va_Pc [.ref h1] (xo D ax [(h1, .inr (9, [.ref h2, .ref h3, .int 0, .int 0, .int 0, .int (-1), .int 0, .int 0])), (h2, .inl (ax 1, 400, .inl (fun _ => 0))), (h3, .inl (ax 0, 401, .inl (upd (fun _ => 0) 0 0)))] sz)) ((va_Qv (fun (u : Nat → Nat) => True) (xb D (va_A [(h1, .inr (9, [.ref h2, .ref h3, .int 0, .int 0, .int 0, .int (-1), .int 0, .int 0])), (h2, .inl (ax 1, 400, .inl (fun _ => 0))), (h3, .inl (ax 0, 401, .inl (upd (fun _ => 0) 0 0)))] sz) (fun u => [(h1, .inr (9, [.ref h2, .ref h3, .int 0, .int 0, .int 0, .int 0, .int 1, .int 0])), (h2, .inl (ax 1, 400, .inl (fun _ => 0))), (h3, .inl (ax 0, 401, .inl (upd (fun _ => 0) 0 0)))])) (va_A [(h1, .inr (9, [.ref h2, .ref h3, .int 0, .int 0, .int 0, .int (-1), .int 0, .int 0])), (h2, .inl (ax 1, 400, .inl (fun _ => 0))), (h3, .inl (ax 0, 401, .inl (upd (fun _ => 0) 0 0)))] sz))) 0 0 (va_A [(h1, .inr (9, [.ref h2, .ref h3, .int 0, .int 0, .int 0, .int (-1), .int 0, .int 0])), (h2, .inl (ax 1, 400, .inl (fun _ => 0))), (h3, .inl (ax 0, 401, .inl (upd (fun _ => 0) 0 0)))] sz) := by
  refine Met.ofW (cc := b_Tokens_refuse) (maxL := 1) (ret := none) (by decide) rfl ?_
  intro p e s m args below meth c s₁ B hml hv
  obtain ⟨rfl, hsz, hP, hK, hD0⟩ := hv
  have hx := B.exec
  have hb := B.bytes
  have hr := B.returns
  have hts := xw_hts B.pre
  have hown : s.vm.findClass R_Tokens = some m.cls := findClass_of_methodNamed B.named
  have hlocks := B.notSynchronized
  subst hsz
  have hD := hD0.self (sz := s.heap.size)
  have hN := xz_entry hP
  generalize hAe : va_A [(h1, .inr (9, [.ref h2, .ref h3, .int 0, .int 0, .int 0, .int (-1), .int 0, .int 0])), (h2, .inl (ax 1, 400, .inl (fun _ => 0))), (h3, .inl (ax 0, 401, .inl (upd (fun _ => 0) 0 0)))] s.heap.size = A at hD hN ⊢
  have hA : ∀ q : Nat, s.heap.size ≤ q → A q := fun q h => by rw [← hAe]; exact Or.inr h
  have hS : va_S A s.heap s.heap [] := va_S.rf
  have hl0 := lv_entry ([.ref h1]) (n := 1) (Nat.le_of_ble_eq_true rfl)
  rw [lg_entry_eq]
  generalize (lg_sl ([.ref h1]) ++ List.replicate (1 - (lg_sl ([.ref h1])).length) Slot.unset).toArray = ls at hl0 ⊢
  have hl1 : lv_has ls 1 [(0, .ref h1)] := hl0
  refine lv_aload_n hx hb d_Tokens_refuse_0 rfl (lv_at hl1 0 rfl) ?_
  refine va_get (D := D) (ci := 9) (v := .int (-1)) (C := R_Tokens) (T := F_Tokens) (N := 8) hx hb hts i_Tokens hown hK.1 hP 0 rfl rfl 5 (by decide) (hts _ wd_45) (fun _ h9 => h9) rfl d_Tokens_refuse_1 ?_
  refine lv_iconst (v := (-1)) hx hb d_Tokens_refuse_4 (by decide) ?_
  refine lv_icmp_ne (tgt := 29) hx hb d_Tokens_refuse_5 (by decide) (fun c_1 => ?_) (fun c_1 => ?_)
  · first | exact absurd c_1 (by decide) | exact absurd (by decide) c_1
  refine lv_aload_n hx hb d_Tokens_refuse_8 rfl (lv_at hl1 0 rfl) ?_
  refine lv_aload_n hx hb d_Tokens_refuse_9 rfl (lv_at hl1 0 rfl) ?_
  refine va_get (D := D) (ci := 9) (v := .ref h3) (C := R_Tokens) (T := F_Tokens) (N := 8) hx hb hts i_Tokens hown hK.1 hP 0 rfl rfl 1 (by decide) (hts _ wd_41) (fun _ h9 => h9) rfl d_Tokens_refuse_10 ?_
  refine lv_aload_n hx hb d_Tokens_refuse_13 rfl (lv_at hl1 0 rfl) ?_
  refine va_get (D := D) (ci := 9) (v := .int 0) (C := R_Tokens) (T := F_Tokens) (N := 8) hx hb hts i_Tokens hown hK.1 hP 0 rfl rfl 4 (by decide) (hts _ wd_44) (fun _ h9 => h9) rfl d_Tokens_refuse_14 ?_
  refine va_iald hx hb hK.1 hP 2 0 rfl rfl (by unfold vp_in; decide) d_Tokens_refuse_17 ?_
  refine lv_topi (fun z_2 ez_2 => ?_)
  have ez_2 : z_2 = 0 := ez_2.trans (by first | rfl | decide)
  subst ez_2
  refine lv_bipush (v := 17) hx hb d_Tokens_refuse_18 (by decide) ?_
  refine lv_ishr hx hb d_Tokens_refuse_20 ?_
  refine lv_topi (fun z_3 ez_3 => ?_)
  have ez_3 : z_3 = 0 := ez_3.trans (by first | rfl | decide)
  subst ez_3
  refine va_put (D := D) (ci := 9) (v := .int 0) (ty := .int) (C := R_Tokens) (T := F_Tokens) (N := 8) hx hb hts i_Tokens t_Tokens t_Tokens_ok n_Tokens hown hK.1 hP hD hS 0 rfl rfl 5 (by decide) (hts _ wd_45) (fun _ h9 => h9) rfl (by decide +kernel) rfl rfl (Nat.le_of_ble_eq_true rfl) d_Tokens_refuse_21 (fun H_4 locs hP hD hS => ?_)
  have hP : va_P D classes [(h1, .inr (9, [.ref h2, .ref h3, .int 0, .int 0, .int 0, .int 0, .int 0, .int 0])), (h2, .inl (ax 1, 400, .inl (fun _ => 0))), (h3, .inl (ax 0, 401, .inl (upd (fun _ => 0) 0 0)))] H_4 := hP
  have hD : va_D A [(h1, .inr (9, [.ref h2, .ref h3, .int 0, .int 0, .int 0, .int 0, .int 0, .int 0])), (h2, .inl (ax 1, 400, .inl (fun _ => 0))), (h3, .inl (ax 0, 401, .inl (upd (fun _ => 0) 0 0)))] := hD
  refine lv_aload_n hx hb d_Tokens_refuse_24 rfl (lv_at hl1 0 rfl) ?_
  refine lv_iconst (v := 1) hx hb d_Tokens_refuse_25 (by decide) ?_
  refine va_put (D := D) (ci := 9) (v := .int 1) (ty := .int) (C := R_Tokens) (T := F_Tokens) (N := 8) hx hb hts i_Tokens t_Tokens t_Tokens_ok n_Tokens hown hK.1 hP hD hS 0 rfl rfl 6 (by decide) (hts _ wd_46) (fun _ h9 => h9) rfl (by decide +kernel) rfl rfl (Nat.le_of_ble_eq_true rfl) d_Tokens_refuse_26 (fun H_5 locs hP hD hS => ?_)
  have hP : va_P D classes [(h1, .inr (9, [.ref h2, .ref h3, .int 0, .int 0, .int 0, .int 0, .int 1, .int 0])), (h2, .inl (ax 1, 400, .inl (fun _ => 0))), (h3, .inl (ax 0, 401, .inl (upd (fun _ => 0) 0 0)))] H_5 := hP
  have hD : va_D A [(h1, .inr (9, [.ref h2, .ref h3, .int 0, .int 0, .int 0, .int 0, .int 1, .int 0])), (h2, .inl (ax 1, 400, .inl (fun _ => 0))), (h3, .inl (ax 0, 401, .inl (upd (fun _ => 0) 0 0)))] := hD
  have hP9 := hP.sub (ws' := (fun u : Nat → Nat => [(h1, .inr (9, [.ref h2, .ref h3, .int 0, .int 0, .int 0, .int 0, .int 1, .int 0])), (h2, .inl (ax 1, 400, .inl (fun _ => 0))), (h3, .inl (ax 0, 401, .inl (upd (fun _ => 0) 0 0)))]) (ixn [])) [0, 1, 2] rfl
  have hD9 := hD.sub (ws' := (fun u : Nat → Nat => [(h1, .inr (9, [.ref h2, .ref h3, .int 0, .int 0, .int 0, .int 0, .int 1, .int 0])), (h2, .inl (ax 1, 400, .inl (fun _ => 0))), (h3, .inl (ax 0, 401, .inl (upd (fun _ => 0) 0 0)))]) (ixn [])) [0, 1, 2] (by decide) rfl
  exact W.vret hx hb hr (fun t ht hW => ⟨⟨ixn [], rfl, trivial, ⟨by rw [ht]; exact hP9, hD9⟩⟩, hS.F ht⟩) hS.2.2 d_Tokens_refuse_29
set_option maxHeartbeats 4000000 in
set_option maxRecDepth 100000 in
theorem c_Tokens_refuse_2 (l : Launch) (D : va_G) (ax : Nat → ClassId) (h1 h2 h3 : Nat) (sz : Nat) : Met l y_Tokens_refuse (xws (.code y_Tokens_refuse b_Tokens_refuse 1 none)) ({ frames := 10, cells := 0, slots := 0, locals := 400 }) (va_Pc [.ref h1] (xo D ax [(h1, .inr (9, [.ref h2, .ref h3, .int 0, .int 0, .int 0, .int 0, .int 1, .int 0])), (h2, .inl (ax 1, 400, .inl (fun _ => 0))), (h3, .inl (ax 0, 401, .inl (upd (fun _ => 0) 0 0)))] sz)) ((va_Qv (fun (u : Nat → Nat) => True) (xb D (va_A [(h1, .inr (9, [.ref h2, .ref h3, .int 0, .int 0, .int 0, .int 0, .int 1, .int 0])), (h2, .inl (ax 1, 400, .inl (fun _ => 0))), (h3, .inl (ax 0, 401, .inl (upd (fun _ => 0) 0 0)))] sz) (fun u => [(h1, .inr (9, [.ref h2, .ref h3, .int 0, .int 0, .int 0, .int 0, .int 1, .int 0])), (h2, .inl (ax 1, 400, .inl (fun _ => 0))), (h3, .inl (ax 0, 401, .inl (upd (fun _ => 0) 0 0)))])) (va_A [(h1, .inr (9, [.ref h2, .ref h3, .int 0, .int 0, .int 0, .int 0, .int 1, .int 0])), (h2, .inl (ax 1, 400, .inl (fun _ => 0))), (h3, .inl (ax 0, 401, .inl (upd (fun _ => 0) 0 0)))] sz))) 0 0 (va_A [(h1, .inr (9, [.ref h2, .ref h3, .int 0, .int 0, .int 0, .int 0, .int 1, .int 0])), (h2, .inl (ax 1, 400, .inl (fun _ => 0))), (h3, .inl (ax 0, 401, .inl (upd (fun _ => 0) 0 0)))] sz) := by
  refine Met.ofW (cc := b_Tokens_refuse) (maxL := 1) (ret := none) (by decide) rfl ?_
  intro p e s m args below meth c s₁ B hml hv
  obtain ⟨rfl, hsz, hP, hK, hD0⟩ := hv
  have hx := B.exec
  have hb := B.bytes
  have hr := B.returns
  have hts := xw_hts B.pre
  have hown : s.vm.findClass R_Tokens = some m.cls := findClass_of_methodNamed B.named
  have hlocks := B.notSynchronized
  subst hsz
  have hD := hD0.self (sz := s.heap.size)
  have hN := xz_entry hP
  generalize hAe : va_A [(h1, .inr (9, [.ref h2, .ref h3, .int 0, .int 0, .int 0, .int 0, .int 1, .int 0])), (h2, .inl (ax 1, 400, .inl (fun _ => 0))), (h3, .inl (ax 0, 401, .inl (upd (fun _ => 0) 0 0)))] s.heap.size = A at hD hN ⊢
  have hA : ∀ q : Nat, s.heap.size ≤ q → A q := fun q h => by rw [← hAe]; exact Or.inr h
  have hS : va_S A s.heap s.heap [] := va_S.rf
  have hl0 := lv_entry ([.ref h1]) (n := 1) (Nat.le_of_ble_eq_true rfl)
  rw [lg_entry_eq]
  generalize (lg_sl ([.ref h1]) ++ List.replicate (1 - (lg_sl ([.ref h1])).length) Slot.unset).toArray = ls at hl0 ⊢
  have hl1 : lv_has ls 1 [(0, .ref h1)] := hl0
  refine lv_aload_n hx hb d_Tokens_refuse_0 rfl (lv_at hl1 0 rfl) ?_
  refine va_get (D := D) (ci := 9) (v := .int 0) (C := R_Tokens) (T := F_Tokens) (N := 8) hx hb hts i_Tokens hown hK.1 hP 0 rfl rfl 5 (by decide) (hts _ wd_45) (fun _ h9 => h9) rfl d_Tokens_refuse_1 ?_
  refine lv_iconst (v := (-1)) hx hb d_Tokens_refuse_4 (by decide) ?_
  refine lv_icmp_ne (tgt := 29) hx hb d_Tokens_refuse_5 (by decide) (fun c_1 => ?_) (fun c_1 => ?_)
  rotate_left
  · first | exact absurd c_1 (by decide) | exact absurd (by decide) c_1
  have hP9 := hP.sub (ws' := (fun u : Nat → Nat => [(h1, .inr (9, [.ref h2, .ref h3, .int 0, .int 0, .int 0, .int 0, .int 1, .int 0])), (h2, .inl (ax 1, 400, .inl (fun _ => 0))), (h3, .inl (ax 0, 401, .inl (upd (fun _ => 0) 0 0)))]) (ixn [])) [0, 1, 2] rfl
  have hD9 := hD.sub (ws' := (fun u : Nat → Nat => [(h1, .inr (9, [.ref h2, .ref h3, .int 0, .int 0, .int 0, .int 0, .int 1, .int 0])), (h2, .inl (ax 1, 400, .inl (fun _ => 0))), (h3, .inl (ax 0, 401, .inl (upd (fun _ => 0) 0 0)))]) (ixn [])) [0, 1, 2] (by decide) rfl
  exact W.vret hx hb hr (fun t ht hW => ⟨⟨ixn [], rfl, trivial, ⟨by rw [ht]; exact hP9, hD9⟩⟩, hS.F ht⟩) hS.2.2 d_Tokens_refuse_29
abbrev b_Tokens_need : ByteArray := prog_11_method_5_code
def y_Tokens_need : MethodName := ⟨R_Tokens, "need", "(I)V"⟩
theorem d_Tokens_need_0 : decode b_Tokens_need 0 = .ok (.aload_n 0, 1) := by decide +kernel
theorem d_Tokens_need_1 : decode b_Tokens_need 1 = .ok (.getfield 42, 3) := by decide +kernel
theorem d_Tokens_need_4 : decode b_Tokens_need 4 = .ok (.iload_n 1, 1) := by decide +kernel
theorem d_Tokens_need_5 : decode b_Tokens_need 5 = .ok (.if_icmp .ne 10, 3) := by decide +kernel
theorem d_Tokens_need_15 : decode b_Tokens_need 15 = .ok (.aload_n 0, 1) := by decide +kernel
theorem d_Tokens_need_16 : decode b_Tokens_need 16 = .ok (.invokevirtual 45, 3) := by decide +kernel
theorem d_Tokens_need_19 : decode b_Tokens_need 19 = .ok (.return_, 1) := by decide +kernel
set_option maxHeartbeats 4000000 in
set_option maxRecDepth 100000 in
theorem c_Tokens_need (l : Launch) (D : va_G) (ax : Nat → ClassId) (h1 h2 h3 : Nat) (sz : Nat) : Met l y_Tokens_need (xws (.code y_Tokens_need b_Tokens_need 2 none)) ({ frames := 20, cells := 0, slots := 0, locals := 800 }) (va_Pc [.ref h1, .int 5] (xo D ax [(h1, .inr (9, [.ref h2, .ref h3, .int 0, .int 0, .int 0, .int 0, .int 1, .int 0])), (h2, .inl (ax 1, 400, .inl (fun _ => 0))), (h3, .inl (ax 0, 401, .inl (upd (fun _ => 0) 0 0)))] sz)) ((va_Qv (fun (u : Nat → Nat) => True) (xb D (va_A [(h1, .inr (9, [.ref h2, .ref h3, .int 0, .int 0, .int 0, .int 0, .int 1, .int 0])), (h2, .inl (ax 1, 400, .inl (fun _ => 0))), (h3, .inl (ax 0, 401, .inl (upd (fun _ => 0) 0 0)))] sz) (fun u => [(h1, .inr (9, [.ref h2, .ref h3, .int 0, .int 0, .int 0, .int 0, .int 1, .int 0])), (h2, .inl (ax 1, 400, .inl (fun _ => 0))), (h3, .inl (ax 0, 401, .inl (upd (fun _ => 0) 0 0)))])) (va_A [(h1, .inr (9, [.ref h2, .ref h3, .int 0, .int 0, .int 0, .int 0, .int 1, .int 0])), (h2, .inl (ax 1, 400, .inl (fun _ => 0))), (h3, .inl (ax 0, 401, .inl (upd (fun _ => 0) 0 0)))] sz))) 0 0 (va_A [(h1, .inr (9, [.ref h2, .ref h3, .int 0, .int 0, .int 0, .int 0, .int 1, .int 0])), (h2, .inl (ax 1, 400, .inl (fun _ => 0))), (h3, .inl (ax 0, 401, .inl (upd (fun _ => 0) 0 0)))] sz) := by
  refine Met.ofW (cc := b_Tokens_need) (maxL := 2) (ret := none) (by decide) rfl ?_
  intro p e s m args below meth c s₁ B hml hv
  obtain ⟨rfl, hsz, hP, hK, hD0⟩ := hv
  have hx := B.exec
  have hb := B.bytes
  have hr := B.returns
  have hts := xw_hts B.pre
  have hown : s.vm.findClass R_Tokens = some m.cls := findClass_of_methodNamed B.named
  have hlocks := B.notSynchronized
  subst hsz
  have hD := hD0.self (sz := s.heap.size)
  have hN := xz_entry hP
  generalize hAe : va_A [(h1, .inr (9, [.ref h2, .ref h3, .int 0, .int 0, .int 0, .int 0, .int 1, .int 0])), (h2, .inl (ax 1, 400, .inl (fun _ => 0))), (h3, .inl (ax 0, 401, .inl (upd (fun _ => 0) 0 0)))] s.heap.size = A at hD hN ⊢
  have hA : ∀ q : Nat, s.heap.size ≤ q → A q := fun q h => by rw [← hAe]; exact Or.inr h
  have hS : va_S A s.heap s.heap [] := va_S.rf
  have hl0 := lv_entry ([.ref h1, .int 5]) (n := 2) (Nat.le_of_ble_eq_true rfl)
  rw [lg_entry_eq]
  generalize (lg_sl ([.ref h1, .int 5]) ++ List.replicate (2 - (lg_sl ([.ref h1, .int 5])).length) Slot.unset).toArray = ls at hl0 ⊢
  have hl1 : lv_has ls 2 [(0, .ref h1), (1, .int 5)] := hl0
  refine lv_aload_n hx hb d_Tokens_need_0 rfl (lv_at hl1 0 rfl) ?_
  refine va_get (D := D) (ci := 9) (v := .int 1) (C := R_Tokens) (T := F_Tokens) (N := 8) hx hb hts i_Tokens hown hK.1 hP 0 rfl rfl 6 (by decide) (hts _ wd_46) (fun _ h9 => h9) rfl d_Tokens_need_1 ?_
  refine lv_iload_n hx hb d_Tokens_need_4 rfl (lv_at hl1 1 rfl) ?_
  refine lv_icmp_ne (tgt := 15) hx hb d_Tokens_need_5 (by decide) (fun c_1 => ?_) (fun c_1 => ?_)
  rotate_left
  · first | exact absurd c_1 (by decide) | exact absurd (by decide) c_1
  refine lv_aload_n hx hb d_Tokens_need_15 rfl (lv_at hl1 0 rfl) ?_
  have hPc := hP.sub (ws' := [(h1, .inr (9, [.ref h2, .ref h3, .int 0, .int 0, .int 0, .int 0, .int 1, .int 0])), (h2, .inl (ax 1, 400, .inl (fun _ => 0))), (h3, .inl (ax 0, 401, .inl (upd (fun _ => 0) 0 0)))]) [0, 1, 2] rfl
  have hDc := hD.sub (ws' := [(h1, .inr (9, [.ref h2, .ref h3, .int 0, .int 0, .int 0, .int 0, .int 1, .int 0])), (h2, .inl (ax 1, 400, .inl (fun _ => 0))), (h3, .inl (ax 0, 401, .inl (upd (fun _ => 0) 0 0)))]) [0, 1, 2] (by decide) rfl
  have hFc := va_free (wc := [(h1, .inr (9, [.ref h2, .ref h3, .int 0, .int 0, .int 0, .int 0, .int 1, .int 0])), (h2, .inl (ax 1, 400, .inl (fun _ => 0))), (h3, .inl (ax 0, 401, .inl (upd (fun _ => 0) 0 0)))]) hD hS hA [0, 1, 2] rfl
  have hz := xz_of hN hS
  refine va_callv (va_runV (As := []) (rest := []) ⟨hx, hb, hml, hown, hts⟩ (c_Tokens_refuse_2 l D ax h1 h2 h3 s.heap.size) (xcV (n := 0) hts wd_559 wd_2 wd_572 wd_557 wd_558 rfl rfl (by decide +kernel) ⟨Nat.le_of_ble_eq_true rfl, Nat.le_of_ble_eq_true rfl⟩) (xpV (ci := 9) (q0 := 0) (As := []) hPc hK hz hDc rfl rfl) rfl rfl hl1.1 rfl (lv_room (Nat.le_of_ble_eq_true rfl)) d_Tokens_need_16 ⟨Nat.le_of_ble_eq_true rfl, Nat.le_of_ble_eq_true rfl⟩) hS (fun q _ h => hFc q h) hFc (fun u_2 t H_3 locs ht hvm hw hB hz1 hk1 hS => ?_)
  try dsimp only at hw
  obtain ⟨hP1, hD1⟩ := hB
  rw [ht] at hP1
  obtain ⟨hP, hD⟩ := va_join (wr := []) (w1 := [(h1, .inr (9, [.ref h2, .ref h3, .int 0, .int 0, .int 0, .int 0, .int 1, .int 0])), (h2, .inl (ax 1, 400, .inl (fun _ => 0))), (h3, .inl (ax 0, 401, .inl (upd (fun _ => 0) 0 0)))]) hP hD [0, 1, 2] [] rfl rfl (by decide) (by decide) hk1 hFc hP1 hD1
  have hP : va_P D classes [(h1, .inr (9, [.ref h2, .ref h3, .int 0, .int 0, .int 0, .int 0, .int 1, .int 0])), (h2, .inl (ax 1, 400, .inl (fun _ => 0))), (h3, .inl (ax 0, 401, .inl (upd (fun _ => 0) 0 0)))] H_3 := hP
  have hD : va_D A [(h1, .inr (9, [.ref h2, .ref h3, .int 0, .int 0, .int 0, .int 0, .int 1, .int 0])), (h2, .inl (ax 1, 400, .inl (fun _ => 0))), (h3, .inl (ax 0, 401, .inl (upd (fun _ => 0) 0 0)))] := hD
  have hP9 := hP.sub (ws' := (fun u : Nat → Nat => [(h1, .inr (9, [.ref h2, .ref h3, .int 0, .int 0, .int 0, .int 0, .int 1, .int 0])), (h2, .inl (ax 1, 400, .inl (fun _ => 0))), (h3, .inl (ax 0, 401, .inl (upd (fun _ => 0) 0 0)))]) (ixn [])) [0, 1, 2] rfl
  have hD9 := hD.sub (ws' := (fun u : Nat → Nat => [(h1, .inr (9, [.ref h2, .ref h3, .int 0, .int 0, .int 0, .int 0, .int 1, .int 0])), (h2, .inl (ax 1, 400, .inl (fun _ => 0))), (h3, .inl (ax 0, 401, .inl (upd (fun _ => 0) 0 0)))]) (ixn [])) [0, 1, 2] (by decide) rfl
  exact W.vret hx hb hr (fun t ht hW => ⟨⟨ixn [], rfl, trivial, ⟨by rw [ht]; exact hP9, hD9⟩⟩, hS.F ht⟩) hS.2.2 d_Tokens_need_19
abbrev b_Tokens_answer : ByteArray := prog_11_method_4_code
def y_Tokens_answer : MethodName := ⟨R_Tokens, "answer", "()I"⟩
theorem d_Tokens_answer_0 : decode b_Tokens_answer 0 = .ok (.aload_n 0, 1) := by decide +kernel
theorem d_Tokens_answer_1 : decode b_Tokens_answer 1 = .ok (.getfield 42, 3) := by decide +kernel
theorem d_Tokens_answer_4 : decode b_Tokens_answer 4 = .ok (.ifCond .eq 7, 3) := by decide +kernel
theorem d_Tokens_answer_7 : decode b_Tokens_answer 7 = .ok (.aload_n 0, 1) := by decide +kernel
theorem d_Tokens_answer_8 : decode b_Tokens_answer 8 = .ok (.invokevirtual 45, 3) := by decide +kernel
theorem d_Tokens_answer_11 : decode b_Tokens_answer 11 = .ok (.aload_n 0, 1) := by decide +kernel
theorem d_Tokens_answer_12 : decode b_Tokens_answer 12 = .ok (.getfield 19, 3) := by decide +kernel
theorem d_Tokens_answer_15 : decode b_Tokens_answer 15 = .ok (.iconst 1, 1) := by decide +kernel
theorem d_Tokens_answer_16 : decode b_Tokens_answer 16 = .ok (.iadd, 1) := by decide +kernel
theorem d_Tokens_answer_17 : decode b_Tokens_answer 17 = .ok (.ireturn, 1) := by decide +kernel
set_option maxHeartbeats 4000000 in
set_option maxRecDepth 100000 in
theorem c_Tokens_answer (l : Launch) (D : va_G) (ax : Nat → ClassId) (h1 h2 h3 : Nat) (sz : Nat) : Met l y_Tokens_answer (xws (.code y_Tokens_answer b_Tokens_answer 1 (some .int))) ({ frames := 20, cells := 0, slots := 0, locals := 800 }) (va_Pc [.ref h1] (xo D ax [(h1, .inr (9, [.ref h2, .ref h3, .int 0, .int 0, .int 0, .int 0, .int 1, .int 0])), (h2, .inl (ax 1, 400, .inl (fun _ => 0))), (h3, .inl (ax 0, 401, .inl (upd (fun _ => 0) 0 0)))] sz)) ((va_Qi (fun (r : Int32) (u : Nat → Nat) => r = 1) (xb D (va_A [(h1, .inr (9, [.ref h2, .ref h3, .int 0, .int 0, .int 0, .int 0, .int 1, .int 0])), (h2, .inl (ax 1, 400, .inl (fun _ => 0))), (h3, .inl (ax 0, 401, .inl (upd (fun _ => 0) 0 0)))] sz) (fun u => [(h1, .inr (9, [.ref h2, .ref h3, .int 0, .int 0, .int 0, .int 0, .int 1, .int 0])), (h2, .inl (ax 1, 400, .inl (fun _ => 0))), (h3, .inl (ax 0, 401, .inl (upd (fun _ => 0) 0 0)))])) (va_A [(h1, .inr (9, [.ref h2, .ref h3, .int 0, .int 0, .int 0, .int 0, .int 1, .int 0])), (h2, .inl (ax 1, 400, .inl (fun _ => 0))), (h3, .inl (ax 0, 401, .inl (upd (fun _ => 0) 0 0)))] sz))) 0 0 (va_A [(h1, .inr (9, [.ref h2, .ref h3, .int 0, .int 0, .int 0, .int 0, .int 1, .int 0])), (h2, .inl (ax 1, 400, .inl (fun _ => 0))), (h3, .inl (ax 0, 401, .inl (upd (fun _ => 0) 0 0)))] sz) := by
  refine Met.ofW (cc := b_Tokens_answer) (maxL := 1) (ret := (some .int)) (by decide) rfl ?_
  intro p e s m args below meth c s₁ B hml hv
  obtain ⟨rfl, hsz, hP, hK, hD0⟩ := hv
  have hx := B.exec
  have hb := B.bytes
  have hr := B.returns
  have hts := xw_hts B.pre
  have hown : s.vm.findClass R_Tokens = some m.cls := findClass_of_methodNamed B.named
  have hlocks := B.notSynchronized
  subst hsz
  have hD := hD0.self (sz := s.heap.size)
  have hN := xz_entry hP
  generalize hAe : va_A [(h1, .inr (9, [.ref h2, .ref h3, .int 0, .int 0, .int 0, .int 0, .int 1, .int 0])), (h2, .inl (ax 1, 400, .inl (fun _ => 0))), (h3, .inl (ax 0, 401, .inl (upd (fun _ => 0) 0 0)))] s.heap.size = A at hD hN ⊢
  have hA : ∀ q : Nat, s.heap.size ≤ q → A q := fun q h => by rw [← hAe]; exact Or.inr h
  have hS : va_S A s.heap s.heap [] := va_S.rf
  have hl0 := lv_entry ([.ref h1]) (n := 1) (Nat.le_of_ble_eq_true rfl)
  rw [lg_entry_eq]
  generalize (lg_sl ([.ref h1]) ++ List.replicate (1 - (lg_sl ([.ref h1])).length) Slot.unset).toArray = ls at hl0 ⊢
  have hl1 : lv_has ls 1 [(0, .ref h1)] := hl0
  refine lv_aload_n hx hb d_Tokens_answer_0 rfl (lv_at hl1 0 rfl) ?_
  refine va_get (D := D) (ci := 9) (v := .int 1) (C := R_Tokens) (T := F_Tokens) (N := 8) hx hb hts i_Tokens hown hK.1 hP 0 rfl rfl 6 (by decide) (hts _ wd_46) (fun _ h9 => h9) rfl d_Tokens_answer_1 ?_
  refine lv_if_eq (tgt := 11) hx hb d_Tokens_answer_4 (by decide) (fun c_1 => ?_) (fun c_1 => ?_)
  · first | exact absurd c_1 (by decide) | exact absurd (by decide) c_1
  refine lv_aload_n hx hb d_Tokens_answer_7 rfl (lv_at hl1 0 rfl) ?_
  have hPc := hP.sub (ws' := [(h1, .inr (9, [.ref h2, .ref h3, .int 0, .int 0, .int 0, .int 0, .int 1, .int 0])), (h2, .inl (ax 1, 400, .inl (fun _ => 0))), (h3, .inl (ax 0, 401, .inl (upd (fun _ => 0) 0 0)))]) [0, 1, 2] rfl
  have hDc := hD.sub (ws' := [(h1, .inr (9, [.ref h2, .ref h3, .int 0, .int 0, .int 0, .int 0, .int 1, .int 0])), (h2, .inl (ax 1, 400, .inl (fun _ => 0))), (h3, .inl (ax 0, 401, .inl (upd (fun _ => 0) 0 0)))]) [0, 1, 2] (by decide) rfl
  have hFc := va_free (wc := [(h1, .inr (9, [.ref h2, .ref h3, .int 0, .int 0, .int 0, .int 0, .int 1, .int 0])), (h2, .inl (ax 1, 400, .inl (fun _ => 0))), (h3, .inl (ax 0, 401, .inl (upd (fun _ => 0) 0 0)))]) hD hS hA [0, 1, 2] rfl
  have hz := xz_of hN hS
  refine va_callv (va_runV (As := []) (rest := []) ⟨hx, hb, hml, hown, hts⟩ (c_Tokens_refuse_2 l D ax h1 h2 h3 s.heap.size) (xcV (n := 0) hts wd_559 wd_2 wd_572 wd_557 wd_558 rfl rfl (by decide +kernel) ⟨Nat.le_of_ble_eq_true rfl, Nat.le_of_ble_eq_true rfl⟩) (xpV (ci := 9) (q0 := 0) (As := []) hPc hK hz hDc rfl rfl) rfl rfl hl1.1 rfl (lv_room (Nat.le_of_ble_eq_true rfl)) d_Tokens_answer_8 ⟨Nat.le_of_ble_eq_true rfl, Nat.le_of_ble_eq_true rfl⟩) hS (fun q _ h => hFc q h) hFc (fun u_2 t H_3 locs ht hvm hw hB hz1 hk1 hS => ?_)
  try dsimp only at hw
  obtain ⟨hP1, hD1⟩ := hB
  rw [ht] at hP1
  obtain ⟨hP, hD⟩ := va_join (wr := []) (w1 := [(h1, .inr (9, [.ref h2, .ref h3, .int 0, .int 0, .int 0, .int 0, .int 1, .int 0])), (h2, .inl (ax 1, 400, .inl (fun _ => 0))), (h3, .inl (ax 0, 401, .inl (upd (fun _ => 0) 0 0)))]) hP hD [0, 1, 2] [] rfl rfl (by decide) (by decide) hk1 hFc hP1 hD1
  have hP : va_P D classes [(h1, .inr (9, [.ref h2, .ref h3, .int 0, .int 0, .int 0, .int 0, .int 1, .int 0])), (h2, .inl (ax 1, 400, .inl (fun _ => 0))), (h3, .inl (ax 0, 401, .inl (upd (fun _ => 0) 0 0)))] H_3 := hP
  have hD : va_D A [(h1, .inr (9, [.ref h2, .ref h3, .int 0, .int 0, .int 0, .int 0, .int 1, .int 0])), (h2, .inl (ax 1, 400, .inl (fun _ => 0))), (h3, .inl (ax 0, 401, .inl (upd (fun _ => 0) 0 0)))] := hD
  refine lv_aload_n hx hb d_Tokens_answer_11 rfl (lv_at hl1 0 rfl) ?_
  refine va_get (D := D) (ci := 9) (v := .int 0) (C := R_Tokens) (T := F_Tokens) (N := 8) hx hb hts i_Tokens hown hK.1 hP 0 rfl rfl 5 (by decide) (hts _ wd_45) (fun _ h9 => h9) rfl d_Tokens_answer_12 ?_
  refine lv_iconst (v := 1) hx hb d_Tokens_answer_15 (by decide) ?_
  refine lv_iadd hx hb d_Tokens_answer_16 ?_
  refine lv_topi (fun z_5 ez_5 => ?_)
  have ez_5 : z_5 = 1 := ez_5.trans (by first | rfl | decide)
  subst ez_5
  have hP9 := hP.sub (ws' := (fun u : Nat → Nat => [(h1, .inr (9, [.ref h2, .ref h3, .int 0, .int 0, .int 0, .int 0, .int 1, .int 0])), (h2, .inl (ax 1, 400, .inl (fun _ => 0))), (h3, .inl (ax 0, 401, .inl (upd (fun _ => 0) 0 0)))]) (ixn [])) [0, 1, 2] rfl
  have hD9 := hD.sub (ws' := (fun u : Nat → Nat => [(h1, .inr (9, [.ref h2, .ref h3, .int 0, .int 0, .int 0, .int 0, .int 1, .int 0])), (h2, .inl (ax 1, 400, .inl (fun _ => 0))), (h3, .inl (ax 0, 401, .inl (upd (fun _ => 0) 0 0)))]) (ixn [])) [0, 1, 2] (by decide) rfl
  exact W.iret (v := 1) hx hb hr (fun t ht hW => ⟨⟨1, ixn [], rfl, rfl, ⟨by rw [ht]; exact hP9, hD9⟩⟩, hS.F ht⟩) hS.2.2 d_Tokens_answer_17
abbrev b_Tokens_takeTape : ByteArray := prog_11_method_3_code
def y_Tokens_takeTape : MethodName := ⟨R_Tokens, "takeTape", "()V"⟩
theorem d_Tokens_takeTape_0 : decode b_Tokens_takeTape 0 = .ok (.iconst 0, 1) := by decide +kernel
theorem d_Tokens_takeTape_1 : decode b_Tokens_takeTape 1 = .ok (.istore_n 1, 1) := by decide +kernel
theorem d_Tokens_takeTape_2 : decode b_Tokens_takeTape 2 = .ok (.aload_n 0, 1) := by decide +kernel
theorem d_Tokens_takeTape_3 : decode b_Tokens_takeTape 3 = .ok (.iconst 0, 1) := by decide +kernel
theorem d_Tokens_takeTape_4 : decode b_Tokens_takeTape 4 = .ok (.putfield 26, 3) := by decide +kernel
theorem d_Tokens_takeTape_7 : decode b_Tokens_takeTape 7 = .ok (.iconst 0, 1) := by decide +kernel
theorem d_Tokens_takeTape_8 : decode b_Tokens_takeTape 8 = .ok (.istore_n 2, 1) := by decide +kernel
theorem d_Tokens_takeTape_9 : decode b_Tokens_takeTape 9 = .ok (.iload_n 2, 1) := by decide +kernel
theorem d_Tokens_takeTape_10 : decode b_Tokens_takeTape 10 = .ok (.sipush 400, 3) := by decide +kernel
theorem d_Tokens_takeTape_13 : decode b_Tokens_takeTape 13 = .ok (.if_icmp .ge 77, 3) := by decide +kernel
theorem d_Tokens_takeTape_16 : decode b_Tokens_takeTape 16 = .ok (.aload_n 0, 1) := by decide +kernel
theorem d_Tokens_takeTape_17 : decode b_Tokens_takeTape 17 = .ok (.getfield 26, 3) := by decide +kernel
theorem d_Tokens_takeTape_20 : decode b_Tokens_takeTape 20 = .ok (.aload_n 0, 1) := by decide +kernel
theorem d_Tokens_takeTape_21 : decode b_Tokens_takeTape 21 = .ok (.getfield 23, 3) := by decide +kernel
theorem d_Tokens_takeTape_24 : decode b_Tokens_takeTape 24 = .ok (.if_icmp .ge 66, 3) := by decide +kernel
theorem d_Tokens_takeTape_90 : decode b_Tokens_takeTape 90 = .ok (.aload_n 0, 1) := by decide +kernel
theorem d_Tokens_takeTape_91 : decode b_Tokens_takeTape 91 = .ok (.getfield 15, 3) := by decide +kernel
theorem d_Tokens_takeTape_94 : decode b_Tokens_takeTape 94 = .ok (.iload_n 1, 1) := by decide +kernel
theorem d_Tokens_takeTape_95 : decode b_Tokens_takeTape 95 = .ok (.aload_n 0, 1) := by decide +kernel
theorem d_Tokens_takeTape_96 : decode b_Tokens_takeTape 96 = .ok (.getfield 23, 3) := by decide +kernel
theorem d_Tokens_takeTape_99 : decode b_Tokens_takeTape 99 = .ok (.bipush 17, 2) := by decide +kernel
theorem d_Tokens_takeTape_101 : decode b_Tokens_takeTape 101 = .ok (.ishl, 1) := by decide +kernel
theorem d_Tokens_takeTape_102 : decode b_Tokens_takeTape 102 = .ok (.iconst 0, 1) := by decide +kernel
theorem d_Tokens_takeTape_103 : decode b_Tokens_takeTape 103 = .ok (.ior, 1) := by decide +kernel
theorem d_Tokens_takeTape_104 : decode b_Tokens_takeTape 104 = .ok (.iastore, 1) := by decide +kernel
theorem d_Tokens_takeTape_105 : decode b_Tokens_takeTape 105 = .ok (.aload_n 0, 1) := by decide +kernel
theorem d_Tokens_takeTape_106 : decode b_Tokens_takeTape 106 = .ok (.iconst 0, 1) := by decide +kernel
theorem d_Tokens_takeTape_107 : decode b_Tokens_takeTape 107 = .ok (.putfield 23, 3) := by decide +kernel
theorem d_Tokens_takeTape_110 : decode b_Tokens_takeTape 110 = .ok (.aload_n 0, 1) := by decide +kernel
theorem d_Tokens_takeTape_111 : decode b_Tokens_takeTape 111 = .ok (.iconst (-1), 1) := by decide +kernel
theorem d_Tokens_takeTape_112 : decode b_Tokens_takeTape 112 = .ok (.putfield 19, 3) := by decide +kernel
theorem d_Tokens_takeTape_115 : decode b_Tokens_takeTape 115 = .ok (.aload_n 0, 1) := by decide +kernel
theorem d_Tokens_takeTape_116 : decode b_Tokens_takeTape 116 = .ok (.iconst (-1), 1) := by decide +kernel
theorem d_Tokens_takeTape_117 : decode b_Tokens_takeTape 117 = .ok (.putfield 36, 3) := by decide +kernel
theorem d_Tokens_takeTape_120 : decode b_Tokens_takeTape 120 = .ok (.aload_n 0, 1) := by decide +kernel
theorem d_Tokens_takeTape_121 : decode b_Tokens_takeTape 121 = .ok (.invokevirtual 39, 3) := by decide +kernel
theorem d_Tokens_takeTape_124 : decode b_Tokens_takeTape 124 = .ok (.return_, 1) := by decide +kernel
set_option maxHeartbeats 4000000 in
set_option maxRecDepth 100000 in
theorem c_Tokens_takeTape (l : Launch) (D : va_G) (ax : Nat → ClassId) (h1 h2 h3 : Nat) (sz : Nat) : Met l y_Tokens_takeTape (xws (.code y_Tokens_takeTape b_Tokens_takeTape 5 none)) ({ frames := 20, cells := 0, slots := 0, locals := 800 }) (va_Pc [.ref h1] (xo D ax [(h1, .inr (9, [.ref h2, .ref h3, .int 0, .int 0, .int 0, .int (-1), .int 0, .int 0])), (h2, .inl (ax 1, 400, .inl (fun _ => 0))), (h3, .inl (ax 0, 401, .inl (fun _ => 0)))] sz)) ((va_Qv (fun (u : Nat → Nat) => True) (xb D (va_A [(h1, .inr (9, [.ref h2, .ref h3, .int 0, .int 0, .int 0, .int (-1), .int 0, .int 0])), (h2, .inl (ax 1, 400, .inl (fun _ => 0))), (h3, .inl (ax 0, 401, .inl (fun _ => 0)))] sz) (fun u => [(h1, .inr (9, [.ref h2, .ref h3, .int 0, .int 0, .int 0, .int (-1), .int 0, .int 0])), (h2, .inl (ax 1, 400, .inl (fun _ => 0))), (h3, .inl (ax 0, 401, .inl (upd (fun _ => 0) 0 0)))])) (va_A [(h1, .inr (9, [.ref h2, .ref h3, .int 0, .int 0, .int 0, .int (-1), .int 0, .int 0])), (h2, .inl (ax 1, 400, .inl (fun _ => 0))), (h3, .inl (ax 0, 401, .inl (fun _ => 0)))] sz))) 0 0 (va_A [(h1, .inr (9, [.ref h2, .ref h3, .int 0, .int 0, .int 0, .int (-1), .int 0, .int 0])), (h2, .inl (ax 1, 400, .inl (fun _ => 0))), (h3, .inl (ax 0, 401, .inl (fun _ => 0)))] sz) := by
  refine Met.ofW (cc := b_Tokens_takeTape) (maxL := 5) (ret := none) (by decide) rfl ?_
  intro p e s m args below meth c s₁ B hml hv
  obtain ⟨rfl, hsz, hP, hK, hD0⟩ := hv
  have hx := B.exec
  have hb := B.bytes
  have hr := B.returns
  have hts := xw_hts B.pre
  have hown : s.vm.findClass R_Tokens = some m.cls := findClass_of_methodNamed B.named
  have hlocks := B.notSynchronized
  subst hsz
  have hD := hD0.self (sz := s.heap.size)
  have hN := xz_entry hP
  generalize hAe : va_A [(h1, .inr (9, [.ref h2, .ref h3, .int 0, .int 0, .int 0, .int (-1), .int 0, .int 0])), (h2, .inl (ax 1, 400, .inl (fun _ => 0))), (h3, .inl (ax 0, 401, .inl (fun _ => 0)))] s.heap.size = A at hD hN ⊢
  have hA : ∀ q : Nat, s.heap.size ≤ q → A q := fun q h => by rw [← hAe]; exact Or.inr h
  have hS : va_S A s.heap s.heap [] := va_S.rf
  have hl0 := lv_entry ([.ref h1]) (n := 5) (Nat.le_of_ble_eq_true rfl)
  rw [lg_entry_eq]
  generalize (lg_sl ([.ref h1]) ++ List.replicate (5 - (lg_sl ([.ref h1])).length) Slot.unset).toArray = ls at hl0 ⊢
  have hl1 : lv_has ls 5 [(0, .ref h1)] := hl0
  refine lv_iconst (v := 0) hx hb d_Tokens_takeTape_0 (by decide) ?_
  refine lv_istore_n (lv' := [(1, .int 0), (0, .ref h1)]) hx hb d_Tokens_takeTape_1 rfl hl1 (by decide) rfl (fun ls hl1 => ?_)
  refine lv_aload_n hx hb d_Tokens_takeTape_2 rfl (lv_at hl1 1 rfl) ?_
  refine lv_iconst (v := 0) hx hb d_Tokens_takeTape_3 (by decide) ?_
  refine va_put (D := D) (ci := 9) (v := .int 0) (ty := .int) (C := R_Tokens) (T := F_Tokens) (N := 8) hx hb hts i_Tokens t_Tokens t_Tokens_ok n_Tokens hown hK.1 hP hD hS 0 rfl rfl 3 (by decide) (hts _ wd_43) (fun _ h9 => h9) rfl (by decide +kernel) rfl rfl (Nat.le_of_ble_eq_true rfl) d_Tokens_takeTape_4 (fun H_1 locs hP hD hS => ?_)
  have hP : va_P D classes [(h1, .inr (9, [.ref h2, .ref h3, .int 0, .int 0, .int 0, .int (-1), .int 0, .int 0])), (h2, .inl (ax 1, 400, .inl (fun _ => 0))), (h3, .inl (ax 0, 401, .inl (fun _ => 0)))] H_1 := hP
  have hD : va_D A [(h1, .inr (9, [.ref h2, .ref h3, .int 0, .int 0, .int 0, .int (-1), .int 0, .int 0])), (h2, .inl (ax 1, 400, .inl (fun _ => 0))), (h3, .inl (ax 0, 401, .inl (fun _ => 0)))] := hD
  refine lv_iconst (v := 0) hx hb d_Tokens_takeTape_7 (by decide) ?_
  refine lv_istore_n (lv' := [(2, .int 0), (1, .int 0), (0, .ref h1)]) hx hb d_Tokens_takeTape_8 rfl hl1 (by decide) rfl (fun ls hl1 => ?_)
  refine lv_iload_n hx hb d_Tokens_takeTape_9 rfl (lv_at hl1 0 rfl) ?_
  refine lv_sipush (v := 400) hx hb d_Tokens_takeTape_10 (by decide) ?_
  refine lv_icmp_ge (tgt := 90) hx hb d_Tokens_takeTape_13 (by decide) (fun c_2 => ?_) (fun c_2 => ?_)
  · first | exact absurd c_2 (by decide) | exact absurd (by decide) c_2
  refine lv_aload_n hx hb d_Tokens_takeTape_16 rfl (lv_at hl1 2 rfl) ?_
  refine va_get (D := D) (ci := 9) (v := .int 0) (C := R_Tokens) (T := F_Tokens) (N := 8) hx hb hts i_Tokens hown hK.1 hP 0 rfl rfl 3 (by decide) (hts _ wd_43) (fun _ h9 => h9) rfl d_Tokens_takeTape_17 ?_
  refine lv_aload_n hx hb d_Tokens_takeTape_20 rfl (lv_at hl1 2 rfl) ?_
  refine va_get (D := D) (ci := 9) (v := .int 0) (C := R_Tokens) (T := F_Tokens) (N := 8) hx hb hts i_Tokens hown hK.1 hP 0 rfl rfl 2 (by decide) (hts _ wd_42) (fun _ h9 => h9) rfl d_Tokens_takeTape_21 ?_
  refine lv_icmp_ge (tgt := 90) hx hb d_Tokens_takeTape_24 (by decide) (fun c_3 => ?_) (fun c_3 => ?_)
  rotate_left
  · first | exact absurd c_3 (by decide) | exact absurd (by decide) c_3
  refine lv_aload_n hx hb d_Tokens_takeTape_90 rfl (lv_at hl1 2 rfl) ?_
  refine va_get (D := D) (ci := 9) (v := .ref h3) (C := R_Tokens) (T := F_Tokens) (N := 8) hx hb hts i_Tokens hown hK.1 hP 0 rfl rfl 1 (by decide) (hts _ wd_41) (fun _ h9 => h9) rfl d_Tokens_takeTape_91 ?_
  refine lv_iload_n hx hb d_Tokens_takeTape_94 rfl (lv_at hl1 1 rfl) ?_
  refine lv_aload_n hx hb d_Tokens_takeTape_95 rfl (lv_at hl1 2 rfl) ?_
  refine va_get (D := D) (ci := 9) (v := .int 0) (C := R_Tokens) (T := F_Tokens) (N := 8) hx hb hts i_Tokens hown hK.1 hP 0 rfl rfl 2 (by decide) (hts _ wd_42) (fun _ h9 => h9) rfl d_Tokens_takeTape_96 ?_
  refine lv_bipush (v := 17) hx hb d_Tokens_takeTape_99 (by decide) ?_
  refine lv_ishl hx hb d_Tokens_takeTape_101 ?_
  refine lv_topi (fun z_4 ez_4 => ?_)
  have ez_4 : z_4 = 0 := ez_4.trans (by first | rfl | decide)
  subst ez_4
  refine lv_iconst (v := 0) hx hb d_Tokens_takeTape_102 (by decide) ?_
  refine lv_ior hx hb d_Tokens_takeTape_103 ?_
  refine lv_topi (fun z_5 ez_5 => ?_)
  have ez_5 : z_5 = 0 := ez_5.trans (by first | rfl | decide)
  subst ez_5
  refine va_iast hx hb hK.1 hP hD hS 2 0 rfl rfl (by unfold vp_in; decide) d_Tokens_takeTape_104 (fun H_6 locs hP hD hS => ?_)
  have hP : va_P D classes [(h1, .inr (9, [.ref h2, .ref h3, .int 0, .int 0, .int 0, .int (-1), .int 0, .int 0])), (h2, .inl (ax 1, 400, .inl (fun _ => 0))), (h3, .inl (ax 0, 401, .inl (upd (fun _ => 0) 0 0)))] H_6 := hP
  have hD : va_D A [(h1, .inr (9, [.ref h2, .ref h3, .int 0, .int 0, .int 0, .int (-1), .int 0, .int 0])), (h2, .inl (ax 1, 400, .inl (fun _ => 0))), (h3, .inl (ax 0, 401, .inl (upd (fun _ => 0) 0 0)))] := hD
  refine lv_aload_n hx hb d_Tokens_takeTape_105 rfl (lv_at hl1 2 rfl) ?_
  refine lv_iconst (v := 0) hx hb d_Tokens_takeTape_106 (by decide) ?_
  refine va_put (D := D) (ci := 9) (v := .int 0) (ty := .int) (C := R_Tokens) (T := F_Tokens) (N := 8) hx hb hts i_Tokens t_Tokens t_Tokens_ok n_Tokens hown hK.1 hP hD hS 0 rfl rfl 2 (by decide) (hts _ wd_42) (fun _ h9 => h9) rfl (by decide +kernel) rfl rfl (Nat.le_of_ble_eq_true rfl) d_Tokens_takeTape_107 (fun H_7 locs hP hD hS => ?_)
  have hP : va_P D classes [(h1, .inr (9, [.ref h2, .ref h3, .int 0, .int 0, .int 0, .int (-1), .int 0, .int 0])), (h2, .inl (ax 1, 400, .inl (fun _ => 0))), (h3, .inl (ax 0, 401, .inl (upd (fun _ => 0) 0 0)))] H_7 := hP
  have hD : va_D A [(h1, .inr (9, [.ref h2, .ref h3, .int 0, .int 0, .int 0, .int (-1), .int 0, .int 0])), (h2, .inl (ax 1, 400, .inl (fun _ => 0))), (h3, .inl (ax 0, 401, .inl (upd (fun _ => 0) 0 0)))] := hD
  refine lv_aload_n hx hb d_Tokens_takeTape_110 rfl (lv_at hl1 2 rfl) ?_
  refine lv_iconst (v := (-1)) hx hb d_Tokens_takeTape_111 (by decide) ?_
  refine va_put (D := D) (ci := 9) (v := .int (-1)) (ty := .int) (C := R_Tokens) (T := F_Tokens) (N := 8) hx hb hts i_Tokens t_Tokens t_Tokens_ok n_Tokens hown hK.1 hP hD hS 0 rfl rfl 5 (by decide) (hts _ wd_45) (fun _ h9 => h9) rfl (by decide +kernel) rfl rfl (Nat.le_of_ble_eq_true rfl) d_Tokens_takeTape_112 (fun H_8 locs hP hD hS => ?_)
  have hP : va_P D classes [(h1, .inr (9, [.ref h2, .ref h3, .int 0, .int 0, .int 0, .int (-1), .int 0, .int 0])), (h2, .inl (ax 1, 400, .inl (fun _ => 0))), (h3, .inl (ax 0, 401, .inl (upd (fun _ => 0) 0 0)))] H_8 := hP
  have hD : va_D A [(h1, .inr (9, [.ref h2, .ref h3, .int 0, .int 0, .int 0, .int (-1), .int 0, .int 0])), (h2, .inl (ax 1, 400, .inl (fun _ => 0))), (h3, .inl (ax 0, 401, .inl (upd (fun _ => 0) 0 0)))] := hD
  refine lv_aload_n hx hb d_Tokens_takeTape_115 rfl (lv_at hl1 2 rfl) ?_
  refine lv_iconst (v := (-1)) hx hb d_Tokens_takeTape_116 (by decide) ?_
  refine va_put (D := D) (ci := 9) (v := .int (-1)) (ty := .int) (C := R_Tokens) (T := F_Tokens) (N := 8) hx hb hts i_Tokens t_Tokens t_Tokens_ok n_Tokens hown hK.1 hP hD hS 0 rfl rfl 4 (by decide) (hts _ wd_44) (fun _ h9 => h9) rfl (by decide +kernel) rfl rfl (Nat.le_of_ble_eq_true rfl) d_Tokens_takeTape_117 (fun H_9 locs hP hD hS => ?_)
  have hP : va_P D classes [(h1, .inr (9, [.ref h2, .ref h3, .int 0, .int 0, .int (-1), .int (-1), .int 0, .int 0])), (h2, .inl (ax 1, 400, .inl (fun _ => 0))), (h3, .inl (ax 0, 401, .inl (upd (fun _ => 0) 0 0)))] H_9 := hP
  have hD : va_D A [(h1, .inr (9, [.ref h2, .ref h3, .int 0, .int 0, .int (-1), .int (-1), .int 0, .int 0])), (h2, .inl (ax 1, 400, .inl (fun _ => 0))), (h3, .inl (ax 0, 401, .inl (upd (fun _ => 0) 0 0)))] := hD
  refine lv_aload_n hx hb d_Tokens_takeTape_120 rfl (lv_at hl1 2 rfl) ?_
  have hPc := hP.sub (ws' := [(h1, .inr (9, [.ref h2, .ref h3, .int 0, .int 0, .int (-1), .int (-1), .int 0, .int 0])), (h2, .inl (ax 1, 400, .inl (fun _ => 0))), (h3, .inl (ax 0, 401, .inl (upd (fun _ => 0) 0 0)))]) [0, 1, 2] rfl
  have hDc := hD.sub (ws' := [(h1, .inr (9, [.ref h2, .ref h3, .int 0, .int 0, .int (-1), .int (-1), .int 0, .int 0])), (h2, .inl (ax 1, 400, .inl (fun _ => 0))), (h3, .inl (ax 0, 401, .inl (upd (fun _ => 0) 0 0)))]) [0, 1, 2] (by decide) rfl
  have hFc := va_free (wc := [(h1, .inr (9, [.ref h2, .ref h3, .int 0, .int 0, .int (-1), .int (-1), .int 0, .int 0])), (h2, .inl (ax 1, 400, .inl (fun _ => 0))), (h3, .inl (ax 0, 401, .inl (upd (fun _ => 0) 0 0)))]) hD hS hA [0, 1, 2] rfl
  have hz := xz_of hN hS
  refine va_callv (va_runV (As := []) (rest := []) ⟨hx, hb, hml, hown, hts⟩ (c_Tokens_pass_1 l D ax h1 h2 h3 H_9.size) (xcV (n := 0) hts wd_531 wd_2 wd_528 wd_529 wd_530 rfl rfl (by decide +kernel) ⟨Nat.le_of_ble_eq_true rfl, Nat.le_of_ble_eq_true rfl⟩) (xpV (ci := 9) (q0 := 0) (As := []) hPc hK hz hDc rfl rfl) rfl rfl hl1.1 rfl (lv_room (Nat.le_of_ble_eq_true rfl)) d_Tokens_takeTape_121 ⟨Nat.le_of_ble_eq_true rfl, Nat.le_of_ble_eq_true rfl⟩) hS (fun q _ h => hFc q h) hFc (fun u_10 t H_11 locs ht hvm hw hB hz1 hk1 hS => ?_)
  try dsimp only at hw
  obtain ⟨hP1, hD1⟩ := hB
  rw [ht] at hP1
  obtain ⟨hP, hD⟩ := va_join (wr := []) (w1 := [(h1, .inr (9, [.ref h2, .ref h3, .int 0, .int 0, .int 0, .int (-1), .int 0, .int 0])), (h2, .inl (ax 1, 400, .inl (fun _ => 0))), (h3, .inl (ax 0, 401, .inl (upd (fun _ => 0) 0 0)))]) hP hD [0, 1, 2] [] rfl rfl (by decide) (by decide) hk1 hFc hP1 hD1
  have hP : va_P D classes [(h1, .inr (9, [.ref h2, .ref h3, .int 0, .int 0, .int 0, .int (-1), .int 0, .int 0])), (h2, .inl (ax 1, 400, .inl (fun _ => 0))), (h3, .inl (ax 0, 401, .inl (upd (fun _ => 0) 0 0)))] H_11 := hP
  have hD : va_D A [(h1, .inr (9, [.ref h2, .ref h3, .int 0, .int 0, .int 0, .int (-1), .int 0, .int 0])), (h2, .inl (ax 1, 400, .inl (fun _ => 0))), (h3, .inl (ax 0, 401, .inl (upd (fun _ => 0) 0 0)))] := hD
  have hP9 := hP.sub (ws' := (fun u : Nat → Nat => [(h1, .inr (9, [.ref h2, .ref h3, .int 0, .int 0, .int 0, .int (-1), .int 0, .int 0])), (h2, .inl (ax 1, 400, .inl (fun _ => 0))), (h3, .inl (ax 0, 401, .inl (upd (fun _ => 0) 0 0)))]) (ixn [])) [0, 1, 2] rfl
  have hD9 := hD.sub (ws' := (fun u : Nat → Nat => [(h1, .inr (9, [.ref h2, .ref h3, .int 0, .int 0, .int 0, .int (-1), .int 0, .int 0])), (h2, .inl (ax 1, 400, .inl (fun _ => 0))), (h3, .inl (ax 0, 401, .inl (upd (fun _ => 0) 0 0)))]) (ixn [])) [0, 1, 2] (by decide) rfl
  exact W.vret hx hb hr (fun t ht hW => ⟨⟨ixn [], rfl, trivial, ⟨by rw [ht]; exact hP9, hD9⟩⟩, hS.F ht⟩) hS.2.2 d_Tokens_takeTape_124
abbrev b_Nodes_clear : ByteArray := prog_6_method_2_code
def y_Nodes_clear : MethodName := ⟨R_Nodes, "clear", "()V"⟩
theorem d_Nodes_clear_0 : decode b_Nodes_clear 0 = .ok (.aload_n 0, 1) := by decide +kernel
theorem d_Nodes_clear_1 : decode b_Nodes_clear 1 = .ok (.iconst 0, 1) := by decide +kernel
theorem d_Nodes_clear_2 : decode b_Nodes_clear 2 = .ok (.putfield 20, 3) := by decide +kernel
theorem d_Nodes_clear_5 : decode b_Nodes_clear 5 = .ok (.return_, 1) := by decide +kernel
set_option maxHeartbeats 4000000 in
set_option maxRecDepth 100000 in
theorem c_Nodes_clear (l : Launch) (D : va_G) (ax : Nat → ClassId) (h0 h1 h2 h3 : Nat) (sz : Nat) : Met l y_Nodes_clear (xws (.code y_Nodes_clear b_Nodes_clear 1 none)) ({ frames := 10, cells := 0, slots := 0, locals := 400 }) (va_Pc [.ref h0] (xo D ax [(h0, .inr (4, [.ref h1, .ref h2, .ref h3, .int 0]))] sz)) ((va_Qv (fun (u : Nat → Nat) => True) (xb D (va_A [(h0, .inr (4, [.ref h1, .ref h2, .ref h3, .int 0]))] sz) (fun u => [(h0, .inr (4, [.ref h1, .ref h2, .ref h3, .int 0]))])) (va_A [(h0, .inr (4, [.ref h1, .ref h2, .ref h3, .int 0]))] sz))) 0 0 (va_A [(h0, .inr (4, [.ref h1, .ref h2, .ref h3, .int 0]))] sz) := by
  refine Met.ofW (cc := b_Nodes_clear) (maxL := 1) (ret := none) (by decide) rfl ?_
  intro p e s m args below meth c s₁ B hml hv
  obtain ⟨rfl, hsz, hP, hK, hD0⟩ := hv
  have hx := B.exec
  have hb := B.bytes
  have hr := B.returns
  have hts := xw_hts B.pre
  have hown : s.vm.findClass R_Nodes = some m.cls := findClass_of_methodNamed B.named
  have hlocks := B.notSynchronized
  subst hsz
  have hD := hD0.self (sz := s.heap.size)
  have hN := xz_entry hP
  generalize hAe : va_A [(h0, .inr (4, [.ref h1, .ref h2, .ref h3, .int 0]))] s.heap.size = A at hD hN ⊢
  have hA : ∀ q : Nat, s.heap.size ≤ q → A q := fun q h => by rw [← hAe]; exact Or.inr h
  have hS : va_S A s.heap s.heap [] := va_S.rf
  have hl0 := lv_entry ([.ref h0]) (n := 1) (Nat.le_of_ble_eq_true rfl)
  rw [lg_entry_eq]
  generalize (lg_sl ([.ref h0]) ++ List.replicate (1 - (lg_sl ([.ref h0])).length) Slot.unset).toArray = ls at hl0 ⊢
  have hl1 : lv_has ls 1 [(0, .ref h0)] := hl0
  refine lv_aload_n hx hb d_Nodes_clear_0 rfl (lv_at hl1 0 rfl) ?_
  refine lv_iconst (v := 0) hx hb d_Nodes_clear_1 (by decide) ?_
  refine va_put (D := D) (ci := 4) (v := .int 0) (ty := .int) (C := R_Nodes) (T := F_Nodes) (N := 4) hx hb hts i_Nodes t_Nodes t_Nodes_ok n_Nodes hown hK.1 hP hD hS 0 rfl rfl 3 (by decide) (hts _ wd_118) (fun _ h9 => h9) rfl (by decide +kernel) rfl rfl (Nat.le_of_ble_eq_true rfl) d_Nodes_clear_2 (fun H_1 locs hP hD hS => ?_)
  have hP : va_P D classes [(h0, .inr (4, [.ref h1, .ref h2, .ref h3, .int 0]))] H_1 := hP
  have hD : va_D A [(h0, .inr (4, [.ref h1, .ref h2, .ref h3, .int 0]))] := hD
  have hP9 := hP.sub (ws' := (fun u : Nat → Nat => [(h0, .inr (4, [.ref h1, .ref h2, .ref h3, .int 0]))]) (ixn [])) [0] rfl
  have hD9 := hD.sub (ws' := (fun u : Nat → Nat => [(h0, .inr (4, [.ref h1, .ref h2, .ref h3, .int 0]))]) (ixn [])) [0] (by decide) rfl
  exact W.vret hx hb hr (fun t ht hW => ⟨⟨ixn [], rfl, trivial, ⟨by rw [ht]; exact hP9, hD9⟩⟩, hS.F ht⟩) hS.2.2 d_Nodes_clear_5
