theorem wd_1101 : ((Jvm.Cond.fieldLink "TripleDeskModel" (128 : Nat) "TripleDeskModel" "bound" "[I")) ∈ lw_gd := lw_gd_in (i := 1101) (by decide +kernel) rfl
theorem wd_1102 : ((Jvm.Cond.fieldLink "TripleDeskModel" (131 : Nat) "TripleDeskModel" "isBound" "[Z")) ∈ lw_gd := lw_gd_in (i := 1102) (by decide +kernel) rfl
theorem wd_1103 : ((Jvm.Cond.fieldLink "TripleDeskModel" (134 : Nat) "TripleDeskModel" "at" "[I")) ∈ lw_gd := lw_gd_in (i := 1103) (by decide +kernel) rfl
theorem wd_1104 : ((Jvm.Cond.fieldLink "TripleDeskModel" (402 : Nat) "TripleDeskModel" "isBroken" "Z")) ∈ lw_gd := lw_gd_in (i := 1104) (by decide +kernel) rfl
abbrev b_Model_negated : ByteArray := prog_13_method_64_code
def y_Model_negated : MethodName := ⟨R_Model, "negated", "(I)I"⟩
theorem d_Model_negated_0 : decode b_Model_negated 0 = .ok (.iload_n 0, 1) := by decide +kernel
theorem d_Model_negated_1 : decode b_Model_negated 1 = .ok (.ifCond .ne 7, 3) := by decide +kernel
theorem d_Model_negated_4 : decode b_Model_negated 4 = .ok (.iconst 4, 1) := by decide +kernel
theorem d_Model_negated_5 : decode b_Model_negated 5 = .ok (.goto 40, 3) := by decide +kernel
theorem d_Model_negated_8 : decode b_Model_negated 8 = .ok (.iload_n 0, 1) := by decide +kernel
theorem d_Model_negated_9 : decode b_Model_negated 9 = .ok (.iconst 4, 1) := by decide +kernel
theorem d_Model_negated_10 : decode b_Model_negated 10 = .ok (.if_icmp .ne 7, 3) := by decide +kernel
theorem d_Model_negated_13 : decode b_Model_negated 13 = .ok (.iconst 0, 1) := by decide +kernel
theorem d_Model_negated_14 : decode b_Model_negated 14 = .ok (.goto 31, 3) := by decide +kernel
theorem d_Model_negated_17 : decode b_Model_negated 17 = .ok (.iload_n 0, 1) := by decide +kernel
theorem d_Model_negated_18 : decode b_Model_negated 18 = .ok (.iconst 1, 1) := by decide +kernel
theorem d_Model_negated_19 : decode b_Model_negated 19 = .ok (.if_icmp .ne 7, 3) := by decide +kernel
theorem d_Model_negated_22 : decode b_Model_negated 22 = .ok (.iconst 5, 1) := by decide +kernel
theorem d_Model_negated_23 : decode b_Model_negated 23 = .ok (.goto 22, 3) := by decide +kernel
theorem d_Model_negated_26 : decode b_Model_negated 26 = .ok (.iload_n 0, 1) := by decide +kernel
theorem d_Model_negated_27 : decode b_Model_negated 27 = .ok (.iconst 5, 1) := by decide +kernel
theorem d_Model_negated_28 : decode b_Model_negated 28 = .ok (.if_icmp .ne 7, 3) := by decide +kernel
theorem d_Model_negated_31 : decode b_Model_negated 31 = .ok (.iconst 1, 1) := by decide +kernel
theorem d_Model_negated_32 : decode b_Model_negated 32 = .ok (.goto 13, 3) := by decide +kernel
theorem d_Model_negated_35 : decode b_Model_negated 35 = .ok (.iload_n 0, 1) := by decide +kernel
theorem d_Model_negated_36 : decode b_Model_negated 36 = .ok (.iconst 2, 1) := by decide +kernel
theorem d_Model_negated_37 : decode b_Model_negated 37 = .ok (.if_icmp .ne 7, 3) := by decide +kernel
theorem d_Model_negated_40 : decode b_Model_negated 40 = .ok (.iconst 3, 1) := by decide +kernel
theorem d_Model_negated_41 : decode b_Model_negated 41 = .ok (.goto 4, 3) := by decide +kernel
theorem d_Model_negated_44 : decode b_Model_negated 44 = .ok (.iconst 2, 1) := by decide +kernel
theorem d_Model_negated_45 : decode b_Model_negated 45 = .ok (.ireturn, 1) := by decide +kernel
set_option maxHeartbeats 40000000 in
set_option maxRecDepth 100000 in
theorem c_M_negated (l : Launch) (D : va_G) (ax : Nat → ClassId) (x1 : Int32) (sz : Nat) : Met l y_Model_negated (xws (.code y_Model_negated b_Model_negated 1 (some .int))) ({ frames := 10, cells := 0, slots := 0, locals := 400 }) (va_Pc [.int x1] (xo D ax [] sz)) ((va_Qi (fun (r : Int32) (u : Nat → Nat) => r = nI (u 0) ∧ (u 0 ≤ 5 ∧ nI (u 0) = if x1 = 0 then 4 else if x1 = 4 then 0 else if x1 = 1 then 5 else if x1 = 5 then 1 else if x1 = 2 then 3 else 2)) (xb D (va_A [] sz) (fun u => [])) (va_A [] sz))) 0 0 (va_A [] sz) := by
  refine Met.ofW (cc := b_Model_negated) (maxL := 1) (ret := (some .int)) (by decide) rfl ?_
  intro p e s m args below meth c s₁ B hml hv
  obtain ⟨rfl, hsz, hP, hK, hD0⟩ := hv
  have hx := B.exec
  have hb := B.bytes
  have hr := B.returns
  have hts := xw_hts B.pre
  have hown : s.vm.findClass R_Model = some m.cls := findClass_of_methodNamed B.named
  have hlocks := B.notSynchronized
  subst hsz
  have hD := hD0.self (sz := s.heap.size)
  have hN := xz_entry hP
  generalize hAe : va_A [] s.heap.size = A at hD hN ⊢
  have hA : ∀ q : Nat, s.heap.size ≤ q → A q := fun q h => by rw [← hAe]; exact Or.inr h
  have hS : va_S A s.heap s.heap [] := va_S.rf
  have hl0 := lv_entry ([.int x1]) (n := 1) (Nat.le_of_ble_eq_true rfl)
  rw [lg_entry_eq]
  generalize (lg_sl ([.int x1]) ++ List.replicate (1 - (lg_sl ([.int x1])).length) Slot.unset).toArray = ls at hl0 ⊢
  have hl1 : lv_has ls 1 [(0, .int x1)] := hl0
  refine xw_gen (fun Z9 hQe => ?_)
  refine lv_iload_n hx hb d_Model_negated_0 rfl (lv_at hl1 0 rfl) ?_
  refine lv_if_ne (tgt := 8) hx hb d_Model_negated_1 (by decide) (fun c_1 => ?_) (fun c_1 => ?_)
  · refine lv_iload_n hx hb d_Model_negated_8 rfl (lv_at hl1 0 rfl) ?_
    refine lv_iconst (v := 4) hx hb d_Model_negated_9 (by decide) ?_
    refine lv_icmp_ne (tgt := 17) hx hb d_Model_negated_10 (by decide) (fun c_2 => ?_) (fun c_2 => ?_)
    · refine lv_iload_n hx hb d_Model_negated_17 rfl (lv_at hl1 0 rfl) ?_
      refine lv_iconst (v := 1) hx hb d_Model_negated_18 (by decide) ?_
      refine lv_icmp_ne (tgt := 26) hx hb d_Model_negated_19 (by decide) (fun c_3 => ?_) (fun c_3 => ?_)
      · refine lv_iload_n hx hb d_Model_negated_26 rfl (lv_at hl1 0 rfl) ?_
        refine lv_iconst (v := 5) hx hb d_Model_negated_27 (by decide) ?_
        refine lv_icmp_ne (tgt := 35) hx hb d_Model_negated_28 (by decide) (fun c_4 => ?_) (fun c_4 => ?_)
        · refine lv_iload_n hx hb d_Model_negated_35 rfl (lv_at hl1 0 rfl) ?_
          refine lv_iconst (v := 2) hx hb d_Model_negated_36 (by decide) ?_
          refine lv_icmp_ne (tgt := 44) hx hb d_Model_negated_37 (by decide) (fun c_5 => ?_) (fun c_5 => ?_)
          · refine lv_iconst (v := 2) hx hb d_Model_negated_44 (by decide) ?_
            rw [← hQe]
            obtain ⟨hP9, hD9⟩ := xw_sub2 (wc := (fun u : Nat → Nat => []) (ixn [2])) hP hD [] (by decide) rfl
            have hsp0 : 2 ≤ 5 := (by first | assumption | omega)
            have hsp1 : nI (2) = if x1 = 0 then 4 else if x1 = 4 then 0 else if x1 = 1 then 5 else if x1 = 5 then 1 else if x1 = 2 then 3 else 2 := (by first | (rw [if_pos (by assumption)]; rfl) | (rw [if_neg (by assumption), if_pos (by assumption)]; rfl) | (rw [if_neg (by assumption), if_neg (by assumption), if_pos (by assumption)]; rfl) | (rw [if_neg (by assumption), if_neg (by assumption), if_neg (by assumption), if_pos (by assumption)]; rfl) | (rw [if_neg (by assumption), if_neg (by assumption), if_neg (by assumption), if_neg (by assumption), if_pos (by assumption)]; rfl) | (rw [if_neg (by assumption), if_neg (by assumption), if_neg (by assumption), if_neg (by assumption), if_neg (by assumption)]; rfl))
            exact W.iret (v := 2) hx hb hr (fun t ht hW => ⟨⟨2, ixn [2], rfl, ⟨rfl, ⟨hsp0, hsp1⟩⟩, ⟨by rw [ht]; exact hP9, hD9⟩⟩, hS.F ht⟩) hS.2.2 d_Model_negated_45
          · refine lv_iconst (v := 3) hx hb d_Model_negated_40 (by decide) ?_
            refine lv_goto (tgt := 45) hx hb d_Model_negated_41 (by decide) ?_
            rw [← hQe]
            obtain ⟨hP9, hD9⟩ := xw_sub2 (wc := (fun u : Nat → Nat => []) (ixn [3])) hP hD [] (by decide) rfl
            have hsp0 : 3 ≤ 5 := (by first | assumption | omega)
            have hsp1 : nI (3) = if x1 = 0 then 4 else if x1 = 4 then 0 else if x1 = 1 then 5 else if x1 = 5 then 1 else if x1 = 2 then 3 else 2 := (by first | (rw [if_pos (by assumption)]; rfl) | (rw [if_neg (by assumption), if_pos (by assumption)]; rfl) | (rw [if_neg (by assumption), if_neg (by assumption), if_pos (by assumption)]; rfl) | (rw [if_neg (by assumption), if_neg (by assumption), if_neg (by assumption), if_pos (by assumption)]; rfl) | (rw [if_neg (by assumption), if_neg (by assumption), if_neg (by assumption), if_neg (by assumption), if_pos (by assumption)]; rfl) | (rw [if_neg (by assumption), if_neg (by assumption), if_neg (by assumption), if_neg (by assumption), if_neg (by assumption)]; rfl))
            exact W.iret (v := 3) hx hb hr (fun t ht hW => ⟨⟨3, ixn [3], rfl, ⟨rfl, ⟨hsp0, hsp1⟩⟩, ⟨by rw [ht]; exact hP9, hD9⟩⟩, hS.F ht⟩) hS.2.2 d_Model_negated_45
        · refine lv_iconst (v := 1) hx hb d_Model_negated_31 (by decide) ?_
          refine lv_goto (tgt := 45) hx hb d_Model_negated_32 (by decide) ?_
          rw [← hQe]
          obtain ⟨hP9, hD9⟩ := xw_sub2 (wc := (fun u : Nat → Nat => []) (ixn [1])) hP hD [] (by decide) rfl
          have hsp0 : 1 ≤ 5 := (by first | assumption | omega)
          have hsp1 : nI (1) = if x1 = 0 then 4 else if x1 = 4 then 0 else if x1 = 1 then 5 else if x1 = 5 then 1 else if x1 = 2 then 3 else 2 := (by first | (rw [if_pos (by assumption)]; rfl) | (rw [if_neg (by assumption), if_pos (by assumption)]; rfl) | (rw [if_neg (by assumption), if_neg (by assumption), if_pos (by assumption)]; rfl) | (rw [if_neg (by assumption), if_neg (by assumption), if_neg (by assumption), if_pos (by assumption)]; rfl) | (rw [if_neg (by assumption), if_neg (by assumption), if_neg (by assumption), if_neg (by assumption), if_pos (by assumption)]; rfl) | (rw [if_neg (by assumption), if_neg (by assumption), if_neg (by assumption), if_neg (by assumption), if_neg (by assumption)]; rfl))
          exact W.iret (v := 1) hx hb hr (fun t ht hW => ⟨⟨1, ixn [1], rfl, ⟨rfl, ⟨hsp0, hsp1⟩⟩, ⟨by rw [ht]; exact hP9, hD9⟩⟩, hS.F ht⟩) hS.2.2 d_Model_negated_45
      · refine lv_iconst (v := 5) hx hb d_Model_negated_22 (by decide) ?_
        refine lv_goto (tgt := 45) hx hb d_Model_negated_23 (by decide) ?_
        rw [← hQe]
        obtain ⟨hP9, hD9⟩ := xw_sub2 (wc := (fun u : Nat → Nat => []) (ixn [5])) hP hD [] (by decide) rfl
        have hsp0 : 5 ≤ 5 := (by first | assumption | omega)
        have hsp1 : nI (5) = if x1 = 0 then 4 else if x1 = 4 then 0 else if x1 = 1 then 5 else if x1 = 5 then 1 else if x1 = 2 then 3 else 2 := (by first | (rw [if_pos (by assumption)]; rfl) | (rw [if_neg (by assumption), if_pos (by assumption)]; rfl) | (rw [if_neg (by assumption), if_neg (by assumption), if_pos (by assumption)]; rfl) | (rw [if_neg (by assumption), if_neg (by assumption), if_neg (by assumption), if_pos (by assumption)]; rfl) | (rw [if_neg (by assumption), if_neg (by assumption), if_neg (by assumption), if_neg (by assumption), if_pos (by assumption)]; rfl) | (rw [if_neg (by assumption), if_neg (by assumption), if_neg (by assumption), if_neg (by assumption), if_neg (by assumption)]; rfl))
        exact W.iret (v := 5) hx hb hr (fun t ht hW => ⟨⟨5, ixn [5], rfl, ⟨rfl, ⟨hsp0, hsp1⟩⟩, ⟨by rw [ht]; exact hP9, hD9⟩⟩, hS.F ht⟩) hS.2.2 d_Model_negated_45
    · refine lv_iconst (v := 0) hx hb d_Model_negated_13 (by decide) ?_
      refine lv_goto (tgt := 45) hx hb d_Model_negated_14 (by decide) ?_
      rw [← hQe]
      obtain ⟨hP9, hD9⟩ := xw_sub2 (wc := (fun u : Nat → Nat => []) (ixn [0])) hP hD [] (by decide) rfl
      have hsp0 : 0 ≤ 5 := (by first | assumption | omega)
      have hsp1 : nI (0) = if x1 = 0 then 4 else if x1 = 4 then 0 else if x1 = 1 then 5 else if x1 = 5 then 1 else if x1 = 2 then 3 else 2 := (by first | (rw [if_pos (by assumption)]; rfl) | (rw [if_neg (by assumption), if_pos (by assumption)]; rfl) | (rw [if_neg (by assumption), if_neg (by assumption), if_pos (by assumption)]; rfl) | (rw [if_neg (by assumption), if_neg (by assumption), if_neg (by assumption), if_pos (by assumption)]; rfl) | (rw [if_neg (by assumption), if_neg (by assumption), if_neg (by assumption), if_neg (by assumption), if_pos (by assumption)]; rfl) | (rw [if_neg (by assumption), if_neg (by assumption), if_neg (by assumption), if_neg (by assumption), if_neg (by assumption)]; rfl))
      exact W.iret (v := 0) hx hb hr (fun t ht hW => ⟨⟨0, ixn [0], rfl, ⟨rfl, ⟨hsp0, hsp1⟩⟩, ⟨by rw [ht]; exact hP9, hD9⟩⟩, hS.F ht⟩) hS.2.2 d_Model_negated_45
  · refine lv_iconst (v := 4) hx hb d_Model_negated_4 (by decide) ?_
    refine lv_goto (tgt := 45) hx hb d_Model_negated_5 (by decide) ?_
    rw [← hQe]
    obtain ⟨hP9, hD9⟩ := xw_sub2 (wc := (fun u : Nat → Nat => []) (ixn [4])) hP hD [] (by decide) rfl
    have hsp0 : 4 ≤ 5 := (by first | assumption | omega)
    have hsp1 : nI (4) = if x1 = 0 then 4 else if x1 = 4 then 0 else if x1 = 1 then 5 else if x1 = 5 then 1 else if x1 = 2 then 3 else 2 := (by first | (rw [if_pos (by assumption)]; rfl) | (rw [if_neg (by assumption), if_pos (by assumption)]; rfl) | (rw [if_neg (by assumption), if_neg (by assumption), if_pos (by assumption)]; rfl) | (rw [if_neg (by assumption), if_neg (by assumption), if_neg (by assumption), if_pos (by assumption)]; rfl) | (rw [if_neg (by assumption), if_neg (by assumption), if_neg (by assumption), if_neg (by assumption), if_pos (by assumption)]; rfl) | (rw [if_neg (by assumption), if_neg (by assumption), if_neg (by assumption), if_neg (by assumption), if_neg (by assumption)]; rfl))
    exact W.iret (v := 4) hx hb hr (fun t ht hW => ⟨⟨4, ixn [4], rfl, ⟨rfl, ⟨hsp0, hsp1⟩⟩, ⟨by rw [ht]; exact hP9, hD9⟩⟩, hS.F ht⟩) hS.2.2 d_Model_negated_45
abbrev b_Model_take : ByteArray := prog_13_method_63_code
def y_Model_take : MethodName := ⟨R_Model, "take", "(III)V"⟩
theorem d_Model_take_0 : decode b_Model_take 0 = .ok (.iload_n 1, 1) := by decide +kernel
theorem d_Model_take_1 : decode b_Model_take 1 = .ok (.iload_n 2, 1) := by decide +kernel
theorem d_Model_take_2 : decode b_Model_take 2 = .ok (.if_icmp .ne 24, 3) := by decide +kernel
theorem d_Model_take_5 : decode b_Model_take 5 = .ok (.aload_n 0, 1) := by decide +kernel
theorem d_Model_take_6 : decode b_Model_take 6 = .ok (.aload_n 0, 1) := by decide +kernel
theorem d_Model_take_7 : decode b_Model_take 7 = .ok (.getfield 402, 3) := by decide +kernel
theorem d_Model_take_10 : decode b_Model_take 10 = .ok (.ifCond .ne 7, 3) := by decide +kernel
theorem d_Model_take_13 : decode b_Model_take 13 = .ok (.iload_n 3, 1) := by decide +kernel
theorem d_Model_take_14 : decode b_Model_take 14 = .ok (.ifCond .ge 7, 3) := by decide +kernel
theorem d_Model_take_17 : decode b_Model_take 17 = .ok (.iconst 1, 1) := by decide +kernel
theorem d_Model_take_18 : decode b_Model_take 18 = .ok (.goto 4, 3) := by decide +kernel
theorem d_Model_take_21 : decode b_Model_take 21 = .ok (.iconst 0, 1) := by decide +kernel
theorem d_Model_take_22 : decode b_Model_take 22 = .ok (.putfield 402, 3) := by decide +kernel
theorem d_Model_take_25 : decode b_Model_take 25 = .ok (.return_, 1) := by decide +kernel
theorem d_Model_take_26 : decode b_Model_take 26 = .ok (.bipush 11, 2) := by decide +kernel
theorem d_Model_take_28 : decode b_Model_take 28 = .ok (.iload_n 1, 1) := by decide +kernel
theorem d_Model_take_29 : decode b_Model_take 29 = .ok (.imul, 1) := by decide +kernel
theorem d_Model_take_30 : decode b_Model_take 30 = .ok (.iload_n 2, 1) := by decide +kernel
theorem d_Model_take_31 : decode b_Model_take 31 = .ok (.iadd, 1) := by decide +kernel
theorem d_Model_take_32 : decode b_Model_take 32 = .ok (.istore 4, 2) := by decide +kernel
theorem d_Model_take_34 : decode b_Model_take 34 = .ok (.aload_n 0, 1) := by decide +kernel
theorem d_Model_take_35 : decode b_Model_take 35 = .ok (.getfield 128, 3) := by decide +kernel
theorem d_Model_take_38 : decode b_Model_take 38 = .ok (.iload 4, 2) := by decide +kernel
theorem d_Model_take_40 : decode b_Model_take 40 = .ok (.aload_n 0, 1) := by decide +kernel
theorem d_Model_take_41 : decode b_Model_take 41 = .ok (.getfield 131, 3) := by decide +kernel
theorem d_Model_take_44 : decode b_Model_take 44 = .ok (.iload 4, 2) := by decide +kernel
theorem d_Model_take_46 : decode b_Model_take 46 = .ok (.baload, 1) := by decide +kernel
theorem d_Model_take_47 : decode b_Model_take 47 = .ok (.ifCond .eq 24, 3) := by decide +kernel
theorem d_Model_take_50 : decode b_Model_take 50 = .ok (.aload_n 0, 1) := by decide +kernel
theorem d_Model_take_51 : decode b_Model_take 51 = .ok (.getfield 128, 3) := by decide +kernel
theorem d_Model_take_54 : decode b_Model_take 54 = .ok (.iload 4, 2) := by decide +kernel
theorem d_Model_take_56 : decode b_Model_take 56 = .ok (.iaload, 1) := by decide +kernel
theorem d_Model_take_57 : decode b_Model_take 57 = .ok (.iload_n 3, 1) := by decide +kernel
theorem d_Model_take_58 : decode b_Model_take 58 = .ok (.if_icmp .ge 13, 3) := by decide +kernel
theorem d_Model_take_61 : decode b_Model_take 61 = .ok (.aload_n 0, 1) := by decide +kernel
theorem d_Model_take_62 : decode b_Model_take 62 = .ok (.getfield 128, 3) := by decide +kernel
theorem d_Model_take_65 : decode b_Model_take 65 = .ok (.iload 4, 2) := by decide +kernel
theorem d_Model_take_67 : decode b_Model_take 67 = .ok (.iaload, 1) := by decide +kernel
theorem d_Model_take_68 : decode b_Model_take 68 = .ok (.goto 4, 3) := by decide +kernel
theorem d_Model_take_71 : decode b_Model_take 71 = .ok (.iload_n 3, 1) := by decide +kernel
theorem d_Model_take_72 : decode b_Model_take 72 = .ok (.iastore, 1) := by decide +kernel
theorem d_Model_take_73 : decode b_Model_take 73 = .ok (.aload_n 0, 1) := by decide +kernel
theorem d_Model_take_74 : decode b_Model_take 74 = .ok (.getfield 131, 3) := by decide +kernel
theorem d_Model_take_77 : decode b_Model_take 77 = .ok (.iload 4, 2) := by decide +kernel
theorem d_Model_take_79 : decode b_Model_take 79 = .ok (.iconst 1, 1) := by decide +kernel
theorem d_Model_take_80 : decode b_Model_take 80 = .ok (.bastore, 1) := by decide +kernel
theorem d_Model_take_81 : decode b_Model_take 81 = .ok (.return_, 1) := by decide +kernel
set_option maxHeartbeats 40000000 in
set_option maxRecDepth 100000 in
theorem c_M_take (l : Launch) (D : va_G) (ax : Nat → ClassId) (m0 m1 m2 m3 m4 m5 m6 m7 m8 m9 m10 m11 m12 m13 m14 m15 m16 m17 m18 m19 m20 m21 m22 m23 m24 m25 m26 m27 m28 m29 m30 m31 m32 m33 m34 m35 m36 m37 m38 m39 m40 m41 m42 : Nat) (s_thrown s_taped s_size s_outSize s_kind s_value s_begin s_end s_failed s_isProgram s_half s_signs s_stacked s_name s_shift s_statements s_ifs s_whiles s_variants s_open s_isMade s_conditions s_kept s_tops s_used s_looked s_rows s_firstRow s_atoms : Int32) (br x9 y9 : Nat) (x3 : Int32) (bd ib : Nat → Int32) (sz : Nat) (hx9 : x9 ≤ 10) (hy9 : y9 ≤ 10) (hbr : br ≤ 1) (hW8 : bdW8 bd ib) (hc8 : -50000 ≤ x3.toInt ∧ x3.toInt ≤ 50000) : Met l y_Model_take (xws (.code y_Model_take b_Model_take 5 none)) ({ frames := 10, cells := 0, slots := 0, locals := 400 }) (va_Pc [.ref m0, .int (nI x9), .int (nI y9), .int x3] (xo D ax [(m0, .inr (11, [.int s_thrown, .int s_taped, .ref m1, .int s_size, .int s_outSize, .ref m2, .int s_kind, .int s_value, .int s_begin, .int s_end, .int s_failed, .ref m3, .ref m4, .ref m5, .int s_isProgram, .int s_half, .ref m6, .ref m7, .ref m8, .ref m9, .ref m10, .ref m11, .ref m12, .ref m13, .ref m14, .ref m15, .ref m16, .ref m17, .ref m18, .ref m19, .ref m20, .int s_signs, .ref m21, .int s_stacked, .ref m22, .int s_name, .int s_shift, .int s_statements, .int s_ifs, .int s_whiles, .int s_variants, .int s_open, .ref m23, .int s_isMade, .int s_conditions, .ref m24, .ref m25, .ref m26, .ref m27, .int s_kept, .ref m28, .int s_tops, .ref m29, .int s_used, .ref m30, .ref m31, .int s_looked, .int s_rows, .int s_firstRow, .ref m32, .ref m33, .ref m34, .ref m35, .ref m36, .ref m37, .ref m38, .ref m39, .ref m40, .int (nI br), .ref m41, .int s_atoms, .ref m42])), (m38, .inl (ax 0, 121, .inl bd)), (m39, .inl (ax 3, 121, .inl ib))] sz)) ((va_Qv (fun (u : Nat → Nat) => (u 0 ≤ 1)) (fun (u : Nat → Nat) (t9 : State) => ∃ xbd : Nat → Int32, ∃ xib : Nat → Int32, (tA8 br bd ib (fun v => v x9 ≤ v y9 + x3.toInt) (u 0) xbd xib) ∧ va_P D classes [(m0, .inr (11, [.int s_thrown, .int s_taped, .ref m1, .int s_size, .int s_outSize, .ref m2, .int s_kind, .int s_value, .int s_begin, .int s_end, .int s_failed, .ref m3, .ref m4, .ref m5, .int s_isProgram, .int s_half, .ref m6, .ref m7, .ref m8, .ref m9, .ref m10, .ref m11, .ref m12, .ref m13, .ref m14, .ref m15, .ref m16, .ref m17, .ref m18, .ref m19, .ref m20, .int s_signs, .ref m21, .int s_stacked, .ref m22, .int s_name, .int s_shift, .int s_statements, .int s_ifs, .int s_whiles, .int s_variants, .int s_open, .ref m23, .int s_isMade, .int s_conditions, .ref m24, .ref m25, .ref m26, .ref m27, .int s_kept, .ref m28, .int s_tops, .ref m29, .int s_used, .ref m30, .ref m31, .int s_looked, .int s_rows, .int s_firstRow, .ref m32, .ref m33, .ref m34, .ref m35, .ref m36, .ref m37, .ref m38, .ref m39, .ref m40, .int (nI (u 0)), .ref m41, .int s_atoms, .ref m42])), (m38, .inl (ax 0, 121, .inl xbd)), (m39, .inl (ax 3, 121, .inl xib))] t9.heap ∧ va_D (va_A [(m0, .inr (11, [.int s_thrown, .int s_taped, .ref m1, .int s_size, .int s_outSize, .ref m2, .int s_kind, .int s_value, .int s_begin, .int s_end, .int s_failed, .ref m3, .ref m4, .ref m5, .int s_isProgram, .int s_half, .ref m6, .ref m7, .ref m8, .ref m9, .ref m10, .ref m11, .ref m12, .ref m13, .ref m14, .ref m15, .ref m16, .ref m17, .ref m18, .ref m19, .ref m20, .int s_signs, .ref m21, .int s_stacked, .ref m22, .int s_name, .int s_shift, .int s_statements, .int s_ifs, .int s_whiles, .int s_variants, .int s_open, .ref m23, .int s_isMade, .int s_conditions, .ref m24, .ref m25, .ref m26, .ref m27, .int s_kept, .ref m28, .int s_tops, .ref m29, .int s_used, .ref m30, .ref m31, .int s_looked, .int s_rows, .int s_firstRow, .ref m32, .ref m33, .ref m34, .ref m35, .ref m36, .ref m37, .ref m38, .ref m39, .ref m40, .int (nI br), .ref m41, .int s_atoms, .ref m42])), (m38, .inl (ax 0, 121, .inl bd)), (m39, .inl (ax 3, 121, .inl ib))] sz) [(m0, .inr (11, [.int s_thrown, .int s_taped, .ref m1, .int s_size, .int s_outSize, .ref m2, .int s_kind, .int s_value, .int s_begin, .int s_end, .int s_failed, .ref m3, .ref m4, .ref m5, .int s_isProgram, .int s_half, .ref m6, .ref m7, .ref m8, .ref m9, .ref m10, .ref m11, .ref m12, .ref m13, .ref m14, .ref m15, .ref m16, .ref m17, .ref m18, .ref m19, .ref m20, .int s_signs, .ref m21, .int s_stacked, .ref m22, .int s_name, .int s_shift, .int s_statements, .int s_ifs, .int s_whiles, .int s_variants, .int s_open, .ref m23, .int s_isMade, .int s_conditions, .ref m24, .ref m25, .ref m26, .ref m27, .int s_kept, .ref m28, .int s_tops, .ref m29, .int s_used, .ref m30, .ref m31, .int s_looked, .int s_rows, .int s_firstRow, .ref m32, .ref m33, .ref m34, .ref m35, .ref m36, .ref m37, .ref m38, .ref m39, .ref m40, .int (nI (u 0)), .ref m41, .int s_atoms, .ref m42])), (m38, .inl (ax 0, 121, .inl xbd)), (m39, .inl (ax 3, 121, .inl xib))]) (va_A [(m0, .inr (11, [.int s_thrown, .int s_taped, .ref m1, .int s_size, .int s_outSize, .ref m2, .int s_kind, .int s_value, .int s_begin, .int s_end, .int s_failed, .ref m3, .ref m4, .ref m5, .int s_isProgram, .int s_half, .ref m6, .ref m7, .ref m8, .ref m9, .ref m10, .ref m11, .ref m12, .ref m13, .ref m14, .ref m15, .ref m16, .ref m17, .ref m18, .ref m19, .ref m20, .int s_signs, .ref m21, .int s_stacked, .ref m22, .int s_name, .int s_shift, .int s_statements, .int s_ifs, .int s_whiles, .int s_variants, .int s_open, .ref m23, .int s_isMade, .int s_conditions, .ref m24, .ref m25, .ref m26, .ref m27, .int s_kept, .ref m28, .int s_tops, .ref m29, .int s_used, .ref m30, .ref m31, .int s_looked, .int s_rows, .int s_firstRow, .ref m32, .ref m33, .ref m34, .ref m35, .ref m36, .ref m37, .ref m38, .ref m39, .ref m40, .int (nI br), .ref m41, .int s_atoms, .ref m42])), (m38, .inl (ax 0, 121, .inl bd)), (m39, .inl (ax 3, 121, .inl ib))] sz))) 0 0 (va_A [(m0, .inr (11, [.int s_thrown, .int s_taped, .ref m1, .int s_size, .int s_outSize, .ref m2, .int s_kind, .int s_value, .int s_begin, .int s_end, .int s_failed, .ref m3, .ref m4, .ref m5, .int s_isProgram, .int s_half, .ref m6, .ref m7, .ref m8, .ref m9, .ref m10, .ref m11, .ref m12, .ref m13, .ref m14, .ref m15, .ref m16, .ref m17, .ref m18, .ref m19, .ref m20, .int s_signs, .ref m21, .int s_stacked, .ref m22, .int s_name, .int s_shift, .int s_statements, .int s_ifs, .int s_whiles, .int s_variants, .int s_open, .ref m23, .int s_isMade, .int s_conditions, .ref m24, .ref m25, .ref m26, .ref m27, .int s_kept, .ref m28, .int s_tops, .ref m29, .int s_used, .ref m30, .ref m31, .int s_looked, .int s_rows, .int s_firstRow, .ref m32, .ref m33, .ref m34, .ref m35, .ref m36, .ref m37, .ref m38, .ref m39, .ref m40, .int (nI br), .ref m41, .int s_atoms, .ref m42])), (m38, .inl (ax 0, 121, .inl bd)), (m39, .inl (ax 3, 121, .inl ib))] sz) := by
  refine Met.ofW (cc := b_Model_take) (maxL := 5) (ret := none) (by decide) rfl ?_
  intro p e s m args below meth c s₁ B hml hv
  obtain ⟨rfl, hsz, hP, hK, hD0⟩ := hv
  have hx := B.exec
  have hb := B.bytes
  have hr := B.returns
  have hts := xw_hts B.pre
  have hown : s.vm.findClass R_Model = some m.cls := findClass_of_methodNamed B.named
  have hlocks := B.notSynchronized
  subst hsz
  have hD := hD0.self (sz := s.heap.size)
  have hN := xz_entry hP
  generalize hAe : va_A [(m0, .inr (11, [.int s_thrown, .int s_taped, .ref m1, .int s_size, .int s_outSize, .ref m2, .int s_kind, .int s_value, .int s_begin, .int s_end, .int s_failed, .ref m3, .ref m4, .ref m5, .int s_isProgram, .int s_half, .ref m6, .ref m7, .ref m8, .ref m9, .ref m10, .ref m11, .ref m12, .ref m13, .ref m14, .ref m15, .ref m16, .ref m17, .ref m18, .ref m19, .ref m20, .int s_signs, .ref m21, .int s_stacked, .ref m22, .int s_name, .int s_shift, .int s_statements, .int s_ifs, .int s_whiles, .int s_variants, .int s_open, .ref m23, .int s_isMade, .int s_conditions, .ref m24, .ref m25, .ref m26, .ref m27, .int s_kept, .ref m28, .int s_tops, .ref m29, .int s_used, .ref m30, .ref m31, .int s_looked, .int s_rows, .int s_firstRow, .ref m32, .ref m33, .ref m34, .ref m35, .ref m36, .ref m37, .ref m38, .ref m39, .ref m40, .int (nI br), .ref m41, .int s_atoms, .ref m42])), (m38, .inl (ax 0, 121, .inl bd)), (m39, .inl (ax 3, 121, .inl ib))] s.heap.size = A at hD hN ⊢
  have hA : ∀ q : Nat, s.heap.size ≤ q → A q := fun q h => by rw [← hAe]; exact Or.inr h
  have hS : va_S A s.heap s.heap [] := va_S.rf
  have hl0 := lv_entry ([.ref m0, .int (nI x9), .int (nI y9), .int x3]) (n := 5) (Nat.le_of_ble_eq_true rfl)
  rw [lg_entry_eq]
  generalize (lg_sl ([.ref m0, .int (nI x9), .int (nI y9), .int x3]) ++ List.replicate (5 - (lg_sl ([.ref m0, .int (nI x9), .int (nI y9), .int x3])).length) Slot.unset).toArray = ls at hl0 ⊢
  have hl1 : lv_has ls 5 [(0, .ref m0), (1, .int (nI x9)), (2, .int (nI y9)), (3, .int x3)] := hl0
  refine xw_gen (fun Z9 hQe => ?_)
  refine lv_iload_n hx hb d_Model_take_0 rfl (lv_at hl1 1 rfl) ?_
  refine lv_iload_n hx hb d_Model_take_1 rfl (lv_at hl1 2 rfl) ?_
  refine lv_icmp_ne (tgt := 26) hx hb d_Model_take_2 (by decide) (fun c_1 => ?_) (fun c_1 => ?_)
  · replace c_1 : ¬ x9 = y9 := fun hq9 => c_1 ((nI_eq (a := x9) (b := y9) (by first | exact Nat.lt_of_lt_of_le (by assumption) (by decide) | exact Nat.lt_of_le_of_lt (by assumption) (by decide) | omega) (by first | exact Nat.lt_of_lt_of_le (by assumption) (by decide) | exact Nat.lt_of_le_of_lt (by assumption) (by decide) | omega)).mpr hq9)
    refine lv_bipush (v := 11) hx hb d_Model_take_26 (by decide) ?_
    refine lv_iload_n hx hb d_Model_take_28 rfl (lv_at hl1 1 rfl) ?_
    refine lv_imul hx hb d_Model_take_29 ?_
    refine lv_topi (fun z_2 ez_2 => ?_)
    have ez_2 : z_2 = nI (11 * x9) := ez_2.trans (pk_mul 11 x9)
    subst ez_2
    refine lv_iload_n hx hb d_Model_take_30 rfl (lv_at hl1 2 rfl) ?_
    refine lv_iadd hx hb d_Model_take_31 ?_
    refine lv_topi (fun z_3 ez_3 => ?_)
    have ez_3 : z_3 = nI (11 * x9 + y9) := ez_3.trans (nI_add (11 * x9) y9)
    subst ez_3
    refine lv_istore (lv' := [(4, .int (nI (11 * x9 + y9))), (0, .ref m0), (1, .int (nI x9)), (2, .int (nI y9)), (3, .int x3)]) hx hb d_Model_take_32 hl1 (by decide) rfl (fun ls hl2 => ?_)
    clear hl1; have hl1 := hl2; clear hl2
    refine lv_aload_n hx hb d_Model_take_34 rfl (lv_at hl1 1 rfl) ?_
    refine va_get (D := D) (ci := 11) (v := .ref m38) (C := R_Model) (T := F_Model) (N := 72) hx hb hts i_Model hown hK.1 hP 0 rfl rfl 65 (by decide) (hts _ wd_1101) (fun _ h9 => h9) rfl d_Model_take_35 ?_
    refine lv_iload hx hb d_Model_take_38 (lv_at hl1 0 rfl) ?_
    refine lv_aload_n hx hb d_Model_take_40 rfl (lv_at hl1 1 rfl) ?_
    refine va_get (D := D) (ci := 11) (v := .ref m39) (C := R_Model) (T := F_Model) (N := 72) hx hb hts i_Model hown hK.1 hP 0 rfl rfl 66 (by decide) (hts _ wd_1102) (fun _ h9 => h9) rfl d_Model_take_41 ?_
    refine lv_iload hx hb d_Model_take_44 (lv_at hl1 0 rfl) ?_
    refine va_zald hx hb hK.1 hP 2 3 rfl rfl (vp_in_nI (by first | assumption | omega) (by decide)) d_Model_take_46 ?_
    refine W.eq (g2 := F0 m 47 ls [.int (ib (11 * x9 + y9)), .int (nI (11 * x9 + y9)), .ref m38]) (by rw [nI_clamp (by first | exact Nat.lt_of_lt_of_le (by assumption) (by decide) | exact Nat.lt_of_le_of_lt (by assumption) (by decide) | omega)]) ?_
    refine lv_if_eq (tgt := 71) hx hb d_Model_take_47 (by decide) (fun c_4 => ?_) (fun c_4 => ?_)
    · refine lv_iload_n hx hb d_Model_take_71 rfl (lv_at hl1 4 rfl) ?_
      refine va_iast hx hb hK.1 hP hD hS 1 0 rfl rfl (vp_in_nI (by first | assumption | omega) (by decide)) d_Model_take_72 (fun H_5 locs hP1 hD1 hS1 => ?_)
      rw [nI_clamp (by first | exact Nat.lt_of_lt_of_le (by assumption) (by decide) | exact Nat.lt_of_le_of_lt (by assumption) (by decide) | omega)] at hP1 hD1
      clear hP hD hS
      have hS := hS1
      have hW7 : (fun w9 : va_W => va_P D classes w9 H_5 ∧ va_D A w9) [(m0, .inr (11, [.int s_thrown, .int s_taped, .ref m1, .int s_size, .int s_outSize, .ref m2, .int s_kind, .int s_value, .int s_begin, .int s_end, .int s_failed, .ref m3, .ref m4, .ref m5, .int s_isProgram, .int s_half, .ref m6, .ref m7, .ref m8, .ref m9, .ref m10, .ref m11, .ref m12, .ref m13, .ref m14, .ref m15, .ref m16, .ref m17, .ref m18, .ref m19, .ref m20, .int s_signs, .ref m21, .int s_stacked, .ref m22, .int s_name, .int s_shift, .int s_statements, .int s_ifs, .int s_whiles, .int s_variants, .int s_open, .ref m23, .int s_isMade, .int s_conditions, .ref m24, .ref m25, .ref m26, .ref m27, .int s_kept, .ref m28, .int s_tops, .ref m29, .int s_used, .ref m30, .ref m31, .int s_looked, .int s_rows, .int s_firstRow, .ref m32, .ref m33, .ref m34, .ref m35, .ref m36, .ref m37, .ref m38, .ref m39, .ref m40, .int (nI br), .ref m41, .int s_atoms, .ref m42])), (m38, .inl (ax 0, 121, .inl (upd bd (11 * x9 + y9) x3))), (m39, .inl (ax 3, 121, .inl ib))] := ⟨hP1, hD1⟩
      obtain ⟨hP, hD⟩ := hW7
      clear hP1 hD1 hS1
      refine lv_aload_n hx hb d_Model_take_73 rfl (lv_at hl1 1 rfl) ?_
      refine va_get (D := D) (ci := 11) (v := .ref m39) (C := R_Model) (T := F_Model) (N := 72) hx hb hts i_Model hown hK.1 hP 0 rfl rfl 66 (by decide) (hts _ wd_1102) (fun _ h9 => h9) rfl d_Model_take_74 ?_
      refine lv_iload hx hb d_Model_take_77 (lv_at hl1 0 rfl) ?_
      refine lv_iconst (v := 1) hx hb d_Model_take_79 (by decide) ?_
      refine va_zast hx hb hK.1 hP hD hS 2 3 rfl rfl (vp_in_nI (by first | assumption | omega) (by decide)) d_Model_take_80 (fun H_6 locs hP1 hD1 hS1 => ?_)
      rw [nI_clamp (by first | exact Nat.lt_of_lt_of_le (by assumption) (by decide) | exact Nat.lt_of_le_of_lt (by assumption) (by decide) | omega)] at hP1 hD1
      clear hP hD hS
      have hS := hS1
      have hW7 : (fun w9 : va_W => va_P D classes w9 H_6 ∧ va_D A w9) [(m0, .inr (11, [.int s_thrown, .int s_taped, .ref m1, .int s_size, .int s_outSize, .ref m2, .int s_kind, .int s_value, .int s_begin, .int s_end, .int s_failed, .ref m3, .ref m4, .ref m5, .int s_isProgram, .int s_half, .ref m6, .ref m7, .ref m8, .ref m9, .ref m10, .ref m11, .ref m12, .ref m13, .ref m14, .ref m15, .ref m16, .ref m17, .ref m18, .ref m19, .ref m20, .int s_signs, .ref m21, .int s_stacked, .ref m22, .int s_name, .int s_shift, .int s_statements, .int s_ifs, .int s_whiles, .int s_variants, .int s_open, .ref m23, .int s_isMade, .int s_conditions, .ref m24, .ref m25, .ref m26, .ref m27, .int s_kept, .ref m28, .int s_tops, .ref m29, .int s_used, .ref m30, .ref m31, .int s_looked, .int s_rows, .int s_firstRow, .ref m32, .ref m33, .ref m34, .ref m35, .ref m36, .ref m37, .ref m38, .ref m39, .ref m40, .int (nI br), .ref m41, .int s_atoms, .ref m42])), (m38, .inl (ax 0, 121, .inl (upd bd (11 * x9 + y9) x3))), (m39, .inl (ax 3, 121, .inl (upd ib (11 * x9 + y9) 1)))] := ⟨hP1, hD1⟩
      obtain ⟨hP, hD⟩ := hW7
      clear hP1 hD1 hS1
      rw [← hQe]
      obtain ⟨hP9, hD9⟩ := xw_sub2 (wc := (fun (u : Nat → Nat) (xbd : Nat → Int32) (xib : Nat → Int32) => [(m0, .inr (11, [.int s_thrown, .int s_taped, .ref m1, .int s_size, .int s_outSize, .ref m2, .int s_kind, .int s_value, .int s_begin, .int s_end, .int s_failed, .ref m3, .ref m4, .ref m5, .int s_isProgram, .int s_half, .ref m6, .ref m7, .ref m8, .ref m9, .ref m10, .ref m11, .ref m12, .ref m13, .ref m14, .ref m15, .ref m16, .ref m17, .ref m18, .ref m19, .ref m20, .int s_signs, .ref m21, .int s_stacked, .ref m22, .int s_name, .int s_shift, .int s_statements, .int s_ifs, .int s_whiles, .int s_variants, .int s_open, .ref m23, .int s_isMade, .int s_conditions, .ref m24, .ref m25, .ref m26, .ref m27, .int s_kept, .ref m28, .int s_tops, .ref m29, .int s_used, .ref m30, .ref m31, .int s_looked, .int s_rows, .int s_firstRow, .ref m32, .ref m33, .ref m34, .ref m35, .ref m36, .ref m37, .ref m38, .ref m39, .ref m40, .int (nI (u 0)), .ref m41, .int s_atoms, .ref m42])), (m38, .inl (ax 0, 121, .inl xbd)), (m39, .inl (ax 3, 121, .inl xib))]) (ixn [br]) (upd bd (11 * x9 + y9) x3) (upd ib (11 * x9 + y9) 1)) hP hD [0, 1, 2] (by decide) rfl
      have hex0 : tA8 br bd ib (fun v => v x9 ≤ v y9 + x3.toInt) (br) (upd bd (11 * x9 + y9) x3) (upd ib (11 * x9 + y9) 1) := ⟨hW8.up hc8, fun v => bS8_nw hx9 hy9 (by first | exact Or.inl (by assumption) | exact Or.inr (le8 (by assumption)))⟩
      have hsp0 : br ≤ 1 := (by first | assumption | omega)
      exact W.vret hx hb hr (fun t ht hW => ⟨⟨ixn [br], rfl, hsp0, ⟨(upd bd (11 * x9 + y9) x3), (upd ib (11 * x9 + y9) 1), hex0, by rw [ht]; exact hP9, hD9⟩⟩, hS.F ht⟩) hS.2.2 d_Model_take_81
    · refine lv_aload_n hx hb d_Model_take_50 rfl (lv_at hl1 1 rfl) ?_
      refine va_get (D := D) (ci := 11) (v := .ref m38) (C := R_Model) (T := F_Model) (N := 72) hx hb hts i_Model hown hK.1 hP 0 rfl rfl 65 (by decide) (hts _ wd_1101) (fun _ h9 => h9) rfl d_Model_take_51 ?_
      refine lv_iload hx hb d_Model_take_54 (lv_at hl1 0 rfl) ?_
      refine va_iald hx hb hK.1 hP 1 0 rfl rfl (vp_in_nI (by first | assumption | omega) (by decide)) d_Model_take_56 ?_
      refine W.eq (g2 := F0 m 57 ls [.int (bd (11 * x9 + y9)), .int (nI (11 * x9 + y9)), .ref m38]) (by rw [nI_clamp (by first | exact Nat.lt_of_lt_of_le (by assumption) (by decide) | exact Nat.lt_of_le_of_lt (by assumption) (by decide) | omega)]) ?_
      refine lv_iload_n hx hb d_Model_take_57 rfl (lv_at hl1 4 rfl) ?_
      refine lv_icmp_ge (tgt := 71) hx hb d_Model_take_58 (by decide) (fun c_7 => ?_) (fun c_7 => ?_)
      · refine lv_iload_n hx hb d_Model_take_71 rfl (lv_at hl1 4 rfl) ?_
        refine va_iast hx hb hK.1 hP hD hS 1 0 rfl rfl (vp_in_nI (by first | assumption | omega) (by decide)) d_Model_take_72 (fun H_8 locs hP1 hD1 hS1 => ?_)
        rw [nI_clamp (by first | exact Nat.lt_of_lt_of_le (by assumption) (by decide) | exact Nat.lt_of_le_of_lt (by assumption) (by decide) | omega)] at hP1 hD1
        clear hP hD hS
        have hS := hS1
        have hW7 : (fun w9 : va_W => va_P D classes w9 H_8 ∧ va_D A w9) [(m0, .inr (11, [.int s_thrown, .int s_taped, .ref m1, .int s_size, .int s_outSize, .ref m2, .int s_kind, .int s_value, .int s_begin, .int s_end, .int s_failed, .ref m3, .ref m4, .ref m5, .int s_isProgram, .int s_half, .ref m6, .ref m7, .ref m8, .ref m9, .ref m10, .ref m11, .ref m12, .ref m13, .ref m14, .ref m15, .ref m16, .ref m17, .ref m18, .ref m19, .ref m20, .int s_signs, .ref m21, .int s_stacked, .ref m22, .int s_name, .int s_shift, .int s_statements, .int s_ifs, .int s_whiles, .int s_variants, .int s_open, .ref m23, .int s_isMade, .int s_conditions, .ref m24, .ref m25, .ref m26, .ref m27, .int s_kept, .ref m28, .int s_tops, .ref m29, .int s_used, .ref m30, .ref m31, .int s_looked, .int s_rows, .int s_firstRow, .ref m32, .ref m33, .ref m34, .ref m35, .ref m36, .ref m37, .ref m38, .ref m39, .ref m40, .int (nI br), .ref m41, .int s_atoms, .ref m42])), (m38, .inl (ax 0, 121, .inl (upd bd (11 * x9 + y9) x3))), (m39, .inl (ax 3, 121, .inl ib))] := ⟨hP1, hD1⟩
        obtain ⟨hP, hD⟩ := hW7
        clear hP1 hD1 hS1
        refine lv_aload_n hx hb d_Model_take_73 rfl (lv_at hl1 1 rfl) ?_
        refine va_get (D := D) (ci := 11) (v := .ref m39) (C := R_Model) (T := F_Model) (N := 72) hx hb hts i_Model hown hK.1 hP 0 rfl rfl 66 (by decide) (hts _ wd_1102) (fun _ h9 => h9) rfl d_Model_take_74 ?_
        refine lv_iload hx hb d_Model_take_77 (lv_at hl1 0 rfl) ?_
        refine lv_iconst (v := 1) hx hb d_Model_take_79 (by decide) ?_
        refine va_zast hx hb hK.1 hP hD hS 2 3 rfl rfl (vp_in_nI (by first | assumption | omega) (by decide)) d_Model_take_80 (fun H_9 locs hP1 hD1 hS1 => ?_)
        rw [nI_clamp (by first | exact Nat.lt_of_lt_of_le (by assumption) (by decide) | exact Nat.lt_of_le_of_lt (by assumption) (by decide) | omega)] at hP1 hD1
        clear hP hD hS
        have hS := hS1
        have hW7 : (fun w9 : va_W => va_P D classes w9 H_9 ∧ va_D A w9) [(m0, .inr (11, [.int s_thrown, .int s_taped, .ref m1, .int s_size, .int s_outSize, .ref m2, .int s_kind, .int s_value, .int s_begin, .int s_end, .int s_failed, .ref m3, .ref m4, .ref m5, .int s_isProgram, .int s_half, .ref m6, .ref m7, .ref m8, .ref m9, .ref m10, .ref m11, .ref m12, .ref m13, .ref m14, .ref m15, .ref m16, .ref m17, .ref m18, .ref m19, .ref m20, .int s_signs, .ref m21, .int s_stacked, .ref m22, .int s_name, .int s_shift, .int s_statements, .int s_ifs, .int s_whiles, .int s_variants, .int s_open, .ref m23, .int s_isMade, .int s_conditions, .ref m24, .ref m25, .ref m26, .ref m27, .int s_kept, .ref m28, .int s_tops, .ref m29, .int s_used, .ref m30, .ref m31, .int s_looked, .int s_rows, .int s_firstRow, .ref m32, .ref m33, .ref m34, .ref m35, .ref m36, .ref m37, .ref m38, .ref m39, .ref m40, .int (nI br), .ref m41, .int s_atoms, .ref m42])), (m38, .inl (ax 0, 121, .inl (upd bd (11 * x9 + y9) x3))), (m39, .inl (ax 3, 121, .inl (upd ib (11 * x9 + y9) 1)))] := ⟨hP1, hD1⟩
        obtain ⟨hP, hD⟩ := hW7
        clear hP1 hD1 hS1
        rw [← hQe]
        obtain ⟨hP9, hD9⟩ := xw_sub2 (wc := (fun (u : Nat → Nat) (xbd : Nat → Int32) (xib : Nat → Int32) => [(m0, .inr (11, [.int s_thrown, .int s_taped, .ref m1, .int s_size, .int s_outSize, .ref m2, .int s_kind, .int s_value, .int s_begin, .int s_end, .int s_failed, .ref m3, .ref m4, .ref m5, .int s_isProgram, .int s_half, .ref m6, .ref m7, .ref m8, .ref m9, .ref m10, .ref m11, .ref m12, .ref m13, .ref m14, .ref m15, .ref m16, .ref m17, .ref m18, .ref m19, .ref m20, .int s_signs, .ref m21, .int s_stacked, .ref m22, .int s_name, .int s_shift, .int s_statements, .int s_ifs, .int s_whiles, .int s_variants, .int s_open, .ref m23, .int s_isMade, .int s_conditions, .ref m24, .ref m25, .ref m26, .ref m27, .int s_kept, .ref m28, .int s_tops, .ref m29, .int s_used, .ref m30, .ref m31, .int s_looked, .int s_rows, .int s_firstRow, .ref m32, .ref m33, .ref m34, .ref m35, .ref m36, .ref m37, .ref m38, .ref m39, .ref m40, .int (nI (u 0)), .ref m41, .int s_atoms, .ref m42])), (m38, .inl (ax 0, 121, .inl xbd)), (m39, .inl (ax 3, 121, .inl xib))]) (ixn [br]) (upd bd (11 * x9 + y9) x3) (upd ib (11 * x9 + y9) 1)) hP hD [0, 1, 2] (by decide) rfl
        have hex0 : tA8 br bd ib (fun v => v x9 ≤ v y9 + x3.toInt) (br) (upd bd (11 * x9 + y9) x3) (upd ib (11 * x9 + y9) 1) := ⟨hW8.up hc8, fun v => bS8_nw hx9 hy9 (by first | exact Or.inl (by assumption) | exact Or.inr (le8 (by assumption)))⟩
        have hsp0 : br ≤ 1 := (by first | assumption | omega)
        exact W.vret hx hb hr (fun t ht hW => ⟨⟨ixn [br], rfl, hsp0, ⟨(upd bd (11 * x9 + y9) x3), (upd ib (11 * x9 + y9) 1), hex0, by rw [ht]; exact hP9, hD9⟩⟩, hS.F ht⟩) hS.2.2 d_Model_take_81
      · refine lv_aload_n hx hb d_Model_take_61 rfl (lv_at hl1 1 rfl) ?_
        refine va_get (D := D) (ci := 11) (v := .ref m38) (C := R_Model) (T := F_Model) (N := 72) hx hb hts i_Model hown hK.1 hP 0 rfl rfl 65 (by decide) (hts _ wd_1101) (fun _ h9 => h9) rfl d_Model_take_62 ?_
        refine lv_iload hx hb d_Model_take_65 (lv_at hl1 0 rfl) ?_
        refine va_iald hx hb hK.1 hP 1 0 rfl rfl (vp_in_nI (by first | assumption | omega) (by decide)) d_Model_take_67 ?_
        refine W.eq (g2 := F0 m 68 ls [.int (bd (11 * x9 + y9)), .int (nI (11 * x9 + y9)), .ref m38]) (by rw [nI_clamp (by first | exact Nat.lt_of_lt_of_le (by assumption) (by decide) | exact Nat.lt_of_le_of_lt (by assumption) (by decide) | omega)]) ?_
        refine lv_goto (tgt := 72) hx hb d_Model_take_68 (by decide) ?_
        refine va_iast hx hb hK.1 hP hD hS 1 0 rfl rfl (vp_in_nI (by first | assumption | omega) (by decide)) d_Model_take_72 (fun H_10 locs hP1 hD1 hS1 => ?_)
        rw [nI_clamp (by first | exact Nat.lt_of_lt_of_le (by assumption) (by decide) | exact Nat.lt_of_le_of_lt (by assumption) (by decide) | omega)] at hP1 hD1
        clear hP hD hS
        have hS := hS1
        have hW7 : (fun w9 : va_W => va_P D classes w9 H_10 ∧ va_D A w9) [(m0, .inr (11, [.int s_thrown, .int s_taped, .ref m1, .int s_size, .int s_outSize, .ref m2, .int s_kind, .int s_value, .int s_begin, .int s_end, .int s_failed, .ref m3, .ref m4, .ref m5, .int s_isProgram, .int s_half, .ref m6, .ref m7, .ref m8, .ref m9, .ref m10, .ref m11, .ref m12, .ref m13, .ref m14, .ref m15, .ref m16, .ref m17, .ref m18, .ref m19, .ref m20, .int s_signs, .ref m21, .int s_stacked, .ref m22, .int s_name, .int s_shift, .int s_statements, .int s_ifs, .int s_whiles, .int s_variants, .int s_open, .ref m23, .int s_isMade, .int s_conditions, .ref m24, .ref m25, .ref m26, .ref m27, .int s_kept, .ref m28, .int s_tops, .ref m29, .int s_used, .ref m30, .ref m31, .int s_looked, .int s_rows, .int s_firstRow, .ref m32, .ref m33, .ref m34, .ref m35, .ref m36, .ref m37, .ref m38, .ref m39, .ref m40, .int (nI br), .ref m41, .int s_atoms, .ref m42])), (m38, .inl (ax 0, 121, .inl (upd bd (11 * x9 + y9) (bd (11 * x9 + y9))))), (m39, .inl (ax 3, 121, .inl ib))] := ⟨hP1, hD1⟩
        obtain ⟨hP, hD⟩ := hW7
        clear hP1 hD1 hS1
        refine lv_aload_n hx hb d_Model_take_73 rfl (lv_at hl1 1 rfl) ?_
        refine va_get (D := D) (ci := 11) (v := .ref m39) (C := R_Model) (T := F_Model) (N := 72) hx hb hts i_Model hown hK.1 hP 0 rfl rfl 66 (by decide) (hts _ wd_1102) (fun _ h9 => h9) rfl d_Model_take_74 ?_
        refine lv_iload hx hb d_Model_take_77 (lv_at hl1 0 rfl) ?_
        refine lv_iconst (v := 1) hx hb d_Model_take_79 (by decide) ?_
        refine va_zast hx hb hK.1 hP hD hS 2 3 rfl rfl (vp_in_nI (by first | assumption | omega) (by decide)) d_Model_take_80 (fun H_11 locs hP1 hD1 hS1 => ?_)
        rw [nI_clamp (by first | exact Nat.lt_of_lt_of_le (by assumption) (by decide) | exact Nat.lt_of_le_of_lt (by assumption) (by decide) | omega)] at hP1 hD1
        clear hP hD hS
        have hS := hS1
        have hW7 : (fun w9 : va_W => va_P D classes w9 H_11 ∧ va_D A w9) [(m0, .inr (11, [.int s_thrown, .int s_taped, .ref m1, .int s_size, .int s_outSize, .ref m2, .int s_kind, .int s_value, .int s_begin, .int s_end, .int s_failed, .ref m3, .ref m4, .ref m5, .int s_isProgram, .int s_half, .ref m6, .ref m7, .ref m8, .ref m9, .ref m10, .ref m11, .ref m12, .ref m13, .ref m14, .ref m15, .ref m16, .ref m17, .ref m18, .ref m19, .ref m20, .int s_signs, .ref m21, .int s_stacked, .ref m22, .int s_name, .int s_shift, .int s_statements, .int s_ifs, .int s_whiles, .int s_variants, .int s_open, .ref m23, .int s_isMade, .int s_conditions, .ref m24, .ref m25, .ref m26, .ref m27, .int s_kept, .ref m28, .int s_tops, .ref m29, .int s_used, .ref m30, .ref m31, .int s_looked, .int s_rows, .int s_firstRow, .ref m32, .ref m33, .ref m34, .ref m35, .ref m36, .ref m37, .ref m38, .ref m39, .ref m40, .int (nI br), .ref m41, .int s_atoms, .ref m42])), (m38, .inl (ax 0, 121, .inl (upd bd (11 * x9 + y9) (bd (11 * x9 + y9))))), (m39, .inl (ax 3, 121, .inl (upd ib (11 * x9 + y9) 1)))] := ⟨hP1, hD1⟩
        obtain ⟨hP, hD⟩ := hW7
        clear hP1 hD1 hS1
        rw [← hQe]
        obtain ⟨hP9, hD9⟩ := xw_sub2 (wc := (fun (u : Nat → Nat) (xbd : Nat → Int32) (xib : Nat → Int32) => [(m0, .inr (11, [.int s_thrown, .int s_taped, .ref m1, .int s_size, .int s_outSize, .ref m2, .int s_kind, .int s_value, .int s_begin, .int s_end, .int s_failed, .ref m3, .ref m4, .ref m5, .int s_isProgram, .int s_half, .ref m6, .ref m7, .ref m8, .ref m9, .ref m10, .ref m11, .ref m12, .ref m13, .ref m14, .ref m15, .ref m16, .ref m17, .ref m18, .ref m19, .ref m20, .int s_signs, .ref m21, .int s_stacked, .ref m22, .int s_name, .int s_shift, .int s_statements, .int s_ifs, .int s_whiles, .int s_variants, .int s_open, .ref m23, .int s_isMade, .int s_conditions, .ref m24, .ref m25, .ref m26, .ref m27, .int s_kept, .ref m28, .int s_tops, .ref m29, .int s_used, .ref m30, .ref m31, .int s_looked, .int s_rows, .int s_firstRow, .ref m32, .ref m33, .ref m34, .ref m35, .ref m36, .ref m37, .ref m38, .ref m39, .ref m40, .int (nI (u 0)), .ref m41, .int s_atoms, .ref m42])), (m38, .inl (ax 0, 121, .inl xbd)), (m39, .inl (ax 3, 121, .inl xib))]) (ixn [br]) (upd bd (11 * x9 + y9) (bd (11 * x9 + y9))) (upd ib (11 * x9 + y9) 1)) hP hD [0, 1, 2] (by decide) rfl
        have hex0 : tA8 br bd ib (fun v => v x9 ≤ v y9 + x3.toInt) (br) (upd bd (11 * x9 + y9) (bd (11 * x9 + y9))) (upd ib (11 * x9 + y9) 1) := ⟨hW8.up (hW8 _ (by first | assumption | omega) (by assumption)), fun v => bS8_od hx9 hy9 (by assumption) (nl8 (by assumption))⟩
        have hsp0 : br ≤ 1 := (by first | assumption | omega)
        exact W.vret hx hb hr (fun t ht hW => ⟨⟨ixn [br], rfl, hsp0, ⟨(upd bd (11 * x9 + y9) (bd (11 * x9 + y9))), (upd ib (11 * x9 + y9) 1), hex0, by rw [ht]; exact hP9, hD9⟩⟩, hS.F ht⟩) hS.2.2 d_Model_take_81
  · replace c_1 : x9 = y9 := (nI_eq (a := x9) (b := y9) (by first | exact Nat.lt_of_lt_of_le (by assumption) (by decide) | exact Nat.lt_of_le_of_lt (by assumption) (by decide) | omega) (by first | exact Nat.lt_of_lt_of_le (by assumption) (by decide) | exact Nat.lt_of_le_of_lt (by assumption) (by decide) | omega)).mp c_1
    refine lv_aload_n hx hb d_Model_take_5 rfl (lv_at hl1 0 rfl) ?_
    refine lv_aload_n hx hb d_Model_take_6 rfl (lv_at hl1 0 rfl) ?_
    refine va_get (D := D) (ci := 11) (v := .int (nI br)) (C := R_Model) (T := F_Model) (N := 72) hx hb hts i_Model hown hK.1 hP 0 rfl rfl 68 (by decide) (hts _ wd_1104) (fun _ h9 => h9) rfl d_Model_take_7 ?_
    refine lv_if_ne (tgt := 17) hx hb d_Model_take_10 (by decide) (fun c_12 => ?_) (fun c_12 => ?_)
    · replace c_12 : ¬ br = 0 := fun hq9 => c_12 ((nI_eq (a := br) (b := 0) (by first | exact Nat.lt_of_lt_of_le (by assumption) (by decide) | exact Nat.lt_of_le_of_lt (by assumption) (by decide) | omega) (by decide)).mpr hq9)
      refine lv_iconst (v := 1) hx hb d_Model_take_17 (by decide) ?_
      refine lv_goto (tgt := 22) hx hb d_Model_take_18 (by decide) ?_
      refine va_put (D := D) (ci := 11) (v := .int 1) (ty := .boolean) (C := R_Model) (T := F_Model) (N := 72) hx hb hts i_Model t_Model t_Model_ok n_Model hown hK.1 hP hD hS 0 rfl rfl 68 (by decide) (hts _ wd_1104) (fun _ h9 => h9) rfl (by decide +kernel) rfl rfl (Nat.le_of_ble_eq_true rfl) d_Model_take_22 (fun H_13 locs hP1 hD1 hS1 => ?_)
      clear hP hD hS
      have hS := hS1
      have hW7 : (fun w9 : va_W => va_P D classes w9 H_13 ∧ va_D A w9) [(m0, .inr (11, [.int s_thrown, .int s_taped, .ref m1, .int s_size, .int s_outSize, .ref m2, .int s_kind, .int s_value, .int s_begin, .int s_end, .int s_failed, .ref m3, .ref m4, .ref m5, .int s_isProgram, .int s_half, .ref m6, .ref m7, .ref m8, .ref m9, .ref m10, .ref m11, .ref m12, .ref m13, .ref m14, .ref m15, .ref m16, .ref m17, .ref m18, .ref m19, .ref m20, .int s_signs, .ref m21, .int s_stacked, .ref m22, .int s_name, .int s_shift, .int s_statements, .int s_ifs, .int s_whiles, .int s_variants, .int s_open, .ref m23, .int s_isMade, .int s_conditions, .ref m24, .ref m25, .ref m26, .ref m27, .int s_kept, .ref m28, .int s_tops, .ref m29, .int s_used, .ref m30, .ref m31, .int s_looked, .int s_rows, .int s_firstRow, .ref m32, .ref m33, .ref m34, .ref m35, .ref m36, .ref m37, .ref m38, .ref m39, .ref m40, .int 1, .ref m41, .int s_atoms, .ref m42])), (m38, .inl (ax 0, 121, .inl bd)), (m39, .inl (ax 3, 121, .inl ib))] := ⟨hP1, hD1⟩
      obtain ⟨hP, hD⟩ := hW7
      clear hP1 hD1 hS1
      rw [← hQe]
      obtain ⟨hP9, hD9⟩ := xw_sub2 (wc := (fun (u : Nat → Nat) (xbd : Nat → Int32) (xib : Nat → Int32) => [(m0, .inr (11, [.int s_thrown, .int s_taped, .ref m1, .int s_size, .int s_outSize, .ref m2, .int s_kind, .int s_value, .int s_begin, .int s_end, .int s_failed, .ref m3, .ref m4, .ref m5, .int s_isProgram, .int s_half, .ref m6, .ref m7, .ref m8, .ref m9, .ref m10, .ref m11, .ref m12, .ref m13, .ref m14, .ref m15, .ref m16, .ref m17, .ref m18, .ref m19, .ref m20, .int s_signs, .ref m21, .int s_stacked, .ref m22, .int s_name, .int s_shift, .int s_statements, .int s_ifs, .int s_whiles, .int s_variants, .int s_open, .ref m23, .int s_isMade, .int s_conditions, .ref m24, .ref m25, .ref m26, .ref m27, .int s_kept, .ref m28, .int s_tops, .ref m29, .int s_used, .ref m30, .ref m31, .int s_looked, .int s_rows, .int s_firstRow, .ref m32, .ref m33, .ref m34, .ref m35, .ref m36, .ref m37, .ref m38, .ref m39, .ref m40, .int (nI (u 0)), .ref m41, .int s_atoms, .ref m42])), (m38, .inl (ax 0, 121, .inl xbd)), (m39, .inl (ax 3, 121, .inl xib))]) (ixn [1]) bd ib) hP hD [0, 1, 2] (by decide) rfl
      have hex0 : tA8 br bd ib (fun v => v x9 ≤ v y9 + x3.toInt) (1) bd ib := (by have e9 : x9 = y9 := (by first | assumption | omega); subst e9; exact ⟨hW8, fun v => bS8_xx (fun q => by first | exact absurd q.1 (by first | assumption | omega) | exact absurd (nl8 (by assumption)) q.2) (fun _ => by decide)⟩)
      have hsp0 : 1 ≤ 1 := (by first | assumption | omega)
      exact W.vret hx hb hr (fun t ht hW => ⟨⟨ixn [1], rfl, hsp0, ⟨bd, ib, hex0, by rw [ht]; exact hP9, hD9⟩⟩, hS.F ht⟩) hS.2.2 d_Model_take_25
    · replace c_12 : br = 0 := (nI_eq (a := br) (b := 0) (by first | exact Nat.lt_of_lt_of_le (by assumption) (by decide) | exact Nat.lt_of_le_of_lt (by assumption) (by decide) | omega) (by decide)).mp c_12
      refine lv_iload_n hx hb d_Model_take_13 rfl (lv_at hl1 3 rfl) ?_
      refine lv_if_ge (tgt := 21) hx hb d_Model_take_14 (by decide) (fun c_14 => ?_) (fun c_14 => ?_)
      · refine lv_iconst (v := 0) hx hb d_Model_take_21 (by decide) ?_
        refine va_put (D := D) (ci := 11) (v := .int 0) (ty := .boolean) (C := R_Model) (T := F_Model) (N := 72) hx hb hts i_Model t_Model t_Model_ok n_Model hown hK.1 hP hD hS 0 rfl rfl 68 (by decide) (hts _ wd_1104) (fun _ h9 => h9) rfl (by decide +kernel) rfl rfl (Nat.le_of_ble_eq_true rfl) d_Model_take_22 (fun H_15 locs hP1 hD1 hS1 => ?_)
        clear hP hD hS
        have hS := hS1
        have hW7 : (fun w9 : va_W => va_P D classes w9 H_15 ∧ va_D A w9) [(m0, .inr (11, [.int s_thrown, .int s_taped, .ref m1, .int s_size, .int s_outSize, .ref m2, .int s_kind, .int s_value, .int s_begin, .int s_end, .int s_failed, .ref m3, .ref m4, .ref m5, .int s_isProgram, .int s_half, .ref m6, .ref m7, .ref m8, .ref m9, .ref m10, .ref m11, .ref m12, .ref m13, .ref m14, .ref m15, .ref m16, .ref m17, .ref m18, .ref m19, .ref m20, .int s_signs, .ref m21, .int s_stacked, .ref m22, .int s_name, .int s_shift, .int s_statements, .int s_ifs, .int s_whiles, .int s_variants, .int s_open, .ref m23, .int s_isMade, .int s_conditions, .ref m24, .ref m25, .ref m26, .ref m27, .int s_kept, .ref m28, .int s_tops, .ref m29, .int s_used, .ref m30, .ref m31, .int s_looked, .int s_rows, .int s_firstRow, .ref m32, .ref m33, .ref m34, .ref m35, .ref m36, .ref m37, .ref m38, .ref m39, .ref m40, .int 0, .ref m41, .int s_atoms, .ref m42])), (m38, .inl (ax 0, 121, .inl bd)), (m39, .inl (ax 3, 121, .inl ib))] := ⟨hP1, hD1⟩
        obtain ⟨hP, hD⟩ := hW7
        clear hP1 hD1 hS1
        rw [← hQe]
        obtain ⟨hP9, hD9⟩ := xw_sub2 (wc := (fun (u : Nat → Nat) (xbd : Nat → Int32) (xib : Nat → Int32) => [(m0, .inr (11, [.int s_thrown, .int s_taped, .ref m1, .int s_size, .int s_outSize, .ref m2, .int s_kind, .int s_value, .int s_begin, .int s_end, .int s_failed, .ref m3, .ref m4, .ref m5, .int s_isProgram, .int s_half, .ref m6, .ref m7, .ref m8, .ref m9, .ref m10, .ref m11, .ref m12, .ref m13, .ref m14, .ref m15, .ref m16, .ref m17, .ref m18, .ref m19, .ref m20, .int s_signs, .ref m21, .int s_stacked, .ref m22, .int s_name, .int s_shift, .int s_statements, .int s_ifs, .int s_whiles, .int s_variants, .int s_open, .ref m23, .int s_isMade, .int s_conditions, .ref m24, .ref m25, .ref m26, .ref m27, .int s_kept, .ref m28, .int s_tops, .ref m29, .int s_used, .ref m30, .ref m31, .int s_looked, .int s_rows, .int s_firstRow, .ref m32, .ref m33, .ref m34, .ref m35, .ref m36, .ref m37, .ref m38, .ref m39, .ref m40, .int (nI (u 0)), .ref m41, .int s_atoms, .ref m42])), (m38, .inl (ax 0, 121, .inl xbd)), (m39, .inl (ax 3, 121, .inl xib))]) (ixn [0]) bd ib) hP hD [0, 1, 2] (by decide) rfl
        have hex0 : tA8 br bd ib (fun v => v x9 ≤ v y9 + x3.toInt) (0) bd ib := (by have e9 : x9 = y9 := (by first | assumption | omega); subst e9; exact ⟨hW8, fun v => bS8_xx (fun _ => rfl) (fun q => absurd ⟨by omega, le8 (by assumption)⟩ q)⟩)
        have hsp0 : 0 ≤ 1 := (by first | assumption | omega)
        exact W.vret hx hb hr (fun t ht hW => ⟨⟨ixn [0], rfl, hsp0, ⟨bd, ib, hex0, by rw [ht]; exact hP9, hD9⟩⟩, hS.F ht⟩) hS.2.2 d_Model_take_25
      · refine lv_iconst (v := 1) hx hb d_Model_take_17 (by decide) ?_
        refine lv_goto (tgt := 22) hx hb d_Model_take_18 (by decide) ?_
        refine va_put (D := D) (ci := 11) (v := .int 1) (ty := .boolean) (C := R_Model) (T := F_Model) (N := 72) hx hb hts i_Model t_Model t_Model_ok n_Model hown hK.1 hP hD hS 0 rfl rfl 68 (by decide) (hts _ wd_1104) (fun _ h9 => h9) rfl (by decide +kernel) rfl rfl (Nat.le_of_ble_eq_true rfl) d_Model_take_22 (fun H_16 locs hP1 hD1 hS1 => ?_)
        clear hP hD hS
        have hS := hS1
        have hW7 : (fun w9 : va_W => va_P D classes w9 H_16 ∧ va_D A w9) [(m0, .inr (11, [.int s_thrown, .int s_taped, .ref m1, .int s_size, .int s_outSize, .ref m2, .int s_kind, .int s_value, .int s_begin, .int s_end, .int s_failed, .ref m3, .ref m4, .ref m5, .int s_isProgram, .int s_half, .ref m6, .ref m7, .ref m8, .ref m9, .ref m10, .ref m11, .ref m12, .ref m13, .ref m14, .ref m15, .ref m16, .ref m17, .ref m18, .ref m19, .ref m20, .int s_signs, .ref m21, .int s_stacked, .ref m22, .int s_name, .int s_shift, .int s_statements, .int s_ifs, .int s_whiles, .int s_variants, .int s_open, .ref m23, .int s_isMade, .int s_conditions, .ref m24, .ref m25, .ref m26, .ref m27, .int s_kept, .ref m28, .int s_tops, .ref m29, .int s_used, .ref m30, .ref m31, .int s_looked, .int s_rows, .int s_firstRow, .ref m32, .ref m33, .ref m34, .ref m35, .ref m36, .ref m37, .ref m38, .ref m39, .ref m40, .int 1, .ref m41, .int s_atoms, .ref m42])), (m38, .inl (ax 0, 121, .inl bd)), (m39, .inl (ax 3, 121, .inl ib))] := ⟨hP1, hD1⟩
        obtain ⟨hP, hD⟩ := hW7
        clear hP1 hD1 hS1
        rw [← hQe]
        obtain ⟨hP9, hD9⟩ := xw_sub2 (wc := (fun (u : Nat → Nat) (xbd : Nat → Int32) (xib : Nat → Int32) => [(m0, .inr (11, [.int s_thrown, .int s_taped, .ref m1, .int s_size, .int s_outSize, .ref m2, .int s_kind, .int s_value, .int s_begin, .int s_end, .int s_failed, .ref m3, .ref m4, .ref m5, .int s_isProgram, .int s_half, .ref m6, .ref m7, .ref m8, .ref m9, .ref m10, .ref m11, .ref m12, .ref m13, .ref m14, .ref m15, .ref m16, .ref m17, .ref m18, .ref m19, .ref m20, .int s_signs, .ref m21, .int s_stacked, .ref m22, .int s_name, .int s_shift, .int s_statements, .int s_ifs, .int s_whiles, .int s_variants, .int s_open, .ref m23, .int s_isMade, .int s_conditions, .ref m24, .ref m25, .ref m26, .ref m27, .int s_kept, .ref m28, .int s_tops, .ref m29, .int s_used, .ref m30, .ref m31, .int s_looked, .int s_rows, .int s_firstRow, .ref m32, .ref m33, .ref m34, .ref m35, .ref m36, .ref m37, .ref m38, .ref m39, .ref m40, .int (nI (u 0)), .ref m41, .int s_atoms, .ref m42])), (m38, .inl (ax 0, 121, .inl xbd)), (m39, .inl (ax 3, 121, .inl xib))]) (ixn [1]) bd ib) hP hD [0, 1, 2] (by decide) rfl
        have hex0 : tA8 br bd ib (fun v => v x9 ≤ v y9 + x3.toInt) (1) bd ib := (by have e9 : x9 = y9 := (by first | assumption | omega); subst e9; exact ⟨hW8, fun v => bS8_xx (fun q => by first | exact absurd q.1 (by first | assumption | omega) | exact absurd (nl8 (by assumption)) q.2) (fun _ => by decide)⟩)
        have hsp0 : 1 ≤ 1 := (by first | assumption | omega)
        exact W.vret hx hb hr (fun t ht hW => ⟨⟨ixn [1], rfl, hsp0, ⟨bd, ib, hex0, by rw [ht]; exact hP9, hD9⟩⟩, hS.F ht⟩) hS.2.2 d_Model_take_25
abbrev b_Model_solve : ByteArray := prog_13_method_67_code
def y_Model_solve : MethodName := ⟨R_Model, "solve", "()Z"⟩
theorem d_Model_solve_0 : decode b_Model_solve 0 = .ok (.iconst 0, 1) := by decide +kernel
theorem d_Model_solve_1 : decode b_Model_solve 1 = .ok (.istore_n 1, 1) := by decide +kernel
theorem d_Model_solve_2 : decode b_Model_solve 2 = .ok (.iload_n 1, 1) := by decide +kernel
theorem d_Model_solve_3 : decode b_Model_solve 3 = .ok (.bipush 11, 2) := by decide +kernel
theorem d_Model_solve_5 : decode b_Model_solve 5 = .ok (.if_icmp .ge 16, 3) := by decide +kernel
theorem d_Model_solve_8 : decode b_Model_solve 8 = .ok (.aload_n 0, 1) := by decide +kernel
theorem d_Model_solve_9 : decode b_Model_solve 9 = .ok (.getfield 134, 3) := by decide +kernel
theorem d_Model_solve_12 : decode b_Model_solve 12 = .ok (.iload_n 1, 1) := by decide +kernel
theorem d_Model_solve_13 : decode b_Model_solve 13 = .ok (.iconst 0, 1) := by decide +kernel
theorem d_Model_solve_14 : decode b_Model_solve 14 = .ok (.iastore, 1) := by decide +kernel
theorem d_Model_solve_15 : decode b_Model_solve 15 = .ok (.iinc 1 1, 3) := by decide +kernel
theorem d_Model_solve_18 : decode b_Model_solve 18 = .ok (.goto (-16), 3) := by decide +kernel
theorem d_Model_solve_21 : decode b_Model_solve 21 = .ok (.iconst 1, 1) := by decide +kernel
theorem d_Model_solve_22 : decode b_Model_solve 22 = .ok (.istore_n 1, 1) := by decide +kernel
theorem d_Model_solve_23 : decode b_Model_solve 23 = .ok (.iconst 0, 1) := by decide +kernel
theorem d_Model_solve_24 : decode b_Model_solve 24 = .ok (.istore_n 2, 1) := by decide +kernel
theorem d_Model_solve_25 : decode b_Model_solve 25 = .ok (.iload_n 2, 1) := by decide +kernel
theorem d_Model_solve_26 : decode b_Model_solve 26 = .ok (.bipush 12, 2) := by decide +kernel
theorem d_Model_solve_28 : decode b_Model_solve 28 = .ok (.if_icmp .ge 111, 3) := by decide +kernel
theorem d_Model_solve_31 : decode b_Model_solve 31 = .ok (.iload_n 1, 1) := by decide +kernel
theorem d_Model_solve_32 : decode b_Model_solve 32 = .ok (.ifCond .eq 107, 3) := by decide +kernel
theorem d_Model_solve_35 : decode b_Model_solve 35 = .ok (.iconst 0, 1) := by decide +kernel
theorem d_Model_solve_36 : decode b_Model_solve 36 = .ok (.istore_n 1, 1) := by decide +kernel
theorem d_Model_solve_37 : decode b_Model_solve 37 = .ok (.iconst 0, 1) := by decide +kernel
theorem d_Model_solve_38 : decode b_Model_solve 38 = .ok (.istore_n 3, 1) := by decide +kernel
theorem d_Model_solve_39 : decode b_Model_solve 39 = .ok (.iload_n 3, 1) := by decide +kernel
theorem d_Model_solve_40 : decode b_Model_solve 40 = .ok (.bipush 11, 2) := by decide +kernel
theorem d_Model_solve_42 : decode b_Model_solve 42 = .ok (.if_icmp .ge 91, 3) := by decide +kernel
theorem d_Model_solve_45 : decode b_Model_solve 45 = .ok (.iconst 0, 1) := by decide +kernel
theorem d_Model_solve_46 : decode b_Model_solve 46 = .ok (.istore 4, 2) := by decide +kernel
theorem d_Model_solve_48 : decode b_Model_solve 48 = .ok (.iload 4, 2) := by decide +kernel
theorem d_Model_solve_50 : decode b_Model_solve 50 = .ok (.bipush 11, 2) := by decide +kernel
theorem d_Model_solve_52 : decode b_Model_solve 52 = .ok (.if_icmp .ge 75, 3) := by decide +kernel
theorem d_Model_solve_55 : decode b_Model_solve 55 = .ok (.bipush 11, 2) := by decide +kernel
theorem d_Model_solve_57 : decode b_Model_solve 57 = .ok (.iload_n 3, 1) := by decide +kernel
theorem d_Model_solve_58 : decode b_Model_solve 58 = .ok (.imul, 1) := by decide +kernel
theorem d_Model_solve_59 : decode b_Model_solve 59 = .ok (.iload 4, 2) := by decide +kernel
theorem d_Model_solve_61 : decode b_Model_solve 61 = .ok (.iadd, 1) := by decide +kernel
theorem d_Model_solve_62 : decode b_Model_solve 62 = .ok (.istore 5, 2) := by decide +kernel
theorem d_Model_solve_64 : decode b_Model_solve 64 = .ok (.aload_n 0, 1) := by decide +kernel
theorem d_Model_solve_65 : decode b_Model_solve 65 = .ok (.getfield 131, 3) := by decide +kernel
theorem d_Model_solve_68 : decode b_Model_solve 68 = .ok (.iload 5, 2) := by decide +kernel
theorem d_Model_solve_70 : decode b_Model_solve 70 = .ok (.baload, 1) := by decide +kernel
theorem d_Model_solve_71 : decode b_Model_solve 71 = .ok (.ifCond .eq 50, 3) := by decide +kernel
theorem d_Model_solve_74 : decode b_Model_solve 74 = .ok (.aload_n 0, 1) := by decide +kernel
theorem d_Model_solve_75 : decode b_Model_solve 75 = .ok (.getfield 134, 3) := by decide +kernel
theorem d_Model_solve_78 : decode b_Model_solve 78 = .ok (.iload 4, 2) := by decide +kernel
theorem d_Model_solve_80 : decode b_Model_solve 80 = .ok (.iaload, 1) := by decide +kernel
theorem d_Model_solve_81 : decode b_Model_solve 81 = .ok (.aload_n 0, 1) := by decide +kernel
theorem d_Model_solve_82 : decode b_Model_solve 82 = .ok (.getfield 128, 3) := by decide +kernel
theorem d_Model_solve_85 : decode b_Model_solve 85 = .ok (.iload 5, 2) := by decide +kernel
theorem d_Model_solve_87 : decode b_Model_solve 87 = .ok (.iaload, 1) := by decide +kernel
theorem d_Model_solve_88 : decode b_Model_solve 88 = .ok (.iadd, 1) := by decide +kernel
theorem d_Model_solve_89 : decode b_Model_solve 89 = .ok (.aload_n 0, 1) := by decide +kernel
theorem d_Model_solve_90 : decode b_Model_solve 90 = .ok (.getfield 134, 3) := by decide +kernel
theorem d_Model_solve_93 : decode b_Model_solve 93 = .ok (.iload_n 3, 1) := by decide +kernel
theorem d_Model_solve_94 : decode b_Model_solve 94 = .ok (.iaload, 1) := by decide +kernel
theorem d_Model_solve_95 : decode b_Model_solve 95 = .ok (.if_icmp .ge 26, 3) := by decide +kernel
theorem d_Model_solve_98 : decode b_Model_solve 98 = .ok (.aload_n 0, 1) := by decide +kernel
theorem d_Model_solve_99 : decode b_Model_solve 99 = .ok (.getfield 134, 3) := by decide +kernel
theorem d_Model_solve_102 : decode b_Model_solve 102 = .ok (.iload_n 3, 1) := by decide +kernel
theorem d_Model_solve_103 : decode b_Model_solve 103 = .ok (.aload_n 0, 1) := by decide +kernel
theorem d_Model_solve_104 : decode b_Model_solve 104 = .ok (.getfield 134, 3) := by decide +kernel
theorem d_Model_solve_107 : decode b_Model_solve 107 = .ok (.iload 4, 2) := by decide +kernel
theorem d_Model_solve_109 : decode b_Model_solve 109 = .ok (.iaload, 1) := by decide +kernel
theorem d_Model_solve_110 : decode b_Model_solve 110 = .ok (.aload_n 0, 1) := by decide +kernel
theorem d_Model_solve_111 : decode b_Model_solve 111 = .ok (.getfield 128, 3) := by decide +kernel
theorem d_Model_solve_114 : decode b_Model_solve 114 = .ok (.iload 5, 2) := by decide +kernel
theorem d_Model_solve_116 : decode b_Model_solve 116 = .ok (.iaload, 1) := by decide +kernel
theorem d_Model_solve_117 : decode b_Model_solve 117 = .ok (.iadd, 1) := by decide +kernel
theorem d_Model_solve_118 : decode b_Model_solve 118 = .ok (.iastore, 1) := by decide +kernel
theorem d_Model_solve_119 : decode b_Model_solve 119 = .ok (.iconst 1, 1) := by decide +kernel
theorem d_Model_solve_120 : decode b_Model_solve 120 = .ok (.istore_n 1, 1) := by decide +kernel
theorem d_Model_solve_121 : decode b_Model_solve 121 = .ok (.iinc 4 1, 3) := by decide +kernel
theorem d_Model_solve_124 : decode b_Model_solve 124 = .ok (.goto (-76), 3) := by decide +kernel
theorem d_Model_solve_127 : decode b_Model_solve 127 = .ok (.iinc 3 1, 3) := by decide +kernel
theorem d_Model_solve_130 : decode b_Model_solve 130 = .ok (.goto (-91), 3) := by decide +kernel
theorem d_Model_solve_133 : decode b_Model_solve 133 = .ok (.iinc 2 1, 3) := by decide +kernel
theorem d_Model_solve_136 : decode b_Model_solve 136 = .ok (.goto (-111), 3) := by decide +kernel
theorem d_Model_solve_139 : decode b_Model_solve 139 = .ok (.iload_n 1, 1) := by decide +kernel
theorem d_Model_solve_140 : decode b_Model_solve 140 = .ok (.ifCond .ne 7, 3) := by decide +kernel
theorem d_Model_solve_143 : decode b_Model_solve 143 = .ok (.iconst 1, 1) := by decide +kernel
theorem d_Model_solve_144 : decode b_Model_solve 144 = .ok (.goto 4, 3) := by decide +kernel
theorem d_Model_solve_147 : decode b_Model_solve 147 = .ok (.iconst 0, 1) := by decide +kernel
theorem d_Model_solve_148 : decode b_Model_solve 148 = .ok (.ireturn, 1) := by decide +kernel
set_option maxHeartbeats 40000000 in
set_option maxRecDepth 100000 in
theorem c_M_solve (l : Launch) (D : va_G) (ax : Nat → ClassId) (m0 m1 m2 m3 m4 m5 m6 m7 m8 m9 m10 m11 m12 m13 m14 m15 m16 m17 m18 m19 m20 m21 m22 m23 m24 m25 m26 m27 m28 m29 m30 m31 m32 m33 m34 m35 m36 m37 m38 m39 m40 m41 m42 : Nat) (s_thrown s_taped s_size s_outSize s_kind s_value s_begin s_end s_failed s_isProgram s_half s_signs s_stacked s_name s_shift s_statements s_ifs s_whiles s_variants s_open s_isMade s_conditions s_kept s_tops s_used s_looked s_rows s_firstRow s_isBroken s_atoms : Int32) (av bd ib : Nat → Int32) (sz : Nat) (hW8 : bdW8 bd ib) : Met l y_Model_solve (xws (.code y_Model_solve b_Model_solve 6 (some .boolean))) ({ frames := 10, cells := 0, slots := 0, locals := 400 }) (va_Pc [.ref m0] (xo D ax [(m0, .inr (11, [.int s_thrown, .int s_taped, .ref m1, .int s_size, .int s_outSize, .ref m2, .int s_kind, .int s_value, .int s_begin, .int s_end, .int s_failed, .ref m3, .ref m4, .ref m5, .int s_isProgram, .int s_half, .ref m6, .ref m7, .ref m8, .ref m9, .ref m10, .ref m11, .ref m12, .ref m13, .ref m14, .ref m15, .ref m16, .ref m17, .ref m18, .ref m19, .ref m20, .int s_signs, .ref m21, .int s_stacked, .ref m22, .int s_name, .int s_shift, .int s_statements, .int s_ifs, .int s_whiles, .int s_variants, .int s_open, .ref m23, .int s_isMade, .int s_conditions, .ref m24, .ref m25, .ref m26, .ref m27, .int s_kept, .ref m28, .int s_tops, .ref m29, .int s_used, .ref m30, .ref m31, .int s_looked, .int s_rows, .int s_firstRow, .ref m32, .ref m33, .ref m34, .ref m35, .ref m36, .ref m37, .ref m38, .ref m39, .ref m40, .int s_isBroken, .ref m41, .int s_atoms, .ref m42])), (m40, .inl (ax 0, 11, .inl av)), (m38, .inl (ax 0, 121, .inl bd)), (m39, .inl (ax 3, 121, .inl ib))] sz)) ((va_Qi (fun (r : Int32) (u : Nat → Nat) => r = nI (u 0) ∧ (u 0 ≤ 1)) (fun (u : Nat → Nat) (t9 : State) => ∃ xav : Nat → Int32, (slQ8 bd ib xav (u 0)) ∧ va_P D classes [(m0, .inr (11, [.int s_thrown, .int s_taped, .ref m1, .int s_size, .int s_outSize, .ref m2, .int s_kind, .int s_value, .int s_begin, .int s_end, .int s_failed, .ref m3, .ref m4, .ref m5, .int s_isProgram, .int s_half, .ref m6, .ref m7, .ref m8, .ref m9, .ref m10, .ref m11, .ref m12, .ref m13, .ref m14, .ref m15, .ref m16, .ref m17, .ref m18, .ref m19, .ref m20, .int s_signs, .ref m21, .int s_stacked, .ref m22, .int s_name, .int s_shift, .int s_statements, .int s_ifs, .int s_whiles, .int s_variants, .int s_open, .ref m23, .int s_isMade, .int s_conditions, .ref m24, .ref m25, .ref m26, .ref m27, .int s_kept, .ref m28, .int s_tops, .ref m29, .int s_used, .ref m30, .ref m31, .int s_looked, .int s_rows, .int s_firstRow, .ref m32, .ref m33, .ref m34, .ref m35, .ref m36, .ref m37, .ref m38, .ref m39, .ref m40, .int s_isBroken, .ref m41, .int s_atoms, .ref m42])), (m40, .inl (ax 0, 11, .inl xav)), (m38, .inl (ax 0, 121, .inl bd)), (m39, .inl (ax 3, 121, .inl ib))] t9.heap ∧ va_D (va_A [(m0, .inr (11, [.int s_thrown, .int s_taped, .ref m1, .int s_size, .int s_outSize, .ref m2, .int s_kind, .int s_value, .int s_begin, .int s_end, .int s_failed, .ref m3, .ref m4, .ref m5, .int s_isProgram, .int s_half, .ref m6, .ref m7, .ref m8, .ref m9, .ref m10, .ref m11, .ref m12, .ref m13, .ref m14, .ref m15, .ref m16, .ref m17, .ref m18, .ref m19, .ref m20, .int s_signs, .ref m21, .int s_stacked, .ref m22, .int s_name, .int s_shift, .int s_statements, .int s_ifs, .int s_whiles, .int s_variants, .int s_open, .ref m23, .int s_isMade, .int s_conditions, .ref m24, .ref m25, .ref m26, .ref m27, .int s_kept, .ref m28, .int s_tops, .ref m29, .int s_used, .ref m30, .ref m31, .int s_looked, .int s_rows, .int s_firstRow, .ref m32, .ref m33, .ref m34, .ref m35, .ref m36, .ref m37, .ref m38, .ref m39, .ref m40, .int s_isBroken, .ref m41, .int s_atoms, .ref m42])), (m40, .inl (ax 0, 11, .inl av)), (m38, .inl (ax 0, 121, .inl bd)), (m39, .inl (ax 3, 121, .inl ib))] sz) [(m0, .inr (11, [.int s_thrown, .int s_taped, .ref m1, .int s_size, .int s_outSize, .ref m2, .int s_kind, .int s_value, .int s_begin, .int s_end, .int s_failed, .ref m3, .ref m4, .ref m5, .int s_isProgram, .int s_half, .ref m6, .ref m7, .ref m8, .ref m9, .ref m10, .ref m11, .ref m12, .ref m13, .ref m14, .ref m15, .ref m16, .ref m17, .ref m18, .ref m19, .ref m20, .int s_signs, .ref m21, .int s_stacked, .ref m22, .int s_name, .int s_shift, .int s_statements, .int s_ifs, .int s_whiles, .int s_variants, .int s_open, .ref m23, .int s_isMade, .int s_conditions, .ref m24, .ref m25, .ref m26, .ref m27, .int s_kept, .ref m28, .int s_tops, .ref m29, .int s_used, .ref m30, .ref m31, .int s_looked, .int s_rows, .int s_firstRow, .ref m32, .ref m33, .ref m34, .ref m35, .ref m36, .ref m37, .ref m38, .ref m39, .ref m40, .int s_isBroken, .ref m41, .int s_atoms, .ref m42])), (m40, .inl (ax 0, 11, .inl xav)), (m38, .inl (ax 0, 121, .inl bd)), (m39, .inl (ax 3, 121, .inl ib))]) (va_A [(m0, .inr (11, [.int s_thrown, .int s_taped, .ref m1, .int s_size, .int s_outSize, .ref m2, .int s_kind, .int s_value, .int s_begin, .int s_end, .int s_failed, .ref m3, .ref m4, .ref m5, .int s_isProgram, .int s_half, .ref m6, .ref m7, .ref m8, .ref m9, .ref m10, .ref m11, .ref m12, .ref m13, .ref m14, .ref m15, .ref m16, .ref m17, .ref m18, .ref m19, .ref m20, .int s_signs, .ref m21, .int s_stacked, .ref m22, .int s_name, .int s_shift, .int s_statements, .int s_ifs, .int s_whiles, .int s_variants, .int s_open, .ref m23, .int s_isMade, .int s_conditions, .ref m24, .ref m25, .ref m26, .ref m27, .int s_kept, .ref m28, .int s_tops, .ref m29, .int s_used, .ref m30, .ref m31, .int s_looked, .int s_rows, .int s_firstRow, .ref m32, .ref m33, .ref m34, .ref m35, .ref m36, .ref m37, .ref m38, .ref m39, .ref m40, .int s_isBroken, .ref m41, .int s_atoms, .ref m42])), (m40, .inl (ax 0, 11, .inl av)), (m38, .inl (ax 0, 121, .inl bd)), (m39, .inl (ax 3, 121, .inl ib))] sz))) 0 0 (va_A [(m0, .inr (11, [.int s_thrown, .int s_taped, .ref m1, .int s_size, .int s_outSize, .ref m2, .int s_kind, .int s_value, .int s_begin, .int s_end, .int s_failed, .ref m3, .ref m4, .ref m5, .int s_isProgram, .int s_half, .ref m6, .ref m7, .ref m8, .ref m9, .ref m10, .ref m11, .ref m12, .ref m13, .ref m14, .ref m15, .ref m16, .ref m17, .ref m18, .ref m19, .ref m20, .int s_signs, .ref m21, .int s_stacked, .ref m22, .int s_name, .int s_shift, .int s_statements, .int s_ifs, .int s_whiles, .int s_variants, .int s_open, .ref m23, .int s_isMade, .int s_conditions, .ref m24, .ref m25, .ref m26, .ref m27, .int s_kept, .ref m28, .int s_tops, .ref m29, .int s_used, .ref m30, .ref m31, .int s_looked, .int s_rows, .int s_firstRow, .ref m32, .ref m33, .ref m34, .ref m35, .ref m36, .ref m37, .ref m38, .ref m39, .ref m40, .int s_isBroken, .ref m41, .int s_atoms, .ref m42])), (m40, .inl (ax 0, 11, .inl av)), (m38, .inl (ax 0, 121, .inl bd)), (m39, .inl (ax 3, 121, .inl ib))] sz) := by
  refine Met.ofW (cc := b_Model_solve) (maxL := 6) (ret := (some .boolean)) (by decide) rfl ?_
  intro p e s m args below meth c s₁ B hml hv
  obtain ⟨rfl, hsz, hP, hK, hD0⟩ := hv
  have hx := B.exec
  have hb := B.bytes
  have hr := B.returns
  have hts := xw_hts B.pre
  have hown : s.vm.findClass R_Model = some m.cls := findClass_of_methodNamed B.named
  have hlocks := B.notSynchronized
  subst hsz
  have hD := hD0.self (sz := s.heap.size)
  have hN := xz_entry hP
  generalize hAe : va_A [(m0, .inr (11, [.int s_thrown, .int s_taped, .ref m1, .int s_size, .int s_outSize, .ref m2, .int s_kind, .int s_value, .int s_begin, .int s_end, .int s_failed, .ref m3, .ref m4, .ref m5, .int s_isProgram, .int s_half, .ref m6, .ref m7, .ref m8, .ref m9, .ref m10, .ref m11, .ref m12, .ref m13, .ref m14, .ref m15, .ref m16, .ref m17, .ref m18, .ref m19, .ref m20, .int s_signs, .ref m21, .int s_stacked, .ref m22, .int s_name, .int s_shift, .int s_statements, .int s_ifs, .int s_whiles, .int s_variants, .int s_open, .ref m23, .int s_isMade, .int s_conditions, .ref m24, .ref m25, .ref m26, .ref m27, .int s_kept, .ref m28, .int s_tops, .ref m29, .int s_used, .ref m30, .ref m31, .int s_looked, .int s_rows, .int s_firstRow, .ref m32, .ref m33, .ref m34, .ref m35, .ref m36, .ref m37, .ref m38, .ref m39, .ref m40, .int s_isBroken, .ref m41, .int s_atoms, .ref m42])), (m40, .inl (ax 0, 11, .inl av)), (m38, .inl (ax 0, 121, .inl bd)), (m39, .inl (ax 3, 121, .inl ib))] s.heap.size = A at hD hN ⊢
  have hA : ∀ q : Nat, s.heap.size ≤ q → A q := fun q h => by rw [← hAe]; exact Or.inr h
  have hS : va_S A s.heap s.heap [] := va_S.rf
  have hl0 := lv_entry ([.ref m0]) (n := 6) (Nat.le_of_ble_eq_true rfl)
  rw [lg_entry_eq]
  generalize (lg_sl ([.ref m0]) ++ List.replicate (6 - (lg_sl ([.ref m0])).length) Slot.unset).toArray = ls at hl0 ⊢
  have hl1 : lv_has ls 6 [(0, .ref m0)] := hl0
  refine xw_gen (fun Z9 hQe => ?_)
  refine lv_iconst (v := 0) hx hb d_Model_solve_0 (by decide) ?_
  refine lv_istore_n (lv' := [(1, .int 0), (0, .ref m0)]) hx hb d_Model_solve_1 rfl hl1 (by decide) rfl (fun ls hl2 => ?_)
  clear hl1; have hl1 := hl2; clear hl2
  suffices key_1 : ∀ (k : Nat) (i1 : Nat) (av1 : Nat → Int32), 11 - i1 < k → i1 ≤ 11 → zr8 av1 i1 → ∀ (H : Heap) (locs : List Loc) (ls : Array Slot), va_P D classes [(m0, .inr (11, [.int s_thrown, .int s_taped, .ref m1, .int s_size, .int s_outSize, .ref m2, .int s_kind, .int s_value, .int s_begin, .int s_end, .int s_failed, .ref m3, .ref m4, .ref m5, .int s_isProgram, .int s_half, .ref m6, .ref m7, .ref m8, .ref m9, .ref m10, .ref m11, .ref m12, .ref m13, .ref m14, .ref m15, .ref m16, .ref m17, .ref m18, .ref m19, .ref m20, .int s_signs, .ref m21, .int s_stacked, .ref m22, .int s_name, .int s_shift, .int s_statements, .int s_ifs, .int s_whiles, .int s_variants, .int s_open, .ref m23, .int s_isMade, .int s_conditions, .ref m24, .ref m25, .ref m26, .ref m27, .int s_kept, .ref m28, .int s_tops, .ref m29, .int s_used, .ref m30, .ref m31, .int s_looked, .int s_rows, .int s_firstRow, .ref m32, .ref m33, .ref m34, .ref m35, .ref m36, .ref m37, .ref m38, .ref m39, .ref m40, .int s_isBroken, .ref m41, .int s_atoms, .ref m42])), (m40, .inl (ax 0, 11, .inl av1)), (m38, .inl (ax 0, 121, .inl bd)), (m39, .inl (ax 3, 121, .inl ib))] H → va_D A [(m0, .inr (11, [.int s_thrown, .int s_taped, .ref m1, .int s_size, .int s_outSize, .ref m2, .int s_kind, .int s_value, .int s_begin, .int s_end, .int s_failed, .ref m3, .ref m4, .ref m5, .int s_isProgram, .int s_half, .ref m6, .ref m7, .ref m8, .ref m9, .ref m10, .ref m11, .ref m12, .ref m13, .ref m14, .ref m15, .ref m16, .ref m17, .ref m18, .ref m19, .ref m20, .int s_signs, .ref m21, .int s_stacked, .ref m22, .int s_name, .int s_shift, .int s_statements, .int s_ifs, .int s_whiles, .int s_variants, .int s_open, .ref m23, .int s_isMade, .int s_conditions, .ref m24, .ref m25, .ref m26, .ref m27, .int s_kept, .ref m28, .int s_tops, .ref m29, .int s_used, .ref m30, .ref m31, .int s_looked, .int s_rows, .int s_firstRow, .ref m32, .ref m33, .ref m34, .ref m35, .ref m36, .ref m37, .ref m38, .ref m39, .ref m40, .int s_isBroken, .ref m41, .int s_atoms, .ref m42])), (m40, .inl (ax 0, 11, .inl av1)), (m38, .inl (ax 0, 121, .inl bd)), (m39, .inl (ax 3, 121, .inl ib))] → va_S A s.heap H locs → lv_has ls 6 [(0, .ref m0), (1, .int (nI i1))] → W p l e (headSpec (xws (.code y_Model_solve b_Model_solve 6 (some .boolean))) ({ frames := 10, cells := 0, slots := 0, locals := 400 })).room s m ([.ref m0] : List Value).toArray below meth c H locs 0 0 Z9 (F0 m 2 ls []) from key_1 (11 - 0 + 1) 0 av (Nat.lt_succ_self _) (by first | assumption | omega) zr8_0 _ _ _ (hP) (hD) hS (lv_sub hl1 [1, 0] rfl)
  intro k_2
  induction k_2 with
  | zero =>
    intro i1 av1 hk_4
    exact absurd hk_4 (Nat.not_lt_zero _)
  | succ k_2 ih_3 =>
    clear hP hD hS hl1
    intro i1 av1 hk_4 hi1 hz1 H locs ls hP hD hS hl1
    refine lv_iload_n hx hb d_Model_solve_2 rfl (lv_at hl1 1 rfl) ?_
    refine lv_bipush (v := 11) hx hb d_Model_solve_3 (by decide) ?_
    refine lv_icmp_ge (tgt := 21) hx hb d_Model_solve_5 (by decide) (fun c_5 => ?_) (fun c_5 => ?_)
    · replace c_5 : 11 ≤ i1 := (nI_leI (a := 11) (b := i1) (by decide) (by first | exact Nat.lt_of_lt_of_le (by assumption) (by decide) | exact Nat.lt_of_le_of_lt (by assumption) (by decide) | omega)).mp c_5
      refine lv_iconst (v := 1) hx hb d_Model_solve_21 (by decide) ?_
      refine lv_istore_n (lv' := [(1, .int 1), (0, .ref m0)]) hx hb d_Model_solve_22 rfl hl1 (by decide) rfl (fun ls hl2 => ?_)
      clear hl1; have hl1 := hl2; clear hl2
      refine lv_iconst (v := 0) hx hb d_Model_solve_23 (by decide) ?_
      refine lv_istore_n (lv' := [(2, .int 0), (1, .int 1), (0, .ref m0)]) hx hb d_Model_solve_24 rfl hl1 (by decide) rfl (fun ls hl2 => ?_)
      clear hl1; have hl1 := hl2; clear hl2
      suffices key_6 : ∀ (k : Nat) (p1 mo : Nat) (av2 : Nat → Int32), 12 - p1 < k → p1 ≤ 12 → mo ≤ 1 → sP8 bd ib av2 p1 mo → lo8 av2 (121 * p1) → ∀ (H : Heap) (locs : List Loc) (ls : Array Slot), va_P D classes [(m0, .inr (11, [.int s_thrown, .int s_taped, .ref m1, .int s_size, .int s_outSize, .ref m2, .int s_kind, .int s_value, .int s_begin, .int s_end, .int s_failed, .ref m3, .ref m4, .ref m5, .int s_isProgram, .int s_half, .ref m6, .ref m7, .ref m8, .ref m9, .ref m10, .ref m11, .ref m12, .ref m13, .ref m14, .ref m15, .ref m16, .ref m17, .ref m18, .ref m19, .ref m20, .int s_signs, .ref m21, .int s_stacked, .ref m22, .int s_name, .int s_shift, .int s_statements, .int s_ifs, .int s_whiles, .int s_variants, .int s_open, .ref m23, .int s_isMade, .int s_conditions, .ref m24, .ref m25, .ref m26, .ref m27, .int s_kept, .ref m28, .int s_tops, .ref m29, .int s_used, .ref m30, .ref m31, .int s_looked, .int s_rows, .int s_firstRow, .ref m32, .ref m33, .ref m34, .ref m35, .ref m36, .ref m37, .ref m38, .ref m39, .ref m40, .int s_isBroken, .ref m41, .int s_atoms, .ref m42])), (m40, .inl (ax 0, 11, .inl av2)), (m38, .inl (ax 0, 121, .inl bd)), (m39, .inl (ax 3, 121, .inl ib))] H → va_D A [(m0, .inr (11, [.int s_thrown, .int s_taped, .ref m1, .int s_size, .int s_outSize, .ref m2, .int s_kind, .int s_value, .int s_begin, .int s_end, .int s_failed, .ref m3, .ref m4, .ref m5, .int s_isProgram, .int s_half, .ref m6, .ref m7, .ref m8, .ref m9, .ref m10, .ref m11, .ref m12, .ref m13, .ref m14, .ref m15, .ref m16, .ref m17, .ref m18, .ref m19, .ref m20, .int s_signs, .ref m21, .int s_stacked, .ref m22, .int s_name, .int s_shift, .int s_statements, .int s_ifs, .int s_whiles, .int s_variants, .int s_open, .ref m23, .int s_isMade, .int s_conditions, .ref m24, .ref m25, .ref m26, .ref m27, .int s_kept, .ref m28, .int s_tops, .ref m29, .int s_used, .ref m30, .ref m31, .int s_looked, .int s_rows, .int s_firstRow, .ref m32, .ref m33, .ref m34, .ref m35, .ref m36, .ref m37, .ref m38, .ref m39, .ref m40, .int s_isBroken, .ref m41, .int s_atoms, .ref m42])), (m40, .inl (ax 0, 11, .inl av2)), (m38, .inl (ax 0, 121, .inl bd)), (m39, .inl (ax 3, 121, .inl ib))] → va_S A s.heap H locs → lv_has ls 6 [(0, .ref m0), (1, .int (nI mo)), (2, .int (nI p1))] → W p l e (headSpec (xws (.code y_Model_solve b_Model_solve 6 (some .boolean))) ({ frames := 10, cells := 0, slots := 0, locals := 400 })).room s m ([.ref m0] : List Value).toArray below meth c H locs 0 0 Z9 (F0 m 25 ls []) from key_6 (12 - 0 + 1) 0 1 av1 (Nat.lt_succ_self _) (by first | assumption | omega) (by first | assumption | omega) (sP8_0 (fun i hi => hz1 i (by first | assumption | omega))) (lo8_0 (fun i hi => hz1 i (by first | assumption | omega))) _ _ _ (hP) (hD) hS (lv_sub hl1 [2, 1, 0] rfl)
      intro k_7
      induction k_7 with
      | zero =>
        intro p1 mo av2 hk_9
        exact absurd hk_9 (Nat.not_lt_zero _)
      | succ k_7 ih_8 =>
        clear hP hD hS hl1
        intro p1 mo av2 hk_9 hp1 hmo hP8 hl8 H locs ls hP hD hS hl1
        refine lv_iload_n hx hb d_Model_solve_25 rfl (lv_at hl1 2 rfl) ?_
        refine lv_bipush (v := 12) hx hb d_Model_solve_26 (by decide) ?_
        refine lv_icmp_ge (tgt := 139) hx hb d_Model_solve_28 (by decide) (fun c_10 => ?_) (fun c_10 => ?_)
        · replace c_10 : 12 ≤ p1 := (nI_leI (a := 12) (b := p1) (by decide) (by first | exact Nat.lt_of_lt_of_le (by assumption) (by decide) | exact Nat.lt_of_le_of_lt (by assumption) (by decide) | omega)).mp c_10
          refine lv_iload_n hx hb d_Model_solve_139 rfl (lv_at hl1 1 rfl) ?_
          refine lv_if_ne (tgt := 147) hx hb d_Model_solve_140 (by decide) (fun c_11 => ?_) (fun c_11 => ?_)
          · replace c_11 : ¬ mo = 0 := fun hq9 => c_11 ((nI_eq (a := mo) (b := 0) (by first | exact Nat.lt_of_lt_of_le (by assumption) (by decide) | exact Nat.lt_of_le_of_lt (by assumption) (by decide) | omega) (by decide)).mpr hq9)
            refine lv_iconst (v := 0) hx hb d_Model_solve_147 (by decide) ?_
            rw [← hQe]
            obtain ⟨hP9, hD9⟩ := xw_sub2 (wc := (fun (u : Nat → Nat) (xav : Nat → Int32) => [(m0, .inr (11, [.int s_thrown, .int s_taped, .ref m1, .int s_size, .int s_outSize, .ref m2, .int s_kind, .int s_value, .int s_begin, .int s_end, .int s_failed, .ref m3, .ref m4, .ref m5, .int s_isProgram, .int s_half, .ref m6, .ref m7, .ref m8, .ref m9, .ref m10, .ref m11, .ref m12, .ref m13, .ref m14, .ref m15, .ref m16, .ref m17, .ref m18, .ref m19, .ref m20, .int s_signs, .ref m21, .int s_stacked, .ref m22, .int s_name, .int s_shift, .int s_statements, .int s_ifs, .int s_whiles, .int s_variants, .int s_open, .ref m23, .int s_isMade, .int s_conditions, .ref m24, .ref m25, .ref m26, .ref m27, .int s_kept, .ref m28, .int s_tops, .ref m29, .int s_used, .ref m30, .ref m31, .int s_looked, .int s_rows, .int s_firstRow, .ref m32, .ref m33, .ref m34, .ref m35, .ref m36, .ref m37, .ref m38, .ref m39, .ref m40, .int s_isBroken, .ref m41, .int s_atoms, .ref m42])), (m40, .inl (ax 0, 11, .inl xav)), (m38, .inl (ax 0, 121, .inl bd)), (m39, .inl (ax 3, 121, .inl ib))]) (ixn [0]) av2) hP hD [0, 1, 2, 3] (by decide) rfl
            have hex0 : slQ8 bd ib av2 (0) := (slQ8_of hP8 (by first | assumption | omega) (by first | assumption | omega))
            have hsp0 : 0 ≤ 1 := (by first | assumption | omega)
            exact W.zret (v := 0) hx hb hr rfl (fun t ht hW => ⟨⟨0, ixn [0], rfl, ⟨rfl, hsp0⟩, ⟨av2, hex0, by rw [ht]; exact hP9, hD9⟩⟩, hS.F ht⟩) hS.2.2 d_Model_solve_148
          · replace c_11 : mo = 0 := (nI_eq (a := mo) (b := 0) (by first | exact Nat.lt_of_lt_of_le (by assumption) (by decide) | exact Nat.lt_of_le_of_lt (by assumption) (by decide) | omega) (by decide)).mp c_11
            refine lv_iconst (v := 1) hx hb d_Model_solve_143 (by decide) ?_
            refine lv_goto (tgt := 148) hx hb d_Model_solve_144 (by decide) ?_
            rw [← hQe]
            obtain ⟨hP9, hD9⟩ := xw_sub2 (wc := (fun (u : Nat → Nat) (xav : Nat → Int32) => [(m0, .inr (11, [.int s_thrown, .int s_taped, .ref m1, .int s_size, .int s_outSize, .ref m2, .int s_kind, .int s_value, .int s_begin, .int s_end, .int s_failed, .ref m3, .ref m4, .ref m5, .int s_isProgram, .int s_half, .ref m6, .ref m7, .ref m8, .ref m9, .ref m10, .ref m11, .ref m12, .ref m13, .ref m14, .ref m15, .ref m16, .ref m17, .ref m18, .ref m19, .ref m20, .int s_signs, .ref m21, .int s_stacked, .ref m22, .int s_name, .int s_shift, .int s_statements, .int s_ifs, .int s_whiles, .int s_variants, .int s_open, .ref m23, .int s_isMade, .int s_conditions, .ref m24, .ref m25, .ref m26, .ref m27, .int s_kept, .ref m28, .int s_tops, .ref m29, .int s_used, .ref m30, .ref m31, .int s_looked, .int s_rows, .int s_firstRow, .ref m32, .ref m33, .ref m34, .ref m35, .ref m36, .ref m37, .ref m38, .ref m39, .ref m40, .int s_isBroken, .ref m41, .int s_atoms, .ref m42])), (m40, .inl (ax 0, 11, .inl xav)), (m38, .inl (ax 0, 121, .inl bd)), (m39, .inl (ax 3, 121, .inl ib))]) (ixn [1]) av2) hP hD [0, 1, 2, 3] (by decide) rfl
            have hex0 : slQ8 bd ib av2 (1) := (slQ8_of hP8 (by first | assumption | omega) (by first | assumption | omega))
            have hsp0 : 1 ≤ 1 := (by first | assumption | omega)
            exact W.zret (v := 1) hx hb hr rfl (fun t ht hW => ⟨⟨1, ixn [1], rfl, ⟨rfl, hsp0⟩, ⟨av2, hex0, by rw [ht]; exact hP9, hD9⟩⟩, hS.F ht⟩) hS.2.2 d_Model_solve_148
        · replace c_10 : ¬ 12 ≤ p1 := fun hq9 => c_10 ((nI_leI (a := 12) (b := p1) (by decide) (by first | exact Nat.lt_of_lt_of_le (by assumption) (by decide) | exact Nat.lt_of_le_of_lt (by assumption) (by decide) | omega)).mpr hq9)
          refine lv_iload_n hx hb d_Model_solve_31 rfl (lv_at hl1 1 rfl) ?_
          refine lv_if_eq (tgt := 139) hx hb d_Model_solve_32 (by decide) (fun c_12 => ?_) (fun c_12 => ?_)
          · replace c_12 : mo = 0 := (nI_eq (a := mo) (b := 0) (by first | exact Nat.lt_of_lt_of_le (by assumption) (by decide) | exact Nat.lt_of_le_of_lt (by assumption) (by decide) | omega) (by decide)).mp c_12
            refine lv_iload_n hx hb d_Model_solve_139 rfl (lv_at hl1 1 rfl) ?_
            refine lv_if_ne (tgt := 147) hx hb d_Model_solve_140 (by decide) (fun c_13 => ?_) (fun c_13 => ?_)
            · replace c_13 : ¬ mo = 0 := fun hq9 => c_13 ((nI_eq (a := mo) (b := 0) (by first | exact Nat.lt_of_lt_of_le (by assumption) (by decide) | exact Nat.lt_of_le_of_lt (by assumption) (by decide) | omega) (by decide)).mpr hq9)
              refine lv_iconst (v := 0) hx hb d_Model_solve_147 (by decide) ?_
              rw [← hQe]
              obtain ⟨hP9, hD9⟩ := xw_sub2 (wc := (fun (u : Nat → Nat) (xav : Nat → Int32) => [(m0, .inr (11, [.int s_thrown, .int s_taped, .ref m1, .int s_size, .int s_outSize, .ref m2, .int s_kind, .int s_value, .int s_begin, .int s_end, .int s_failed, .ref m3, .ref m4, .ref m5, .int s_isProgram, .int s_half, .ref m6, .ref m7, .ref m8, .ref m9, .ref m10, .ref m11, .ref m12, .ref m13, .ref m14, .ref m15, .ref m16, .ref m17, .ref m18, .ref m19, .ref m20, .int s_signs, .ref m21, .int s_stacked, .ref m22, .int s_name, .int s_shift, .int s_statements, .int s_ifs, .int s_whiles, .int s_variants, .int s_open, .ref m23, .int s_isMade, .int s_conditions, .ref m24, .ref m25, .ref m26, .ref m27, .int s_kept, .ref m28, .int s_tops, .ref m29, .int s_used, .ref m30, .ref m31, .int s_looked, .int s_rows, .int s_firstRow, .ref m32, .ref m33, .ref m34, .ref m35, .ref m36, .ref m37, .ref m38, .ref m39, .ref m40, .int s_isBroken, .ref m41, .int s_atoms, .ref m42])), (m40, .inl (ax 0, 11, .inl xav)), (m38, .inl (ax 0, 121, .inl bd)), (m39, .inl (ax 3, 121, .inl ib))]) (ixn [0]) av2) hP hD [0, 1, 2, 3] (by decide) rfl
              have hex0 : slQ8 bd ib av2 (0) := (slQ8_of hP8 (by first | assumption | omega) (by first | assumption | omega))
              have hsp0 : 0 ≤ 1 := (by first | assumption | omega)
              exact W.zret (v := 0) hx hb hr rfl (fun t ht hW => ⟨⟨0, ixn [0], rfl, ⟨rfl, hsp0⟩, ⟨av2, hex0, by rw [ht]; exact hP9, hD9⟩⟩, hS.F ht⟩) hS.2.2 d_Model_solve_148
            · replace c_13 : mo = 0 := (nI_eq (a := mo) (b := 0) (by first | exact Nat.lt_of_lt_of_le (by assumption) (by decide) | exact Nat.lt_of_le_of_lt (by assumption) (by decide) | omega) (by decide)).mp c_13
              refine lv_iconst (v := 1) hx hb d_Model_solve_143 (by decide) ?_
              refine lv_goto (tgt := 148) hx hb d_Model_solve_144 (by decide) ?_
              rw [← hQe]
              obtain ⟨hP9, hD9⟩ := xw_sub2 (wc := (fun (u : Nat → Nat) (xav : Nat → Int32) => [(m0, .inr (11, [.int s_thrown, .int s_taped, .ref m1, .int s_size, .int s_outSize, .ref m2, .int s_kind, .int s_value, .int s_begin, .int s_end, .int s_failed, .ref m3, .ref m4, .ref m5, .int s_isProgram, .int s_half, .ref m6, .ref m7, .ref m8, .ref m9, .ref m10, .ref m11, .ref m12, .ref m13, .ref m14, .ref m15, .ref m16, .ref m17, .ref m18, .ref m19, .ref m20, .int s_signs, .ref m21, .int s_stacked, .ref m22, .int s_name, .int s_shift, .int s_statements, .int s_ifs, .int s_whiles, .int s_variants, .int s_open, .ref m23, .int s_isMade, .int s_conditions, .ref m24, .ref m25, .ref m26, .ref m27, .int s_kept, .ref m28, .int s_tops, .ref m29, .int s_used, .ref m30, .ref m31, .int s_looked, .int s_rows, .int s_firstRow, .ref m32, .ref m33, .ref m34, .ref m35, .ref m36, .ref m37, .ref m38, .ref m39, .ref m40, .int s_isBroken, .ref m41, .int s_atoms, .ref m42])), (m40, .inl (ax 0, 11, .inl xav)), (m38, .inl (ax 0, 121, .inl bd)), (m39, .inl (ax 3, 121, .inl ib))]) (ixn [1]) av2) hP hD [0, 1, 2, 3] (by decide) rfl
              have hex0 : slQ8 bd ib av2 (1) := (slQ8_of hP8 (by first | assumption | omega) (by first | assumption | omega))
              have hsp0 : 1 ≤ 1 := (by first | assumption | omega)
              exact W.zret (v := 1) hx hb hr rfl (fun t ht hW => ⟨⟨1, ixn [1], rfl, ⟨rfl, hsp0⟩, ⟨av2, hex0, by rw [ht]; exact hP9, hD9⟩⟩, hS.F ht⟩) hS.2.2 d_Model_solve_148
          · replace c_12 : ¬ mo = 0 := fun hq9 => c_12 ((nI_eq (a := mo) (b := 0) (by first | exact Nat.lt_of_lt_of_le (by assumption) (by decide) | exact Nat.lt_of_le_of_lt (by assumption) (by decide) | omega) (by decide)).mpr hq9)
            refine lv_iconst (v := 0) hx hb d_Model_solve_35 (by decide) ?_
            refine lv_istore_n (lv' := [(1, .int 0), (0, .ref m0), (2, .int (nI p1))]) hx hb d_Model_solve_36 rfl hl1 (by decide) rfl (fun ls hl2 => ?_)
            clear hl1; have hl1 := hl2; clear hl2
            refine lv_iconst (v := 0) hx hb d_Model_solve_37 (by decide) ?_
            refine lv_istore_n (lv' := [(3, .int 0), (1, .int 0), (0, .ref m0), (2, .int (nI p1))]) hx hb d_Model_solve_38 rfl hl1 (by decide) rfl (fun ls hl2 => ?_)
            clear hl1; have hl1 := hl2; clear hl2
            suffices key_14 : ∀ (k : Nat) (x9 mo3 : Nat) (av3 : Nat → Int32), 11 - x9 < k → x9 ≤ 11 → mo3 ≤ 1 → sI8 bd ib (lI8 av2) (lI8 av3) x9 0 mo3 → lo8 av3 (121 * p1 + 11 * x9) → ∀ (H : Heap) (locs : List Loc) (ls : Array Slot), va_P D classes [(m0, .inr (11, [.int s_thrown, .int s_taped, .ref m1, .int s_size, .int s_outSize, .ref m2, .int s_kind, .int s_value, .int s_begin, .int s_end, .int s_failed, .ref m3, .ref m4, .ref m5, .int s_isProgram, .int s_half, .ref m6, .ref m7, .ref m8, .ref m9, .ref m10, .ref m11, .ref m12, .ref m13, .ref m14, .ref m15, .ref m16, .ref m17, .ref m18, .ref m19, .ref m20, .int s_signs, .ref m21, .int s_stacked, .ref m22, .int s_name, .int s_shift, .int s_statements, .int s_ifs, .int s_whiles, .int s_variants, .int s_open, .ref m23, .int s_isMade, .int s_conditions, .ref m24, .ref m25, .ref m26, .ref m27, .int s_kept, .ref m28, .int s_tops, .ref m29, .int s_used, .ref m30, .ref m31, .int s_looked, .int s_rows, .int s_firstRow, .ref m32, .ref m33, .ref m34, .ref m35, .ref m36, .ref m37, .ref m38, .ref m39, .ref m40, .int s_isBroken, .ref m41, .int s_atoms, .ref m42])), (m40, .inl (ax 0, 11, .inl av3)), (m38, .inl (ax 0, 121, .inl bd)), (m39, .inl (ax 3, 121, .inl ib))] H → va_D A [(m0, .inr (11, [.int s_thrown, .int s_taped, .ref m1, .int s_size, .int s_outSize, .ref m2, .int s_kind, .int s_value, .int s_begin, .int s_end, .int s_failed, .ref m3, .ref m4, .ref m5, .int s_isProgram, .int s_half, .ref m6, .ref m7, .ref m8, .ref m9, .ref m10, .ref m11, .ref m12, .ref m13, .ref m14, .ref m15, .ref m16, .ref m17, .ref m18, .ref m19, .ref m20, .int s_signs, .ref m21, .int s_stacked, .ref m22, .int s_name, .int s_shift, .int s_statements, .int s_ifs, .int s_whiles, .int s_variants, .int s_open, .ref m23, .int s_isMade, .int s_conditions, .ref m24, .ref m25, .ref m26, .ref m27, .int s_kept, .ref m28, .int s_tops, .ref m29, .int s_used, .ref m30, .ref m31, .int s_looked, .int s_rows, .int s_firstRow, .ref m32, .ref m33, .ref m34, .ref m35, .ref m36, .ref m37, .ref m38, .ref m39, .ref m40, .int s_isBroken, .ref m41, .int s_atoms, .ref m42])), (m40, .inl (ax 0, 11, .inl av3)), (m38, .inl (ax 0, 121, .inl bd)), (m39, .inl (ax 3, 121, .inl ib))] → va_S A s.heap H locs → lv_has ls 6 [(0, .ref m0), (1, .int (nI mo3)), (2, .int (nI p1)), (3, .int (nI x9))] → W p l e (headSpec (xws (.code y_Model_solve b_Model_solve 6 (some .boolean))) ({ frames := 10, cells := 0, slots := 0, locals := 400 })).room s m ([.ref m0] : List Value).toArray below meth c H locs 0 0 Z9 (F0 m 39 ls []) from key_14 (11 - 0 + 1) 0 0 av2 (Nat.lt_succ_self _) (by first | assumption | omega) (by first | assumption | omega) (sI8_0 hP8) (hl8.up (by first | assumption | omega)) _ _ _ (hP) (hD) hS (lv_sub hl1 [2, 1, 3, 0] rfl)
            intro k_15
            induction k_15 with
            | zero =>
              intro x9 mo3 av3 hk_17
              exact absurd hk_17 (Nat.not_lt_zero _)
            | succ k_15 ih_16 =>
              clear hP hD hS hl1
              intro x9 mo3 av3 hk_17 hx9 hmo3 hI8 hl39 H locs ls hP hD hS hl1
              refine lv_iload_n hx hb d_Model_solve_39 rfl (lv_at hl1 3 rfl) ?_
              refine lv_bipush (v := 11) hx hb d_Model_solve_40 (by decide) ?_
              refine lv_icmp_ge (tgt := 133) hx hb d_Model_solve_42 (by decide) (fun c_18 => ?_) (fun c_18 => ?_)
              · replace c_18 : 11 ≤ x9 := (nI_leI (a := 11) (b := x9) (by decide) (by first | exact Nat.lt_of_lt_of_le (by assumption) (by decide) | exact Nat.lt_of_le_of_lt (by assumption) (by decide) | omega)).mp c_18
                refine lv_iinc (v := nI (p1 + 1)) (lv' := [(2, .int (nI (p1 + 1))), (0, .ref m0), (1, .int (nI mo3)), (3, .int (nI x9))]) hx hb d_Model_solve_133 hl1 (k := 2) rfl (nI_add p1 1) (by decide) rfl (fun ls hl2 => ?_)
                clear hl1; have hl1 := hl2; clear hl2
                refine lv_goto (tgt := 25) hx hb d_Model_solve_136 (by decide) ?_
                exact ih_8 (p1 + 1) mo3 av3 (by first | assumption | omega) (by first | assumption | omega) (by first | assumption | omega) (sP8_nx hP8 (by first | assumption | omega) hI8 (by first | assumption | omega)) (hl39.up (by first | assumption | omega)) _ _ _ (hP.sub [0, 1, 2, 3] rfl) (hD.sub [0, 1, 2, 3] (by decide) rfl) hS (lv_sub hl1 [1, 2, 0] rfl)
              · replace c_18 : ¬ 11 ≤ x9 := fun hq9 => c_18 ((nI_leI (a := 11) (b := x9) (by decide) (by first | exact Nat.lt_of_lt_of_le (by assumption) (by decide) | exact Nat.lt_of_le_of_lt (by assumption) (by decide) | omega)).mpr hq9)
                refine lv_iconst (v := 0) hx hb d_Model_solve_45 (by decide) ?_
                refine lv_istore (lv' := [(4, .int 0), (0, .ref m0), (1, .int (nI mo3)), (2, .int (nI p1)), (3, .int (nI x9))]) hx hb d_Model_solve_46 hl1 (by decide) rfl (fun ls hl2 => ?_)
                clear hl1; have hl1 := hl2; clear hl2
                suffices key_19 : ∀ (k : Nat) (y9 mo4 : Nat) (av4 : Nat → Int32), 11 - y9 < k → y9 ≤ 11 → mo4 ≤ 1 → sI8 bd ib (lI8 av2) (lI8 av4) x9 y9 mo4 → lo8 av4 (121 * p1 + 11 * x9 + y9) → ∀ (H : Heap) (locs : List Loc) (ls : Array Slot), va_P D classes [(m0, .inr (11, [.int s_thrown, .int s_taped, .ref m1, .int s_size, .int s_outSize, .ref m2, .int s_kind, .int s_value, .int s_begin, .int s_end, .int s_failed, .ref m3, .ref m4, .ref m5, .int s_isProgram, .int s_half, .ref m6, .ref m7, .ref m8, .ref m9, .ref m10, .ref m11, .ref m12, .ref m13, .ref m14, .ref m15, .ref m16, .ref m17, .ref m18, .ref m19, .ref m20, .int s_signs, .ref m21, .int s_stacked, .ref m22, .int s_name, .int s_shift, .int s_statements, .int s_ifs, .int s_whiles, .int s_variants, .int s_open, .ref m23, .int s_isMade, .int s_conditions, .ref m24, .ref m25, .ref m26, .ref m27, .int s_kept, .ref m28, .int s_tops, .ref m29, .int s_used, .ref m30, .ref m31, .int s_looked, .int s_rows, .int s_firstRow, .ref m32, .ref m33, .ref m34, .ref m35, .ref m36, .ref m37, .ref m38, .ref m39, .ref m40, .int s_isBroken, .ref m41, .int s_atoms, .ref m42])), (m40, .inl (ax 0, 11, .inl av4)), (m38, .inl (ax 0, 121, .inl bd)), (m39, .inl (ax 3, 121, .inl ib))] H → va_D A [(m0, .inr (11, [.int s_thrown, .int s_taped, .ref m1, .int s_size, .int s_outSize, .ref m2, .int s_kind, .int s_value, .int s_begin, .int s_end, .int s_failed, .ref m3, .ref m4, .ref m5, .int s_isProgram, .int s_half, .ref m6, .ref m7, .ref m8, .ref m9, .ref m10, .ref m11, .ref m12, .ref m13, .ref m14, .ref m15, .ref m16, .ref m17, .ref m18, .ref m19, .ref m20, .int s_signs, .ref m21, .int s_stacked, .ref m22, .int s_name, .int s_shift, .int s_statements, .int s_ifs, .int s_whiles, .int s_variants, .int s_open, .ref m23, .int s_isMade, .int s_conditions, .ref m24, .ref m25, .ref m26, .ref m27, .int s_kept, .ref m28, .int s_tops, .ref m29, .int s_used, .ref m30, .ref m31, .int s_looked, .int s_rows, .int s_firstRow, .ref m32, .ref m33, .ref m34, .ref m35, .ref m36, .ref m37, .ref m38, .ref m39, .ref m40, .int s_isBroken, .ref m41, .int s_atoms, .ref m42])), (m40, .inl (ax 0, 11, .inl av4)), (m38, .inl (ax 0, 121, .inl bd)), (m39, .inl (ax 3, 121, .inl ib))] → va_S A s.heap H locs → lv_has ls 6 [(0, .ref m0), (1, .int (nI mo4)), (2, .int (nI p1)), (3, .int (nI x9)), (4, .int (nI y9))] → W p l e (headSpec (xws (.code y_Model_solve b_Model_solve 6 (some .boolean))) ({ frames := 10, cells := 0, slots := 0, locals := 400 })).room s m ([.ref m0] : List Value).toArray below meth c H locs 0 0 Z9 (F0 m 48 ls []) from key_19 (11 - 0 + 1) 0 mo3 av3 (Nat.lt_succ_self _) (by first | assumption | omega) (by first | assumption | omega) hI8 (hl39.up (by first | assumption | omega)) _ _ _ (hP) (hD) hS (lv_sub hl1 [1, 2, 3, 4, 0] rfl)
                intro k_20
                induction k_20 with
                | zero =>
                  intro y9 mo4 av4 hk_22
                  exact absurd hk_22 (Nat.not_lt_zero _)
                | succ k_20 ih_21 =>
                  clear hP hD hS hl1
                  intro y9 mo4 av4 hk_22 hy9 hmo4 hJ8 hl48 H locs ls hP hD hS hl1
                  refine lv_iload hx hb d_Model_solve_48 (lv_at hl1 4 rfl) ?_
                  refine lv_bipush (v := 11) hx hb d_Model_solve_50 (by decide) ?_
                  refine lv_icmp_ge (tgt := 127) hx hb d_Model_solve_52 (by decide) (fun c_23 => ?_) (fun c_23 => ?_)
                  · replace c_23 : 11 ≤ y9 := (nI_leI (a := 11) (b := y9) (by decide) (by first | exact Nat.lt_of_lt_of_le (by assumption) (by decide) | exact Nat.lt_of_le_of_lt (by assumption) (by decide) | omega)).mp c_23
                    refine lv_iinc (v := nI (x9 + 1)) (lv' := [(3, .int (nI (x9 + 1))), (0, .ref m0), (1, .int (nI mo4)), (2, .int (nI p1)), (4, .int (nI y9))]) hx hb d_Model_solve_127 hl1 (k := 3) rfl (nI_add x9 1) (by decide) rfl (fun ls hl2 => ?_)
                    clear hl1; have hl1 := hl2; clear hl2
                    refine lv_goto (tgt := 39) hx hb d_Model_solve_130 (by decide) ?_
                    exact ih_16 (x9 + 1) mo4 av4 (by first | assumption | omega) (by first | assumption | omega) (by first | assumption | omega) (sI8_nx hJ8 (by first | assumption | omega)) (hl48.up (by first | assumption | omega)) _ _ _ (hP.sub [0, 1, 2, 3] rfl) (hD.sub [0, 1, 2, 3] (by decide) rfl) hS (lv_sub hl1 [1, 2, 3, 0] rfl)
                  · replace c_23 : ¬ 11 ≤ y9 := fun hq9 => c_23 ((nI_leI (a := 11) (b := y9) (by decide) (by first | exact Nat.lt_of_lt_of_le (by assumption) (by decide) | exact Nat.lt_of_le_of_lt (by assumption) (by decide) | omega)).mpr hq9)
                    refine lv_bipush (v := 11) hx hb d_Model_solve_55 (by decide) ?_
                    refine lv_iload_n hx hb d_Model_solve_57 rfl (lv_at hl1 3 rfl) ?_
                    refine lv_imul hx hb d_Model_solve_58 ?_
                    refine lv_topi (fun z_24 ez_24 => ?_)
                    have ez_24 : z_24 = nI (11 * x9) := ez_24.trans (pk_mul 11 x9)
                    subst ez_24
                    refine lv_iload hx hb d_Model_solve_59 (lv_at hl1 4 rfl) ?_
                    refine lv_iadd hx hb d_Model_solve_61 ?_
                    refine lv_topi (fun z_25 ez_25 => ?_)
                    have ez_25 : z_25 = nI (11 * x9 + y9) := ez_25.trans (nI_add (11 * x9) y9)
                    subst ez_25
                    refine lv_istore (lv' := [(5, .int (nI (11 * x9 + y9))), (0, .ref m0), (1, .int (nI mo4)), (2, .int (nI p1)), (3, .int (nI x9)), (4, .int (nI y9))]) hx hb d_Model_solve_62 hl1 (by decide) rfl (fun ls hl2 => ?_)
                    clear hl1; have hl1 := hl2; clear hl2
                    refine lv_aload_n hx hb d_Model_solve_64 rfl (lv_at hl1 1 rfl) ?_
                    refine va_get (D := D) (ci := 11) (v := .ref m39) (C := R_Model) (T := F_Model) (N := 72) hx hb hts i_Model hown hK.1 hP 0 rfl rfl 66 (by decide) (hts _ wd_1102) (fun _ h9 => h9) rfl d_Model_solve_65 ?_
                    refine lv_iload hx hb d_Model_solve_68 (lv_at hl1 0 rfl) ?_
                    refine va_zald hx hb hK.1 hP 3 3 rfl rfl (vp_in_nI (by first | assumption | omega) (by decide)) d_Model_solve_70 ?_
                    refine W.eq (g2 := F0 m 71 ls [.int (ib (11 * x9 + y9))]) (by rw [nI_clamp (by first | exact Nat.lt_of_lt_of_le (by assumption) (by decide) | exact Nat.lt_of_le_of_lt (by assumption) (by decide) | omega)]) ?_
                    refine lv_if_eq (tgt := 121) hx hb d_Model_solve_71 (by decide) (fun c_26 => ?_) (fun c_26 => ?_)
                    · refine lv_iinc (v := nI (y9 + 1)) (lv' := [(4, .int (nI (y9 + 1))), (5, .int (nI (11 * x9 + y9))), (0, .ref m0), (1, .int (nI mo4)), (2, .int (nI p1)), (3, .int (nI x9))]) hx hb d_Model_solve_121 hl1 (k := 5) rfl (nI_add y9 1) (by decide) rfl (fun ls hl2 => ?_)
                      clear hl1; have hl1 := hl2; clear hl2
                      refine lv_goto (tgt := 48) hx hb d_Model_solve_124 (by decide) ?_
                      exact ih_21 (y9 + 1) mo4 av4 (by first | assumption | omega) (by first | assumption | omega) (by first | assumption | omega) (sI8_no hJ8 (by assumption)) (hl48.up (by first | assumption | omega)) _ _ _ (hP.sub [0, 1, 2, 3] rfl) (hD.sub [0, 1, 2, 3] (by decide) rfl) hS (lv_sub hl1 [2, 3, 4, 5, 0] rfl)
                    · refine lv_aload_n hx hb d_Model_solve_74 rfl (lv_at hl1 1 rfl) ?_
                      refine va_get (D := D) (ci := 11) (v := .ref m40) (C := R_Model) (T := F_Model) (N := 72) hx hb hts i_Model hown hK.1 hP 0 rfl rfl 67 (by decide) (hts _ wd_1103) (fun _ h9 => h9) rfl d_Model_solve_75 ?_
                      refine lv_iload hx hb d_Model_solve_78 (lv_at hl1 5 rfl) ?_
                      refine va_iald hx hb hK.1 hP 1 0 rfl rfl (vp_in_nI (by first | assumption | omega) (by decide)) d_Model_solve_80 ?_
                      refine W.eq (g2 := F0 m 81 ls [.int (av4 y9)]) (by rw [nI_clamp (by first | exact Nat.lt_of_lt_of_le (by assumption) (by decide) | exact Nat.lt_of_le_of_lt (by assumption) (by decide) | omega)]) ?_
                      refine lv_aload_n hx hb d_Model_solve_81 rfl (lv_at hl1 1 rfl) ?_
                      refine va_get (D := D) (ci := 11) (v := .ref m38) (C := R_Model) (T := F_Model) (N := 72) hx hb hts i_Model hown hK.1 hP 0 rfl rfl 65 (by decide) (hts _ wd_1101) (fun _ h9 => h9) rfl d_Model_solve_82 ?_
                      refine lv_iload hx hb d_Model_solve_85 (lv_at hl1 0 rfl) ?_
                      refine va_iald hx hb hK.1 hP 2 0 rfl rfl (vp_in_nI (by first | assumption | omega) (by decide)) d_Model_solve_87 ?_
                      refine W.eq (g2 := F0 m 88 ls [.int (bd (11 * x9 + y9)), .int (av4 y9)]) (by rw [nI_clamp (by first | exact Nat.lt_of_lt_of_le (by assumption) (by decide) | exact Nat.lt_of_le_of_lt (by assumption) (by decide) | omega)]) ?_
                      refine lv_iadd hx hb d_Model_solve_88 ?_
                      refine lv_topi (fun z_27 ez_27 => ?_)
                      refine lv_aload_n hx hb d_Model_solve_89 rfl (lv_at hl1 1 rfl) ?_
                      refine va_get (D := D) (ci := 11) (v := .ref m40) (C := R_Model) (T := F_Model) (N := 72) hx hb hts i_Model hown hK.1 hP 0 rfl rfl 67 (by decide) (hts _ wd_1103) (fun _ h9 => h9) rfl d_Model_solve_90 ?_
                      refine lv_iload_n hx hb d_Model_solve_93 rfl (lv_at hl1 4 rfl) ?_
                      refine va_iald hx hb hK.1 hP 1 0 rfl rfl (vp_in_nI (by first | assumption | omega) (by decide)) d_Model_solve_94 ?_
                      refine W.eq (g2 := F0 m 95 ls [.int (av4 x9), .int z_27]) (by rw [nI_clamp (by first | exact Nat.lt_of_lt_of_le (by assumption) (by decide) | exact Nat.lt_of_le_of_lt (by assumption) (by decide) | omega)]) ?_
                      refine lv_icmp_ge (tgt := 121) hx hb d_Model_solve_95 (by decide) (fun c_28 => ?_) (fun c_28 => ?_)
                      · refine lv_iinc (v := nI (y9 + 1)) (lv' := [(4, .int (nI (y9 + 1))), (5, .int (nI (11 * x9 + y9))), (0, .ref m0), (1, .int (nI mo4)), (2, .int (nI p1)), (3, .int (nI x9))]) hx hb d_Model_solve_121 hl1 (k := 5) rfl (nI_add y9 1) (by decide) rfl (fun ls hl2 => ?_)
                        clear hl1; have hl1 := hl2; clear hl2
                        refine lv_goto (tgt := 48) hx hb d_Model_solve_124 (by decide) ?_
                        exact ih_21 (y9 + 1) mo4 av4 (by first | assumption | omega) (by first | assumption | omega) (by first | assumption | omega) (sI8_ge hJ8 hl48 (by first | assumption | omega) hW8 (by first | assumption | omega) (by first | assumption | omega) (by assumption) ez_27 (le8 (by assumption))) (hl48.up (by first | assumption | omega)) _ _ _ (hP.sub [0, 1, 2, 3] rfl) (hD.sub [0, 1, 2, 3] (by decide) rfl) hS (lv_sub hl1 [2, 3, 4, 5, 0] rfl)
                      · refine lv_aload_n hx hb d_Model_solve_98 rfl (lv_at hl1 1 rfl) ?_
                        refine va_get (D := D) (ci := 11) (v := .ref m40) (C := R_Model) (T := F_Model) (N := 72) hx hb hts i_Model hown hK.1 hP 0 rfl rfl 67 (by decide) (hts _ wd_1103) (fun _ h9 => h9) rfl d_Model_solve_99 ?_
                        refine lv_iload_n hx hb d_Model_solve_102 rfl (lv_at hl1 4 rfl) ?_
                        refine lv_aload_n hx hb d_Model_solve_103 rfl (lv_at hl1 1 rfl) ?_
                        refine va_get (D := D) (ci := 11) (v := .ref m40) (C := R_Model) (T := F_Model) (N := 72) hx hb hts i_Model hown hK.1 hP 0 rfl rfl 67 (by decide) (hts _ wd_1103) (fun _ h9 => h9) rfl d_Model_solve_104 ?_
                        refine lv_iload hx hb d_Model_solve_107 (lv_at hl1 5 rfl) ?_
                        refine va_iald hx hb hK.1 hP 1 0 rfl rfl (vp_in_nI (by first | assumption | omega) (by decide)) d_Model_solve_109 ?_
                        refine W.eq (g2 := F0 m 110 ls [.int (av4 y9), .int (nI x9), .ref m40]) (by rw [nI_clamp (by first | exact Nat.lt_of_lt_of_le (by assumption) (by decide) | exact Nat.lt_of_le_of_lt (by assumption) (by decide) | omega)]) ?_
                        refine lv_aload_n hx hb d_Model_solve_110 rfl (lv_at hl1 1 rfl) ?_
                        refine va_get (D := D) (ci := 11) (v := .ref m38) (C := R_Model) (T := F_Model) (N := 72) hx hb hts i_Model hown hK.1 hP 0 rfl rfl 65 (by decide) (hts _ wd_1101) (fun _ h9 => h9) rfl d_Model_solve_111 ?_
                        refine lv_iload hx hb d_Model_solve_114 (lv_at hl1 0 rfl) ?_
                        refine va_iald hx hb hK.1 hP 2 0 rfl rfl (vp_in_nI (by first | assumption | omega) (by decide)) d_Model_solve_116 ?_
                        refine W.eq (g2 := F0 m 117 ls [.int (bd (11 * x9 + y9)), .int (av4 y9), .int (nI x9), .ref m40]) (by rw [nI_clamp (by first | exact Nat.lt_of_lt_of_le (by assumption) (by decide) | exact Nat.lt_of_le_of_lt (by assumption) (by decide) | omega)]) ?_
                        refine lv_iadd hx hb d_Model_solve_117 ?_
                        refine lv_topi (fun z_29 ez_29 => ?_)
                        refine va_iast hx hb hK.1 hP hD hS 1 0 rfl rfl (vp_in_nI (by first | assumption | omega) (by decide)) d_Model_solve_118 (fun H_30 locs hP1 hD1 hS1 => ?_)
                        rw [nI_clamp (by first | exact Nat.lt_of_lt_of_le (by assumption) (by decide) | exact Nat.lt_of_le_of_lt (by assumption) (by decide) | omega)] at hP1 hD1
                        clear hP hD hS
                        have hS := hS1
                        have hW7 : (fun w9 : va_W => va_P D classes w9 H_30 ∧ va_D A w9) [(m0, .inr (11, [.int s_thrown, .int s_taped, .ref m1, .int s_size, .int s_outSize, .ref m2, .int s_kind, .int s_value, .int s_begin, .int s_end, .int s_failed, .ref m3, .ref m4, .ref m5, .int s_isProgram, .int s_half, .ref m6, .ref m7, .ref m8, .ref m9, .ref m10, .ref m11, .ref m12, .ref m13, .ref m14, .ref m15, .ref m16, .ref m17, .ref m18, .ref m19, .ref m20, .int s_signs, .ref m21, .int s_stacked, .ref m22, .int s_name, .int s_shift, .int s_statements, .int s_ifs, .int s_whiles, .int s_variants, .int s_open, .ref m23, .int s_isMade, .int s_conditions, .ref m24, .ref m25, .ref m26, .ref m27, .int s_kept, .ref m28, .int s_tops, .ref m29, .int s_used, .ref m30, .ref m31, .int s_looked, .int s_rows, .int s_firstRow, .ref m32, .ref m33, .ref m34, .ref m35, .ref m36, .ref m37, .ref m38, .ref m39, .ref m40, .int s_isBroken, .ref m41, .int s_atoms, .ref m42])), (m40, .inl (ax 0, 11, .inl (upd av4 x9 z_29))), (m38, .inl (ax 0, 121, .inl bd)), (m39, .inl (ax 3, 121, .inl ib))] := ⟨hP1, hD1⟩
                        obtain ⟨hP, hD⟩ := hW7
                        clear hP1 hD1 hS1
                        refine lv_iconst (v := 1) hx hb d_Model_solve_119 (by decide) ?_
                        refine lv_istore_n (lv' := [(1, .int 1), (5, .int (nI (11 * x9 + y9))), (0, .ref m0), (2, .int (nI p1)), (3, .int (nI x9)), (4, .int (nI y9))]) hx hb d_Model_solve_120 rfl hl1 (by decide) rfl (fun ls hl2 => ?_)
                        clear hl1; have hl1 := hl2; clear hl2
                        refine lv_iinc (v := nI (y9 + 1)) (lv' := [(4, .int (nI (y9 + 1))), (1, .int 1), (5, .int (nI (11 * x9 + y9))), (0, .ref m0), (2, .int (nI p1)), (3, .int (nI x9))]) hx hb d_Model_solve_121 hl1 (k := 5) rfl (nI_add y9 1) (by decide) rfl (fun ls hl2 => ?_)
                        clear hl1; have hl1 := hl2; clear hl2
                        refine lv_goto (tgt := 48) hx hb d_Model_solve_124 (by decide) ?_
                        exact ih_21 (y9 + 1) 1 (upd av4 x9 z_29) (by first | assumption | omega) (by first | assumption | omega) (by first | assumption | omega) (sI8_lt hJ8 hl48 (by first | assumption | omega) hW8 (by first | assumption | omega) (by first | assumption | omega) (by assumption) ez_27 (nl8 (by assumption)) ez_29).1 (sI8_lt hJ8 hl48 (by first | assumption | omega) hW8 (by first | assumption | omega) (by first | assumption | omega) (by assumption) ez_27 (nl8 (by assumption)) ez_29).2 _ _ _ (hP.sub [0, 1, 2, 3] rfl) (hD.sub [0, 1, 2, 3] (by decide) rfl) hS (lv_sub hl1 [3, 1, 4, 5, 0] rfl)
    · replace c_5 : ¬ 11 ≤ i1 := fun hq9 => c_5 ((nI_leI (a := 11) (b := i1) (by decide) (by first | exact Nat.lt_of_lt_of_le (by assumption) (by decide) | exact Nat.lt_of_le_of_lt (by assumption) (by decide) | omega)).mpr hq9)
      refine lv_aload_n hx hb d_Model_solve_8 rfl (lv_at hl1 0 rfl) ?_
      refine va_get (D := D) (ci := 11) (v := .ref m40) (C := R_Model) (T := F_Model) (N := 72) hx hb hts i_Model hown hK.1 hP 0 rfl rfl 67 (by decide) (hts _ wd_1103) (fun _ h9 => h9) rfl d_Model_solve_9 ?_
      refine lv_iload_n hx hb d_Model_solve_12 rfl (lv_at hl1 1 rfl) ?_
      refine lv_iconst (v := 0) hx hb d_Model_solve_13 (by decide) ?_
      refine va_iast hx hb hK.1 hP hD hS 1 0 rfl rfl (vp_in_nI (by first | assumption | omega) (by decide)) d_Model_solve_14 (fun H_31 locs hP1 hD1 hS1 => ?_)
      rw [nI_clamp (by first | exact Nat.lt_of_lt_of_le (by assumption) (by decide) | exact Nat.lt_of_le_of_lt (by assumption) (by decide) | omega)] at hP1 hD1
      clear hP hD hS
      have hS := hS1
      have hW7 : (fun w9 : va_W => va_P D classes w9 H_31 ∧ va_D A w9) [(m0, .inr (11, [.int s_thrown, .int s_taped, .ref m1, .int s_size, .int s_outSize, .ref m2, .int s_kind, .int s_value, .int s_begin, .int s_end, .int s_failed, .ref m3, .ref m4, .ref m5, .int s_isProgram, .int s_half, .ref m6, .ref m7, .ref m8, .ref m9, .ref m10, .ref m11, .ref m12, .ref m13, .ref m14, .ref m15, .ref m16, .ref m17, .ref m18, .ref m19, .ref m20, .int s_signs, .ref m21, .int s_stacked, .ref m22, .int s_name, .int s_shift, .int s_statements, .int s_ifs, .int s_whiles, .int s_variants, .int s_open, .ref m23, .int s_isMade, .int s_conditions, .ref m24, .ref m25, .ref m26, .ref m27, .int s_kept, .ref m28, .int s_tops, .ref m29, .int s_used, .ref m30, .ref m31, .int s_looked, .int s_rows, .int s_firstRow, .ref m32, .ref m33, .ref m34, .ref m35, .ref m36, .ref m37, .ref m38, .ref m39, .ref m40, .int s_isBroken, .ref m41, .int s_atoms, .ref m42])), (m40, .inl (ax 0, 11, .inl (upd av1 i1 0))), (m38, .inl (ax 0, 121, .inl bd)), (m39, .inl (ax 3, 121, .inl ib))] := ⟨hP1, hD1⟩
      obtain ⟨hP, hD⟩ := hW7
      clear hP1 hD1 hS1
      refine lv_iinc (v := nI (i1 + 1)) (lv' := [(1, .int (nI (i1 + 1))), (0, .ref m0)]) hx hb d_Model_solve_15 hl1 (k := 1) rfl (nI_add i1 1) (by decide) rfl (fun ls hl2 => ?_)
      clear hl1; have hl1 := hl2; clear hl2
      refine lv_goto (tgt := 2) hx hb d_Model_solve_18 (by decide) ?_
      exact ih_3 (i1 + 1) (upd av1 i1 0) (by first | assumption | omega) (by first | assumption | omega) hz1.step _ _ _ (hP.sub [0, 1, 2, 3] rfl) (hD.sub [0, 1, 2, 3] (by decide) rfl) hS (lv_sub hl1 [1, 0] rfl)
