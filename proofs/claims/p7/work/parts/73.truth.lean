theorem nIm1 {j : Nat} (h : j < 2 ^ 31) : ¬ nI j = -1 := fun e => by
  have := congrArg Int32.toInt e
  rw [nI_toInt h] at this
  have h2 : (-1 : Int32).toInt = -1 := by decide
  omega
abbrev b_Model_compare : ByteArray := prog_13_method_86_code
def y_Model_compare : MethodName := ⟨R_Model, "compare", "(JIJ)Z"⟩
theorem d_Model_compare_0 : decode b_Model_compare 0 = .ok (.iload_n 2, 1) := by decide +kernel
theorem d_Model_compare_1 : decode b_Model_compare 1 = .ok (.ifCond .ne 17, 3) := by decide +kernel
theorem d_Model_compare_4 : decode b_Model_compare 4 = .ok (.lload_n 0, 1) := by decide +kernel
theorem d_Model_compare_5 : decode b_Model_compare 5 = .ok (.lload_n 3, 1) := by decide +kernel
theorem d_Model_compare_6 : decode b_Model_compare 6 = .ok (.lcmp, 1) := by decide +kernel
theorem d_Model_compare_7 : decode b_Model_compare 7 = .ok (.ifCond .ge 7, 3) := by decide +kernel
theorem d_Model_compare_10 : decode b_Model_compare 10 = .ok (.iconst 1, 1) := by decide +kernel
theorem d_Model_compare_11 : decode b_Model_compare 11 = .ok (.goto 94, 3) := by decide +kernel
theorem d_Model_compare_14 : decode b_Model_compare 14 = .ok (.iconst 0, 1) := by decide +kernel
theorem d_Model_compare_15 : decode b_Model_compare 15 = .ok (.goto 90, 3) := by decide +kernel
theorem d_Model_compare_18 : decode b_Model_compare 18 = .ok (.iload_n 2, 1) := by decide +kernel
theorem d_Model_compare_19 : decode b_Model_compare 19 = .ok (.iconst 1, 1) := by decide +kernel
theorem d_Model_compare_20 : decode b_Model_compare 20 = .ok (.if_icmp .ne 17, 3) := by decide +kernel
theorem d_Model_compare_23 : decode b_Model_compare 23 = .ok (.lload_n 0, 1) := by decide +kernel
theorem d_Model_compare_24 : decode b_Model_compare 24 = .ok (.lload_n 3, 1) := by decide +kernel
theorem d_Model_compare_25 : decode b_Model_compare 25 = .ok (.lcmp, 1) := by decide +kernel
theorem d_Model_compare_26 : decode b_Model_compare 26 = .ok (.ifCond .gt 7, 3) := by decide +kernel
theorem d_Model_compare_29 : decode b_Model_compare 29 = .ok (.iconst 1, 1) := by decide +kernel
theorem d_Model_compare_30 : decode b_Model_compare 30 = .ok (.goto 75, 3) := by decide +kernel
theorem d_Model_compare_33 : decode b_Model_compare 33 = .ok (.iconst 0, 1) := by decide +kernel
theorem d_Model_compare_34 : decode b_Model_compare 34 = .ok (.goto 71, 3) := by decide +kernel
theorem d_Model_compare_37 : decode b_Model_compare 37 = .ok (.iload_n 2, 1) := by decide +kernel
theorem d_Model_compare_38 : decode b_Model_compare 38 = .ok (.iconst 2, 1) := by decide +kernel
theorem d_Model_compare_39 : decode b_Model_compare 39 = .ok (.if_icmp .ne 17, 3) := by decide +kernel
theorem d_Model_compare_42 : decode b_Model_compare 42 = .ok (.lload_n 0, 1) := by decide +kernel
theorem d_Model_compare_43 : decode b_Model_compare 43 = .ok (.lload_n 3, 1) := by decide +kernel
theorem d_Model_compare_44 : decode b_Model_compare 44 = .ok (.lcmp, 1) := by decide +kernel
theorem d_Model_compare_45 : decode b_Model_compare 45 = .ok (.ifCond .ne 7, 3) := by decide +kernel
theorem d_Model_compare_48 : decode b_Model_compare 48 = .ok (.iconst 1, 1) := by decide +kernel
theorem d_Model_compare_49 : decode b_Model_compare 49 = .ok (.goto 56, 3) := by decide +kernel
theorem d_Model_compare_52 : decode b_Model_compare 52 = .ok (.iconst 0, 1) := by decide +kernel
theorem d_Model_compare_53 : decode b_Model_compare 53 = .ok (.goto 52, 3) := by decide +kernel
theorem d_Model_compare_56 : decode b_Model_compare 56 = .ok (.iload_n 2, 1) := by decide +kernel
theorem d_Model_compare_57 : decode b_Model_compare 57 = .ok (.iconst 3, 1) := by decide +kernel
theorem d_Model_compare_58 : decode b_Model_compare 58 = .ok (.if_icmp .ne 17, 3) := by decide +kernel
theorem d_Model_compare_61 : decode b_Model_compare 61 = .ok (.lload_n 0, 1) := by decide +kernel
theorem d_Model_compare_62 : decode b_Model_compare 62 = .ok (.lload_n 3, 1) := by decide +kernel
theorem d_Model_compare_63 : decode b_Model_compare 63 = .ok (.lcmp, 1) := by decide +kernel
theorem d_Model_compare_64 : decode b_Model_compare 64 = .ok (.ifCond .eq 7, 3) := by decide +kernel
theorem d_Model_compare_67 : decode b_Model_compare 67 = .ok (.iconst 1, 1) := by decide +kernel
theorem d_Model_compare_68 : decode b_Model_compare 68 = .ok (.goto 37, 3) := by decide +kernel
theorem d_Model_compare_71 : decode b_Model_compare 71 = .ok (.iconst 0, 1) := by decide +kernel
theorem d_Model_compare_72 : decode b_Model_compare 72 = .ok (.goto 33, 3) := by decide +kernel
theorem d_Model_compare_75 : decode b_Model_compare 75 = .ok (.iload_n 2, 1) := by decide +kernel
theorem d_Model_compare_76 : decode b_Model_compare 76 = .ok (.iconst 4, 1) := by decide +kernel
theorem d_Model_compare_77 : decode b_Model_compare 77 = .ok (.if_icmp .ne 17, 3) := by decide +kernel
theorem d_Model_compare_80 : decode b_Model_compare 80 = .ok (.lload_n 0, 1) := by decide +kernel
theorem d_Model_compare_81 : decode b_Model_compare 81 = .ok (.lload_n 3, 1) := by decide +kernel
theorem d_Model_compare_82 : decode b_Model_compare 82 = .ok (.lcmp, 1) := by decide +kernel
theorem d_Model_compare_83 : decode b_Model_compare 83 = .ok (.ifCond .lt 7, 3) := by decide +kernel
theorem d_Model_compare_86 : decode b_Model_compare 86 = .ok (.iconst 1, 1) := by decide +kernel
theorem d_Model_compare_87 : decode b_Model_compare 87 = .ok (.goto 18, 3) := by decide +kernel
theorem d_Model_compare_90 : decode b_Model_compare 90 = .ok (.iconst 0, 1) := by decide +kernel
theorem d_Model_compare_91 : decode b_Model_compare 91 = .ok (.goto 14, 3) := by decide +kernel
theorem d_Model_compare_94 : decode b_Model_compare 94 = .ok (.lload_n 0, 1) := by decide +kernel
theorem d_Model_compare_95 : decode b_Model_compare 95 = .ok (.lload_n 3, 1) := by decide +kernel
theorem d_Model_compare_96 : decode b_Model_compare 96 = .ok (.lcmp, 1) := by decide +kernel
theorem d_Model_compare_97 : decode b_Model_compare 97 = .ok (.ifCond .le 7, 3) := by decide +kernel
theorem d_Model_compare_100 : decode b_Model_compare 100 = .ok (.iconst 1, 1) := by decide +kernel
theorem d_Model_compare_101 : decode b_Model_compare 101 = .ok (.goto 4, 3) := by decide +kernel
theorem d_Model_compare_104 : decode b_Model_compare 104 = .ok (.iconst 0, 1) := by decide +kernel
theorem d_Model_compare_105 : decode b_Model_compare 105 = .ok (.ireturn, 1) := by decide +kernel
set_option maxHeartbeats 40000000 in
set_option maxRecDepth 100000 in
theorem c_M_compare (l : Launch) (D : va_G) (ax : Nat → ClassId) (w1 w2 : Int64) (x1 : Int32) (sz : Nat) : Met l y_Model_compare (xws (.code y_Model_compare b_Model_compare 5 (some .boolean))) ({ frames := 10, cells := 0, slots := 0, locals := 400 }) (va_Pc [.long w1, .int x1, .long w2] (xo D ax [] sz)) ((va_Qi (fun (r : Int32) (u : Nat → Nat) => r = nI (u 0) ∧ (u 0 ≤ 1)) (xb D (va_A [] sz) (fun u => [])) (va_A [] sz))) 0 0 (va_A [] sz) := by
  refine Met.ofW (cc := b_Model_compare) (maxL := 5) (ret := (some .boolean)) (by decide) rfl ?_
  intro p e s m args below meth c s₁ B hml hv
  obtain ⟨rfl, hsz, hP, hK, hD0⟩ := hv
  have hx := B.exec
  have hb := B.bytes
  have hr := B.returns
  have hts := xw_hts B.pre
  have hown : s.vm.findClass R_Model = some m.cls := findClass_of_methodNamed B.named
  have hlocks := B.notSynchronized
  subst hsz
  have hD := hD0.self (sz := s.heap.size)
  have hN := xz_entry hP
  generalize hAe : va_A [] s.heap.size = A at hD hN ⊢
  have hA : ∀ q : Nat, s.heap.size ≤ q → A q := fun q h => by rw [← hAe]; exact Or.inr h
  have hS : va_S A s.heap s.heap [] := va_S.rf
  have hl0 := lv_entry ([.long w1, .int x1, .long w2]) (n := 5) (Nat.le_of_ble_eq_true rfl)
  rw [lg_entry_eq]
  generalize (lg_sl ([.long w1, .int x1, .long w2]) ++ List.replicate (5 - (lg_sl ([.long w1, .int x1, .long w2])).length) Slot.unset).toArray = ls at hl0 ⊢
  have hl1 : lv_has ls 5 [(0, .long w1), (2, .int x1), (3, .long w2)] := hl0
  refine xw_gen (fun Z9 hQe => ?_)
  refine lv_iload_n hx hb d_Model_compare_0 rfl (lv_at hl1 1 rfl) ?_
  refine lv_if_ne (tgt := 18) hx hb d_Model_compare_1 (by decide) (fun c_1 => ?_) (fun c_1 => ?_)
  · refine lv_iload_n hx hb d_Model_compare_18 rfl (lv_at hl1 1 rfl) ?_
    refine lv_iconst (v := 1) hx hb d_Model_compare_19 (by decide) ?_
    refine lv_icmp_ne (tgt := 37) hx hb d_Model_compare_20 (by decide) (fun c_2 => ?_) (fun c_2 => ?_)
    · refine lv_iload_n hx hb d_Model_compare_37 rfl (lv_at hl1 1 rfl) ?_
      refine lv_iconst (v := 2) hx hb d_Model_compare_38 (by decide) ?_
      refine lv_icmp_ne (tgt := 56) hx hb d_Model_compare_39 (by decide) (fun c_3 => ?_) (fun c_3 => ?_)
      · refine lv_iload_n hx hb d_Model_compare_56 rfl (lv_at hl1 1 rfl) ?_
        refine lv_iconst (v := 3) hx hb d_Model_compare_57 (by decide) ?_
        refine lv_icmp_ne (tgt := 75) hx hb d_Model_compare_58 (by decide) (fun c_4 => ?_) (fun c_4 => ?_)
        · refine lv_iload_n hx hb d_Model_compare_75 rfl (lv_at hl1 1 rfl) ?_
          refine lv_iconst (v := 4) hx hb d_Model_compare_76 (by decide) ?_
          refine lv_icmp_ne (tgt := 94) hx hb d_Model_compare_77 (by decide) (fun c_5 => ?_) (fun c_5 => ?_)
          · refine lv_lload_n hx hb d_Model_compare_94 rfl (lv_at hl1 0 rfl) ?_
            refine lv_lload_n hx hb d_Model_compare_95 rfl (lv_at hl1 2 rfl) ?_
            refine W.lcmp hx hb d_Model_compare_96 ?_
            refine lv_topi (fun z_6 ez_6 => ?_)
            refine lv_if_le (tgt := 104) hx hb d_Model_compare_97 (by decide) (fun c_7 => ?_) (fun c_7 => ?_)
            · refine lv_iconst (v := 0) hx hb d_Model_compare_104 (by decide) ?_
              rw [← hQe]
              obtain ⟨hP9, hD9⟩ := xw_sub2 (wc := (fun u : Nat → Nat => []) (ixn [0])) hP hD [] (by decide) rfl
              have hsp0 : 0 ≤ 1 := (by first | assumption | omega)
              exact W.zret (v := 0) hx hb hr rfl (fun t ht hW => ⟨⟨0, ixn [0], rfl, ⟨rfl, hsp0⟩, ⟨by rw [ht]; exact hP9, hD9⟩⟩, hS.F ht⟩) hS.2.2 d_Model_compare_105
            · refine lv_iconst (v := 1) hx hb d_Model_compare_100 (by decide) ?_
              refine lv_goto (tgt := 105) hx hb d_Model_compare_101 (by decide) ?_
              rw [← hQe]
              obtain ⟨hP9, hD9⟩ := xw_sub2 (wc := (fun u : Nat → Nat => []) (ixn [1])) hP hD [] (by decide) rfl
              have hsp0 : 1 ≤ 1 := (by first | assumption | omega)
              exact W.zret (v := 1) hx hb hr rfl (fun t ht hW => ⟨⟨1, ixn [1], rfl, ⟨rfl, hsp0⟩, ⟨by rw [ht]; exact hP9, hD9⟩⟩, hS.F ht⟩) hS.2.2 d_Model_compare_105
          · refine lv_lload_n hx hb d_Model_compare_80 rfl (lv_at hl1 0 rfl) ?_
            refine lv_lload_n hx hb d_Model_compare_81 rfl (lv_at hl1 2 rfl) ?_
            refine W.lcmp hx hb d_Model_compare_82 ?_
            refine lv_topi (fun z_8 ez_8 => ?_)
            refine lv_if_lt (tgt := 90) hx hb d_Model_compare_83 (by decide) (fun c_9 => ?_) (fun c_9 => ?_)
            · refine lv_iconst (v := 0) hx hb d_Model_compare_90 (by decide) ?_
              refine lv_goto (tgt := 105) hx hb d_Model_compare_91 (by decide) ?_
              rw [← hQe]
              obtain ⟨hP9, hD9⟩ := xw_sub2 (wc := (fun u : Nat → Nat => []) (ixn [0])) hP hD [] (by decide) rfl
              have hsp0 : 0 ≤ 1 := (by first | assumption | omega)
              exact W.zret (v := 0) hx hb hr rfl (fun t ht hW => ⟨⟨0, ixn [0], rfl, ⟨rfl, hsp0⟩, ⟨by rw [ht]; exact hP9, hD9⟩⟩, hS.F ht⟩) hS.2.2 d_Model_compare_105
            · refine lv_iconst (v := 1) hx hb d_Model_compare_86 (by decide) ?_
              refine lv_goto (tgt := 105) hx hb d_Model_compare_87 (by decide) ?_
              rw [← hQe]
              obtain ⟨hP9, hD9⟩ := xw_sub2 (wc := (fun u : Nat → Nat => []) (ixn [1])) hP hD [] (by decide) rfl
              have hsp0 : 1 ≤ 1 := (by first | assumption | omega)
              exact W.zret (v := 1) hx hb hr rfl (fun t ht hW => ⟨⟨1, ixn [1], rfl, ⟨rfl, hsp0⟩, ⟨by rw [ht]; exact hP9, hD9⟩⟩, hS.F ht⟩) hS.2.2 d_Model_compare_105
        · refine lv_lload_n hx hb d_Model_compare_61 rfl (lv_at hl1 0 rfl) ?_
          refine lv_lload_n hx hb d_Model_compare_62 rfl (lv_at hl1 2 rfl) ?_
          refine W.lcmp hx hb d_Model_compare_63 ?_
          refine lv_topi (fun z_10 ez_10 => ?_)
          refine lv_if_eq (tgt := 71) hx hb d_Model_compare_64 (by decide) (fun c_11 => ?_) (fun c_11 => ?_)
          · refine lv_iconst (v := 0) hx hb d_Model_compare_71 (by decide) ?_
            refine lv_goto (tgt := 105) hx hb d_Model_compare_72 (by decide) ?_
            rw [← hQe]
            obtain ⟨hP9, hD9⟩ := xw_sub2 (wc := (fun u : Nat → Nat => []) (ixn [0])) hP hD [] (by decide) rfl
            have hsp0 : 0 ≤ 1 := (by first | assumption | omega)
            exact W.zret (v := 0) hx hb hr rfl (fun t ht hW => ⟨⟨0, ixn [0], rfl, ⟨rfl, hsp0⟩, ⟨by rw [ht]; exact hP9, hD9⟩⟩, hS.F ht⟩) hS.2.2 d_Model_compare_105
          · refine lv_iconst (v := 1) hx hb d_Model_compare_67 (by decide) ?_
            refine lv_goto (tgt := 105) hx hb d_Model_compare_68 (by decide) ?_
            rw [← hQe]
            obtain ⟨hP9, hD9⟩ := xw_sub2 (wc := (fun u : Nat → Nat => []) (ixn [1])) hP hD [] (by decide) rfl
            have hsp0 : 1 ≤ 1 := (by first | assumption | omega)
            exact W.zret (v := 1) hx hb hr rfl (fun t ht hW => ⟨⟨1, ixn [1], rfl, ⟨rfl, hsp0⟩, ⟨by rw [ht]; exact hP9, hD9⟩⟩, hS.F ht⟩) hS.2.2 d_Model_compare_105
      · refine lv_lload_n hx hb d_Model_compare_42 rfl (lv_at hl1 0 rfl) ?_
        refine lv_lload_n hx hb d_Model_compare_43 rfl (lv_at hl1 2 rfl) ?_
        refine W.lcmp hx hb d_Model_compare_44 ?_
        refine lv_topi (fun z_12 ez_12 => ?_)
        refine lv_if_ne (tgt := 52) hx hb d_Model_compare_45 (by decide) (fun c_13 => ?_) (fun c_13 => ?_)
        · refine lv_iconst (v := 0) hx hb d_Model_compare_52 (by decide) ?_
          refine lv_goto (tgt := 105) hx hb d_Model_compare_53 (by decide) ?_
          rw [← hQe]
          obtain ⟨hP9, hD9⟩ := xw_sub2 (wc := (fun u : Nat → Nat => []) (ixn [0])) hP hD [] (by decide) rfl
          have hsp0 : 0 ≤ 1 := (by first | assumption | omega)
          exact W.zret (v := 0) hx hb hr rfl (fun t ht hW => ⟨⟨0, ixn [0], rfl, ⟨rfl, hsp0⟩, ⟨by rw [ht]; exact hP9, hD9⟩⟩, hS.F ht⟩) hS.2.2 d_Model_compare_105
        · refine lv_iconst (v := 1) hx hb d_Model_compare_48 (by decide) ?_
          refine lv_goto (tgt := 105) hx hb d_Model_compare_49 (by decide) ?_
          rw [← hQe]
          obtain ⟨hP9, hD9⟩ := xw_sub2 (wc := (fun u : Nat → Nat => []) (ixn [1])) hP hD [] (by decide) rfl
          have hsp0 : 1 ≤ 1 := (by first | assumption | omega)
          exact W.zret (v := 1) hx hb hr rfl (fun t ht hW => ⟨⟨1, ixn [1], rfl, ⟨rfl, hsp0⟩, ⟨by rw [ht]; exact hP9, hD9⟩⟩, hS.F ht⟩) hS.2.2 d_Model_compare_105
    · refine lv_lload_n hx hb d_Model_compare_23 rfl (lv_at hl1 0 rfl) ?_
      refine lv_lload_n hx hb d_Model_compare_24 rfl (lv_at hl1 2 rfl) ?_
      refine W.lcmp hx hb d_Model_compare_25 ?_
      refine lv_topi (fun z_14 ez_14 => ?_)
      refine lv_if_gt (tgt := 33) hx hb d_Model_compare_26 (by decide) (fun c_15 => ?_) (fun c_15 => ?_)
      · refine lv_iconst (v := 0) hx hb d_Model_compare_33 (by decide) ?_
        refine lv_goto (tgt := 105) hx hb d_Model_compare_34 (by decide) ?_
        rw [← hQe]
        obtain ⟨hP9, hD9⟩ := xw_sub2 (wc := (fun u : Nat → Nat => []) (ixn [0])) hP hD [] (by decide) rfl
        have hsp0 : 0 ≤ 1 := (by first | assumption | omega)
        exact W.zret (v := 0) hx hb hr rfl (fun t ht hW => ⟨⟨0, ixn [0], rfl, ⟨rfl, hsp0⟩, ⟨by rw [ht]; exact hP9, hD9⟩⟩, hS.F ht⟩) hS.2.2 d_Model_compare_105
      · refine lv_iconst (v := 1) hx hb d_Model_compare_29 (by decide) ?_
        refine lv_goto (tgt := 105) hx hb d_Model_compare_30 (by decide) ?_
        rw [← hQe]
        obtain ⟨hP9, hD9⟩ := xw_sub2 (wc := (fun u : Nat → Nat => []) (ixn [1])) hP hD [] (by decide) rfl
        have hsp0 : 1 ≤ 1 := (by first | assumption | omega)
        exact W.zret (v := 1) hx hb hr rfl (fun t ht hW => ⟨⟨1, ixn [1], rfl, ⟨rfl, hsp0⟩, ⟨by rw [ht]; exact hP9, hD9⟩⟩, hS.F ht⟩) hS.2.2 d_Model_compare_105
  · refine lv_lload_n hx hb d_Model_compare_4 rfl (lv_at hl1 0 rfl) ?_
    refine lv_lload_n hx hb d_Model_compare_5 rfl (lv_at hl1 2 rfl) ?_
    refine W.lcmp hx hb d_Model_compare_6 ?_
    refine lv_topi (fun z_16 ez_16 => ?_)
    refine lv_if_ge (tgt := 14) hx hb d_Model_compare_7 (by decide) (fun c_17 => ?_) (fun c_17 => ?_)
    · refine lv_iconst (v := 0) hx hb d_Model_compare_14 (by decide) ?_
      refine lv_goto (tgt := 105) hx hb d_Model_compare_15 (by decide) ?_
      rw [← hQe]
      obtain ⟨hP9, hD9⟩ := xw_sub2 (wc := (fun u : Nat → Nat => []) (ixn [0])) hP hD [] (by decide) rfl
      have hsp0 : 0 ≤ 1 := (by first | assumption | omega)
      exact W.zret (v := 0) hx hb hr rfl (fun t ht hW => ⟨⟨0, ixn [0], rfl, ⟨rfl, hsp0⟩, ⟨by rw [ht]; exact hP9, hD9⟩⟩, hS.F ht⟩) hS.2.2 d_Model_compare_105
    · refine lv_iconst (v := 1) hx hb d_Model_compare_10 (by decide) ?_
      refine lv_goto (tgt := 105) hx hb d_Model_compare_11 (by decide) ?_
      rw [← hQe]
      obtain ⟨hP9, hD9⟩ := xw_sub2 (wc := (fun u : Nat → Nat => []) (ixn [1])) hP hD [] (by decide) rfl
      have hsp0 : 1 ≤ 1 := (by first | assumption | omega)
      exact W.zret (v := 1) hx hb hr rfl (fun t ht hW => ⟨⟨1, ixn [1], rfl, ⟨rfl, hsp0⟩, ⟨by rw [ht]; exact hP9, hD9⟩⟩, hS.F ht⟩) hS.2.2 d_Model_compare_105
abbrev b_Model_termOf : ByteArray := prog_13_method_85_code
def y_Model_termOf : MethodName := ⟨R_Model, "termOf", "(II)J"⟩
theorem d_Model_termOf_0 : decode b_Model_termOf 0 = .ok (.iload_n 1, 1) := by decide +kernel
theorem d_Model_termOf_1 : decode b_Model_termOf 1 = .ok (.iconst (-1), 1) := by decide +kernel
theorem d_Model_termOf_2 : decode b_Model_termOf 2 = .ok (.if_icmp .ne 8, 3) := by decide +kernel
theorem d_Model_termOf_5 : decode b_Model_termOf 5 = .ok (.iload_n 2, 1) := by decide +kernel
theorem d_Model_termOf_6 : decode b_Model_termOf 6 = .ok (.i2l, 1) := by decide +kernel
theorem d_Model_termOf_7 : decode b_Model_termOf 7 = .ok (.goto 12, 3) := by decide +kernel
theorem d_Model_termOf_10 : decode b_Model_termOf 10 = .ok (.aload_n 0, 1) := by decide +kernel
theorem d_Model_termOf_11 : decode b_Model_termOf 11 = .ok (.getfield 137, 3) := by decide +kernel
theorem d_Model_termOf_14 : decode b_Model_termOf 14 = .ok (.iload_n 1, 1) := by decide +kernel
theorem d_Model_termOf_15 : decode b_Model_termOf 15 = .ok (.laload, 1) := by decide +kernel
theorem d_Model_termOf_16 : decode b_Model_termOf 16 = .ok (.iload_n 2, 1) := by decide +kernel
theorem d_Model_termOf_17 : decode b_Model_termOf 17 = .ok (.i2l, 1) := by decide +kernel
theorem d_Model_termOf_18 : decode b_Model_termOf 18 = .ok (.ladd, 1) := by decide +kernel
theorem d_Model_termOf_19 : decode b_Model_termOf 19 = .ok (.lreturn, 1) := by decide +kernel
set_option maxHeartbeats 40000000 in
set_option maxRecDepth 100000 in
theorem c_M_termOf_no (l : Launch) (D : va_G) (ax : Nat → ClassId) (m0 m1 m2 m3 m4 m5 m6 m7 m8 m9 m10 m11 m12 m13 m14 m15 m16 m17 m18 m19 m20 m21 m22 m23 m24 m25 m26 m27 m28 m29 m30 m31 m32 m33 m34 m35 m36 m37 m38 m39 m40 m41 m42 : Nat) (s_thrown s_taped s_size s_outSize s_kind s_value s_begin s_end s_failed s_isProgram s_half s_signs s_stacked s_name s_shift s_statements s_ifs s_whiles s_variants s_open s_isMade s_conditions s_kept s_tops s_used s_looked s_rows s_firstRow s_isBroken s_atoms : Int32) (x2 : Int32) (sz : Nat) : Met l y_Model_termOf (xws (.code y_Model_termOf b_Model_termOf 3 (some .long))) ({ frames := 10, cells := 0, slots := 0, locals := 400 }) (va_Pc [.ref m0, .int (-1), .int x2] (xo D ax [(m0, .inr (11, [.int s_thrown, .int s_taped, .ref m1, .int s_size, .int s_outSize, .ref m2, .int s_kind, .int s_value, .int s_begin, .int s_end, .int s_failed, .ref m3, .ref m4, .ref m5, .int s_isProgram, .int s_half, .ref m6, .ref m7, .ref m8, .ref m9, .ref m10, .ref m11, .ref m12, .ref m13, .ref m14, .ref m15, .ref m16, .ref m17, .ref m18, .ref m19, .ref m20, .int s_signs, .ref m21, .int s_stacked, .ref m22, .int s_name, .int s_shift, .int s_statements, .int s_ifs, .int s_whiles, .int s_variants, .int s_open, .ref m23, .int s_isMade, .int s_conditions, .ref m24, .ref m25, .ref m26, .ref m27, .int s_kept, .ref m28, .int s_tops, .ref m29, .int s_used, .ref m30, .ref m31, .int s_looked, .int s_rows, .int s_firstRow, .ref m32, .ref m33, .ref m34, .ref m35, .ref m36, .ref m37, .ref m38, .ref m39, .ref m40, .int s_isBroken, .ref m41, .int s_atoms, .ref m42]))] sz)) ((va_Ql (fun (r : Int64) (u : Nat → Nat) => r = x2.toInt64) (xb D (va_A [(m0, .inr (11, [.int s_thrown, .int s_taped, .ref m1, .int s_size, .int s_outSize, .ref m2, .int s_kind, .int s_value, .int s_begin, .int s_end, .int s_failed, .ref m3, .ref m4, .ref m5, .int s_isProgram, .int s_half, .ref m6, .ref m7, .ref m8, .ref m9, .ref m10, .ref m11, .ref m12, .ref m13, .ref m14, .ref m15, .ref m16, .ref m17, .ref m18, .ref m19, .ref m20, .int s_signs, .ref m21, .int s_stacked, .ref m22, .int s_name, .int s_shift, .int s_statements, .int s_ifs, .int s_whiles, .int s_variants, .int s_open, .ref m23, .int s_isMade, .int s_conditions, .ref m24, .ref m25, .ref m26, .ref m27, .int s_kept, .ref m28, .int s_tops, .ref m29, .int s_used, .ref m30, .ref m31, .int s_looked, .int s_rows, .int s_firstRow, .ref m32, .ref m33, .ref m34, .ref m35, .ref m36, .ref m37, .ref m38, .ref m39, .ref m40, .int s_isBroken, .ref m41, .int s_atoms, .ref m42]))] sz) (fun u => [(m0, .inr (11, [.int s_thrown, .int s_taped, .ref m1, .int s_size, .int s_outSize, .ref m2, .int s_kind, .int s_value, .int s_begin, .int s_end, .int s_failed, .ref m3, .ref m4, .ref m5, .int s_isProgram, .int s_half, .ref m6, .ref m7, .ref m8, .ref m9, .ref m10, .ref m11, .ref m12, .ref m13, .ref m14, .ref m15, .ref m16, .ref m17, .ref m18, .ref m19, .ref m20, .int s_signs, .ref m21, .int s_stacked, .ref m22, .int s_name, .int s_shift, .int s_statements, .int s_ifs, .int s_whiles, .int s_variants, .int s_open, .ref m23, .int s_isMade, .int s_conditions, .ref m24, .ref m25, .ref m26, .ref m27, .int s_kept, .ref m28, .int s_tops, .ref m29, .int s_used, .ref m30, .ref m31, .int s_looked, .int s_rows, .int s_firstRow, .ref m32, .ref m33, .ref m34, .ref m35, .ref m36, .ref m37, .ref m38, .ref m39, .ref m40, .int s_isBroken, .ref m41, .int s_atoms, .ref m42]))])) (va_A [(m0, .inr (11, [.int s_thrown, .int s_taped, .ref m1, .int s_size, .int s_outSize, .ref m2, .int s_kind, .int s_value, .int s_begin, .int s_end, .int s_failed, .ref m3, .ref m4, .ref m5, .int s_isProgram, .int s_half, .ref m6, .ref m7, .ref m8, .ref m9, .ref m10, .ref m11, .ref m12, .ref m13, .ref m14, .ref m15, .ref m16, .ref m17, .ref m18, .ref m19, .ref m20, .int s_signs, .ref m21, .int s_stacked, .ref m22, .int s_name, .int s_shift, .int s_statements, .int s_ifs, .int s_whiles, .int s_variants, .int s_open, .ref m23, .int s_isMade, .int s_conditions, .ref m24, .ref m25, .ref m26, .ref m27, .int s_kept, .ref m28, .int s_tops, .ref m29, .int s_used, .ref m30, .ref m31, .int s_looked, .int s_rows, .int s_firstRow, .ref m32, .ref m33, .ref m34, .ref m35, .ref m36, .ref m37, .ref m38, .ref m39, .ref m40, .int s_isBroken, .ref m41, .int s_atoms, .ref m42]))] sz))) 0 0 (va_A [(m0, .inr (11, [.int s_thrown, .int s_taped, .ref m1, .int s_size, .int s_outSize, .ref m2, .int s_kind, .int s_value, .int s_begin, .int s_end, .int s_failed, .ref m3, .ref m4, .ref m5, .int s_isProgram, .int s_half, .ref m6, .ref m7, .ref m8, .ref m9, .ref m10, .ref m11, .ref m12, .ref m13, .ref m14, .ref m15, .ref m16, .ref m17, .ref m18, .ref m19, .ref m20, .int s_signs, .ref m21, .int s_stacked, .ref m22, .int s_name, .int s_shift, .int s_statements, .int s_ifs, .int s_whiles, .int s_variants, .int s_open, .ref m23, .int s_isMade, .int s_conditions, .ref m24, .ref m25, .ref m26, .ref m27, .int s_kept, .ref m28, .int s_tops, .ref m29, .int s_used, .ref m30, .ref m31, .int s_looked, .int s_rows, .int s_firstRow, .ref m32, .ref m33, .ref m34, .ref m35, .ref m36, .ref m37, .ref m38, .ref m39, .ref m40, .int s_isBroken, .ref m41, .int s_atoms, .ref m42]))] sz) := by
  refine Met.ofW (cc := b_Model_termOf) (maxL := 3) (ret := (some .long)) (by decide) rfl ?_
  intro p e s m args below meth c s₁ B hml hv
  obtain ⟨rfl, hsz, hP, hK, hD0⟩ := hv
  have hx := B.exec
  have hb := B.bytes
  have hr := B.returns
  have hts := xw_hts B.pre
  have hown : s.vm.findClass R_Model = some m.cls := findClass_of_methodNamed B.named
  have hlocks := B.notSynchronized
  subst hsz
  have hD := hD0.self (sz := s.heap.size)
  have hN := xz_entry hP
  generalize hAe : va_A [(m0, .inr (11, [.int s_thrown, .int s_taped, .ref m1, .int s_size, .int s_outSize, .ref m2, .int s_kind, .int s_value, .int s_begin, .int s_end, .int s_failed, .ref m3, .ref m4, .ref m5, .int s_isProgram, .int s_half, .ref m6, .ref m7, .ref m8, .ref m9, .ref m10, .ref m11, .ref m12, .ref m13, .ref m14, .ref m15, .ref m16, .ref m17, .ref m18, .ref m19, .ref m20, .int s_signs, .ref m21, .int s_stacked, .ref m22, .int s_name, .int s_shift, .int s_statements, .int s_ifs, .int s_whiles, .int s_variants, .int s_open, .ref m23, .int s_isMade, .int s_conditions, .ref m24, .ref m25, .ref m26, .ref m27, .int s_kept, .ref m28, .int s_tops, .ref m29, .int s_used, .ref m30, .ref m31, .int s_looked, .int s_rows, .int s_firstRow, .ref m32, .ref m33, .ref m34, .ref m35, .ref m36, .ref m37, .ref m38, .ref m39, .ref m40, .int s_isBroken, .ref m41, .int s_atoms, .ref m42]))] s.heap.size = A at hD hN ⊢
  have hA : ∀ q : Nat, s.heap.size ≤ q → A q := fun q h => by rw [← hAe]; exact Or.inr h
  have hS : va_S A s.heap s.heap [] := va_S.rf
  have hl0 := lv_entry ([.ref m0, .int (-1), .int x2]) (n := 3) (Nat.le_of_ble_eq_true rfl)
  rw [lg_entry_eq]
  generalize (lg_sl ([.ref m0, .int (-1), .int x2]) ++ List.replicate (3 - (lg_sl ([.ref m0, .int (-1), .int x2])).length) Slot.unset).toArray = ls at hl0 ⊢
  have hl1 : lv_has ls 3 [(0, .ref m0), (1, .int (-1)), (2, .int x2)] := hl0
  refine xw_gen (fun Z9 hQe => ?_)
  refine lv_iload_n hx hb d_Model_termOf_0 rfl (lv_at hl1 1 rfl) ?_
  refine lv_iconst (v := (-1)) hx hb d_Model_termOf_1 (by decide) ?_
  refine lv_icmp_ne (tgt := 10) hx hb d_Model_termOf_2 (by decide) (fun c_1 => ?_) (fun c_1 => ?_)
  · first | exact absurd c_1 (by decide) | exact absurd (by decide) c_1
  refine lv_iload_n hx hb d_Model_termOf_5 rfl (lv_at hl1 2 rfl) ?_
  refine lv_i2l hx hb d_Model_termOf_6 rfl ?_
  refine lv_topl (fun z_2 ez_2 => ?_)
  refine lv_goto (tgt := 19) hx hb d_Model_termOf_7 (by decide) ?_
  rw [← hQe]
  obtain ⟨hP9, hD9⟩ := xw_sub2 (wc := (fun u : Nat → Nat => [(m0, .inr (11, [.int s_thrown, .int s_taped, .ref m1, .int s_size, .int s_outSize, .ref m2, .int s_kind, .int s_value, .int s_begin, .int s_end, .int s_failed, .ref m3, .ref m4, .ref m5, .int s_isProgram, .int s_half, .ref m6, .ref m7, .ref m8, .ref m9, .ref m10, .ref m11, .ref m12, .ref m13, .ref m14, .ref m15, .ref m16, .ref m17, .ref m18, .ref m19, .ref m20, .int s_signs, .ref m21, .int s_stacked, .ref m22, .int s_name, .int s_shift, .int s_statements, .int s_ifs, .int s_whiles, .int s_variants, .int s_open, .ref m23, .int s_isMade, .int s_conditions, .ref m24, .ref m25, .ref m26, .ref m27, .int s_kept, .ref m28, .int s_tops, .ref m29, .int s_used, .ref m30, .ref m31, .int s_looked, .int s_rows, .int s_firstRow, .ref m32, .ref m33, .ref m34, .ref m35, .ref m36, .ref m37, .ref m38, .ref m39, .ref m40, .int s_isBroken, .ref m41, .int s_atoms, .ref m42]))]) (ixn [])) hP hD [0] (by decide) rfl
  exact W.lret (v := z_2) hx hb hr (fun t ht hW => ⟨⟨z_2, ixn [], rfl, (by assumption), ⟨by rw [ht]; exact hP9, hD9⟩⟩, hS.F ht⟩) hS.2.2 d_Model_termOf_19
set_option maxHeartbeats 40000000 in
set_option maxRecDepth 100000 in
theorem c_M_termOf_ok (l : Launch) (D : va_G) (ax : Nat → ClassId) (m0 m1 m2 m3 m4 m5 m6 m7 m8 m9 m10 m11 m12 m13 m14 m15 m16 m17 m18 m19 m20 m21 m22 m23 m24 m25 m26 m27 m28 m29 m30 m31 m32 m33 m34 m35 m36 m37 m38 m39 m40 m41 m42 : Nat) (s_thrown s_taped s_size s_outSize s_kind s_value s_begin s_end s_failed s_isProgram s_half s_signs s_stacked s_name s_shift s_statements s_ifs s_whiles s_variants s_open s_isMade s_conditions s_kept s_tops s_used s_looked s_rows s_firstRow s_isBroken s_atoms : Int32) (j1 : Nat) (x2 : Int32) (vs : Nat → Int64) (sz : Nat) (hj : j1 ≤ 5) : Met l y_Model_termOf (xws (.code y_Model_termOf b_Model_termOf 3 (some .long))) ({ frames := 10, cells := 0, slots := 0, locals := 400 }) (va_Pc [.ref m0, .int (nI j1), .int x2] (xo D ax [(m0, .inr (11, [.int s_thrown, .int s_taped, .ref m1, .int s_size, .int s_outSize, .ref m2, .int s_kind, .int s_value, .int s_begin, .int s_end, .int s_failed, .ref m3, .ref m4, .ref m5, .int s_isProgram, .int s_half, .ref m6, .ref m7, .ref m8, .ref m9, .ref m10, .ref m11, .ref m12, .ref m13, .ref m14, .ref m15, .ref m16, .ref m17, .ref m18, .ref m19, .ref m20, .int s_signs, .ref m21, .int s_stacked, .ref m22, .int s_name, .int s_shift, .int s_statements, .int s_ifs, .int s_whiles, .int s_variants, .int s_open, .ref m23, .int s_isMade, .int s_conditions, .ref m24, .ref m25, .ref m26, .ref m27, .int s_kept, .ref m28, .int s_tops, .ref m29, .int s_used, .ref m30, .ref m31, .int s_looked, .int s_rows, .int s_firstRow, .ref m32, .ref m33, .ref m34, .ref m35, .ref m36, .ref m37, .ref m38, .ref m39, .ref m40, .int s_isBroken, .ref m41, .int s_atoms, .ref m42])), (m41, .inl (ax 4, 6, .inr (.inl vs)))] sz)) ((va_Ql (fun (r : Int64) (u : Nat → Nat) => r = (vs j1 + x2.toInt64)) (xb D (va_A [(m0, .inr (11, [.int s_thrown, .int s_taped, .ref m1, .int s_size, .int s_outSize, .ref m2, .int s_kind, .int s_value, .int s_begin, .int s_end, .int s_failed, .ref m3, .ref m4, .ref m5, .int s_isProgram, .int s_half, .ref m6, .ref m7, .ref m8, .ref m9, .ref m10, .ref m11, .ref m12, .ref m13, .ref m14, .ref m15, .ref m16, .ref m17, .ref m18, .ref m19, .ref m20, .int s_signs, .ref m21, .int s_stacked, .ref m22, .int s_name, .int s_shift, .int s_statements, .int s_ifs, .int s_whiles, .int s_variants, .int s_open, .ref m23, .int s_isMade, .int s_conditions, .ref m24, .ref m25, .ref m26, .ref m27, .int s_kept, .ref m28, .int s_tops, .ref m29, .int s_used, .ref m30, .ref m31, .int s_looked, .int s_rows, .int s_firstRow, .ref m32, .ref m33, .ref m34, .ref m35, .ref m36, .ref m37, .ref m38, .ref m39, .ref m40, .int s_isBroken, .ref m41, .int s_atoms, .ref m42])), (m41, .inl (ax 4, 6, .inr (.inl vs)))] sz) (fun u => [(m0, .inr (11, [.int s_thrown, .int s_taped, .ref m1, .int s_size, .int s_outSize, .ref m2, .int s_kind, .int s_value, .int s_begin, .int s_end, .int s_failed, .ref m3, .ref m4, .ref m5, .int s_isProgram, .int s_half, .ref m6, .ref m7, .ref m8, .ref m9, .ref m10, .ref m11, .ref m12, .ref m13, .ref m14, .ref m15, .ref m16, .ref m17, .ref m18, .ref m19, .ref m20, .int s_signs, .ref m21, .int s_stacked, .ref m22, .int s_name, .int s_shift, .int s_statements, .int s_ifs, .int s_whiles, .int s_variants, .int s_open, .ref m23, .int s_isMade, .int s_conditions, .ref m24, .ref m25, .ref m26, .ref m27, .int s_kept, .ref m28, .int s_tops, .ref m29, .int s_used, .ref m30, .ref m31, .int s_looked, .int s_rows, .int s_firstRow, .ref m32, .ref m33, .ref m34, .ref m35, .ref m36, .ref m37, .ref m38, .ref m39, .ref m40, .int s_isBroken, .ref m41, .int s_atoms, .ref m42])), (m41, .inl (ax 4, 6, .inr (.inl vs)))])) (va_A [(m0, .inr (11, [.int s_thrown, .int s_taped, .ref m1, .int s_size, .int s_outSize, .ref m2, .int s_kind, .int s_value, .int s_begin, .int s_end, .int s_failed, .ref m3, .ref m4, .ref m5, .int s_isProgram, .int s_half, .ref m6, .ref m7, .ref m8, .ref m9, .ref m10, .ref m11, .ref m12, .ref m13, .ref m14, .ref m15, .ref m16, .ref m17, .ref m18, .ref m19, .ref m20, .int s_signs, .ref m21, .int s_stacked, .ref m22, .int s_name, .int s_shift, .int s_statements, .int s_ifs, .int s_whiles, .int s_variants, .int s_open, .ref m23, .int s_isMade, .int s_conditions, .ref m24, .ref m25, .ref m26, .ref m27, .int s_kept, .ref m28, .int s_tops, .ref m29, .int s_used, .ref m30, .ref m31, .int s_looked, .int s_rows, .int s_firstRow, .ref m32, .ref m33, .ref m34, .ref m35, .ref m36, .ref m37, .ref m38, .ref m39, .ref m40, .int s_isBroken, .ref m41, .int s_atoms, .ref m42])), (m41, .inl (ax 4, 6, .inr (.inl vs)))] sz))) 0 0 (va_A [(m0, .inr (11, [.int s_thrown, .int s_taped, .ref m1, .int s_size, .int s_outSize, .ref m2, .int s_kind, .int s_value, .int s_begin, .int s_end, .int s_failed, .ref m3, .ref m4, .ref m5, .int s_isProgram, .int s_half, .ref m6, .ref m7, .ref m8, .ref m9, .ref m10, .ref m11, .ref m12, .ref m13, .ref m14, .ref m15, .ref m16, .ref m17, .ref m18, .ref m19, .ref m20, .int s_signs, .ref m21, .int s_stacked, .ref m22, .int s_name, .int s_shift, .int s_statements, .int s_ifs, .int s_whiles, .int s_variants, .int s_open, .ref m23, .int s_isMade, .int s_conditions, .ref m24, .ref m25, .ref m26, .ref m27, .int s_kept, .ref m28, .int s_tops, .ref m29, .int s_used, .ref m30, .ref m31, .int s_looked, .int s_rows, .int s_firstRow, .ref m32, .ref m33, .ref m34, .ref m35, .ref m36, .ref m37, .ref m38, .ref m39, .ref m40, .int s_isBroken, .ref m41, .int s_atoms, .ref m42])), (m41, .inl (ax 4, 6, .inr (.inl vs)))] sz) := by
  refine Met.ofW (cc := b_Model_termOf) (maxL := 3) (ret := (some .long)) (by decide) rfl ?_
  intro p e s m args below meth c s₁ B hml hv
  obtain ⟨rfl, hsz, hP, hK, hD0⟩ := hv
  have hx := B.exec
  have hb := B.bytes
  have hr := B.returns
  have hts := xw_hts B.pre
  have hown : s.vm.findClass R_Model = some m.cls := findClass_of_methodNamed B.named
  have hlocks := B.notSynchronized
  subst hsz
  have hD := hD0.self (sz := s.heap.size)
  have hN := xz_entry hP
  generalize hAe : va_A [(m0, .inr (11, [.int s_thrown, .int s_taped, .ref m1, .int s_size, .int s_outSize, .ref m2, .int s_kind, .int s_value, .int s_begin, .int s_end, .int s_failed, .ref m3, .ref m4, .ref m5, .int s_isProgram, .int s_half, .ref m6, .ref m7, .ref m8, .ref m9, .ref m10, .ref m11, .ref m12, .ref m13, .ref m14, .ref m15, .ref m16, .ref m17, .ref m18, .ref m19, .ref m20, .int s_signs, .ref m21, .int s_stacked, .ref m22, .int s_name, .int s_shift, .int s_statements, .int s_ifs, .int s_whiles, .int s_variants, .int s_open, .ref m23, .int s_isMade, .int s_conditions, .ref m24, .ref m25, .ref m26, .ref m27, .int s_kept, .ref m28, .int s_tops, .ref m29, .int s_used, .ref m30, .ref m31, .int s_looked, .int s_rows, .int s_firstRow, .ref m32, .ref m33, .ref m34, .ref m35, .ref m36, .ref m37, .ref m38, .ref m39, .ref m40, .int s_isBroken, .ref m41, .int s_atoms, .ref m42])), (m41, .inl (ax 4, 6, .inr (.inl vs)))] s.heap.size = A at hD hN ⊢
  have hA : ∀ q : Nat, s.heap.size ≤ q → A q := fun q h => by rw [← hAe]; exact Or.inr h
  have hS : va_S A s.heap s.heap [] := va_S.rf
  have hl0 := lv_entry ([.ref m0, .int (nI j1), .int x2]) (n := 3) (Nat.le_of_ble_eq_true rfl)
  rw [lg_entry_eq]
  generalize (lg_sl ([.ref m0, .int (nI j1), .int x2]) ++ List.replicate (3 - (lg_sl ([.ref m0, .int (nI j1), .int x2])).length) Slot.unset).toArray = ls at hl0 ⊢
  have hl1 : lv_has ls 3 [(0, .ref m0), (1, .int (nI j1)), (2, .int x2)] := hl0
  refine xw_gen (fun Z9 hQe => ?_)
  refine lv_iload_n hx hb d_Model_termOf_0 rfl (lv_at hl1 1 rfl) ?_
  refine lv_iconst (v := (-1)) hx hb d_Model_termOf_1 (by decide) ?_
  refine lv_icmp_ne (tgt := 10) hx hb d_Model_termOf_2 (by decide) (fun c_1 => ?_) (fun c_1 => ?_)
  rotate_right
  · exact absurd c_1 (nIm1 (by first | assumption | omega))
  refine lv_aload_n hx hb d_Model_termOf_10 rfl (lv_at hl1 0 rfl) ?_
  refine va_get (D := D) (ci := 11) (v := .ref m41) (C := R_Model) (T := F_Model) (N := 72) hx hb hts i_Model hown hK.1 hP 0 rfl rfl 69 (by decide) (hts _ wd_1105) (fun _ h9 => h9) rfl d_Model_termOf_11 ?_
  refine lv_iload_n hx hb d_Model_termOf_14 rfl (lv_at hl1 1 rfl) ?_
  refine va_lald hx hb hK.1 hP 1 4 rfl rfl (vp_in_nI (by first | assumption | omega) (by decide)) d_Model_termOf_15 ?_
  refine W.eq (g2 := F0 m 16 ls [.long (vs j1)]) (by rw [nI_clamp (by first | exact Nat.lt_of_lt_of_le (by assumption) (by decide) | exact Nat.lt_of_le_of_lt (by assumption) (by decide) | omega)]) ?_
  refine lv_iload_n hx hb d_Model_termOf_16 rfl (lv_at hl1 2 rfl) ?_
  refine lv_i2l hx hb d_Model_termOf_17 rfl ?_
  refine lv_topl (fun z_2 ez_2 => ?_)
  refine lv_ladd hx hb d_Model_termOf_18 ?_
  refine lv_topl (fun z_3 ez_3 => ?_)
  rw [← hQe]
  obtain ⟨hP9, hD9⟩ := xw_sub2 (wc := (fun u : Nat → Nat => [(m0, .inr (11, [.int s_thrown, .int s_taped, .ref m1, .int s_size, .int s_outSize, .ref m2, .int s_kind, .int s_value, .int s_begin, .int s_end, .int s_failed, .ref m3, .ref m4, .ref m5, .int s_isProgram, .int s_half, .ref m6, .ref m7, .ref m8, .ref m9, .ref m10, .ref m11, .ref m12, .ref m13, .ref m14, .ref m15, .ref m16, .ref m17, .ref m18, .ref m19, .ref m20, .int s_signs, .ref m21, .int s_stacked, .ref m22, .int s_name, .int s_shift, .int s_statements, .int s_ifs, .int s_whiles, .int s_variants, .int s_open, .ref m23, .int s_isMade, .int s_conditions, .ref m24, .ref m25, .ref m26, .ref m27, .int s_kept, .ref m28, .int s_tops, .ref m29, .int s_used, .ref m30, .ref m31, .int s_looked, .int s_rows, .int s_firstRow, .ref m32, .ref m33, .ref m34, .ref m35, .ref m36, .ref m37, .ref m38, .ref m39, .ref m40, .int s_isBroken, .ref m41, .int s_atoms, .ref m42])), (m41, .inl (ax 4, 6, .inr (.inl vs)))]) (ixn [])) hP hD [0, 1] (by decide) rfl
  exact W.lret (v := z_3) hx hb hr (fun t ht hW => ⟨⟨z_3, ixn [], rfl, (by first | rfl | assumption | simp_all), ⟨by rw [ht]; exact hP9, hD9⟩⟩, hS.F ht⟩) hS.2.2 d_Model_termOf_19
