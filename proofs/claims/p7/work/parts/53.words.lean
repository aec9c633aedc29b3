theorem wd_1283 : ((Jvm.Cond.methodLink "TripleDeskModel" (171 : Nat) ({ cls := "TripleDeskModel", name := "isLetter", desc := "(I)Z" } : Jvm.MethodName))) ∈ lw_gd := lw_gd_in (i := 1283) (by decide +kernel) rfl
theorem wd_1284 : ((Jvm.Cond.static ({ cls := "TripleDeskModel", name := "isLetter", desc := "(I)Z" } : Jvm.MethodName))) ∈ lw_gd := lw_gd_in (i := 1284) (by decide +kernel) rfl
theorem wd_1285 : ((Jvm.Cond.code ({ cls := "TripleDeskModel", name := "isLetter", desc := "(I)Z" } : Jvm.MethodName) prog_13_method_5_code (1 : Nat) (Option.some Jvm.ClassFile.FieldType.boolean))) ∈ lw_gd := lw_gd_in (i := 1285) (by decide +kernel) rfl
theorem wd_1290 : ((Jvm.Cond.methodLink "TripleDeskModel" (184 : Nat) ({ cls := "TripleDeskModel", name := "wordOf", desc := "(I)I" } : Jvm.MethodName))) ∈ lw_gd := lw_gd_in (i := 1290) (by decide +kernel) rfl
theorem wd_1291 : ((Jvm.Cond.static ({ cls := "TripleDeskModel", name := "wordOf", desc := "(I)I" } : Jvm.MethodName))) ∈ lw_gd := lw_gd_in (i := 1291) (by decide +kernel) rfl
theorem wd_1292 : ((Jvm.Cond.code ({ cls := "TripleDeskModel", name := "wordOf", desc := "(I)I" } : Jvm.MethodName) prog_13_method_8_code (1 : Nat) (Option.some Jvm.ClassFile.FieldType.int))) ∈ lw_gd := lw_gd_in (i := 1292) (by decide +kernel) rfl
theorem wd_1293 : ((Jvm.Cond.constant "TripleDeskModel" (159 : Nat) (382255 : Int32))) ∈ lw_gd := lw_gd_in (i := 1293) (by decide +kernel) rfl
theorem wd_1294 : ((Jvm.Cond.constant "TripleDeskModel" (160 : Nat) (399641 : Int32))) ∈ lw_gd := lw_gd_in (i := 1294) (by decide +kernel) rfl
theorem wd_1295 : ((Jvm.Cond.constant "TripleDeskModel" (161 : Nat) (107681 : Int32))) ∈ lw_gd := lw_gd_in (i := 1295) (by decide +kernel) rfl
theorem wd_1296 : ((Jvm.Cond.constant "TripleDeskModel" (162 : Nat) (12387497 : Int32))) ∈ lw_gd := lw_gd_in (i := 1296) (by decide +kernel) rfl
theorem wd_1297 : ((Jvm.Cond.constant "TripleDeskModel" (163 : Nat) (24824414 : Int32))) ∈ lw_gd := lw_gd_in (i := 1297) (by decide +kernel) rfl
def wo (q : Nat) : Nat := if q = 382255 then 10 else if q = 249 then 11 else if q = 399641 then 12 else if q = 171 then 14 else if q = 107681 then 13 else if q = 6961 then 16 else if q = 12387497 then 15 else if q = 123 then 18 else if q = 16083 then 17 else if q = 409 then 19 else if q = 24824414 then 20 else 1
def ltE (g : Nat → Nat) (n : Nat) : Nat → Nat → Nat
  | 0, q => q
  | k + 1, q => if 97 ≤ bt g n q ∧ bt g n q ≤ 122 then ltE g n k (q + 1) else q
theorem lt_in {g : Nat → Nat} {n q : Nat} (h : 97 ≤ bt g n q ∧ bt g n q ≤ 122) : q < n := by
  rcases Nat.lt_or_ge q n with h1 | h1
  · exact h1
  · rw [bt_out h1] at h; omega
theorem ltE_stop {g : Nat → Nat} {n q : Nat} (h : ¬ (97 ≤ bt g n q ∧ bt g n q ≤ 122)) (k : Nat) : ltE g n k q = q := by
  cases k with
  | zero => rfl
  | succ k => exact if_neg h
theorem ltE_step {g : Nat → Nat} {n q : Nat} (h : 97 ≤ bt g n q ∧ bt g n q ≤ 122) : ltE g n (n - q) q = ltE g n (n - (q + 1)) (q + 1) := by
  have h1 := lt_in h
  rw [show n - q = (n - (q + 1)) + 1 by omega]
  exact if_pos h
theorem ltE_le {g : Nat → Nat} {n : Nat} : ∀ (k q : Nat), q ≤ n → ltE g n k q ≤ n ∧ q ≤ ltE g n k q ∧ ∀ j, q ≤ j → j < ltE g n k q → 97 ≤ g j ∧ g j ≤ 122 := by
  intro k
  induction k with
  | zero => intro q h; exact ⟨h, Nat.le_refl _, fun j h1 h2 => absurd h2 (Nat.not_lt.mpr h1)⟩
  | succ k ih =>
    intro q h
    by_cases hd : 97 ≤ bt g n q ∧ bt g n q ≤ 122
    · have h1 := lt_in hd
      obtain ⟨a1, a2, a3⟩ := ih (q + 1) (by omega)
      have e : ltE g n (k + 1) q = ltE g n k (q + 1) := if_pos hd
      rw [e]
      refine ⟨a1, by omega, fun j h2 h3 => ?_⟩
      rcases Nat.lt_or_ge q j with h4 | h4
      · exact a3 j (by omega) h3
      · have h5 : j = q := by omega
        subst h5
        rw [bt_in h1] at hd; exact hd
    · rw [ltE_stop hd]; exact ⟨h, Nat.le_refl _, fun j h1 h2 => absurd h2 (Nat.not_lt.mpr h1)⟩
def wv (g : Nat → Nat) (b : Nat) : Nat → Nat
  | 0 => 0
  | k + 1 => 27 * wv g b k + g (b + k) - 96
theorem wv_lt {g : Nat → Nat} {b : Nat} : ∀ k : Nat, (∀ j, b ≤ j → j < b + k → 97 ≤ g j ∧ g j ≤ 122) → wv g b k < 27 ^ k := by
  intro k
  induction k with
  | zero => intro _; exact Nat.zero_lt_one
  | succ k ih =>
    intro h
    have h1 := ih (fun j a c => h j a (by omega))
    have h2 := h (b + k) (by omega) (by omega)
    have e : wv g b (k + 1) = 27 * wv g b k + g (b + k) - 96 := rfl
    have e2 : 27 ^ (k + 1) = 27 * 27 ^ k := by rw [Nat.pow_succ, Nat.mul_comm]
    rw [e, e2]; omega
theorem wv_bd {g : Nat → Nat} {b k : Nat} (hk : k ≤ 6) (h : ∀ j, b ≤ j → j < b + k → 97 ≤ g j ∧ g j ≤ 122) : wv g b k < 387420489 := by
  have h1 := wv_lt k h
  have h2 : 27 ^ k ≤ 27 ^ 6 := Nat.pow_le_pow_right (by decide) hk
  have h3 : (27 : Nat) ^ 6 = 387420489 := by decide
  omega
def rwK (g : Nat → Nat) (n b : Nat) : Nat := if ltE g n (n - b) b = b + 1 ∧ (g b ≤ 102 ∨ 119 ≤ g b) then 2 else if b + 6 < ltE g n (n - b) b then 1 else wo (wv g b (ltE g n (n - b) b - b))
def rwV (g : Nat → Nat) (n b v : Nat) : Nat := if ltE g n (n - b) b = b + 1 ∧ (g b ≤ 102 ∨ 119 ≤ g b) then (if g b ≤ 102 then g b - 97 else g b - 119 + 6) else v
abbrev b_Model_wordOf : ByteArray := prog_13_method_8_code
def y_Model_wordOf : MethodName := ⟨R_Model, "wordOf", "(I)I"⟩
theorem d_Model_wordOf_0 : decode b_Model_wordOf 0 = .ok (.iload_n 0, 1) := by decide +kernel
theorem d_Model_wordOf_1 : decode b_Model_wordOf 1 = .ok (.ldc 159, 2) := by decide +kernel
theorem d_Model_wordOf_3 : decode b_Model_wordOf 3 = .ok (.if_icmp .ne 6, 3) := by decide +kernel
theorem d_Model_wordOf_6 : decode b_Model_wordOf 6 = .ok (.bipush 10, 2) := by decide +kernel
theorem d_Model_wordOf_8 : decode b_Model_wordOf 8 = .ok (.ireturn, 1) := by decide +kernel
theorem d_Model_wordOf_9 : decode b_Model_wordOf 9 = .ok (.iload_n 0, 1) := by decide +kernel
theorem d_Model_wordOf_10 : decode b_Model_wordOf 10 = .ok (.sipush 249, 3) := by decide +kernel
theorem d_Model_wordOf_13 : decode b_Model_wordOf 13 = .ok (.if_icmp .eq 9, 3) := by decide +kernel
theorem d_Model_wordOf_16 : decode b_Model_wordOf 16 = .ok (.iload_n 0, 1) := by decide +kernel
theorem d_Model_wordOf_17 : decode b_Model_wordOf 17 = .ok (.ldc 160, 2) := by decide +kernel
theorem d_Model_wordOf_19 : decode b_Model_wordOf 19 = .ok (.if_icmp .ne 18, 3) := by decide +kernel
theorem d_Model_wordOf_22 : decode b_Model_wordOf 22 = .ok (.iload_n 0, 1) := by decide +kernel
theorem d_Model_wordOf_23 : decode b_Model_wordOf 23 = .ok (.sipush 249, 3) := by decide +kernel
theorem d_Model_wordOf_26 : decode b_Model_wordOf 26 = .ok (.if_icmp .ne 8, 3) := by decide +kernel
theorem d_Model_wordOf_29 : decode b_Model_wordOf 29 = .ok (.bipush 11, 2) := by decide +kernel
theorem d_Model_wordOf_31 : decode b_Model_wordOf 31 = .ok (.goto 5, 3) := by decide +kernel
theorem d_Model_wordOf_34 : decode b_Model_wordOf 34 = .ok (.bipush 12, 2) := by decide +kernel
theorem d_Model_wordOf_36 : decode b_Model_wordOf 36 = .ok (.ireturn, 1) := by decide +kernel
theorem d_Model_wordOf_37 : decode b_Model_wordOf 37 = .ok (.iload_n 0, 1) := by decide +kernel
theorem d_Model_wordOf_38 : decode b_Model_wordOf 38 = .ok (.ldc 161, 2) := by decide +kernel
theorem d_Model_wordOf_40 : decode b_Model_wordOf 40 = .ok (.if_icmp .eq 10, 3) := by decide +kernel
theorem d_Model_wordOf_43 : decode b_Model_wordOf 43 = .ok (.iload_n 0, 1) := by decide +kernel
theorem d_Model_wordOf_44 : decode b_Model_wordOf 44 = .ok (.sipush 171, 3) := by decide +kernel
theorem d_Model_wordOf_47 : decode b_Model_wordOf 47 = .ok (.if_icmp .ne 18, 3) := by decide +kernel
theorem d_Model_wordOf_50 : decode b_Model_wordOf 50 = .ok (.iload_n 0, 1) := by decide +kernel
theorem d_Model_wordOf_51 : decode b_Model_wordOf 51 = .ok (.sipush 171, 3) := by decide +kernel
theorem d_Model_wordOf_54 : decode b_Model_wordOf 54 = .ok (.if_icmp .ne 8, 3) := by decide +kernel
theorem d_Model_wordOf_57 : decode b_Model_wordOf 57 = .ok (.bipush 14, 2) := by decide +kernel
theorem d_Model_wordOf_59 : decode b_Model_wordOf 59 = .ok (.goto 5, 3) := by decide +kernel
theorem d_Model_wordOf_62 : decode b_Model_wordOf 62 = .ok (.bipush 13, 2) := by decide +kernel
theorem d_Model_wordOf_64 : decode b_Model_wordOf 64 = .ok (.ireturn, 1) := by decide +kernel
theorem d_Model_wordOf_65 : decode b_Model_wordOf 65 = .ok (.iload_n 0, 1) := by decide +kernel
theorem d_Model_wordOf_66 : decode b_Model_wordOf 66 = .ok (.ldc 162, 2) := by decide +kernel
theorem d_Model_wordOf_68 : decode b_Model_wordOf 68 = .ok (.if_icmp .eq 10, 3) := by decide +kernel
theorem d_Model_wordOf_71 : decode b_Model_wordOf 71 = .ok (.iload_n 0, 1) := by decide +kernel
theorem d_Model_wordOf_72 : decode b_Model_wordOf 72 = .ok (.sipush 6961, 3) := by decide +kernel
theorem d_Model_wordOf_75 : decode b_Model_wordOf 75 = .ok (.if_icmp .ne 18, 3) := by decide +kernel
theorem d_Model_wordOf_78 : decode b_Model_wordOf 78 = .ok (.iload_n 0, 1) := by decide +kernel
theorem d_Model_wordOf_79 : decode b_Model_wordOf 79 = .ok (.sipush 6961, 3) := by decide +kernel
theorem d_Model_wordOf_82 : decode b_Model_wordOf 82 = .ok (.if_icmp .ne 8, 3) := by decide +kernel
theorem d_Model_wordOf_85 : decode b_Model_wordOf 85 = .ok (.bipush 16, 2) := by decide +kernel
theorem d_Model_wordOf_87 : decode b_Model_wordOf 87 = .ok (.goto 5, 3) := by decide +kernel
theorem d_Model_wordOf_90 : decode b_Model_wordOf 90 = .ok (.bipush 15, 2) := by decide +kernel
theorem d_Model_wordOf_92 : decode b_Model_wordOf 92 = .ok (.ireturn, 1) := by decide +kernel
theorem d_Model_wordOf_93 : decode b_Model_wordOf 93 = .ok (.iload_n 0, 1) := by decide +kernel
theorem d_Model_wordOf_94 : decode b_Model_wordOf 94 = .ok (.sipush 16083, 3) := by decide +kernel
theorem d_Model_wordOf_97 : decode b_Model_wordOf 97 = .ok (.if_icmp .eq 9, 3) := by decide +kernel
theorem d_Model_wordOf_100 : decode b_Model_wordOf 100 = .ok (.iload_n 0, 1) := by decide +kernel
theorem d_Model_wordOf_101 : decode b_Model_wordOf 101 = .ok (.bipush 123, 2) := by decide +kernel
theorem d_Model_wordOf_103 : decode b_Model_wordOf 103 = .ok (.if_icmp .ne 17, 3) := by decide +kernel
theorem d_Model_wordOf_106 : decode b_Model_wordOf 106 = .ok (.iload_n 0, 1) := by decide +kernel
theorem d_Model_wordOf_107 : decode b_Model_wordOf 107 = .ok (.bipush 123, 2) := by decide +kernel
theorem d_Model_wordOf_109 : decode b_Model_wordOf 109 = .ok (.if_icmp .ne 8, 3) := by decide +kernel
theorem d_Model_wordOf_112 : decode b_Model_wordOf 112 = .ok (.bipush 18, 2) := by decide +kernel
theorem d_Model_wordOf_114 : decode b_Model_wordOf 114 = .ok (.goto 5, 3) := by decide +kernel
theorem d_Model_wordOf_117 : decode b_Model_wordOf 117 = .ok (.bipush 17, 2) := by decide +kernel
theorem d_Model_wordOf_119 : decode b_Model_wordOf 119 = .ok (.ireturn, 1) := by decide +kernel
theorem d_Model_wordOf_120 : decode b_Model_wordOf 120 = .ok (.iload_n 0, 1) := by decide +kernel
theorem d_Model_wordOf_121 : decode b_Model_wordOf 121 = .ok (.sipush 409, 3) := by decide +kernel
theorem d_Model_wordOf_124 : decode b_Model_wordOf 124 = .ok (.if_icmp .ne 8, 3) := by decide +kernel
theorem d_Model_wordOf_127 : decode b_Model_wordOf 127 = .ok (.bipush 19, 2) := by decide +kernel
theorem d_Model_wordOf_129 : decode b_Model_wordOf 129 = .ok (.goto 15, 3) := by decide +kernel
theorem d_Model_wordOf_132 : decode b_Model_wordOf 132 = .ok (.iload_n 0, 1) := by decide +kernel
theorem d_Model_wordOf_133 : decode b_Model_wordOf 133 = .ok (.ldc 163, 2) := by decide +kernel
theorem d_Model_wordOf_135 : decode b_Model_wordOf 135 = .ok (.if_icmp .ne 8, 3) := by decide +kernel
theorem d_Model_wordOf_138 : decode b_Model_wordOf 138 = .ok (.bipush 20, 2) := by decide +kernel
theorem d_Model_wordOf_140 : decode b_Model_wordOf 140 = .ok (.goto 4, 3) := by decide +kernel
theorem d_Model_wordOf_143 : decode b_Model_wordOf 143 = .ok (.iconst 1, 1) := by decide +kernel
theorem d_Model_wordOf_144 : decode b_Model_wordOf 144 = .ok (.ireturn, 1) := by decide +kernel
set_option maxHeartbeats 40000000 in
set_option maxRecDepth 100000 in
theorem c_M_wordOf (l : Launch) (D : va_G) (ax : Nat → ClassId) (q : Nat) (sz : Nat) (hq : q < 2 ^ 31) : Met l y_Model_wordOf (xws (.code y_Model_wordOf b_Model_wordOf 1 (some .int))) ({ frames := 10, cells := 0, slots := 0, locals := 400 }) (va_Pc [.int (nI q)] (xo D ax [] sz)) ((va_Qi (fun (r : Int32) (u : Nat → Nat) => r = nI (wo q)) (xb D (va_A [] sz) (fun u => [])) (va_A [] sz))) 0 0 (va_A [] sz) := by
  refine Met.ofW (cc := b_Model_wordOf) (maxL := 1) (ret := (some .int)) (by decide) rfl ?_
  intro p e s m args below meth c s₁ B hml hv
  obtain ⟨rfl, hsz, hP, hK, hD0⟩ := hv
  have hx := B.exec
  have hb := B.bytes
  have hr := B.returns
  have hts := xw_hts B.pre
  have hown : s.vm.findClass R_Model = some m.cls := findClass_of_methodNamed B.named
  have hlocks := B.notSynchronized
  subst hsz
  have hD := hD0.self (sz := s.heap.size)
  have hN := xz_entry hP
  generalize hAe : va_A [] s.heap.size = A at hD hN ⊢
  have hA : ∀ q : Nat, s.heap.size ≤ q → A q := fun q h => by rw [← hAe]; exact Or.inr h
  have hS : va_S A s.heap s.heap [] := va_S.rf
  have hl0 := lv_entry ([.int (nI q)]) (n := 1) (Nat.le_of_ble_eq_true rfl)
  rw [lg_entry_eq]
  generalize (lg_sl ([.int (nI q)]) ++ List.replicate (1 - (lg_sl ([.int (nI q)])).length) Slot.unset).toArray = ls at hl0 ⊢
  have hl1 : lv_has ls 1 [(0, .int (nI q))] := hl0
  refine xw_gen (fun Z9 hQe => ?_)
  refine lv_iload_n hx hb d_Model_wordOf_0 rfl (lv_at hl1 0 rfl) ?_
  refine lv_ldc (v := 382255) hx hb hown (hts _ wd_1293) d_Model_wordOf_1 ?_
  refine lv_icmp_ne (tgt := 9) hx hb d_Model_wordOf_3 (by decide) (fun c_1 => ?_) (fun c_1 => ?_)
  · replace c_1 : ¬ q = 382255 := fun hq9 => c_1 ((nI_eq (a := q) (b := 382255) (by first | exact Nat.lt_of_lt_of_le (by assumption) (by decide) | exact Nat.lt_of_le_of_lt (by assumption) (by decide) | omega) (by decide)).mpr hq9)
    refine lv_iload_n hx hb d_Model_wordOf_9 rfl (lv_at hl1 0 rfl) ?_
    refine lv_sipush (v := 249) hx hb d_Model_wordOf_10 (by decide) ?_
    refine lv_icmp_eq (tgt := 22) hx hb d_Model_wordOf_13 (by decide) (fun c_2 => ?_) (fun c_2 => ?_)
    · replace c_2 : q = 249 := (nI_eq (a := q) (b := 249) (by first | exact Nat.lt_of_lt_of_le (by assumption) (by decide) | exact Nat.lt_of_le_of_lt (by assumption) (by decide) | omega) (by decide)).mp c_2
      refine lv_iload_n hx hb d_Model_wordOf_22 rfl (lv_at hl1 0 rfl) ?_
      refine lv_sipush (v := 249) hx hb d_Model_wordOf_23 (by decide) ?_
      refine lv_icmp_ne (tgt := 34) hx hb d_Model_wordOf_26 (by decide) (fun c_3 => ?_) (fun c_3 => ?_)
      · replace c_3 : ¬ q = 249 := fun hq9 => c_3 ((nI_eq (a := q) (b := 249) (by first | exact Nat.lt_of_lt_of_le (by assumption) (by decide) | exact Nat.lt_of_le_of_lt (by assumption) (by decide) | omega) (by decide)).mpr hq9)
        refine lv_bipush (v := 12) hx hb d_Model_wordOf_34 (by decide) ?_
        rw [← hQe]
        obtain ⟨hP9, hD9⟩ := xw_sub2 (wc := (fun u : Nat → Nat => []) (ixn [])) hP hD [] (by decide) rfl
        exact W.iret (v := 12) hx hb hr (fun t ht hW => ⟨⟨12, ixn [], rfl, (congrArg nI (by first | (exfalso; omega; done) | (unfold wo; repeat (first | rw [if_pos (by first | assumption | omega)] | rw [if_neg (by first | assumption | omega)])))), ⟨by rw [ht]; exact hP9, hD9⟩⟩, hS.F ht⟩) hS.2.2 d_Model_wordOf_36
      · replace c_3 : q = 249 := (nI_eq (a := q) (b := 249) (by first | exact Nat.lt_of_lt_of_le (by assumption) (by decide) | exact Nat.lt_of_le_of_lt (by assumption) (by decide) | omega) (by decide)).mp c_3
        refine lv_bipush (v := 11) hx hb d_Model_wordOf_29 (by decide) ?_
        refine lv_goto (tgt := 36) hx hb d_Model_wordOf_31 (by decide) ?_
        rw [← hQe]
        obtain ⟨hP9, hD9⟩ := xw_sub2 (wc := (fun u : Nat → Nat => []) (ixn [])) hP hD [] (by decide) rfl
        exact W.iret (v := 11) hx hb hr (fun t ht hW => ⟨⟨11, ixn [], rfl, (congrArg nI (by first | (exfalso; omega; done) | (unfold wo; repeat (first | rw [if_pos (by first | assumption | omega)] | rw [if_neg (by first | assumption | omega)])))), ⟨by rw [ht]; exact hP9, hD9⟩⟩, hS.F ht⟩) hS.2.2 d_Model_wordOf_36
    · replace c_2 : ¬ q = 249 := fun hq9 => c_2 ((nI_eq (a := q) (b := 249) (by first | exact Nat.lt_of_lt_of_le (by assumption) (by decide) | exact Nat.lt_of_le_of_lt (by assumption) (by decide) | omega) (by decide)).mpr hq9)
      refine lv_iload_n hx hb d_Model_wordOf_16 rfl (lv_at hl1 0 rfl) ?_
      refine lv_ldc (v := 399641) hx hb hown (hts _ wd_1294) d_Model_wordOf_17 ?_
      refine lv_icmp_ne (tgt := 37) hx hb d_Model_wordOf_19 (by decide) (fun c_4 => ?_) (fun c_4 => ?_)
      · replace c_4 : ¬ q = 399641 := fun hq9 => c_4 ((nI_eq (a := q) (b := 399641) (by first | exact Nat.lt_of_lt_of_le (by assumption) (by decide) | exact Nat.lt_of_le_of_lt (by assumption) (by decide) | omega) (by decide)).mpr hq9)
        refine lv_iload_n hx hb d_Model_wordOf_37 rfl (lv_at hl1 0 rfl) ?_
        refine lv_ldc (v := 107681) hx hb hown (hts _ wd_1295) d_Model_wordOf_38 ?_
        refine lv_icmp_eq (tgt := 50) hx hb d_Model_wordOf_40 (by decide) (fun c_5 => ?_) (fun c_5 => ?_)
        · replace c_5 : q = 107681 := (nI_eq (a := q) (b := 107681) (by first | exact Nat.lt_of_lt_of_le (by assumption) (by decide) | exact Nat.lt_of_le_of_lt (by assumption) (by decide) | omega) (by decide)).mp c_5
          refine lv_iload_n hx hb d_Model_wordOf_50 rfl (lv_at hl1 0 rfl) ?_
          refine lv_sipush (v := 171) hx hb d_Model_wordOf_51 (by decide) ?_
          refine lv_icmp_ne (tgt := 62) hx hb d_Model_wordOf_54 (by decide) (fun c_6 => ?_) (fun c_6 => ?_)
          · replace c_6 : ¬ q = 171 := fun hq9 => c_6 ((nI_eq (a := q) (b := 171) (by first | exact Nat.lt_of_lt_of_le (by assumption) (by decide) | exact Nat.lt_of_le_of_lt (by assumption) (by decide) | omega) (by decide)).mpr hq9)
            refine lv_bipush (v := 13) hx hb d_Model_wordOf_62 (by decide) ?_
            rw [← hQe]
            obtain ⟨hP9, hD9⟩ := xw_sub2 (wc := (fun u : Nat → Nat => []) (ixn [])) hP hD [] (by decide) rfl
            exact W.iret (v := 13) hx hb hr (fun t ht hW => ⟨⟨13, ixn [], rfl, (congrArg nI (by first | (exfalso; omega; done) | (unfold wo; repeat (first | rw [if_pos (by first | assumption | omega)] | rw [if_neg (by first | assumption | omega)])))), ⟨by rw [ht]; exact hP9, hD9⟩⟩, hS.F ht⟩) hS.2.2 d_Model_wordOf_64
          · replace c_6 : q = 171 := (nI_eq (a := q) (b := 171) (by first | exact Nat.lt_of_lt_of_le (by assumption) (by decide) | exact Nat.lt_of_le_of_lt (by assumption) (by decide) | omega) (by decide)).mp c_6
            refine lv_bipush (v := 14) hx hb d_Model_wordOf_57 (by decide) ?_
            refine lv_goto (tgt := 64) hx hb d_Model_wordOf_59 (by decide) ?_
            rw [← hQe]
            obtain ⟨hP9, hD9⟩ := xw_sub2 (wc := (fun u : Nat → Nat => []) (ixn [])) hP hD [] (by decide) rfl
            exact W.iret (v := 14) hx hb hr (fun t ht hW => ⟨⟨14, ixn [], rfl, (congrArg nI (by first | (exfalso; omega; done) | (unfold wo; repeat (first | rw [if_pos (by first | assumption | omega)] | rw [if_neg (by first | assumption | omega)])))), ⟨by rw [ht]; exact hP9, hD9⟩⟩, hS.F ht⟩) hS.2.2 d_Model_wordOf_64
        · replace c_5 : ¬ q = 107681 := fun hq9 => c_5 ((nI_eq (a := q) (b := 107681) (by first | exact Nat.lt_of_lt_of_le (by assumption) (by decide) | exact Nat.lt_of_le_of_lt (by assumption) (by decide) | omega) (by decide)).mpr hq9)
          refine lv_iload_n hx hb d_Model_wordOf_43 rfl (lv_at hl1 0 rfl) ?_
          refine lv_sipush (v := 171) hx hb d_Model_wordOf_44 (by decide) ?_
          refine lv_icmp_ne (tgt := 65) hx hb d_Model_wordOf_47 (by decide) (fun c_7 => ?_) (fun c_7 => ?_)
          · replace c_7 : ¬ q = 171 := fun hq9 => c_7 ((nI_eq (a := q) (b := 171) (by first | exact Nat.lt_of_lt_of_le (by assumption) (by decide) | exact Nat.lt_of_le_of_lt (by assumption) (by decide) | omega) (by decide)).mpr hq9)
            refine lv_iload_n hx hb d_Model_wordOf_65 rfl (lv_at hl1 0 rfl) ?_
            refine lv_ldc (v := 12387497) hx hb hown (hts _ wd_1296) d_Model_wordOf_66 ?_
            refine lv_icmp_eq (tgt := 78) hx hb d_Model_wordOf_68 (by decide) (fun c_8 => ?_) (fun c_8 => ?_)
            · replace c_8 : q = 12387497 := (nI_eq (a := q) (b := 12387497) (by first | exact Nat.lt_of_lt_of_le (by assumption) (by decide) | exact Nat.lt_of_le_of_lt (by assumption) (by decide) | omega) (by decide)).mp c_8
              refine lv_iload_n hx hb d_Model_wordOf_78 rfl (lv_at hl1 0 rfl) ?_
              refine lv_sipush (v := 6961) hx hb d_Model_wordOf_79 (by decide) ?_
              refine lv_icmp_ne (tgt := 90) hx hb d_Model_wordOf_82 (by decide) (fun c_9 => ?_) (fun c_9 => ?_)
              · replace c_9 : ¬ q = 6961 := fun hq9 => c_9 ((nI_eq (a := q) (b := 6961) (by first | exact Nat.lt_of_lt_of_le (by assumption) (by decide) | exact Nat.lt_of_le_of_lt (by assumption) (by decide) | omega) (by decide)).mpr hq9)
                refine lv_bipush (v := 15) hx hb d_Model_wordOf_90 (by decide) ?_
                rw [← hQe]
                obtain ⟨hP9, hD9⟩ := xw_sub2 (wc := (fun u : Nat → Nat => []) (ixn [])) hP hD [] (by decide) rfl
                exact W.iret (v := 15) hx hb hr (fun t ht hW => ⟨⟨15, ixn [], rfl, (congrArg nI (by first | (exfalso; omega; done) | (unfold wo; repeat (first | rw [if_pos (by first | assumption | omega)] | rw [if_neg (by first | assumption | omega)])))), ⟨by rw [ht]; exact hP9, hD9⟩⟩, hS.F ht⟩) hS.2.2 d_Model_wordOf_92
              · replace c_9 : q = 6961 := (nI_eq (a := q) (b := 6961) (by first | exact Nat.lt_of_lt_of_le (by assumption) (by decide) | exact Nat.lt_of_le_of_lt (by assumption) (by decide) | omega) (by decide)).mp c_9
                refine lv_bipush (v := 16) hx hb d_Model_wordOf_85 (by decide) ?_
                refine lv_goto (tgt := 92) hx hb d_Model_wordOf_87 (by decide) ?_
                rw [← hQe]
                obtain ⟨hP9, hD9⟩ := xw_sub2 (wc := (fun u : Nat → Nat => []) (ixn [])) hP hD [] (by decide) rfl
                exact W.iret (v := 16) hx hb hr (fun t ht hW => ⟨⟨16, ixn [], rfl, (congrArg nI (by first | (exfalso; omega; done) | (unfold wo; repeat (first | rw [if_pos (by first | assumption | omega)] | rw [if_neg (by first | assumption | omega)])))), ⟨by rw [ht]; exact hP9, hD9⟩⟩, hS.F ht⟩) hS.2.2 d_Model_wordOf_92
            · replace c_8 : ¬ q = 12387497 := fun hq9 => c_8 ((nI_eq (a := q) (b := 12387497) (by first | exact Nat.lt_of_lt_of_le (by assumption) (by decide) | exact Nat.lt_of_le_of_lt (by assumption) (by decide) | omega) (by decide)).mpr hq9)
              refine lv_iload_n hx hb d_Model_wordOf_71 rfl (lv_at hl1 0 rfl) ?_
              refine lv_sipush (v := 6961) hx hb d_Model_wordOf_72 (by decide) ?_
              refine lv_icmp_ne (tgt := 93) hx hb d_Model_wordOf_75 (by decide) (fun c_10 => ?_) (fun c_10 => ?_)
              · replace c_10 : ¬ q = 6961 := fun hq9 => c_10 ((nI_eq (a := q) (b := 6961) (by first | exact Nat.lt_of_lt_of_le (by assumption) (by decide) | exact Nat.lt_of_le_of_lt (by assumption) (by decide) | omega) (by decide)).mpr hq9)
                refine lv_iload_n hx hb d_Model_wordOf_93 rfl (lv_at hl1 0 rfl) ?_
                refine lv_sipush (v := 16083) hx hb d_Model_wordOf_94 (by decide) ?_
                refine lv_icmp_eq (tgt := 106) hx hb d_Model_wordOf_97 (by decide) (fun c_11 => ?_) (fun c_11 => ?_)
                · replace c_11 : q = 16083 := (nI_eq (a := q) (b := 16083) (by first | exact Nat.lt_of_lt_of_le (by assumption) (by decide) | exact Nat.lt_of_le_of_lt (by assumption) (by decide) | omega) (by decide)).mp c_11
                  refine lv_iload_n hx hb d_Model_wordOf_106 rfl (lv_at hl1 0 rfl) ?_
                  refine lv_bipush (v := 123) hx hb d_Model_wordOf_107 (by decide) ?_
                  refine lv_icmp_ne (tgt := 117) hx hb d_Model_wordOf_109 (by decide) (fun c_12 => ?_) (fun c_12 => ?_)
                  · replace c_12 : ¬ q = 123 := fun hq9 => c_12 ((nI_eq (a := q) (b := 123) (by first | exact Nat.lt_of_lt_of_le (by assumption) (by decide) | exact Nat.lt_of_le_of_lt (by assumption) (by decide) | omega) (by decide)).mpr hq9)
                    refine lv_bipush (v := 17) hx hb d_Model_wordOf_117 (by decide) ?_
                    rw [← hQe]
                    obtain ⟨hP9, hD9⟩ := xw_sub2 (wc := (fun u : Nat → Nat => []) (ixn [])) hP hD [] (by decide) rfl
                    exact W.iret (v := 17) hx hb hr (fun t ht hW => ⟨⟨17, ixn [], rfl, (congrArg nI (by first | (exfalso; omega; done) | (unfold wo; repeat (first | rw [if_pos (by first | assumption | omega)] | rw [if_neg (by first | assumption | omega)])))), ⟨by rw [ht]; exact hP9, hD9⟩⟩, hS.F ht⟩) hS.2.2 d_Model_wordOf_119
                  · replace c_12 : q = 123 := (nI_eq (a := q) (b := 123) (by first | exact Nat.lt_of_lt_of_le (by assumption) (by decide) | exact Nat.lt_of_le_of_lt (by assumption) (by decide) | omega) (by decide)).mp c_12
                    refine lv_bipush (v := 18) hx hb d_Model_wordOf_112 (by decide) ?_
                    refine lv_goto (tgt := 119) hx hb d_Model_wordOf_114 (by decide) ?_
                    rw [← hQe]
                    obtain ⟨hP9, hD9⟩ := xw_sub2 (wc := (fun u : Nat → Nat => []) (ixn [])) hP hD [] (by decide) rfl
                    exact W.iret (v := 18) hx hb hr (fun t ht hW => ⟨⟨18, ixn [], rfl, (congrArg nI (by first | (exfalso; omega; done) | (unfold wo; repeat (first | rw [if_pos (by first | assumption | omega)] | rw [if_neg (by first | assumption | omega)])))), ⟨by rw [ht]; exact hP9, hD9⟩⟩, hS.F ht⟩) hS.2.2 d_Model_wordOf_119
                · replace c_11 : ¬ q = 16083 := fun hq9 => c_11 ((nI_eq (a := q) (b := 16083) (by first | exact Nat.lt_of_lt_of_le (by assumption) (by decide) | exact Nat.lt_of_le_of_lt (by assumption) (by decide) | omega) (by decide)).mpr hq9)
                  refine lv_iload_n hx hb d_Model_wordOf_100 rfl (lv_at hl1 0 rfl) ?_
                  refine lv_bipush (v := 123) hx hb d_Model_wordOf_101 (by decide) ?_
                  refine lv_icmp_ne (tgt := 120) hx hb d_Model_wordOf_103 (by decide) (fun c_13 => ?_) (fun c_13 => ?_)
                  · replace c_13 : ¬ q = 123 := fun hq9 => c_13 ((nI_eq (a := q) (b := 123) (by first | exact Nat.lt_of_lt_of_le (by assumption) (by decide) | exact Nat.lt_of_le_of_lt (by assumption) (by decide) | omega) (by decide)).mpr hq9)
                    refine lv_iload_n hx hb d_Model_wordOf_120 rfl (lv_at hl1 0 rfl) ?_
                    refine lv_sipush (v := 409) hx hb d_Model_wordOf_121 (by decide) ?_
                    refine lv_icmp_ne (tgt := 132) hx hb d_Model_wordOf_124 (by decide) (fun c_14 => ?_) (fun c_14 => ?_)
                    · replace c_14 : ¬ q = 409 := fun hq9 => c_14 ((nI_eq (a := q) (b := 409) (by first | exact Nat.lt_of_lt_of_le (by assumption) (by decide) | exact Nat.lt_of_le_of_lt (by assumption) (by decide) | omega) (by decide)).mpr hq9)
                      refine lv_iload_n hx hb d_Model_wordOf_132 rfl (lv_at hl1 0 rfl) ?_
                      refine lv_ldc (v := 24824414) hx hb hown (hts _ wd_1297) d_Model_wordOf_133 ?_
                      refine lv_icmp_ne (tgt := 143) hx hb d_Model_wordOf_135 (by decide) (fun c_15 => ?_) (fun c_15 => ?_)
                      · replace c_15 : ¬ q = 24824414 := fun hq9 => c_15 ((nI_eq (a := q) (b := 24824414) (by first | exact Nat.lt_of_lt_of_le (by assumption) (by decide) | exact Nat.lt_of_le_of_lt (by assumption) (by decide) | omega) (by decide)).mpr hq9)
                        refine lv_iconst (v := 1) hx hb d_Model_wordOf_143 (by decide) ?_
                        rw [← hQe]
                        obtain ⟨hP9, hD9⟩ := xw_sub2 (wc := (fun u : Nat → Nat => []) (ixn [])) hP hD [] (by decide) rfl
                        exact W.iret (v := 1) hx hb hr (fun t ht hW => ⟨⟨1, ixn [], rfl, (congrArg nI (by first | (exfalso; omega; done) | (unfold wo; repeat (first | rw [if_pos (by first | assumption | omega)] | rw [if_neg (by first | assumption | omega)])))), ⟨by rw [ht]; exact hP9, hD9⟩⟩, hS.F ht⟩) hS.2.2 d_Model_wordOf_144
                      · replace c_15 : q = 24824414 := (nI_eq (a := q) (b := 24824414) (by first | exact Nat.lt_of_lt_of_le (by assumption) (by decide) | exact Nat.lt_of_le_of_lt (by assumption) (by decide) | omega) (by decide)).mp c_15
                        refine lv_bipush (v := 20) hx hb d_Model_wordOf_138 (by decide) ?_
                        refine lv_goto (tgt := 144) hx hb d_Model_wordOf_140 (by decide) ?_
                        rw [← hQe]
                        obtain ⟨hP9, hD9⟩ := xw_sub2 (wc := (fun u : Nat → Nat => []) (ixn [])) hP hD [] (by decide) rfl
                        exact W.iret (v := 20) hx hb hr (fun t ht hW => ⟨⟨20, ixn [], rfl, (congrArg nI (by first | (exfalso; omega; done) | (unfold wo; repeat (first | rw [if_pos (by first | assumption | omega)] | rw [if_neg (by first | assumption | omega)])))), ⟨by rw [ht]; exact hP9, hD9⟩⟩, hS.F ht⟩) hS.2.2 d_Model_wordOf_144
                    · replace c_14 : q = 409 := (nI_eq (a := q) (b := 409) (by first | exact Nat.lt_of_lt_of_le (by assumption) (by decide) | exact Nat.lt_of_le_of_lt (by assumption) (by decide) | omega) (by decide)).mp c_14
                      refine lv_bipush (v := 19) hx hb d_Model_wordOf_127 (by decide) ?_
                      refine lv_goto (tgt := 144) hx hb d_Model_wordOf_129 (by decide) ?_
                      rw [← hQe]
                      obtain ⟨hP9, hD9⟩ := xw_sub2 (wc := (fun u : Nat → Nat => []) (ixn [])) hP hD [] (by decide) rfl
                      exact W.iret (v := 19) hx hb hr (fun t ht hW => ⟨⟨19, ixn [], rfl, (congrArg nI (by first | (exfalso; omega; done) | (unfold wo; repeat (first | rw [if_pos (by first | assumption | omega)] | rw [if_neg (by first | assumption | omega)])))), ⟨by rw [ht]; exact hP9, hD9⟩⟩, hS.F ht⟩) hS.2.2 d_Model_wordOf_144
                  · replace c_13 : q = 123 := (nI_eq (a := q) (b := 123) (by first | exact Nat.lt_of_lt_of_le (by assumption) (by decide) | exact Nat.lt_of_le_of_lt (by assumption) (by decide) | omega) (by decide)).mp c_13
                    refine lv_iload_n hx hb d_Model_wordOf_106 rfl (lv_at hl1 0 rfl) ?_
                    refine lv_bipush (v := 123) hx hb d_Model_wordOf_107 (by decide) ?_
                    refine lv_icmp_ne (tgt := 117) hx hb d_Model_wordOf_109 (by decide) (fun c_16 => ?_) (fun c_16 => ?_)
                    · replace c_16 : ¬ q = 123 := fun hq9 => c_16 ((nI_eq (a := q) (b := 123) (by first | exact Nat.lt_of_lt_of_le (by assumption) (by decide) | exact Nat.lt_of_le_of_lt (by assumption) (by decide) | omega) (by decide)).mpr hq9)
                      refine lv_bipush (v := 17) hx hb d_Model_wordOf_117 (by decide) ?_
                      rw [← hQe]
                      obtain ⟨hP9, hD9⟩ := xw_sub2 (wc := (fun u : Nat → Nat => []) (ixn [])) hP hD [] (by decide) rfl
                      exact W.iret (v := 17) hx hb hr (fun t ht hW => ⟨⟨17, ixn [], rfl, (congrArg nI (by first | (exfalso; omega; done) | (unfold wo; repeat (first | rw [if_pos (by first | assumption | omega)] | rw [if_neg (by first | assumption | omega)])))), ⟨by rw [ht]; exact hP9, hD9⟩⟩, hS.F ht⟩) hS.2.2 d_Model_wordOf_119
                    · replace c_16 : q = 123 := (nI_eq (a := q) (b := 123) (by first | exact Nat.lt_of_lt_of_le (by assumption) (by decide) | exact Nat.lt_of_le_of_lt (by assumption) (by decide) | omega) (by decide)).mp c_16
                      refine lv_bipush (v := 18) hx hb d_Model_wordOf_112 (by decide) ?_
                      refine lv_goto (tgt := 119) hx hb d_Model_wordOf_114 (by decide) ?_
                      rw [← hQe]
                      obtain ⟨hP9, hD9⟩ := xw_sub2 (wc := (fun u : Nat → Nat => []) (ixn [])) hP hD [] (by decide) rfl
                      exact W.iret (v := 18) hx hb hr (fun t ht hW => ⟨⟨18, ixn [], rfl, (congrArg nI (by first | (exfalso; omega; done) | (unfold wo; repeat (first | rw [if_pos (by first | assumption | omega)] | rw [if_neg (by first | assumption | omega)])))), ⟨by rw [ht]; exact hP9, hD9⟩⟩, hS.F ht⟩) hS.2.2 d_Model_wordOf_119
              · replace c_10 : q = 6961 := (nI_eq (a := q) (b := 6961) (by first | exact Nat.lt_of_lt_of_le (by assumption) (by decide) | exact Nat.lt_of_le_of_lt (by assumption) (by decide) | omega) (by decide)).mp c_10
                refine lv_iload_n hx hb d_Model_wordOf_78 rfl (lv_at hl1 0 rfl) ?_
                refine lv_sipush (v := 6961) hx hb d_Model_wordOf_79 (by decide) ?_
                refine lv_icmp_ne (tgt := 90) hx hb d_Model_wordOf_82 (by decide) (fun c_17 => ?_) (fun c_17 => ?_)
                · replace c_17 : ¬ q = 6961 := fun hq9 => c_17 ((nI_eq (a := q) (b := 6961) (by first | exact Nat.lt_of_lt_of_le (by assumption) (by decide) | exact Nat.lt_of_le_of_lt (by assumption) (by decide) | omega) (by decide)).mpr hq9)
                  refine lv_bipush (v := 15) hx hb d_Model_wordOf_90 (by decide) ?_
                  rw [← hQe]
                  obtain ⟨hP9, hD9⟩ := xw_sub2 (wc := (fun u : Nat → Nat => []) (ixn [])) hP hD [] (by decide) rfl
                  exact W.iret (v := 15) hx hb hr (fun t ht hW => ⟨⟨15, ixn [], rfl, (congrArg nI (by first | (exfalso; omega; done) | (unfold wo; repeat (first | rw [if_pos (by first | assumption | omega)] | rw [if_neg (by first | assumption | omega)])))), ⟨by rw [ht]; exact hP9, hD9⟩⟩, hS.F ht⟩) hS.2.2 d_Model_wordOf_92
                · replace c_17 : q = 6961 := (nI_eq (a := q) (b := 6961) (by first | exact Nat.lt_of_lt_of_le (by assumption) (by decide) | exact Nat.lt_of_le_of_lt (by assumption) (by decide) | omega) (by decide)).mp c_17
                  refine lv_bipush (v := 16) hx hb d_Model_wordOf_85 (by decide) ?_
                  refine lv_goto (tgt := 92) hx hb d_Model_wordOf_87 (by decide) ?_
                  rw [← hQe]
                  obtain ⟨hP9, hD9⟩ := xw_sub2 (wc := (fun u : Nat → Nat => []) (ixn [])) hP hD [] (by decide) rfl
                  exact W.iret (v := 16) hx hb hr (fun t ht hW => ⟨⟨16, ixn [], rfl, (congrArg nI (by first | (exfalso; omega; done) | (unfold wo; repeat (first | rw [if_pos (by first | assumption | omega)] | rw [if_neg (by first | assumption | omega)])))), ⟨by rw [ht]; exact hP9, hD9⟩⟩, hS.F ht⟩) hS.2.2 d_Model_wordOf_92
          · replace c_7 : q = 171 := (nI_eq (a := q) (b := 171) (by first | exact Nat.lt_of_lt_of_le (by assumption) (by decide) | exact Nat.lt_of_le_of_lt (by assumption) (by decide) | omega) (by decide)).mp c_7
            refine lv_iload_n hx hb d_Model_wordOf_50 rfl (lv_at hl1 0 rfl) ?_
            refine lv_sipush (v := 171) hx hb d_Model_wordOf_51 (by decide) ?_
            refine lv_icmp_ne (tgt := 62) hx hb d_Model_wordOf_54 (by decide) (fun c_18 => ?_) (fun c_18 => ?_)
            · replace c_18 : ¬ q = 171 := fun hq9 => c_18 ((nI_eq (a := q) (b := 171) (by first | exact Nat.lt_of_lt_of_le (by assumption) (by decide) | exact Nat.lt_of_le_of_lt (by assumption) (by decide) | omega) (by decide)).mpr hq9)
              refine lv_bipush (v := 13) hx hb d_Model_wordOf_62 (by decide) ?_
              rw [← hQe]
              obtain ⟨hP9, hD9⟩ := xw_sub2 (wc := (fun u : Nat → Nat => []) (ixn [])) hP hD [] (by decide) rfl
              exact W.iret (v := 13) hx hb hr (fun t ht hW => ⟨⟨13, ixn [], rfl, (congrArg nI (by first | (exfalso; omega; done) | (unfold wo; repeat (first | rw [if_pos (by first | assumption | omega)] | rw [if_neg (by first | assumption | omega)])))), ⟨by rw [ht]; exact hP9, hD9⟩⟩, hS.F ht⟩) hS.2.2 d_Model_wordOf_64
            · replace c_18 : q = 171 := (nI_eq (a := q) (b := 171) (by first | exact Nat.lt_of_lt_of_le (by assumption) (by decide) | exact Nat.lt_of_le_of_lt (by assumption) (by decide) | omega) (by decide)).mp c_18
              refine lv_bipush (v := 14) hx hb d_Model_wordOf_57 (by decide) ?_
              refine lv_goto (tgt := 64) hx hb d_Model_wordOf_59 (by decide) ?_
              rw [← hQe]
              obtain ⟨hP9, hD9⟩ := xw_sub2 (wc := (fun u : Nat → Nat => []) (ixn [])) hP hD [] (by decide) rfl
              exact W.iret (v := 14) hx hb hr (fun t ht hW => ⟨⟨14, ixn [], rfl, (congrArg nI (by first | (exfalso; omega; done) | (unfold wo; repeat (first | rw [if_pos (by first | assumption | omega)] | rw [if_neg (by first | assumption | omega)])))), ⟨by rw [ht]; exact hP9, hD9⟩⟩, hS.F ht⟩) hS.2.2 d_Model_wordOf_64
      · replace c_4 : q = 399641 := (nI_eq (a := q) (b := 399641) (by first | exact Nat.lt_of_lt_of_le (by assumption) (by decide) | exact Nat.lt_of_le_of_lt (by assumption) (by decide) | omega) (by decide)).mp c_4
        refine lv_iload_n hx hb d_Model_wordOf_22 rfl (lv_at hl1 0 rfl) ?_
        refine lv_sipush (v := 249) hx hb d_Model_wordOf_23 (by decide) ?_
        refine lv_icmp_ne (tgt := 34) hx hb d_Model_wordOf_26 (by decide) (fun c_19 => ?_) (fun c_19 => ?_)
        · replace c_19 : ¬ q = 249 := fun hq9 => c_19 ((nI_eq (a := q) (b := 249) (by first | exact Nat.lt_of_lt_of_le (by assumption) (by decide) | exact Nat.lt_of_le_of_lt (by assumption) (by decide) | omega) (by decide)).mpr hq9)
          refine lv_bipush (v := 12) hx hb d_Model_wordOf_34 (by decide) ?_
          rw [← hQe]
          obtain ⟨hP9, hD9⟩ := xw_sub2 (wc := (fun u : Nat → Nat => []) (ixn [])) hP hD [] (by decide) rfl
          exact W.iret (v := 12) hx hb hr (fun t ht hW => ⟨⟨12, ixn [], rfl, (congrArg nI (by first | (exfalso; omega; done) | (unfold wo; repeat (first | rw [if_pos (by first | assumption | omega)] | rw [if_neg (by first | assumption | omega)])))), ⟨by rw [ht]; exact hP9, hD9⟩⟩, hS.F ht⟩) hS.2.2 d_Model_wordOf_36
        · replace c_19 : q = 249 := (nI_eq (a := q) (b := 249) (by first | exact Nat.lt_of_lt_of_le (by assumption) (by decide) | exact Nat.lt_of_le_of_lt (by assumption) (by decide) | omega) (by decide)).mp c_19
          refine lv_bipush (v := 11) hx hb d_Model_wordOf_29 (by decide) ?_
          refine lv_goto (tgt := 36) hx hb d_Model_wordOf_31 (by decide) ?_
          rw [← hQe]
          obtain ⟨hP9, hD9⟩ := xw_sub2 (wc := (fun u : Nat → Nat => []) (ixn [])) hP hD [] (by decide) rfl
          exact W.iret (v := 11) hx hb hr (fun t ht hW => ⟨⟨11, ixn [], rfl, (congrArg nI (by first | (exfalso; omega; done) | (unfold wo; repeat (first | rw [if_pos (by first | assumption | omega)] | rw [if_neg (by first | assumption | omega)])))), ⟨by rw [ht]; exact hP9, hD9⟩⟩, hS.F ht⟩) hS.2.2 d_Model_wordOf_36
  · replace c_1 : q = 382255 := (nI_eq (a := q) (b := 382255) (by first | exact Nat.lt_of_lt_of_le (by assumption) (by decide) | exact Nat.lt_of_le_of_lt (by assumption) (by decide) | omega) (by decide)).mp c_1
    refine lv_bipush (v := 10) hx hb d_Model_wordOf_6 (by decide) ?_
    rw [← hQe]
    obtain ⟨hP9, hD9⟩ := xw_sub2 (wc := (fun u : Nat → Nat => []) (ixn [])) hP hD [] (by decide) rfl
    exact W.iret (v := 10) hx hb hr (fun t ht hW => ⟨⟨10, ixn [], rfl, (congrArg nI (by first | (exfalso; omega; done) | (unfold wo; repeat (first | rw [if_pos (by first | assumption | omega)] | rw [if_neg (by first | assumption | omega)])))), ⟨by rw [ht]; exact hP9, hD9⟩⟩, hS.F ht⟩) hS.2.2 d_Model_wordOf_8
abbrev b_Model_readWord : ByteArray := prog_13_method_9_code
def y_Model_readWord : MethodName := ⟨R_Model, "readWord", "()V"⟩
theorem d_Model_readWord_0 : decode b_Model_readWord 0 = .ok (.aload_n 0, 1) := by decide +kernel
theorem d_Model_readWord_1 : decode b_Model_readWord 1 = .ok (.aload_n 0, 1) := by decide +kernel
theorem d_Model_readWord_2 : decode b_Model_readWord 2 = .ok (.getfield 164, 3) := by decide +kernel
theorem d_Model_readWord_5 : decode b_Model_readWord 5 = .ok (.invokevirtual 167, 3) := by decide +kernel
theorem d_Model_readWord_8 : decode b_Model_readWord 8 = .ok (.invokestatic 171, 3) := by decide +kernel
theorem d_Model_readWord_11 : decode b_Model_readWord 11 = .ok (.ifCond .eq 16, 3) := by decide +kernel
theorem d_Model_readWord_14 : decode b_Model_readWord 14 = .ok (.aload_n 0, 1) := by decide +kernel
theorem d_Model_readWord_15 : decode b_Model_readWord 15 = .ok (.dup, 1) := by decide +kernel
theorem d_Model_readWord_16 : decode b_Model_readWord 16 = .ok (.getfield 164, 3) := by decide +kernel
theorem d_Model_readWord_19 : decode b_Model_readWord 19 = .ok (.iconst 1, 1) := by decide +kernel
theorem d_Model_readWord_20 : decode b_Model_readWord 20 = .ok (.iadd, 1) := by decide +kernel
theorem d_Model_readWord_21 : decode b_Model_readWord 21 = .ok (.putfield 164, 3) := by decide +kernel
theorem d_Model_readWord_24 : decode b_Model_readWord 24 = .ok (.goto (-24), 3) := by decide +kernel
theorem d_Model_readWord_27 : decode b_Model_readWord 27 = .ok (.aload_n 0, 1) := by decide +kernel
theorem d_Model_readWord_28 : decode b_Model_readWord 28 = .ok (.getfield 7, 3) := by decide +kernel
theorem d_Model_readWord_31 : decode b_Model_readWord 31 = .ok (.aload_n 0, 1) := by decide +kernel
theorem d_Model_readWord_32 : decode b_Model_readWord 32 = .ok (.getfield 175, 3) := by decide +kernel
theorem d_Model_readWord_35 : decode b_Model_readWord 35 = .ok (.iaload, 1) := by decide +kernel
theorem d_Model_readWord_36 : decode b_Model_readWord 36 = .ok (.istore_n 1, 1) := by decide +kernel
theorem d_Model_readWord_37 : decode b_Model_readWord 37 = .ok (.aload_n 0, 1) := by decide +kernel
theorem d_Model_readWord_38 : decode b_Model_readWord 38 = .ok (.getfield 164, 3) := by decide +kernel
theorem d_Model_readWord_41 : decode b_Model_readWord 41 = .ok (.aload_n 0, 1) := by decide +kernel
theorem d_Model_readWord_42 : decode b_Model_readWord 42 = .ok (.getfield 175, 3) := by decide +kernel
theorem d_Model_readWord_45 : decode b_Model_readWord 45 = .ok (.iconst 1, 1) := by decide +kernel
theorem d_Model_readWord_46 : decode b_Model_readWord 46 = .ok (.iadd, 1) := by decide +kernel
theorem d_Model_readWord_47 : decode b_Model_readWord 47 = .ok (.if_icmp .ne 45, 3) := by decide +kernel
theorem d_Model_readWord_50 : decode b_Model_readWord 50 = .ok (.iload_n 1, 1) := by decide +kernel
theorem d_Model_readWord_51 : decode b_Model_readWord 51 = .ok (.bipush 102, 2) := by decide +kernel
theorem d_Model_readWord_53 : decode b_Model_readWord 53 = .ok (.if_icmp .le 9, 3) := by decide +kernel
theorem d_Model_readWord_56 : decode b_Model_readWord 56 = .ok (.iload_n 1, 1) := by decide +kernel
theorem d_Model_readWord_57 : decode b_Model_readWord 57 = .ok (.bipush 119, 2) := by decide +kernel
theorem d_Model_readWord_59 : decode b_Model_readWord 59 = .ok (.if_icmp .lt 33, 3) := by decide +kernel
theorem d_Model_readWord_62 : decode b_Model_readWord 62 = .ok (.aload_n 0, 1) := by decide +kernel
theorem d_Model_readWord_63 : decode b_Model_readWord 63 = .ok (.iconst 2, 1) := by decide +kernel
theorem d_Model_readWord_64 : decode b_Model_readWord 64 = .ok (.putfield 178, 3) := by decide +kernel
theorem d_Model_readWord_67 : decode b_Model_readWord 67 = .ok (.aload_n 0, 1) := by decide +kernel
theorem d_Model_readWord_68 : decode b_Model_readWord 68 = .ok (.iload_n 1, 1) := by decide +kernel
theorem d_Model_readWord_69 : decode b_Model_readWord 69 = .ok (.bipush 102, 2) := by decide +kernel
theorem d_Model_readWord_71 : decode b_Model_readWord 71 = .ok (.if_icmp .gt 10, 3) := by decide +kernel
theorem d_Model_readWord_74 : decode b_Model_readWord 74 = .ok (.iload_n 1, 1) := by decide +kernel
theorem d_Model_readWord_75 : decode b_Model_readWord 75 = .ok (.bipush 97, 2) := by decide +kernel
theorem d_Model_readWord_77 : decode b_Model_readWord 77 = .ok (.isub, 1) := by decide +kernel
theorem d_Model_readWord_78 : decode b_Model_readWord 78 = .ok (.goto 10, 3) := by decide +kernel
theorem d_Model_readWord_81 : decode b_Model_readWord 81 = .ok (.iload_n 1, 1) := by decide +kernel
theorem d_Model_readWord_82 : decode b_Model_readWord 82 = .ok (.bipush 119, 2) := by decide +kernel
theorem d_Model_readWord_84 : decode b_Model_readWord 84 = .ok (.isub, 1) := by decide +kernel
theorem d_Model_readWord_85 : decode b_Model_readWord 85 = .ok (.bipush 6, 2) := by decide +kernel
theorem d_Model_readWord_87 : decode b_Model_readWord 87 = .ok (.iadd, 1) := by decide +kernel
theorem d_Model_readWord_88 : decode b_Model_readWord 88 = .ok (.putfield 181, 3) := by decide +kernel
theorem d_Model_readWord_91 : decode b_Model_readWord 91 = .ok (.return_, 1) := by decide +kernel
theorem d_Model_readWord_92 : decode b_Model_readWord 92 = .ok (.iconst 0, 1) := by decide +kernel
theorem d_Model_readWord_93 : decode b_Model_readWord 93 = .ok (.istore_n 2, 1) := by decide +kernel
theorem d_Model_readWord_94 : decode b_Model_readWord 94 = .ok (.aload_n 0, 1) := by decide +kernel
theorem d_Model_readWord_95 : decode b_Model_readWord 95 = .ok (.getfield 175, 3) := by decide +kernel
theorem d_Model_readWord_98 : decode b_Model_readWord 98 = .ok (.istore_n 3, 1) := by decide +kernel
theorem d_Model_readWord_99 : decode b_Model_readWord 99 = .ok (.iload_n 3, 1) := by decide +kernel
theorem d_Model_readWord_100 : decode b_Model_readWord 100 = .ok (.aload_n 0, 1) := by decide +kernel
theorem d_Model_readWord_101 : decode b_Model_readWord 101 = .ok (.getfield 164, 3) := by decide +kernel
theorem d_Model_readWord_104 : decode b_Model_readWord 104 = .ok (.if_icmp .ge 35, 3) := by decide +kernel
theorem d_Model_readWord_107 : decode b_Model_readWord 107 = .ok (.iload_n 3, 1) := by decide +kernel
theorem d_Model_readWord_108 : decode b_Model_readWord 108 = .ok (.aload_n 0, 1) := by decide +kernel
theorem d_Model_readWord_109 : decode b_Model_readWord 109 = .ok (.getfield 175, 3) := by decide +kernel
theorem d_Model_readWord_112 : decode b_Model_readWord 112 = .ok (.bipush 6, 2) := by decide +kernel
theorem d_Model_readWord_114 : decode b_Model_readWord 114 = .ok (.iadd, 1) := by decide +kernel
theorem d_Model_readWord_115 : decode b_Model_readWord 115 = .ok (.if_icmp .ge 24, 3) := by decide +kernel
theorem d_Model_readWord_118 : decode b_Model_readWord 118 = .ok (.bipush 27, 2) := by decide +kernel
theorem d_Model_readWord_120 : decode b_Model_readWord 120 = .ok (.iload_n 2, 1) := by decide +kernel
theorem d_Model_readWord_121 : decode b_Model_readWord 121 = .ok (.imul, 1) := by decide +kernel
theorem d_Model_readWord_122 : decode b_Model_readWord 122 = .ok (.aload_n 0, 1) := by decide +kernel
theorem d_Model_readWord_123 : decode b_Model_readWord 123 = .ok (.getfield 7, 3) := by decide +kernel
theorem d_Model_readWord_126 : decode b_Model_readWord 126 = .ok (.iload_n 3, 1) := by decide +kernel
theorem d_Model_readWord_127 : decode b_Model_readWord 127 = .ok (.iaload, 1) := by decide +kernel
theorem d_Model_readWord_128 : decode b_Model_readWord 128 = .ok (.iadd, 1) := by decide +kernel
theorem d_Model_readWord_129 : decode b_Model_readWord 129 = .ok (.bipush 96, 2) := by decide +kernel
theorem d_Model_readWord_131 : decode b_Model_readWord 131 = .ok (.isub, 1) := by decide +kernel
theorem d_Model_readWord_132 : decode b_Model_readWord 132 = .ok (.istore_n 2, 1) := by decide +kernel
theorem d_Model_readWord_133 : decode b_Model_readWord 133 = .ok (.iinc 3 1, 3) := by decide +kernel
theorem d_Model_readWord_136 : decode b_Model_readWord 136 = .ok (.goto (-37), 3) := by decide +kernel
theorem d_Model_readWord_139 : decode b_Model_readWord 139 = .ok (.aload_n 0, 1) := by decide +kernel
theorem d_Model_readWord_140 : decode b_Model_readWord 140 = .ok (.aload_n 0, 1) := by decide +kernel
theorem d_Model_readWord_141 : decode b_Model_readWord 141 = .ok (.getfield 164, 3) := by decide +kernel
theorem d_Model_readWord_144 : decode b_Model_readWord 144 = .ok (.aload_n 0, 1) := by decide +kernel
theorem d_Model_readWord_145 : decode b_Model_readWord 145 = .ok (.getfield 175, 3) := by decide +kernel
theorem d_Model_readWord_148 : decode b_Model_readWord 148 = .ok (.bipush 6, 2) := by decide +kernel
theorem d_Model_readWord_150 : decode b_Model_readWord 150 = .ok (.iadd, 1) := by decide +kernel
theorem d_Model_readWord_151 : decode b_Model_readWord 151 = .ok (.if_icmp .le 7, 3) := by decide +kernel
theorem d_Model_readWord_154 : decode b_Model_readWord 154 = .ok (.iconst 1, 1) := by decide +kernel
theorem d_Model_readWord_155 : decode b_Model_readWord 155 = .ok (.goto 7, 3) := by decide +kernel
theorem d_Model_readWord_158 : decode b_Model_readWord 158 = .ok (.iload_n 2, 1) := by decide +kernel
theorem d_Model_readWord_159 : decode b_Model_readWord 159 = .ok (.invokestatic 184, 3) := by decide +kernel
theorem d_Model_readWord_162 : decode b_Model_readWord 162 = .ok (.putfield 178, 3) := by decide +kernel
theorem d_Model_readWord_165 : decode b_Model_readWord 165 = .ok (.return_, 1) := by decide +kernel
set_option maxHeartbeats 40000000 in
set_option maxRecDepth 100000 in
theorem c_M_readWord (l : Launch) (D : va_G) (ax : Nat → ClassId) (m0 m1 m2 m3 m4 m5 m6 m7 m8 m9 m10 m11 m12 m13 m14 m15 m16 m17 m18 m19 m20 m21 m22 m23 m24 m25 m26 m27 m28 m29 m30 m31 m32 m33 m34 m35 m36 m37 m38 m39 m40 m41 m42 : Nat) (s_thrown s_taped s_outSize s_kind s_failed s_isProgram s_half s_signs s_stacked s_name s_shift s_statements s_ifs s_whiles s_variants s_open s_isMade s_conditions s_kept s_tops s_used s_looked s_rows s_firstRow s_isBroken s_atoms : Int32) (n b v0 : Nat) (g : Nat → Nat) (sz : Nat) (hn : n ≤ 400) (hb0 : b < n) (hg : ∀ j, g j < 256) (hb1 : 97 ≤ bt g n b ∧ bt g n b ≤ 122) : Met l y_Model_readWord (xws (.code y_Model_readWord b_Model_readWord 4 none)) ({ frames := 20, cells := 0, slots := 0, locals := 800 }) (va_Pc [.ref m0] (xo D ax [(m0, .inr (11, [.int s_thrown, .int s_taped, .ref m1, .int (nI n), .int s_outSize, .ref m2, .int s_kind, .int (nI v0), .int (nI b), .int (nI b), .int s_failed, .ref m3, .ref m4, .ref m5, .int s_isProgram, .int s_half, .ref m6, .ref m7, .ref m8, .ref m9, .ref m10, .ref m11, .ref m12, .ref m13, .ref m14, .ref m15, .ref m16, .ref m17, .ref m18, .ref m19, .ref m20, .int s_signs, .ref m21, .int s_stacked, .ref m22, .int s_name, .int s_shift, .int s_statements, .int s_ifs, .int s_whiles, .int s_variants, .int s_open, .ref m23, .int s_isMade, .int s_conditions, .ref m24, .ref m25, .ref m26, .ref m27, .int s_kept, .ref m28, .int s_tops, .ref m29, .int s_used, .ref m30, .ref m31, .int s_looked, .int s_rows, .int s_firstRow, .ref m32, .ref m33, .ref m34, .ref m35, .ref m36, .ref m37, .ref m38, .ref m39, .ref m40, .int s_isBroken, .ref m41, .int s_atoms, .ref m42])), (m1, .inl (ax 0, 400, .inl (fun j => nI (g j))))] sz)) ((va_Qv (fun (u : Nat → Nat) => (u 0 = rwK g n b ∧ u 1 = rwV g n b v0)) (xb D (va_A [(m0, .inr (11, [.int s_thrown, .int s_taped, .ref m1, .int (nI n), .int s_outSize, .ref m2, .int s_kind, .int (nI v0), .int (nI b), .int (nI b), .int s_failed, .ref m3, .ref m4, .ref m5, .int s_isProgram, .int s_half, .ref m6, .ref m7, .ref m8, .ref m9, .ref m10, .ref m11, .ref m12, .ref m13, .ref m14, .ref m15, .ref m16, .ref m17, .ref m18, .ref m19, .ref m20, .int s_signs, .ref m21, .int s_stacked, .ref m22, .int s_name, .int s_shift, .int s_statements, .int s_ifs, .int s_whiles, .int s_variants, .int s_open, .ref m23, .int s_isMade, .int s_conditions, .ref m24, .ref m25, .ref m26, .ref m27, .int s_kept, .ref m28, .int s_tops, .ref m29, .int s_used, .ref m30, .ref m31, .int s_looked, .int s_rows, .int s_firstRow, .ref m32, .ref m33, .ref m34, .ref m35, .ref m36, .ref m37, .ref m38, .ref m39, .ref m40, .int s_isBroken, .ref m41, .int s_atoms, .ref m42])), (m1, .inl (ax 0, 400, .inl (fun j => nI (g j))))] sz) (fun u => [(m0, .inr (11, [.int s_thrown, .int s_taped, .ref m1, .int (nI n), .int s_outSize, .ref m2, .int (nI (u 0)), .int (nI (u 1)), .int (nI b), .int (nI (ltE g n (n - b) b)), .int s_failed, .ref m3, .ref m4, .ref m5, .int s_isProgram, .int s_half, .ref m6, .ref m7, .ref m8, .ref m9, .ref m10, .ref m11, .ref m12, .ref m13, .ref m14, .ref m15, .ref m16, .ref m17, .ref m18, .ref m19, .ref m20, .int s_signs, .ref m21, .int s_stacked, .ref m22, .int s_name, .int s_shift, .int s_statements, .int s_ifs, .int s_whiles, .int s_variants, .int s_open, .ref m23, .int s_isMade, .int s_conditions, .ref m24, .ref m25, .ref m26, .ref m27, .int s_kept, .ref m28, .int s_tops, .ref m29, .int s_used, .ref m30, .ref m31, .int s_looked, .int s_rows, .int s_firstRow, .ref m32, .ref m33, .ref m34, .ref m35, .ref m36, .ref m37, .ref m38, .ref m39, .ref m40, .int s_isBroken, .ref m41, .int s_atoms, .ref m42])), (m1, .inl (ax 0, 400, .inl (fun j => nI (g j))))])) (va_A [(m0, .inr (11, [.int s_thrown, .int s_taped, .ref m1, .int (nI n), .int s_outSize, .ref m2, .int s_kind, .int (nI v0), .int (nI b), .int (nI b), .int s_failed, .ref m3, .ref m4, .ref m5, .int s_isProgram, .int s_half, .ref m6, .ref m7, .ref m8, .ref m9, .ref m10, .ref m11, .ref m12, .ref m13, .ref m14, .ref m15, .ref m16, .ref m17, .ref m18, .ref m19, .ref m20, .int s_signs, .ref m21, .int s_stacked, .ref m22, .int s_name, .int s_shift, .int s_statements, .int s_ifs, .int s_whiles, .int s_variants, .int s_open, .ref m23, .int s_isMade, .int s_conditions, .ref m24, .ref m25, .ref m26, .ref m27, .int s_kept, .ref m28, .int s_tops, .ref m29, .int s_used, .ref m30, .ref m31, .int s_looked, .int s_rows, .int s_firstRow, .ref m32, .ref m33, .ref m34, .ref m35, .ref m36, .ref m37, .ref m38, .ref m39, .ref m40, .int s_isBroken, .ref m41, .int s_atoms, .ref m42])), (m1, .inl (ax 0, 400, .inl (fun j => nI (g j))))] sz))) 0 0 (va_A [(m0, .inr (11, [.int s_thrown, .int s_taped, .ref m1, .int (nI n), .int s_outSize, .ref m2, .int s_kind, .int (nI v0), .int (nI b), .int (nI b), .int s_failed, .ref m3, .ref m4, .ref m5, .int s_isProgram, .int s_half, .ref m6, .ref m7, .ref m8, .ref m9, .ref m10, .ref m11, .ref m12, .ref m13, .ref m14, .ref m15, .ref m16, .ref m17, .ref m18, .ref m19, .ref m20, .int s_signs, .ref m21, .int s_stacked, .ref m22, .int s_name, .int s_shift, .int s_statements, .int s_ifs, .int s_whiles, .int s_variants, .int s_open, .ref m23, .int s_isMade, .int s_conditions, .ref m24, .ref m25, .ref m26, .ref m27, .int s_kept, .ref m28, .int s_tops, .ref m29, .int s_used, .ref m30, .ref m31, .int s_looked, .int s_rows, .int s_firstRow, .ref m32, .ref m33, .ref m34, .ref m35, .ref m36, .ref m37, .ref m38, .ref m39, .ref m40, .int s_isBroken, .ref m41, .int s_atoms, .ref m42])), (m1, .inl (ax 0, 400, .inl (fun j => nI (g j))))] sz) := by
  refine Met.ofW (cc := b_Model_readWord) (maxL := 4) (ret := none) (by decide) rfl ?_
  intro p e s m args below meth c s₁ B hml hv
  obtain ⟨rfl, hsz, hP, hK, hD0⟩ := hv
  have hx := B.exec
  have hb := B.bytes
  have hr := B.returns
  have hts := xw_hts B.pre
  have hown : s.vm.findClass R_Model = some m.cls := findClass_of_methodNamed B.named
  have hlocks := B.notSynchronized
  subst hsz
  have hD := hD0.self (sz := s.heap.size)
  have hN := xz_entry hP
  generalize hAe : va_A [(m0, .inr (11, [.int s_thrown, .int s_taped, .ref m1, .int (nI n), .int s_outSize, .ref m2, .int s_kind, .int (nI v0), .int (nI b), .int (nI b), .int s_failed, .ref m3, .ref m4, .ref m5, .int s_isProgram, .int s_half, .ref m6, .ref m7, .ref m8, .ref m9, .ref m10, .ref m11, .ref m12, .ref m13, .ref m14, .ref m15, .ref m16, .ref m17, .ref m18, .ref m19, .ref m20, .int s_signs, .ref m21, .int s_stacked, .ref m22, .int s_name, .int s_shift, .int s_statements, .int s_ifs, .int s_whiles, .int s_variants, .int s_open, .ref m23, .int s_isMade, .int s_conditions, .ref m24, .ref m25, .ref m26, .ref m27, .int s_kept, .ref m28, .int s_tops, .ref m29, .int s_used, .ref m30, .ref m31, .int s_looked, .int s_rows, .int s_firstRow, .ref m32, .ref m33, .ref m34, .ref m35, .ref m36, .ref m37, .ref m38, .ref m39, .ref m40, .int s_isBroken, .ref m41, .int s_atoms, .ref m42])), (m1, .inl (ax 0, 400, .inl (fun j => nI (g j))))] s.heap.size = A at hD hN ⊢
  have hA : ∀ q : Nat, s.heap.size ≤ q → A q := fun q h => by rw [← hAe]; exact Or.inr h
  have hS : va_S A s.heap s.heap [] := va_S.rf
  have hl0 := lv_entry ([.ref m0]) (n := 4) (Nat.le_of_ble_eq_true rfl)
  rw [lg_entry_eq]
  generalize (lg_sl ([.ref m0]) ++ List.replicate (4 - (lg_sl ([.ref m0])).length) Slot.unset).toArray = ls at hl0 ⊢
  have hl1 : lv_has ls 4 [(0, .ref m0)] := hl0
  refine xw_gen (fun Z9 hQe => ?_)
  suffices key_1 : ∀ (k : Nat) (q : Nat), n - q < k → b ≤ q → q ≤ n → ltE g n (n - q) q = ltE g n (n - b) b → ∀ (H : Heap) (locs : List Loc) (ls : Array Slot), va_P D classes [(m0, .inr (11, [.int s_thrown, .int s_taped, .ref m1, .int (nI n), .int s_outSize, .ref m2, .int s_kind, .int (nI v0), .int (nI b), .int (nI q), .int s_failed, .ref m3, .ref m4, .ref m5, .int s_isProgram, .int s_half, .ref m6, .ref m7, .ref m8, .ref m9, .ref m10, .ref m11, .ref m12, .ref m13, .ref m14, .ref m15, .ref m16, .ref m17, .ref m18, .ref m19, .ref m20, .int s_signs, .ref m21, .int s_stacked, .ref m22, .int s_name, .int s_shift, .int s_statements, .int s_ifs, .int s_whiles, .int s_variants, .int s_open, .ref m23, .int s_isMade, .int s_conditions, .ref m24, .ref m25, .ref m26, .ref m27, .int s_kept, .ref m28, .int s_tops, .ref m29, .int s_used, .ref m30, .ref m31, .int s_looked, .int s_rows, .int s_firstRow, .ref m32, .ref m33, .ref m34, .ref m35, .ref m36, .ref m37, .ref m38, .ref m39, .ref m40, .int s_isBroken, .ref m41, .int s_atoms, .ref m42])), (m1, .inl (ax 0, 400, .inl (fun j => nI (g j))))] H → va_D A [(m0, .inr (11, [.int s_thrown, .int s_taped, .ref m1, .int (nI n), .int s_outSize, .ref m2, .int s_kind, .int (nI v0), .int (nI b), .int (nI q), .int s_failed, .ref m3, .ref m4, .ref m5, .int s_isProgram, .int s_half, .ref m6, .ref m7, .ref m8, .ref m9, .ref m10, .ref m11, .ref m12, .ref m13, .ref m14, .ref m15, .ref m16, .ref m17, .ref m18, .ref m19, .ref m20, .int s_signs, .ref m21, .int s_stacked, .ref m22, .int s_name, .int s_shift, .int s_statements, .int s_ifs, .int s_whiles, .int s_variants, .int s_open, .ref m23, .int s_isMade, .int s_conditions, .ref m24, .ref m25, .ref m26, .ref m27, .int s_kept, .ref m28, .int s_tops, .ref m29, .int s_used, .ref m30, .ref m31, .int s_looked, .int s_rows, .int s_firstRow, .ref m32, .ref m33, .ref m34, .ref m35, .ref m36, .ref m37, .ref m38, .ref m39, .ref m40, .int s_isBroken, .ref m41, .int s_atoms, .ref m42])), (m1, .inl (ax 0, 400, .inl (fun j => nI (g j))))] → va_S A s.heap H locs → lv_has ls 4 [(0, .ref m0)] → W p l e (headSpec (xws (.code y_Model_readWord b_Model_readWord 4 none)) ({ frames := 20, cells := 0, slots := 0, locals := 800 })).room s m ([.ref m0] : List Value).toArray below meth c H locs 0 0 Z9 (F0 m 0 ls []) from key_1 (n - b + 1) b (Nat.lt_succ_self _) (by first | assumption | omega) (by first | assumption | omega) rfl _ _ _ (hP) (hD) hS (lv_sub hl1 [0] rfl)
  intro k_2
  induction k_2 with
  | zero =>
    intro q hk_4
    exact absurd hk_4 (Nat.not_lt_zero _)
  | succ k_2 ih_3 =>
    clear hP hD hS hl1
    intro q hk_4 hq1 hq2 hE H locs ls hP hD hS hl1
    refine lv_aload_n hx hb d_Model_readWord_0 rfl (lv_at hl1 0 rfl) ?_
    refine lv_aload_n hx hb d_Model_readWord_1 rfl (lv_at hl1 0 rfl) ?_
    refine va_get (D := D) (ci := 11) (v := .int (nI q)) (C := R_Model) (T := F_Model) (N := 72) hx hb hts i_Model hown hK.1 hP 0 rfl rfl 9 (by decide) (hts _ wd_1045) (fun _ h9 => h9) rfl d_Model_readWord_2 ?_
    obtain ⟨hPc, hDc, hFc, hCs⟩ := xw_sub3 (wc := [(m0, .inr (11, [.int s_thrown, .int s_taped, .ref m1, .int (nI n), .int s_outSize, .ref m2, .int s_kind, .int (nI v0), .int (nI b), .int (nI q), .int s_failed, .ref m3, .ref m4, .ref m5, .int s_isProgram, .int s_half, .ref m6, .ref m7, .ref m8, .ref m9, .ref m10, .ref m11, .ref m12, .ref m13, .ref m14, .ref m15, .ref m16, .ref m17, .ref m18, .ref m19, .ref m20, .int s_signs, .ref m21, .int s_stacked, .ref m22, .int s_name, .int s_shift, .int s_statements, .int s_ifs, .int s_whiles, .int s_variants, .int s_open, .ref m23, .int s_isMade, .int s_conditions, .ref m24, .ref m25, .ref m26, .ref m27, .int s_kept, .ref m28, .int s_tops, .ref m29, .int s_used, .ref m30, .ref m31, .int s_looked, .int s_rows, .int s_firstRow, .ref m32, .ref m33, .ref m34, .ref m35, .ref m36, .ref m37, .ref m38, .ref m39, .ref m40, .int s_isBroken, .ref m41, .int s_atoms, .ref m42])), (m1, .inl (ax 0, 400, .inl (fun j => nI (g j))))]) hP hD hS hA [0, 1] (by decide) rfl
    have hz := xz_of hN hS
    refine va_calli (va_runV (As := [.int (nI q)]) (rest := []) ⟨hx, hb, hml, hown, hts⟩ (c_M_byteAt l D ax m0 m1 m2 m3 m4 m5 m6 m7 m8 m9 m10 m11 m12 m13 m14 m15 m16 m17 m18 m19 m20 m21 m22 m23 m24 m25 m26 m27 m28 m29 m30 m31 m32 m33 m34 m35 m36 m37 m38 m39 m40 m41 m42 s_thrown s_taped s_outSize s_kind (nI v0) (nI b) (nI q) s_failed s_isProgram s_half s_signs s_stacked s_name s_shift s_statements s_ifs s_whiles s_variants s_open s_isMade s_conditions s_kept s_tops s_used s_looked s_rows s_firstRow s_isBroken s_atoms n q g H.size hn (by first | assumption | omega)) (xcV (n := 1) hts wd_1282 wd_15 wd_1279 wd_1281 ps_52 rfl rfl (by decide +kernel) ⟨Nat.le_of_ble_eq_true rfl, Nat.le_of_ble_eq_true rfl⟩) (xpV (ci := 11) (q0 := 0) (As := [.int (nI q)]) hPc hK hz hDc rfl rfl) rfl rfl hl1.1 rfl (lv_room (Nat.le_of_ble_eq_true rfl)) d_Model_readWord_5 ⟨Nat.le_of_ble_eq_true rfl, Nat.le_of_ble_eq_true rfl⟩) hS (fun q _ h => hFc q h) hFc (fun r_7 u_5 t H_6 locs ht hvm hw hB hz1 hk1 hS1 => ?_)
    try dsimp only at hw
    subst hw
    obtain ⟨hP1, hD1⟩ := hB
    rw [ht] at hP1
    have hjn := xw_join3 (wl := [(m0, .inr (11, [.int s_thrown, .int s_taped, .ref m1, .int (nI n), .int s_outSize, .ref m2, .int s_kind, .int (nI v0), .int (nI b), .int (nI q), .int s_failed, .ref m3, .ref m4, .ref m5, .int s_isProgram, .int s_half, .ref m6, .ref m7, .ref m8, .ref m9, .ref m10, .ref m11, .ref m12, .ref m13, .ref m14, .ref m15, .ref m16, .ref m17, .ref m18, .ref m19, .ref m20, .int s_signs, .ref m21, .int s_stacked, .ref m22, .int s_name, .int s_shift, .int s_statements, .int s_ifs, .int s_whiles, .int s_variants, .int s_open, .ref m23, .int s_isMade, .int s_conditions, .ref m24, .ref m25, .ref m26, .ref m27, .int s_kept, .ref m28, .int s_tops, .ref m29, .int s_used, .ref m30, .ref m31, .int s_looked, .int s_rows, .int s_firstRow, .ref m32, .ref m33, .ref m34, .ref m35, .ref m36, .ref m37, .ref m38, .ref m39, .ref m40, .int s_isBroken, .ref m41, .int s_atoms, .ref m42])), (m1, .inl (ax 0, 400, .inl (fun j => nI (g j))))]) hP hD [0, 1] [] hCs (by decide) (by decide) hk1 hFc hP1 hD1 rfl
    clear hP1 hD1
    clear hPc hDc hFc hCs hz hz1 hk1 ht hvm
    clear hP hD hS
    have hS := hS1
    obtain ⟨hP, hD⟩ := hjn
    clear hS1
    obtain ⟨hPc, hDc, hFc, hCs⟩ := xw_sub3 (wc := []) hP hD hS hA [] (by decide) rfl
    have hz := xz_of hN hS
    refine va_calli (va_runS (As := [.int (nI (bt g n q))]) (rest := []) ⟨hx, hb, hml, hown, hts⟩ (c_M_isLetter l D ax (bt g n q) H_6.size (bt_lt hg)) (xcS (n := 1) hts wd_1285 wd_15 wd_1283 wd_1284 rfl rfl (by decide +kernel) ⟨Nat.le_of_ble_eq_true rfl, Nat.le_of_ble_eq_true rfl⟩) (xpS (As := [.int (nI (bt g n q))]) hPc hK hz hDc) rfl rfl hl1.1 rfl (lv_room (Nat.le_of_ble_eq_true rfl)) d_Model_readWord_8 ⟨Nat.le_of_ble_eq_true rfl, Nat.le_of_ble_eq_true rfl⟩) hS (fun q _ h => hFc q h) hFc (fun r_10 u_8 t H_9 locs ht hvm hw hB hz1 hk1 hS1 => ?_)
    try dsimp only at hw
    subst hw
    obtain ⟨hP1, hD1⟩ := hB
    rw [ht] at hP1
    have hjn := xw_join3 (wl := [(m0, .inr (11, [.int s_thrown, .int s_taped, .ref m1, .int (nI n), .int s_outSize, .ref m2, .int s_kind, .int (nI v0), .int (nI b), .int (nI q), .int s_failed, .ref m3, .ref m4, .ref m5, .int s_isProgram, .int s_half, .ref m6, .ref m7, .ref m8, .ref m9, .ref m10, .ref m11, .ref m12, .ref m13, .ref m14, .ref m15, .ref m16, .ref m17, .ref m18, .ref m19, .ref m20, .int s_signs, .ref m21, .int s_stacked, .ref m22, .int s_name, .int s_shift, .int s_statements, .int s_ifs, .int s_whiles, .int s_variants, .int s_open, .ref m23, .int s_isMade, .int s_conditions, .ref m24, .ref m25, .ref m26, .ref m27, .int s_kept, .ref m28, .int s_tops, .ref m29, .int s_used, .ref m30, .ref m31, .int s_looked, .int s_rows, .int s_firstRow, .ref m32, .ref m33, .ref m34, .ref m35, .ref m36, .ref m37, .ref m38, .ref m39, .ref m40, .int s_isBroken, .ref m41, .int s_atoms, .ref m42])), (m1, .inl (ax 0, 400, .inl (fun j => nI (g j))))]) hP hD [] [0, 1] hCs (by decide) (by decide) hk1 hFc hP1 hD1 rfl
    clear hP1 hD1
    clear hPc hDc hFc hCs hz hz1 hk1 ht hvm
    clear hP hD hS
    have hS := hS1
    obtain ⟨hP, hD⟩ := hjn
    clear hS1
    refine lv_if_eq (tgt := 27) hx hb d_Model_readWord_11 (by decide) (fun c_11 => ?_) (fun c_11 => ?_)
    · replace c_11 : ¬ (97 ≤ (bt g n q) ∧ (bt g n q) ≤ 122) := zb_n c_11
      have hE2 : q = ltE g n (n - b) b := by rw [← hE]; exact (ltE_stop (by assumption) _).symm
      obtain ⟨hE3, hE4, hE5⟩ := ltE_le (g := g) (n := n) (n - b) b (by first | assumption | omega)
      have hE6 : b < ltE g n (n - b) b := by rw [ltE_step hb1]; have := (ltE_le (g := g) (n := n) (n - (b + 1)) (b + 1) (by first | assumption | omega)).2.1; omega
      have hgb := hE5 b (Nat.le_refl _) hE6
      rw [hE2] at hP hD
      refine lv_aload_n hx hb d_Model_readWord_27 rfl (lv_at hl1 0 rfl) ?_
      refine va_get (D := D) (ci := 11) (v := .ref m1) (C := R_Model) (T := F_Model) (N := 72) hx hb hts i_Model hown hK.1 hP 0 rfl rfl 2 (by decide) (hts _ wd_1038) (fun _ h9 => h9) rfl d_Model_readWord_28 ?_
      refine lv_aload_n hx hb d_Model_readWord_31 rfl (lv_at hl1 0 rfl) ?_
      refine va_get (D := D) (ci := 11) (v := .int (nI b)) (C := R_Model) (T := F_Model) (N := 72) hx hb hts i_Model hown hK.1 hP 0 rfl rfl 8 (by decide) (hts _ wd_1044) (fun _ h9 => h9) rfl d_Model_readWord_32 ?_
      refine va_iald hx hb hK.1 hP 1 0 rfl rfl (vp_in_nI (by first | assumption | omega) (by decide)) d_Model_readWord_35 ?_
      refine W.eq (g2 := F0 m 36 ls [.int (nI (g b))]) (by rw [nI_clamp (by first | exact Nat.lt_of_lt_of_le (by assumption) (by decide) | exact Nat.lt_of_le_of_lt (by assumption) (by decide) | omega)]) ?_
      refine lv_istore_n (lv' := [(1, .int (nI (g b))), (0, .ref m0)]) hx hb d_Model_readWord_36 rfl hl1 (by decide) rfl (fun ls hl2 => ?_)
      clear hl1; have hl1 := hl2; clear hl2
      refine lv_aload_n hx hb d_Model_readWord_37 rfl (lv_at hl1 1 rfl) ?_
      refine va_get (D := D) (ci := 11) (v := .int (nI (ltE g n (n - b) b))) (C := R_Model) (T := F_Model) (N := 72) hx hb hts i_Model hown hK.1 hP 0 rfl rfl 9 (by decide) (hts _ wd_1045) (fun _ h9 => h9) rfl d_Model_readWord_38 ?_
      refine lv_aload_n hx hb d_Model_readWord_41 rfl (lv_at hl1 1 rfl) ?_
      refine va_get (D := D) (ci := 11) (v := .int (nI b)) (C := R_Model) (T := F_Model) (N := 72) hx hb hts i_Model hown hK.1 hP 0 rfl rfl 8 (by decide) (hts _ wd_1044) (fun _ h9 => h9) rfl d_Model_readWord_42 ?_
      refine lv_iconst (v := 1) hx hb d_Model_readWord_45 (by decide) ?_
      refine lv_iadd hx hb d_Model_readWord_46 ?_
      refine lv_topi (fun z_12 ez_12 => ?_)
      have ez_12 : z_12 = nI (b + 1) := ez_12.trans (nI_add b 1)
      subst ez_12
      refine lv_icmp_ne (tgt := 92) hx hb d_Model_readWord_47 (by decide) (fun c_13 => ?_) (fun c_13 => ?_)
      · replace c_13 : ¬ ltE g n (n - b) b = b + 1 := fun hq9 => c_13 ((nI_eq (a := ltE g n (n - b) b) (b := b + 1) (by first | exact Nat.lt_of_lt_of_le (by assumption) (by decide) | exact Nat.lt_of_le_of_lt (by assumption) (by decide) | omega) (by first | exact Nat.lt_of_lt_of_le (by assumption) (by decide) | exact Nat.lt_of_le_of_lt (by assumption) (by decide) | omega)).mpr hq9)
        refine lv_iconst (v := 0) hx hb d_Model_readWord_92 (by decide) ?_
        refine lv_istore_n (lv' := [(2, .int 0), (1, .int (nI (g b))), (0, .ref m0)]) hx hb d_Model_readWord_93 rfl hl1 (by decide) rfl (fun ls hl2 => ?_)
        clear hl1; have hl1 := hl2; clear hl2
        refine lv_aload_n hx hb d_Model_readWord_94 rfl (lv_at hl1 2 rfl) ?_
        refine va_get (D := D) (ci := 11) (v := .int (nI b)) (C := R_Model) (T := F_Model) (N := 72) hx hb hts i_Model hown hK.1 hP 0 rfl rfl 8 (by decide) (hts _ wd_1044) (fun _ h9 => h9) rfl d_Model_readWord_95 ?_
        refine lv_istore_n (lv' := [(3, .int (nI b)), (2, .int 0), (1, .int (nI (g b))), (0, .ref m0)]) hx hb d_Model_readWord_98 rfl hl1 (by decide) rfl (fun ls hl2 => ?_)
        clear hl1; have hl1 := hl2; clear hl2
        suffices key_14 : ∀ (k : Nat) (q d : Nat), ltE g n (n - b) b - q < k → b ≤ q → q ≤ ltE g n (n - b) b → q ≤ b + 6 → d = wv g b (q - b) → ∀ (H : Heap) (locs : List Loc) (ls : Array Slot), va_P D classes [(m0, .inr (11, [.int s_thrown, .int s_taped, .ref m1, .int (nI n), .int s_outSize, .ref m2, .int s_kind, .int (nI v0), .int (nI b), .int (nI (ltE g n (n - b) b)), .int s_failed, .ref m3, .ref m4, .ref m5, .int s_isProgram, .int s_half, .ref m6, .ref m7, .ref m8, .ref m9, .ref m10, .ref m11, .ref m12, .ref m13, .ref m14, .ref m15, .ref m16, .ref m17, .ref m18, .ref m19, .ref m20, .int s_signs, .ref m21, .int s_stacked, .ref m22, .int s_name, .int s_shift, .int s_statements, .int s_ifs, .int s_whiles, .int s_variants, .int s_open, .ref m23, .int s_isMade, .int s_conditions, .ref m24, .ref m25, .ref m26, .ref m27, .int s_kept, .ref m28, .int s_tops, .ref m29, .int s_used, .ref m30, .ref m31, .int s_looked, .int s_rows, .int s_firstRow, .ref m32, .ref m33, .ref m34, .ref m35, .ref m36, .ref m37, .ref m38, .ref m39, .ref m40, .int s_isBroken, .ref m41, .int s_atoms, .ref m42])), (m1, .inl (ax 0, 400, .inl (fun j => nI (g j))))] H → va_D A [(m0, .inr (11, [.int s_thrown, .int s_taped, .ref m1, .int (nI n), .int s_outSize, .ref m2, .int s_kind, .int (nI v0), .int (nI b), .int (nI (ltE g n (n - b) b)), .int s_failed, .ref m3, .ref m4, .ref m5, .int s_isProgram, .int s_half, .ref m6, .ref m7, .ref m8, .ref m9, .ref m10, .ref m11, .ref m12, .ref m13, .ref m14, .ref m15, .ref m16, .ref m17, .ref m18, .ref m19, .ref m20, .int s_signs, .ref m21, .int s_stacked, .ref m22, .int s_name, .int s_shift, .int s_statements, .int s_ifs, .int s_whiles, .int s_variants, .int s_open, .ref m23, .int s_isMade, .int s_conditions, .ref m24, .ref m25, .ref m26, .ref m27, .int s_kept, .ref m28, .int s_tops, .ref m29, .int s_used, .ref m30, .ref m31, .int s_looked, .int s_rows, .int s_firstRow, .ref m32, .ref m33, .ref m34, .ref m35, .ref m36, .ref m37, .ref m38, .ref m39, .ref m40, .int s_isBroken, .ref m41, .int s_atoms, .ref m42])), (m1, .inl (ax 0, 400, .inl (fun j => nI (g j))))] → va_S A s.heap H locs → lv_has ls 4 [(3, .int (nI q)), (2, .int (nI d)), (1, .int (nI (g b))), (0, .ref m0)] → W p l e (headSpec (xws (.code y_Model_readWord b_Model_readWord 4 none)) ({ frames := 20, cells := 0, slots := 0, locals := 800 })).room s m ([.ref m0] : List Value).toArray below meth c H locs 0 0 Z9 (F0 m 99 ls []) from key_14 (ltE g n (n - b) b - b + 1) b 0 (Nat.lt_succ_self _) (by first | assumption | omega) (by first | assumption | omega) (by first | assumption | omega) (by rw [Nat.sub_self]; rfl) _ _ _ (hP) (hD) hS (lv_sub hl1 [0, 1, 2, 3] rfl)
        intro k_15
        induction k_15 with
        | zero =>
          intro q d hk_17
          exact absurd hk_17 (Nat.not_lt_zero _)
        | succ k_15 ih_16 =>
          clear hP hD hS hl1
          intro q d hk_17 hr1 hr2 hr3 hd H locs ls hP hD hS hl1
          refine lv_iload_n hx hb d_Model_readWord_99 rfl (lv_at hl1 0 rfl) ?_
          refine lv_aload_n hx hb d_Model_readWord_100 rfl (lv_at hl1 3 rfl) ?_
          refine va_get (D := D) (ci := 11) (v := .int (nI (ltE g n (n - b) b))) (C := R_Model) (T := F_Model) (N := 72) hx hb hts i_Model hown hK.1 hP 0 rfl rfl 9 (by decide) (hts _ wd_1045) (fun _ h9 => h9) rfl d_Model_readWord_101 ?_
          refine lv_icmp_ge (tgt := 139) hx hb d_Model_readWord_104 (by decide) (fun c_18 => ?_) (fun c_18 => ?_)
          · replace c_18 : ltE g n (n - b) b ≤ q := (nI_leI (a := ltE g n (n - b) b) (b := q) (by first | exact Nat.lt_of_lt_of_le (by assumption) (by decide) | exact Nat.lt_of_le_of_lt (by assumption) (by decide) | omega) (by first | exact Nat.lt_of_lt_of_le (by assumption) (by decide) | exact Nat.lt_of_le_of_lt (by assumption) (by decide) | omega)).mp c_18
            have hwb : d < 387420489 := by rw [hd]; exact wv_bd (by first | assumption | omega) (fun j h1 h2 => hE5 j h1 (by first | assumption | omega))
            refine lv_aload_n hx hb d_Model_readWord_139 rfl (lv_at hl1 3 rfl) ?_
            refine lv_aload_n hx hb d_Model_readWord_140 rfl (lv_at hl1 3 rfl) ?_
            refine va_get (D := D) (ci := 11) (v := .int (nI (ltE g n (n - b) b))) (C := R_Model) (T := F_Model) (N := 72) hx hb hts i_Model hown hK.1 hP 0 rfl rfl 9 (by decide) (hts _ wd_1045) (fun _ h9 => h9) rfl d_Model_readWord_141 ?_
            refine lv_aload_n hx hb d_Model_readWord_144 rfl (lv_at hl1 3 rfl) ?_
            refine va_get (D := D) (ci := 11) (v := .int (nI b)) (C := R_Model) (T := F_Model) (N := 72) hx hb hts i_Model hown hK.1 hP 0 rfl rfl 8 (by decide) (hts _ wd_1044) (fun _ h9 => h9) rfl d_Model_readWord_145 ?_
            refine lv_bipush (v := 6) hx hb d_Model_readWord_148 (by decide) ?_
            refine lv_iadd hx hb d_Model_readWord_150 ?_
            refine lv_topi (fun z_19 ez_19 => ?_)
            have ez_19 : z_19 = nI (b + 6) := ez_19.trans (nI_add b 6)
            subst ez_19
            refine lv_icmp_le (tgt := 158) hx hb d_Model_readWord_151 (by decide) (fun c_20 => ?_) (fun c_20 => ?_)
            · replace c_20 : ltE g n (n - b) b ≤ b + 6 := (nI_leI (a := ltE g n (n - b) b) (b := b + 6) (by first | exact Nat.lt_of_lt_of_le (by assumption) (by decide) | exact Nat.lt_of_le_of_lt (by assumption) (by decide) | omega) (by first | exact Nat.lt_of_lt_of_le (by assumption) (by decide) | exact Nat.lt_of_le_of_lt (by assumption) (by decide) | omega)).mp c_20
              refine lv_iload_n hx hb d_Model_readWord_158 rfl (lv_at hl1 1 rfl) ?_
              obtain ⟨hPc, hDc, hFc, hCs⟩ := xw_sub3 (wc := []) hP hD hS hA [] (by decide) rfl
              have hz := xz_of hN hS
              refine va_calli (va_runS (As := [.int (nI d)]) (rest := [.ref m0]) ⟨hx, hb, hml, hown, hts⟩ (c_M_wordOf l D ax d H.size (by first | assumption | omega)) (xcS (n := 1) hts wd_1292 wd_15 wd_1290 wd_1291 rfl rfl (by decide +kernel) ⟨Nat.le_of_ble_eq_true rfl, Nat.le_of_ble_eq_true rfl⟩) (xpS (As := [.int (nI d)]) hPc hK hz hDc) rfl rfl hl1.1 rfl (lv_room (Nat.le_of_ble_eq_true rfl)) d_Model_readWord_159 ⟨Nat.le_of_ble_eq_true rfl, Nat.le_of_ble_eq_true rfl⟩) hS (fun q _ h => hFc q h) hFc (fun r_23 u_21 t H_22 locs ht hvm hw hB hz1 hk1 hS1 => ?_)
              try dsimp only at hw
              subst hw
              obtain ⟨hP1, hD1⟩ := hB
              rw [ht] at hP1
              have hjn := xw_join3 (wl := [(m0, .inr (11, [.int s_thrown, .int s_taped, .ref m1, .int (nI n), .int s_outSize, .ref m2, .int s_kind, .int (nI v0), .int (nI b), .int (nI (ltE g n (n - b) b)), .int s_failed, .ref m3, .ref m4, .ref m5, .int s_isProgram, .int s_half, .ref m6, .ref m7, .ref m8, .ref m9, .ref m10, .ref m11, .ref m12, .ref m13, .ref m14, .ref m15, .ref m16, .ref m17, .ref m18, .ref m19, .ref m20, .int s_signs, .ref m21, .int s_stacked, .ref m22, .int s_name, .int s_shift, .int s_statements, .int s_ifs, .int s_whiles, .int s_variants, .int s_open, .ref m23, .int s_isMade, .int s_conditions, .ref m24, .ref m25, .ref m26, .ref m27, .int s_kept, .ref m28, .int s_tops, .ref m29, .int s_used, .ref m30, .ref m31, .int s_looked, .int s_rows, .int s_firstRow, .ref m32, .ref m33, .ref m34, .ref m35, .ref m36, .ref m37, .ref m38, .ref m39, .ref m40, .int s_isBroken, .ref m41, .int s_atoms, .ref m42])), (m1, .inl (ax 0, 400, .inl (fun j => nI (g j))))]) hP hD [] [0, 1] hCs (by decide) (by decide) hk1 hFc hP1 hD1 rfl
              clear hP1 hD1
              clear hPc hDc hFc hCs hz hz1 hk1 ht hvm
              clear hP hD hS
              have hS := hS1
              obtain ⟨hP, hD⟩ := hjn
              clear hS1
              refine va_put (D := D) (ci := 11) (v := .int (nI (wo d))) (ty := .int) (C := R_Model) (T := F_Model) (N := 72) hx hb hts i_Model t_Model t_Model_ok n_Model hown hK.1 hP hD hS 0 rfl rfl 6 (by decide) (hts _ wd_1042) (fun _ h9 => h9) rfl (by decide +kernel) rfl rfl (Nat.le_of_ble_eq_true rfl) d_Model_readWord_162 (fun H_24 locs hP1 hD1 hS1 => ?_)
              clear hP hD hS
              have hS := hS1
              have hW7 : (fun w9 : va_W => va_P D classes w9 H_24 ∧ va_D A w9) [(m0, .inr (11, [.int s_thrown, .int s_taped, .ref m1, .int (nI n), .int s_outSize, .ref m2, .int (nI (wo d)), .int (nI v0), .int (nI b), .int (nI (ltE g n (n - b) b)), .int s_failed, .ref m3, .ref m4, .ref m5, .int s_isProgram, .int s_half, .ref m6, .ref m7, .ref m8, .ref m9, .ref m10, .ref m11, .ref m12, .ref m13, .ref m14, .ref m15, .ref m16, .ref m17, .ref m18, .ref m19, .ref m20, .int s_signs, .ref m21, .int s_stacked, .ref m22, .int s_name, .int s_shift, .int s_statements, .int s_ifs, .int s_whiles, .int s_variants, .int s_open, .ref m23, .int s_isMade, .int s_conditions, .ref m24, .ref m25, .ref m26, .ref m27, .int s_kept, .ref m28, .int s_tops, .ref m29, .int s_used, .ref m30, .ref m31, .int s_looked, .int s_rows, .int s_firstRow, .ref m32, .ref m33, .ref m34, .ref m35, .ref m36, .ref m37, .ref m38, .ref m39, .ref m40, .int s_isBroken, .ref m41, .int s_atoms, .ref m42])), (m1, .inl (ax 0, 400, .inl (fun j => nI (g j))))] := ⟨hP1, hD1⟩
              obtain ⟨hP, hD⟩ := hW7
              clear hP1 hD1 hS1
              rw [← hQe]
              obtain ⟨hP9, hD9⟩ := xw_sub2 (wc := (fun u : Nat → Nat => [(m0, .inr (11, [.int s_thrown, .int s_taped, .ref m1, .int (nI n), .int s_outSize, .ref m2, .int (nI (u 0)), .int (nI (u 1)), .int (nI b), .int (nI (ltE g n (n - b) b)), .int s_failed, .ref m3, .ref m4, .ref m5, .int s_isProgram, .int s_half, .ref m6, .ref m7, .ref m8, .ref m9, .ref m10, .ref m11, .ref m12, .ref m13, .ref m14, .ref m15, .ref m16, .ref m17, .ref m18, .ref m19, .ref m20, .int s_signs, .ref m21, .int s_stacked, .ref m22, .int s_name, .int s_shift, .int s_statements, .int s_ifs, .int s_whiles, .int s_variants, .int s_open, .ref m23, .int s_isMade, .int s_conditions, .ref m24, .ref m25, .ref m26, .ref m27, .int s_kept, .ref m28, .int s_tops, .ref m29, .int s_used, .ref m30, .ref m31, .int s_looked, .int s_rows, .int s_firstRow, .ref m32, .ref m33, .ref m34, .ref m35, .ref m36, .ref m37, .ref m38, .ref m39, .ref m40, .int s_isBroken, .ref m41, .int s_atoms, .ref m42])), (m1, .inl (ax 0, 400, .inl (fun j => nI (g j))))]) (ixn [(wo d), v0])) hP hD [0, 1] (by decide) rfl
              have hsp0 : (wo d) = rwK g n b := (by unfold rwK; first | (exfalso; omega; done) | rw [if_pos (by first | assumption | omega)] | (rw [if_neg (by first | assumption | omega), if_pos (by first | assumption | omega)]) | (rw [if_neg (by first | assumption | omega), if_neg (by first | assumption | omega), hd, show q = ltE g n (n - b) b by omega]))
              have hsp1 : v0 = rwV g n b v0 := (by unfold rwV; first | (exfalso; omega; done) | (rw [if_pos (by first | assumption | omega), if_pos (by first | assumption | omega)]) | (rw [if_pos (by first | assumption | omega), if_neg (by first | assumption | omega)]) | rw [if_neg (by first | assumption | omega)])
              exact W.vret hx hb hr (fun t ht hW => ⟨⟨ixn [(wo d), v0], rfl, ⟨hsp0, hsp1⟩, ⟨by rw [ht]; exact hP9, hD9⟩⟩, hS.F ht⟩) hS.2.2 d_Model_readWord_165
            · replace c_20 : ¬ ltE g n (n - b) b ≤ b + 6 := fun hq9 => c_20 ((nI_leI (a := ltE g n (n - b) b) (b := b + 6) (by first | exact Nat.lt_of_lt_of_le (by assumption) (by decide) | exact Nat.lt_of_le_of_lt (by assumption) (by decide) | omega) (by first | exact Nat.lt_of_lt_of_le (by assumption) (by decide) | exact Nat.lt_of_le_of_lt (by assumption) (by decide) | omega)).mpr hq9)
              refine lv_iconst (v := 1) hx hb d_Model_readWord_154 (by decide) ?_
              refine lv_goto (tgt := 162) hx hb d_Model_readWord_155 (by decide) ?_
              refine va_put (D := D) (ci := 11) (v := .int 1) (ty := .int) (C := R_Model) (T := F_Model) (N := 72) hx hb hts i_Model t_Model t_Model_ok n_Model hown hK.1 hP hD hS 0 rfl rfl 6 (by decide) (hts _ wd_1042) (fun _ h9 => h9) rfl (by decide +kernel) rfl rfl (Nat.le_of_ble_eq_true rfl) d_Model_readWord_162 (fun H_25 locs hP1 hD1 hS1 => ?_)
              clear hP hD hS
              have hS := hS1
              have hW7 : (fun w9 : va_W => va_P D classes w9 H_25 ∧ va_D A w9) [(m0, .inr (11, [.int s_thrown, .int s_taped, .ref m1, .int (nI n), .int s_outSize, .ref m2, .int 1, .int (nI v0), .int (nI b), .int (nI (ltE g n (n - b) b)), .int s_failed, .ref m3, .ref m4, .ref m5, .int s_isProgram, .int s_half, .ref m6, .ref m7, .ref m8, .ref m9, .ref m10, .ref m11, .ref m12, .ref m13, .ref m14, .ref m15, .ref m16, .ref m17, .ref m18, .ref m19, .ref m20, .int s_signs, .ref m21, .int s_stacked, .ref m22, .int s_name, .int s_shift, .int s_statements, .int s_ifs, .int s_whiles, .int s_variants, .int s_open, .ref m23, .int s_isMade, .int s_conditions, .ref m24, .ref m25, .ref m26, .ref m27, .int s_kept, .ref m28, .int s_tops, .ref m29, .int s_used, .ref m30, .ref m31, .int s_looked, .int s_rows, .int s_firstRow, .ref m32, .ref m33, .ref m34, .ref m35, .ref m36, .ref m37, .ref m38, .ref m39, .ref m40, .int s_isBroken, .ref m41, .int s_atoms, .ref m42])), (m1, .inl (ax 0, 400, .inl (fun j => nI (g j))))] := ⟨hP1, hD1⟩
              obtain ⟨hP, hD⟩ := hW7
              clear hP1 hD1 hS1
              rw [← hQe]
              obtain ⟨hP9, hD9⟩ := xw_sub2 (wc := (fun u : Nat → Nat => [(m0, .inr (11, [.int s_thrown, .int s_taped, .ref m1, .int (nI n), .int s_outSize, .ref m2, .int (nI (u 0)), .int (nI (u 1)), .int (nI b), .int (nI (ltE g n (n - b) b)), .int s_failed, .ref m3, .ref m4, .ref m5, .int s_isProgram, .int s_half, .ref m6, .ref m7, .ref m8, .ref m9, .ref m10, .ref m11, .ref m12, .ref m13, .ref m14, .ref m15, .ref m16, .ref m17, .ref m18, .ref m19, .ref m20, .int s_signs, .ref m21, .int s_stacked, .ref m22, .int s_name, .int s_shift, .int s_statements, .int s_ifs, .int s_whiles, .int s_variants, .int s_open, .ref m23, .int s_isMade, .int s_conditions, .ref m24, .ref m25, .ref m26, .ref m27, .int s_kept, .ref m28, .int s_tops, .ref m29, .int s_used, .ref m30, .ref m31, .int s_looked, .int s_rows, .int s_firstRow, .ref m32, .ref m33, .ref m34, .ref m35, .ref m36, .ref m37, .ref m38, .ref m39, .ref m40, .int s_isBroken, .ref m41, .int s_atoms, .ref m42])), (m1, .inl (ax 0, 400, .inl (fun j => nI (g j))))]) (ixn [1, v0])) hP hD [0, 1] (by decide) rfl
              have hsp0 : 1 = rwK g n b := (by unfold rwK; first | (exfalso; omega; done) | rw [if_pos (by first | assumption | omega)] | (rw [if_neg (by first | assumption | omega), if_pos (by first | assumption | omega)]) | (rw [if_neg (by first | assumption | omega), if_neg (by first | assumption | omega), hd, show q = ltE g n (n - b) b by omega]))
              have hsp1 : v0 = rwV g n b v0 := (by unfold rwV; first | (exfalso; omega; done) | (rw [if_pos (by first | assumption | omega), if_pos (by first | assumption | omega)]) | (rw [if_pos (by first | assumption | omega), if_neg (by first | assumption | omega)]) | rw [if_neg (by first | assumption | omega)])
              exact W.vret hx hb hr (fun t ht hW => ⟨⟨ixn [1, v0], rfl, ⟨hsp0, hsp1⟩, ⟨by rw [ht]; exact hP9, hD9⟩⟩, hS.F ht⟩) hS.2.2 d_Model_readWord_165
          · replace c_18 : ¬ ltE g n (n - b) b ≤ q := fun hq9 => c_18 ((nI_leI (a := ltE g n (n - b) b) (b := q) (by first | exact Nat.lt_of_lt_of_le (by assumption) (by decide) | exact Nat.lt_of_le_of_lt (by assumption) (by decide) | omega) (by first | exact Nat.lt_of_lt_of_le (by assumption) (by decide) | exact Nat.lt_of_le_of_lt (by assumption) (by decide) | omega)).mpr hq9)
            refine lv_iload_n hx hb d_Model_readWord_107 rfl (lv_at hl1 0 rfl) ?_
            refine lv_aload_n hx hb d_Model_readWord_108 rfl (lv_at hl1 3 rfl) ?_
            refine va_get (D := D) (ci := 11) (v := .int (nI b)) (C := R_Model) (T := F_Model) (N := 72) hx hb hts i_Model hown hK.1 hP 0 rfl rfl 8 (by decide) (hts _ wd_1044) (fun _ h9 => h9) rfl d_Model_readWord_109 ?_
            refine lv_bipush (v := 6) hx hb d_Model_readWord_112 (by decide) ?_
            refine lv_iadd hx hb d_Model_readWord_114 ?_
            refine lv_topi (fun z_26 ez_26 => ?_)
            have ez_26 : z_26 = nI (b + 6) := ez_26.trans (nI_add b 6)
            subst ez_26
            refine lv_icmp_ge (tgt := 139) hx hb d_Model_readWord_115 (by decide) (fun c_27 => ?_) (fun c_27 => ?_)
            · replace c_27 : b + 6 ≤ q := (nI_leI (a := b + 6) (b := q) (by first | exact Nat.lt_of_lt_of_le (by assumption) (by decide) | exact Nat.lt_of_le_of_lt (by assumption) (by decide) | omega) (by first | exact Nat.lt_of_lt_of_le (by assumption) (by decide) | exact Nat.lt_of_le_of_lt (by assumption) (by decide) | omega)).mp c_27
              have hwb : d < 387420489 := by rw [hd]; exact wv_bd (by first | assumption | omega) (fun j h1 h2 => hE5 j h1 (by first | assumption | omega))
              refine lv_aload_n hx hb d_Model_readWord_139 rfl (lv_at hl1 3 rfl) ?_
              refine lv_aload_n hx hb d_Model_readWord_140 rfl (lv_at hl1 3 rfl) ?_
              refine va_get (D := D) (ci := 11) (v := .int (nI (ltE g n (n - b) b))) (C := R_Model) (T := F_Model) (N := 72) hx hb hts i_Model hown hK.1 hP 0 rfl rfl 9 (by decide) (hts _ wd_1045) (fun _ h9 => h9) rfl d_Model_readWord_141 ?_
              refine lv_aload_n hx hb d_Model_readWord_144 rfl (lv_at hl1 3 rfl) ?_
              refine va_get (D := D) (ci := 11) (v := .int (nI b)) (C := R_Model) (T := F_Model) (N := 72) hx hb hts i_Model hown hK.1 hP 0 rfl rfl 8 (by decide) (hts _ wd_1044) (fun _ h9 => h9) rfl d_Model_readWord_145 ?_
              refine lv_bipush (v := 6) hx hb d_Model_readWord_148 (by decide) ?_
              refine lv_iadd hx hb d_Model_readWord_150 ?_
              refine lv_topi (fun z_28 ez_28 => ?_)
              have ez_28 : z_28 = nI (b + 6) := ez_28.trans (nI_add b 6)
              subst ez_28
              refine lv_icmp_le (tgt := 158) hx hb d_Model_readWord_151 (by decide) (fun c_29 => ?_) (fun c_29 => ?_)
              · replace c_29 : ltE g n (n - b) b ≤ b + 6 := (nI_leI (a := ltE g n (n - b) b) (b := b + 6) (by first | exact Nat.lt_of_lt_of_le (by assumption) (by decide) | exact Nat.lt_of_le_of_lt (by assumption) (by decide) | omega) (by first | exact Nat.lt_of_lt_of_le (by assumption) (by decide) | exact Nat.lt_of_le_of_lt (by assumption) (by decide) | omega)).mp c_29
                refine lv_iload_n hx hb d_Model_readWord_158 rfl (lv_at hl1 1 rfl) ?_
                obtain ⟨hPc, hDc, hFc, hCs⟩ := xw_sub3 (wc := []) hP hD hS hA [] (by decide) rfl
                have hz := xz_of hN hS
                refine va_calli (va_runS (As := [.int (nI d)]) (rest := [.ref m0]) ⟨hx, hb, hml, hown, hts⟩ (c_M_wordOf l D ax d H.size (by first | assumption | omega)) (xcS (n := 1) hts wd_1292 wd_15 wd_1290 wd_1291 rfl rfl (by decide +kernel) ⟨Nat.le_of_ble_eq_true rfl, Nat.le_of_ble_eq_true rfl⟩) (xpS (As := [.int (nI d)]) hPc hK hz hDc) rfl rfl hl1.1 rfl (lv_room (Nat.le_of_ble_eq_true rfl)) d_Model_readWord_159 ⟨Nat.le_of_ble_eq_true rfl, Nat.le_of_ble_eq_true rfl⟩) hS (fun q _ h => hFc q h) hFc (fun r_32 u_30 t H_31 locs ht hvm hw hB hz1 hk1 hS1 => ?_)
                try dsimp only at hw
                subst hw
                obtain ⟨hP1, hD1⟩ := hB
                rw [ht] at hP1
                have hjn := xw_join3 (wl := [(m0, .inr (11, [.int s_thrown, .int s_taped, .ref m1, .int (nI n), .int s_outSize, .ref m2, .int s_kind, .int (nI v0), .int (nI b), .int (nI (ltE g n (n - b) b)), .int s_failed, .ref m3, .ref m4, .ref m5, .int s_isProgram, .int s_half, .ref m6, .ref m7, .ref m8, .ref m9, .ref m10, .ref m11, .ref m12, .ref m13, .ref m14, .ref m15, .ref m16, .ref m17, .ref m18, .ref m19, .ref m20, .int s_signs, .ref m21, .int s_stacked, .ref m22, .int s_name, .int s_shift, .int s_statements, .int s_ifs, .int s_whiles, .int s_variants, .int s_open, .ref m23, .int s_isMade, .int s_conditions, .ref m24, .ref m25, .ref m26, .ref m27, .int s_kept, .ref m28, .int s_tops, .ref m29, .int s_used, .ref m30, .ref m31, .int s_looked, .int s_rows, .int s_firstRow, .ref m32, .ref m33, .ref m34, .ref m35, .ref m36, .ref m37, .ref m38, .ref m39, .ref m40, .int s_isBroken, .ref m41, .int s_atoms, .ref m42])), (m1, .inl (ax 0, 400, .inl (fun j => nI (g j))))]) hP hD [] [0, 1] hCs (by decide) (by decide) hk1 hFc hP1 hD1 rfl
                clear hP1 hD1
                clear hPc hDc hFc hCs hz hz1 hk1 ht hvm
                clear hP hD hS
                have hS := hS1
                obtain ⟨hP, hD⟩ := hjn
                clear hS1
                refine va_put (D := D) (ci := 11) (v := .int (nI (wo d))) (ty := .int) (C := R_Model) (T := F_Model) (N := 72) hx hb hts i_Model t_Model t_Model_ok n_Model hown hK.1 hP hD hS 0 rfl rfl 6 (by decide) (hts _ wd_1042) (fun _ h9 => h9) rfl (by decide +kernel) rfl rfl (Nat.le_of_ble_eq_true rfl) d_Model_readWord_162 (fun H_33 locs hP1 hD1 hS1 => ?_)
                clear hP hD hS
                have hS := hS1
                have hW7 : (fun w9 : va_W => va_P D classes w9 H_33 ∧ va_D A w9) [(m0, .inr (11, [.int s_thrown, .int s_taped, .ref m1, .int (nI n), .int s_outSize, .ref m2, .int (nI (wo d)), .int (nI v0), .int (nI b), .int (nI (ltE g n (n - b) b)), .int s_failed, .ref m3, .ref m4, .ref m5, .int s_isProgram, .int s_half, .ref m6, .ref m7, .ref m8, .ref m9, .ref m10, .ref m11, .ref m12, .ref m13, .ref m14, .ref m15, .ref m16, .ref m17, .ref m18, .ref m19, .ref m20, .int s_signs, .ref m21, .int s_stacked, .ref m22, .int s_name, .int s_shift, .int s_statements, .int s_ifs, .int s_whiles, .int s_variants, .int s_open, .ref m23, .int s_isMade, .int s_conditions, .ref m24, .ref m25, .ref m26, .ref m27, .int s_kept, .ref m28, .int s_tops, .ref m29, .int s_used, .ref m30, .ref m31, .int s_looked, .int s_rows, .int s_firstRow, .ref m32, .ref m33, .ref m34, .ref m35, .ref m36, .ref m37, .ref m38, .ref m39, .ref m40, .int s_isBroken, .ref m41, .int s_atoms, .ref m42])), (m1, .inl (ax 0, 400, .inl (fun j => nI (g j))))] := ⟨hP1, hD1⟩
                obtain ⟨hP, hD⟩ := hW7
                clear hP1 hD1 hS1
                rw [← hQe]
                obtain ⟨hP9, hD9⟩ := xw_sub2 (wc := (fun u : Nat → Nat => [(m0, .inr (11, [.int s_thrown, .int s_taped, .ref m1, .int (nI n), .int s_outSize, .ref m2, .int (nI (u 0)), .int (nI (u 1)), .int (nI b), .int (nI (ltE g n (n - b) b)), .int s_failed, .ref m3, .ref m4, .ref m5, .int s_isProgram, .int s_half, .ref m6, .ref m7, .ref m8, .ref m9, .ref m10, .ref m11, .ref m12, .ref m13, .ref m14, .ref m15, .ref m16, .ref m17, .ref m18, .ref m19, .ref m20, .int s_signs, .ref m21, .int s_stacked, .ref m22, .int s_name, .int s_shift, .int s_statements, .int s_ifs, .int s_whiles, .int s_variants, .int s_open, .ref m23, .int s_isMade, .int s_conditions, .ref m24, .ref m25, .ref m26, .ref m27, .int s_kept, .ref m28, .int s_tops, .ref m29, .int s_used, .ref m30, .ref m31, .int s_looked, .int s_rows, .int s_firstRow, .ref m32, .ref m33, .ref m34, .ref m35, .ref m36, .ref m37, .ref m38, .ref m39, .ref m40, .int s_isBroken, .ref m41, .int s_atoms, .ref m42])), (m1, .inl (ax 0, 400, .inl (fun j => nI (g j))))]) (ixn [(wo d), v0])) hP hD [0, 1] (by decide) rfl
                have hsp0 : (wo d) = rwK g n b := (by unfold rwK; first | (exfalso; omega; done) | rw [if_pos (by first | assumption | omega)] | (rw [if_neg (by first | assumption | omega), if_pos (by first | assumption | omega)]) | (rw [if_neg (by first | assumption | omega), if_neg (by first | assumption | omega), hd, show q = ltE g n (n - b) b by omega]))
                have hsp1 : v0 = rwV g n b v0 := (by unfold rwV; first | (exfalso; omega; done) | (rw [if_pos (by first | assumption | omega), if_pos (by first | assumption | omega)]) | (rw [if_pos (by first | assumption | omega), if_neg (by first | assumption | omega)]) | rw [if_neg (by first | assumption | omega)])
                exact W.vret hx hb hr (fun t ht hW => ⟨⟨ixn [(wo d), v0], rfl, ⟨hsp0, hsp1⟩, ⟨by rw [ht]; exact hP9, hD9⟩⟩, hS.F ht⟩) hS.2.2 d_Model_readWord_165
              · replace c_29 : ¬ ltE g n (n - b) b ≤ b + 6 := fun hq9 => c_29 ((nI_leI (a := ltE g n (n - b) b) (b := b + 6) (by first | exact Nat.lt_of_lt_of_le (by assumption) (by decide) | exact Nat.lt_of_le_of_lt (by assumption) (by decide) | omega) (by first | exact Nat.lt_of_lt_of_le (by assumption) (by decide) | exact Nat.lt_of_le_of_lt (by assumption) (by decide) | omega)).mpr hq9)
                refine lv_iconst (v := 1) hx hb d_Model_readWord_154 (by decide) ?_
                refine lv_goto (tgt := 162) hx hb d_Model_readWord_155 (by decide) ?_
                refine va_put (D := D) (ci := 11) (v := .int 1) (ty := .int) (C := R_Model) (T := F_Model) (N := 72) hx hb hts i_Model t_Model t_Model_ok n_Model hown hK.1 hP hD hS 0 rfl rfl 6 (by decide) (hts _ wd_1042) (fun _ h9 => h9) rfl (by decide +kernel) rfl rfl (Nat.le_of_ble_eq_true rfl) d_Model_readWord_162 (fun H_34 locs hP1 hD1 hS1 => ?_)
                clear hP hD hS
                have hS := hS1
                have hW7 : (fun w9 : va_W => va_P D classes w9 H_34 ∧ va_D A w9) [(m0, .inr (11, [.int s_thrown, .int s_taped, .ref m1, .int (nI n), .int s_outSize, .ref m2, .int 1, .int (nI v0), .int (nI b), .int (nI (ltE g n (n - b) b)), .int s_failed, .ref m3, .ref m4, .ref m5, .int s_isProgram, .int s_half, .ref m6, .ref m7, .ref m8, .ref m9, .ref m10, .ref m11, .ref m12, .ref m13, .ref m14, .ref m15, .ref m16, .ref m17, .ref m18, .ref m19, .ref m20, .int s_signs, .ref m21, .int s_stacked, .ref m22, .int s_name, .int s_shift, .int s_statements, .int s_ifs, .int s_whiles, .int s_variants, .int s_open, .ref m23, .int s_isMade, .int s_conditions, .ref m24, .ref m25, .ref m26, .ref m27, .int s_kept, .ref m28, .int s_tops, .ref m29, .int s_used, .ref m30, .ref m31, .int s_looked, .int s_rows, .int s_firstRow, .ref m32, .ref m33, .ref m34, .ref m35, .ref m36, .ref m37, .ref m38, .ref m39, .ref m40, .int s_isBroken, .ref m41, .int s_atoms, .ref m42])), (m1, .inl (ax 0, 400, .inl (fun j => nI (g j))))] := ⟨hP1, hD1⟩
                obtain ⟨hP, hD⟩ := hW7
                clear hP1 hD1 hS1
                rw [← hQe]
                obtain ⟨hP9, hD9⟩ := xw_sub2 (wc := (fun u : Nat → Nat => [(m0, .inr (11, [.int s_thrown, .int s_taped, .ref m1, .int (nI n), .int s_outSize, .ref m2, .int (nI (u 0)), .int (nI (u 1)), .int (nI b), .int (nI (ltE g n (n - b) b)), .int s_failed, .ref m3, .ref m4, .ref m5, .int s_isProgram, .int s_half, .ref m6, .ref m7, .ref m8, .ref m9, .ref m10, .ref m11, .ref m12, .ref m13, .ref m14, .ref m15, .ref m16, .ref m17, .ref m18, .ref m19, .ref m20, .int s_signs, .ref m21, .int s_stacked, .ref m22, .int s_name, .int s_shift, .int s_statements, .int s_ifs, .int s_whiles, .int s_variants, .int s_open, .ref m23, .int s_isMade, .int s_conditions, .ref m24, .ref m25, .ref m26, .ref m27, .int s_kept, .ref m28, .int s_tops, .ref m29, .int s_used, .ref m30, .ref m31, .int s_looked, .int s_rows, .int s_firstRow, .ref m32, .ref m33, .ref m34, .ref m35, .ref m36, .ref m37, .ref m38, .ref m39, .ref m40, .int s_isBroken, .ref m41, .int s_atoms, .ref m42])), (m1, .inl (ax 0, 400, .inl (fun j => nI (g j))))]) (ixn [1, v0])) hP hD [0, 1] (by decide) rfl
                have hsp0 : 1 = rwK g n b := (by unfold rwK; first | (exfalso; omega; done) | rw [if_pos (by first | assumption | omega)] | (rw [if_neg (by first | assumption | omega), if_pos (by first | assumption | omega)]) | (rw [if_neg (by first | assumption | omega), if_neg (by first | assumption | omega), hd, show q = ltE g n (n - b) b by omega]))
                have hsp1 : v0 = rwV g n b v0 := (by unfold rwV; first | (exfalso; omega; done) | (rw [if_pos (by first | assumption | omega), if_pos (by first | assumption | omega)]) | (rw [if_pos (by first | assumption | omega), if_neg (by first | assumption | omega)]) | rw [if_neg (by first | assumption | omega)])
                exact W.vret hx hb hr (fun t ht hW => ⟨⟨ixn [1, v0], rfl, ⟨hsp0, hsp1⟩, ⟨by rw [ht]; exact hP9, hD9⟩⟩, hS.F ht⟩) hS.2.2 d_Model_readWord_165
            · replace c_27 : ¬ b + 6 ≤ q := fun hq9 => c_27 ((nI_leI (a := b + 6) (b := q) (by first | exact Nat.lt_of_lt_of_le (by assumption) (by decide) | exact Nat.lt_of_le_of_lt (by assumption) (by decide) | omega) (by first | exact Nat.lt_of_lt_of_le (by assumption) (by decide) | exact Nat.lt_of_le_of_lt (by assumption) (by decide) | omega)).mpr hq9)
              have hgq := hE5 q (by first | assumption | omega) (by first | assumption | omega)
              refine lv_bipush (v := 27) hx hb d_Model_readWord_118 (by decide) ?_
              refine lv_iload_n hx hb d_Model_readWord_120 rfl (lv_at hl1 1 rfl) ?_
              refine lv_imul hx hb d_Model_readWord_121 ?_
              refine lv_topi (fun z_35 ez_35 => ?_)
              have ez_35 : z_35 = nI (27 * d) := ez_35.trans (pk_mul 27 d)
              subst ez_35
              refine lv_aload_n hx hb d_Model_readWord_122 rfl (lv_at hl1 3 rfl) ?_
              refine va_get (D := D) (ci := 11) (v := .ref m1) (C := R_Model) (T := F_Model) (N := 72) hx hb hts i_Model hown hK.1 hP 0 rfl rfl 2 (by decide) (hts _ wd_1038) (fun _ h9 => h9) rfl d_Model_readWord_123 ?_
              refine lv_iload_n hx hb d_Model_readWord_126 rfl (lv_at hl1 0 rfl) ?_
              refine va_iald hx hb hK.1 hP 1 0 rfl rfl (vp_in_nI (by first | assumption | omega) (by decide)) d_Model_readWord_127 ?_
              refine W.eq (g2 := F0 m 128 ls [.int (nI (g q)), .int (nI (27 * d))]) (by rw [nI_clamp (by first | exact Nat.lt_of_lt_of_le (by assumption) (by decide) | exact Nat.lt_of_le_of_lt (by assumption) (by decide) | omega)]) ?_
              refine lv_iadd hx hb d_Model_readWord_128 ?_
              refine lv_topi (fun z_36 ez_36 => ?_)
              have ez_36 : z_36 = nI (27 * d + g q) := ez_36.trans (nI_add (27 * d) (g q))
              subst ez_36
              refine lv_bipush (v := 96) hx hb d_Model_readWord_129 (by decide) ?_
              refine lv_isub hx hb d_Model_readWord_131 ?_
              refine lv_topi (fun z_37 ez_37 => ?_)
              have ez_37 : z_37 = nI ((27 * d + g q) - 96) := ez_37.trans (pk_sub (a := 27 * d + g q) (b := 96) (by first | assumption | omega))
              subst ez_37
              refine lv_istore_n (lv' := [(2, .int (nI ((27 * d + g q) - 96))), (3, .int (nI q)), (1, .int (nI (g b))), (0, .ref m0)]) hx hb d_Model_readWord_132 rfl hl1 (by decide) rfl (fun ls hl2 => ?_)
              clear hl1; have hl1 := hl2; clear hl2
              refine lv_iinc (v := nI (q + 1)) (lv' := [(3, .int (nI (q + 1))), (2, .int (nI ((27 * d + g q) - 96))), (1, .int (nI (g b))), (0, .ref m0)]) hx hb d_Model_readWord_133 hl1 (k := 1) rfl (nI_add q 1) (by decide) rfl (fun ls hl2 => ?_)
              clear hl1; have hl1 := hl2; clear hl2
              refine lv_goto (tgt := 99) hx hb d_Model_readWord_136 (by decide) ?_
              exact ih_16 (q + 1) ((27 * d + g q) - 96) (by first | assumption | omega) (by first | assumption | omega) (by first | assumption | omega) (by first | assumption | omega) (by rw [show q + 1 - b = (q - b) + 1 by omega, hd]; show _ = 27 * wv g b (q - b) + g (b + (q - b)) - 96; rw [show b + (q - b) = q by omega]) _ _ _ (hP.sub [0, 1] rfl) (hD.sub [0, 1] (by decide) rfl) hS (lv_sub hl1 [0, 1, 2, 3] rfl)
      · replace c_13 : ltE g n (n - b) b = b + 1 := (nI_eq (a := ltE g n (n - b) b) (b := b + 1) (by first | exact Nat.lt_of_lt_of_le (by assumption) (by decide) | exact Nat.lt_of_le_of_lt (by assumption) (by decide) | omega) (by first | exact Nat.lt_of_lt_of_le (by assumption) (by decide) | exact Nat.lt_of_le_of_lt (by assumption) (by decide) | omega)).mp c_13
        refine lv_iload_n hx hb d_Model_readWord_50 rfl (lv_at hl1 0 rfl) ?_
        refine lv_bipush (v := 102) hx hb d_Model_readWord_51 (by decide) ?_
        refine lv_icmp_le (tgt := 62) hx hb d_Model_readWord_53 (by decide) (fun c_38 => ?_) (fun c_38 => ?_)
        · replace c_38 : g b ≤ 102 := (nI_leI (a := g b) (b := 102) (by first | exact Nat.lt_of_lt_of_le (by assumption) (by decide) | exact Nat.lt_of_le_of_lt (by assumption) (by decide) | omega) (by decide)).mp c_38
          refine lv_aload_n hx hb d_Model_readWord_62 rfl (lv_at hl1 1 rfl) ?_
          refine lv_iconst (v := 2) hx hb d_Model_readWord_63 (by decide) ?_
          refine va_put (D := D) (ci := 11) (v := .int 2) (ty := .int) (C := R_Model) (T := F_Model) (N := 72) hx hb hts i_Model t_Model t_Model_ok n_Model hown hK.1 hP hD hS 0 rfl rfl 6 (by decide) (hts _ wd_1042) (fun _ h9 => h9) rfl (by decide +kernel) rfl rfl (Nat.le_of_ble_eq_true rfl) d_Model_readWord_64 (fun H_39 locs hP1 hD1 hS1 => ?_)
          clear hP hD hS
          have hS := hS1
          have hW7 : (fun w9 : va_W => va_P D classes w9 H_39 ∧ va_D A w9) [(m0, .inr (11, [.int s_thrown, .int s_taped, .ref m1, .int (nI n), .int s_outSize, .ref m2, .int 2, .int (nI v0), .int (nI b), .int (nI (ltE g n (n - b) b)), .int s_failed, .ref m3, .ref m4, .ref m5, .int s_isProgram, .int s_half, .ref m6, .ref m7, .ref m8, .ref m9, .ref m10, .ref m11, .ref m12, .ref m13, .ref m14, .ref m15, .ref m16, .ref m17, .ref m18, .ref m19, .ref m20, .int s_signs, .ref m21, .int s_stacked, .ref m22, .int s_name, .int s_shift, .int s_statements, .int s_ifs, .int s_whiles, .int s_variants, .int s_open, .ref m23, .int s_isMade, .int s_conditions, .ref m24, .ref m25, .ref m26, .ref m27, .int s_kept, .ref m28, .int s_tops, .ref m29, .int s_used, .ref m30, .ref m31, .int s_looked, .int s_rows, .int s_firstRow, .ref m32, .ref m33, .ref m34, .ref m35, .ref m36, .ref m37, .ref m38, .ref m39, .ref m40, .int s_isBroken, .ref m41, .int s_atoms, .ref m42])), (m1, .inl (ax 0, 400, .inl (fun j => nI (g j))))] := ⟨hP1, hD1⟩
          obtain ⟨hP, hD⟩ := hW7
          clear hP1 hD1 hS1
          refine lv_aload_n hx hb d_Model_readWord_67 rfl (lv_at hl1 1 rfl) ?_
          refine lv_iload_n hx hb d_Model_readWord_68 rfl (lv_at hl1 0 rfl) ?_
          refine lv_bipush (v := 102) hx hb d_Model_readWord_69 (by decide) ?_
          refine lv_icmp_gt (tgt := 81) hx hb d_Model_readWord_71 (by decide) (fun c_40 => ?_) (fun c_40 => ?_)
          · replace c_40 : 102 < g b := (nI_ltI (a := 102) (b := g b) (by decide) (by first | exact Nat.lt_of_lt_of_le (by assumption) (by decide) | exact Nat.lt_of_le_of_lt (by assumption) (by decide) | omega)).mp c_40
            refine lv_iload_n hx hb d_Model_readWord_81 rfl (lv_at hl1 0 rfl) ?_
            refine lv_bipush (v := 119) hx hb d_Model_readWord_82 (by decide) ?_
            refine lv_isub hx hb d_Model_readWord_84 ?_
            refine lv_topi (fun z_41 ez_41 => ?_)
            have ez_41 : z_41 = nI (g b - 119) := ez_41.trans (pk_sub (a := g b) (b := 119) (by first | assumption | omega))
            subst ez_41
            refine lv_bipush (v := 6) hx hb d_Model_readWord_85 (by decide) ?_
            refine lv_iadd hx hb d_Model_readWord_87 ?_
            refine lv_topi (fun z_42 ez_42 => ?_)
            have ez_42 : z_42 = nI (g b - 119 + 6) := ez_42.trans (nI_add (g b - 119) 6)
            subst ez_42
            refine va_put (D := D) (ci := 11) (v := .int (nI (g b - 119 + 6))) (ty := .int) (C := R_Model) (T := F_Model) (N := 72) hx hb hts i_Model t_Model t_Model_ok n_Model hown hK.1 hP hD hS 0 rfl rfl 7 (by decide) (hts _ wd_1043) (fun _ h9 => h9) rfl (by decide +kernel) rfl rfl (Nat.le_of_ble_eq_true rfl) d_Model_readWord_88 (fun H_43 locs hP1 hD1 hS1 => ?_)
            clear hP hD hS
            have hS := hS1
            have hW7 : (fun w9 : va_W => va_P D classes w9 H_43 ∧ va_D A w9) [(m0, .inr (11, [.int s_thrown, .int s_taped, .ref m1, .int (nI n), .int s_outSize, .ref m2, .int 2, .int (nI (g b - 119 + 6)), .int (nI b), .int (nI (ltE g n (n - b) b)), .int s_failed, .ref m3, .ref m4, .ref m5, .int s_isProgram, .int s_half, .ref m6, .ref m7, .ref m8, .ref m9, .ref m10, .ref m11, .ref m12, .ref m13, .ref m14, .ref m15, .ref m16, .ref m17, .ref m18, .ref m19, .ref m20, .int s_signs, .ref m21, .int s_stacked, .ref m22, .int s_name, .int s_shift, .int s_statements, .int s_ifs, .int s_whiles, .int s_variants, .int s_open, .ref m23, .int s_isMade, .int s_conditions, .ref m24, .ref m25, .ref m26, .ref m27, .int s_kept, .ref m28, .int s_tops, .ref m29, .int s_used, .ref m30, .ref m31, .int s_looked, .int s_rows, .int s_firstRow, .ref m32, .ref m33, .ref m34, .ref m35, .ref m36, .ref m37, .ref m38, .ref m39, .ref m40, .int s_isBroken, .ref m41, .int s_atoms, .ref m42])), (m1, .inl (ax 0, 400, .inl (fun j => nI (g j))))] := ⟨hP1, hD1⟩
            obtain ⟨hP, hD⟩ := hW7
            clear hP1 hD1 hS1
            rw [← hQe]
            obtain ⟨hP9, hD9⟩ := xw_sub2 (wc := (fun u : Nat → Nat => [(m0, .inr (11, [.int s_thrown, .int s_taped, .ref m1, .int (nI n), .int s_outSize, .ref m2, .int (nI (u 0)), .int (nI (u 1)), .int (nI b), .int (nI (ltE g n (n - b) b)), .int s_failed, .ref m3, .ref m4, .ref m5, .int s_isProgram, .int s_half, .ref m6, .ref m7, .ref m8, .ref m9, .ref m10, .ref m11, .ref m12, .ref m13, .ref m14, .ref m15, .ref m16, .ref m17, .ref m18, .ref m19, .ref m20, .int s_signs, .ref m21, .int s_stacked, .ref m22, .int s_name, .int s_shift, .int s_statements, .int s_ifs, .int s_whiles, .int s_variants, .int s_open, .ref m23, .int s_isMade, .int s_conditions, .ref m24, .ref m25, .ref m26, .ref m27, .int s_kept, .ref m28, .int s_tops, .ref m29, .int s_used, .ref m30, .ref m31, .int s_looked, .int s_rows, .int s_firstRow, .ref m32, .ref m33, .ref m34, .ref m35, .ref m36, .ref m37, .ref m38, .ref m39, .ref m40, .int s_isBroken, .ref m41, .int s_atoms, .ref m42])), (m1, .inl (ax 0, 400, .inl (fun j => nI (g j))))]) (ixn [2, (g b - 119 + 6)])) hP hD [0, 1] (by decide) rfl
            have hsp0 : 2 = rwK g n b := (by unfold rwK; first | (exfalso; omega; done) | rw [if_pos (by first | assumption | omega)] | (rw [if_neg (by first | assumption | omega), if_pos (by first | assumption | omega)]) | (rw [if_neg (by first | assumption | omega), if_neg (by first | assumption | omega), hd, show q = ltE g n (n - b) b by omega]))
            have hsp1 : (g b - 119 + 6) = rwV g n b v0 := (by unfold rwV; first | (exfalso; omega; done) | (rw [if_pos (by first | assumption | omega), if_pos (by first | assumption | omega)]) | (rw [if_pos (by first | assumption | omega), if_neg (by first | assumption | omega)]) | rw [if_neg (by first | assumption | omega)])
            exact W.vret hx hb hr (fun t ht hW => ⟨⟨ixn [2, (g b - 119 + 6)], rfl, ⟨hsp0, hsp1⟩, ⟨by rw [ht]; exact hP9, hD9⟩⟩, hS.F ht⟩) hS.2.2 d_Model_readWord_91
          · replace c_40 : ¬ 102 < g b := fun hq9 => c_40 ((nI_ltI (a := 102) (b := g b) (by decide) (by first | exact Nat.lt_of_lt_of_le (by assumption) (by decide) | exact Nat.lt_of_le_of_lt (by assumption) (by decide) | omega)).mpr hq9)
            refine lv_iload_n hx hb d_Model_readWord_74 rfl (lv_at hl1 0 rfl) ?_
            refine lv_bipush (v := 97) hx hb d_Model_readWord_75 (by decide) ?_
            refine lv_isub hx hb d_Model_readWord_77 ?_
            refine lv_topi (fun z_44 ez_44 => ?_)
            have ez_44 : z_44 = nI (g b - 97) := ez_44.trans (pk_sub (a := g b) (b := 97) (by first | assumption | omega))
            subst ez_44
            refine lv_goto (tgt := 88) hx hb d_Model_readWord_78 (by decide) ?_
            refine va_put (D := D) (ci := 11) (v := .int (nI (g b - 97))) (ty := .int) (C := R_Model) (T := F_Model) (N := 72) hx hb hts i_Model t_Model t_Model_ok n_Model hown hK.1 hP hD hS 0 rfl rfl 7 (by decide) (hts _ wd_1043) (fun _ h9 => h9) rfl (by decide +kernel) rfl rfl (Nat.le_of_ble_eq_true rfl) d_Model_readWord_88 (fun H_45 locs hP1 hD1 hS1 => ?_)
            clear hP hD hS
            have hS := hS1
            have hW7 : (fun w9 : va_W => va_P D classes w9 H_45 ∧ va_D A w9) [(m0, .inr (11, [.int s_thrown, .int s_taped, .ref m1, .int (nI n), .int s_outSize, .ref m2, .int 2, .int (nI (g b - 97)), .int (nI b), .int (nI (ltE g n (n - b) b)), .int s_failed, .ref m3, .ref m4, .ref m5, .int s_isProgram, .int s_half, .ref m6, .ref m7, .ref m8, .ref m9, .ref m10, .ref m11, .ref m12, .ref m13, .ref m14, .ref m15, .ref m16, .ref m17, .ref m18, .ref m19, .ref m20, .int s_signs, .ref m21, .int s_stacked, .ref m22, .int s_name, .int s_shift, .int s_statements, .int s_ifs, .int s_whiles, .int s_variants, .int s_open, .ref m23, .int s_isMade, .int s_conditions, .ref m24, .ref m25, .ref m26, .ref m27, .int s_kept, .ref m28, .int s_tops, .ref m29, .int s_used, .ref m30, .ref m31, .int s_looked, .int s_rows, .int s_firstRow, .ref m32, .ref m33, .ref m34, .ref m35, .ref m36, .ref m37, .ref m38, .ref m39, .ref m40, .int s_isBroken, .ref m41, .int s_atoms, .ref m42])), (m1, .inl (ax 0, 400, .inl (fun j => nI (g j))))] := ⟨hP1, hD1⟩
            obtain ⟨hP, hD⟩ := hW7
            clear hP1 hD1 hS1
            rw [← hQe]
            obtain ⟨hP9, hD9⟩ := xw_sub2 (wc := (fun u : Nat → Nat => [(m0, .inr (11, [.int s_thrown, .int s_taped, .ref m1, .int (nI n), .int s_outSize, .ref m2, .int (nI (u 0)), .int (nI (u 1)), .int (nI b), .int (nI (ltE g n (n - b) b)), .int s_failed, .ref m3, .ref m4, .ref m5, .int s_isProgram, .int s_half, .ref m6, .ref m7, .ref m8, .ref m9, .ref m10, .ref m11, .ref m12, .ref m13, .ref m14, .ref m15, .ref m16, .ref m17, .ref m18, .ref m19, .ref m20, .int s_signs, .ref m21, .int s_stacked, .ref m22, .int s_name, .int s_shift, .int s_statements, .int s_ifs, .int s_whiles, .int s_variants, .int s_open, .ref m23, .int s_isMade, .int s_conditions, .ref m24, .ref m25, .ref m26, .ref m27, .int s_kept, .ref m28, .int s_tops, .ref m29, .int s_used, .ref m30, .ref m31, .int s_looked, .int s_rows, .int s_firstRow, .ref m32, .ref m33, .ref m34, .ref m35, .ref m36, .ref m37, .ref m38, .ref m39, .ref m40, .int s_isBroken, .ref m41, .int s_atoms, .ref m42])), (m1, .inl (ax 0, 400, .inl (fun j => nI (g j))))]) (ixn [2, (g b - 97)])) hP hD [0, 1] (by decide) rfl
            have hsp0 : 2 = rwK g n b := (by unfold rwK; first | (exfalso; omega; done) | rw [if_pos (by first | assumption | omega)] | (rw [if_neg (by first | assumption | omega), if_pos (by first | assumption | omega)]) | (rw [if_neg (by first | assumption | omega), if_neg (by first | assumption | omega), hd, show q = ltE g n (n - b) b by omega]))
            have hsp1 : (g b - 97) = rwV g n b v0 := (by unfold rwV; first | (exfalso; omega; done) | (rw [if_pos (by first | assumption | omega), if_pos (by first | assumption | omega)]) | (rw [if_pos (by first | assumption | omega), if_neg (by first | assumption | omega)]) | rw [if_neg (by first | assumption | omega)])
            exact W.vret hx hb hr (fun t ht hW => ⟨⟨ixn [2, (g b - 97)], rfl, ⟨hsp0, hsp1⟩, ⟨by rw [ht]; exact hP9, hD9⟩⟩, hS.F ht⟩) hS.2.2 d_Model_readWord_91
        · replace c_38 : ¬ g b ≤ 102 := fun hq9 => c_38 ((nI_leI (a := g b) (b := 102) (by first | exact Nat.lt_of_lt_of_le (by assumption) (by decide) | exact Nat.lt_of_le_of_lt (by assumption) (by decide) | omega) (by decide)).mpr hq9)
          refine lv_iload_n hx hb d_Model_readWord_56 rfl (lv_at hl1 0 rfl) ?_
          refine lv_bipush (v := 119) hx hb d_Model_readWord_57 (by decide) ?_
          refine lv_icmp_lt (tgt := 92) hx hb d_Model_readWord_59 (by decide) (fun c_46 => ?_) (fun c_46 => ?_)
          · replace c_46 : g b < 119 := (nI_ltI (a := g b) (b := 119) (by first | exact Nat.lt_of_lt_of_le (by assumption) (by decide) | exact Nat.lt_of_le_of_lt (by assumption) (by decide) | omega) (by decide)).mp c_46
            refine lv_iconst (v := 0) hx hb d_Model_readWord_92 (by decide) ?_
            refine lv_istore_n (lv' := [(2, .int 0), (1, .int (nI (g b))), (0, .ref m0)]) hx hb d_Model_readWord_93 rfl hl1 (by decide) rfl (fun ls hl2 => ?_)
            clear hl1; have hl1 := hl2; clear hl2
            refine lv_aload_n hx hb d_Model_readWord_94 rfl (lv_at hl1 2 rfl) ?_
            refine va_get (D := D) (ci := 11) (v := .int (nI b)) (C := R_Model) (T := F_Model) (N := 72) hx hb hts i_Model hown hK.1 hP 0 rfl rfl 8 (by decide) (hts _ wd_1044) (fun _ h9 => h9) rfl d_Model_readWord_95 ?_
            refine lv_istore_n (lv' := [(3, .int (nI b)), (2, .int 0), (1, .int (nI (g b))), (0, .ref m0)]) hx hb d_Model_readWord_98 rfl hl1 (by decide) rfl (fun ls hl2 => ?_)
            clear hl1; have hl1 := hl2; clear hl2
            suffices key_47 : ∀ (k : Nat) (q d : Nat), ltE g n (n - b) b - q < k → b ≤ q → q ≤ ltE g n (n - b) b → q ≤ b + 6 → d = wv g b (q - b) → ∀ (H : Heap) (locs : List Loc) (ls : Array Slot), va_P D classes [(m0, .inr (11, [.int s_thrown, .int s_taped, .ref m1, .int (nI n), .int s_outSize, .ref m2, .int s_kind, .int (nI v0), .int (nI b), .int (nI (ltE g n (n - b) b)), .int s_failed, .ref m3, .ref m4, .ref m5, .int s_isProgram, .int s_half, .ref m6, .ref m7, .ref m8, .ref m9, .ref m10, .ref m11, .ref m12, .ref m13, .ref m14, .ref m15, .ref m16, .ref m17, .ref m18, .ref m19, .ref m20, .int s_signs, .ref m21, .int s_stacked, .ref m22, .int s_name, .int s_shift, .int s_statements, .int s_ifs, .int s_whiles, .int s_variants, .int s_open, .ref m23, .int s_isMade, .int s_conditions, .ref m24, .ref m25, .ref m26, .ref m27, .int s_kept, .ref m28, .int s_tops, .ref m29, .int s_used, .ref m30, .ref m31, .int s_looked, .int s_rows, .int s_firstRow, .ref m32, .ref m33, .ref m34, .ref m35, .ref m36, .ref m37, .ref m38, .ref m39, .ref m40, .int s_isBroken, .ref m41, .int s_atoms, .ref m42])), (m1, .inl (ax 0, 400, .inl (fun j => nI (g j))))] H → va_D A [(m0, .inr (11, [.int s_thrown, .int s_taped, .ref m1, .int (nI n), .int s_outSize, .ref m2, .int s_kind, .int (nI v0), .int (nI b), .int (nI (ltE g n (n - b) b)), .int s_failed, .ref m3, .ref m4, .ref m5, .int s_isProgram, .int s_half, .ref m6, .ref m7, .ref m8, .ref m9, .ref m10, .ref m11, .ref m12, .ref m13, .ref m14, .ref m15, .ref m16, .ref m17, .ref m18, .ref m19, .ref m20, .int s_signs, .ref m21, .int s_stacked, .ref m22, .int s_name, .int s_shift, .int s_statements, .int s_ifs, .int s_whiles, .int s_variants, .int s_open, .ref m23, .int s_isMade, .int s_conditions, .ref m24, .ref m25, .ref m26, .ref m27, .int s_kept, .ref m28, .int s_tops, .ref m29, .int s_used, .ref m30, .ref m31, .int s_looked, .int s_rows, .int s_firstRow, .ref m32, .ref m33, .ref m34, .ref m35, .ref m36, .ref m37, .ref m38, .ref m39, .ref m40, .int s_isBroken, .ref m41, .int s_atoms, .ref m42])), (m1, .inl (ax 0, 400, .inl (fun j => nI (g j))))] → va_S A s.heap H locs → lv_has ls 4 [(3, .int (nI q)), (2, .int (nI d)), (1, .int (nI (g b))), (0, .ref m0)] → W p l e (headSpec (xws (.code y_Model_readWord b_Model_readWord 4 none)) ({ frames := 20, cells := 0, slots := 0, locals := 800 })).room s m ([.ref m0] : List Value).toArray below meth c H locs 0 0 Z9 (F0 m 99 ls []) from key_47 (ltE g n (n - b) b - b + 1) b 0 (Nat.lt_succ_self _) (by first | assumption | omega) (by first | assumption | omega) (by first | assumption | omega) (by rw [Nat.sub_self]; rfl) _ _ _ (hP) (hD) hS (lv_sub hl1 [0, 1, 2, 3] rfl)
            intro k_48
            induction k_48 with
            | zero =>
              intro q d hk_50
              exact absurd hk_50 (Nat.not_lt_zero _)
            | succ k_48 ih_49 =>
              clear hP hD hS hl1
              intro q d hk_50 hr1 hr2 hr3 hd H locs ls hP hD hS hl1
              refine lv_iload_n hx hb d_Model_readWord_99 rfl (lv_at hl1 0 rfl) ?_
              refine lv_aload_n hx hb d_Model_readWord_100 rfl (lv_at hl1 3 rfl) ?_
              refine va_get (D := D) (ci := 11) (v := .int (nI (ltE g n (n - b) b))) (C := R_Model) (T := F_Model) (N := 72) hx hb hts i_Model hown hK.1 hP 0 rfl rfl 9 (by decide) (hts _ wd_1045) (fun _ h9 => h9) rfl d_Model_readWord_101 ?_
              refine lv_icmp_ge (tgt := 139) hx hb d_Model_readWord_104 (by decide) (fun c_51 => ?_) (fun c_51 => ?_)
              · replace c_51 : ltE g n (n - b) b ≤ q := (nI_leI (a := ltE g n (n - b) b) (b := q) (by first | exact Nat.lt_of_lt_of_le (by assumption) (by decide) | exact Nat.lt_of_le_of_lt (by assumption) (by decide) | omega) (by first | exact Nat.lt_of_lt_of_le (by assumption) (by decide) | exact Nat.lt_of_le_of_lt (by assumption) (by decide) | omega)).mp c_51
                have hwb : d < 387420489 := by rw [hd]; exact wv_bd (by first | assumption | omega) (fun j h1 h2 => hE5 j h1 (by first | assumption | omega))
                refine lv_aload_n hx hb d_Model_readWord_139 rfl (lv_at hl1 3 rfl) ?_
                refine lv_aload_n hx hb d_Model_readWord_140 rfl (lv_at hl1 3 rfl) ?_
                refine va_get (D := D) (ci := 11) (v := .int (nI (ltE g n (n - b) b))) (C := R_Model) (T := F_Model) (N := 72) hx hb hts i_Model hown hK.1 hP 0 rfl rfl 9 (by decide) (hts _ wd_1045) (fun _ h9 => h9) rfl d_Model_readWord_141 ?_
                refine lv_aload_n hx hb d_Model_readWord_144 rfl (lv_at hl1 3 rfl) ?_
                refine va_get (D := D) (ci := 11) (v := .int (nI b)) (C := R_Model) (T := F_Model) (N := 72) hx hb hts i_Model hown hK.1 hP 0 rfl rfl 8 (by decide) (hts _ wd_1044) (fun _ h9 => h9) rfl d_Model_readWord_145 ?_
                refine lv_bipush (v := 6) hx hb d_Model_readWord_148 (by decide) ?_
                refine lv_iadd hx hb d_Model_readWord_150 ?_
                refine lv_topi (fun z_52 ez_52 => ?_)
                have ez_52 : z_52 = nI (b + 6) := ez_52.trans (nI_add b 6)
                subst ez_52
                refine lv_icmp_le (tgt := 158) hx hb d_Model_readWord_151 (by decide) (fun c_53 => ?_) (fun c_53 => ?_)
                · replace c_53 : ltE g n (n - b) b ≤ b + 6 := (nI_leI (a := ltE g n (n - b) b) (b := b + 6) (by first | exact Nat.lt_of_lt_of_le (by assumption) (by decide) | exact Nat.lt_of_le_of_lt (by assumption) (by decide) | omega) (by first | exact Nat.lt_of_lt_of_le (by assumption) (by decide) | exact Nat.lt_of_le_of_lt (by assumption) (by decide) | omega)).mp c_53
                  refine lv_iload_n hx hb d_Model_readWord_158 rfl (lv_at hl1 1 rfl) ?_
                  obtain ⟨hPc, hDc, hFc, hCs⟩ := xw_sub3 (wc := []) hP hD hS hA [] (by decide) rfl
                  have hz := xz_of hN hS
                  refine va_calli (va_runS (As := [.int (nI d)]) (rest := [.ref m0]) ⟨hx, hb, hml, hown, hts⟩ (c_M_wordOf l D ax d H.size (by first | assumption | omega)) (xcS (n := 1) hts wd_1292 wd_15 wd_1290 wd_1291 rfl rfl (by decide +kernel) ⟨Nat.le_of_ble_eq_true rfl, Nat.le_of_ble_eq_true rfl⟩) (xpS (As := [.int (nI d)]) hPc hK hz hDc) rfl rfl hl1.1 rfl (lv_room (Nat.le_of_ble_eq_true rfl)) d_Model_readWord_159 ⟨Nat.le_of_ble_eq_true rfl, Nat.le_of_ble_eq_true rfl⟩) hS (fun q _ h => hFc q h) hFc (fun r_56 u_54 t H_55 locs ht hvm hw hB hz1 hk1 hS1 => ?_)
                  try dsimp only at hw
                  subst hw
                  obtain ⟨hP1, hD1⟩ := hB
                  rw [ht] at hP1
                  have hjn := xw_join3 (wl := [(m0, .inr (11, [.int s_thrown, .int s_taped, .ref m1, .int (nI n), .int s_outSize, .ref m2, .int s_kind, .int (nI v0), .int (nI b), .int (nI (ltE g n (n - b) b)), .int s_failed, .ref m3, .ref m4, .ref m5, .int s_isProgram, .int s_half, .ref m6, .ref m7, .ref m8, .ref m9, .ref m10, .ref m11, .ref m12, .ref m13, .ref m14, .ref m15, .ref m16, .ref m17, .ref m18, .ref m19, .ref m20, .int s_signs, .ref m21, .int s_stacked, .ref m22, .int s_name, .int s_shift, .int s_statements, .int s_ifs, .int s_whiles, .int s_variants, .int s_open, .ref m23, .int s_isMade, .int s_conditions, .ref m24, .ref m25, .ref m26, .ref m27, .int s_kept, .ref m28, .int s_tops, .ref m29, .int s_used, .ref m30, .ref m31, .int s_looked, .int s_rows, .int s_firstRow, .ref m32, .ref m33, .ref m34, .ref m35, .ref m36, .ref m37, .ref m38, .ref m39, .ref m40, .int s_isBroken, .ref m41, .int s_atoms, .ref m42])), (m1, .inl (ax 0, 400, .inl (fun j => nI (g j))))]) hP hD [] [0, 1] hCs (by decide) (by decide) hk1 hFc hP1 hD1 rfl
                  clear hP1 hD1
                  clear hPc hDc hFc hCs hz hz1 hk1 ht hvm
                  clear hP hD hS
                  have hS := hS1
                  obtain ⟨hP, hD⟩ := hjn
                  clear hS1
                  refine va_put (D := D) (ci := 11) (v := .int (nI (wo d))) (ty := .int) (C := R_Model) (T := F_Model) (N := 72) hx hb hts i_Model t_Model t_Model_ok n_Model hown hK.1 hP hD hS 0 rfl rfl 6 (by decide) (hts _ wd_1042) (fun _ h9 => h9) rfl (by decide +kernel) rfl rfl (Nat.le_of_ble_eq_true rfl) d_Model_readWord_162 (fun H_57 locs hP1 hD1 hS1 => ?_)
                  clear hP hD hS
                  have hS := hS1
                  have hW7 : (fun w9 : va_W => va_P D classes w9 H_57 ∧ va_D A w9) [(m0, .inr (11, [.int s_thrown, .int s_taped, .ref m1, .int (nI n), .int s_outSize, .ref m2, .int (nI (wo d)), .int (nI v0), .int (nI b), .int (nI (ltE g n (n - b) b)), .int s_failed, .ref m3, .ref m4, .ref m5, .int s_isProgram, .int s_half, .ref m6, .ref m7, .ref m8, .ref m9, .ref m10, .ref m11, .ref m12, .ref m13, .ref m14, .ref m15, .ref m16, .ref m17, .ref m18, .ref m19, .ref m20, .int s_signs, .ref m21, .int s_stacked, .ref m22, .int s_name, .int s_shift, .int s_statements, .int s_ifs, .int s_whiles, .int s_variants, .int s_open, .ref m23, .int s_isMade, .int s_conditions, .ref m24, .ref m25, .ref m26, .ref m27, .int s_kept, .ref m28, .int s_tops, .ref m29, .int s_used, .ref m30, .ref m31, .int s_looked, .int s_rows, .int s_firstRow, .ref m32, .ref m33, .ref m34, .ref m35, .ref m36, .ref m37, .ref m38, .ref m39, .ref m40, .int s_isBroken, .ref m41, .int s_atoms, .ref m42])), (m1, .inl (ax 0, 400, .inl (fun j => nI (g j))))] := ⟨hP1, hD1⟩
                  obtain ⟨hP, hD⟩ := hW7
                  clear hP1 hD1 hS1
                  rw [← hQe]
                  obtain ⟨hP9, hD9⟩ := xw_sub2 (wc := (fun u : Nat → Nat => [(m0, .inr (11, [.int s_thrown, .int s_taped, .ref m1, .int (nI n), .int s_outSize, .ref m2, .int (nI (u 0)), .int (nI (u 1)), .int (nI b), .int (nI (ltE g n (n - b) b)), .int s_failed, .ref m3, .ref m4, .ref m5, .int s_isProgram, .int s_half, .ref m6, .ref m7, .ref m8, .ref m9, .ref m10, .ref m11, .ref m12, .ref m13, .ref m14, .ref m15, .ref m16, .ref m17, .ref m18, .ref m19, .ref m20, .int s_signs, .ref m21, .int s_stacked, .ref m22, .int s_name, .int s_shift, .int s_statements, .int s_ifs, .int s_whiles, .int s_variants, .int s_open, .ref m23, .int s_isMade, .int s_conditions, .ref m24, .ref m25, .ref m26, .ref m27, .int s_kept, .ref m28, .int s_tops, .ref m29, .int s_used, .ref m30, .ref m31, .int s_looked, .int s_rows, .int s_firstRow, .ref m32, .ref m33, .ref m34, .ref m35, .ref m36, .ref m37, .ref m38, .ref m39, .ref m40, .int s_isBroken, .ref m41, .int s_atoms, .ref m42])), (m1, .inl (ax 0, 400, .inl (fun j => nI (g j))))]) (ixn [(wo d), v0])) hP hD [0, 1] (by decide) rfl
                  have hsp0 : (wo d) = rwK g n b := (by unfold rwK; first | (exfalso; omega; done) | rw [if_pos (by first | assumption | omega)] | (rw [if_neg (by first | assumption | omega), if_pos (by first | assumption | omega)]) | (rw [if_neg (by first | assumption | omega), if_neg (by first | assumption | omega), hd, show q = ltE g n (n - b) b by omega]))
                  have hsp1 : v0 = rwV g n b v0 := (by unfold rwV; first | (exfalso; omega; done) | (rw [if_pos (by first | assumption | omega), if_pos (by first | assumption | omega)]) | (rw [if_pos (by first | assumption | omega), if_neg (by first | assumption | omega)]) | rw [if_neg (by first | assumption | omega)])
                  exact W.vret hx hb hr (fun t ht hW => ⟨⟨ixn [(wo d), v0], rfl, ⟨hsp0, hsp1⟩, ⟨by rw [ht]; exact hP9, hD9⟩⟩, hS.F ht⟩) hS.2.2 d_Model_readWord_165
                · replace c_53 : ¬ ltE g n (n - b) b ≤ b + 6 := fun hq9 => c_53 ((nI_leI (a := ltE g n (n - b) b) (b := b + 6) (by first | exact Nat.lt_of_lt_of_le (by assumption) (by decide) | exact Nat.lt_of_le_of_lt (by assumption) (by decide) | omega) (by first | exact Nat.lt_of_lt_of_le (by assumption) (by decide) | exact Nat.lt_of_le_of_lt (by assumption) (by decide) | omega)).mpr hq9)
                  refine lv_iconst (v := 1) hx hb d_Model_readWord_154 (by decide) ?_
                  refine lv_goto (tgt := 162) hx hb d_Model_readWord_155 (by decide) ?_
                  refine va_put (D := D) (ci := 11) (v := .int 1) (ty := .int) (C := R_Model) (T := F_Model) (N := 72) hx hb hts i_Model t_Model t_Model_ok n_Model hown hK.1 hP hD hS 0 rfl rfl 6 (by decide) (hts _ wd_1042) (fun _ h9 => h9) rfl (by decide +kernel) rfl rfl (Nat.le_of_ble_eq_true rfl) d_Model_readWord_162 (fun H_58 locs hP1 hD1 hS1 => ?_)
                  clear hP hD hS
                  have hS := hS1
                  have hW7 : (fun w9 : va_W => va_P D classes w9 H_58 ∧ va_D A w9) [(m0, .inr (11, [.int s_thrown, .int s_taped, .ref m1, .int (nI n), .int s_outSize, .ref m2, .int 1, .int (nI v0), .int (nI b), .int (nI (ltE g n (n - b) b)), .int s_failed, .ref m3, .ref m4, .ref m5, .int s_isProgram, .int s_half, .ref m6, .ref m7, .ref m8, .ref m9, .ref m10, .ref m11, .ref m12, .ref m13, .ref m14, .ref m15, .ref m16, .ref m17, .ref m18, .ref m19, .ref m20, .int s_signs, .ref m21, .int s_stacked, .ref m22, .int s_name, .int s_shift, .int s_statements, .int s_ifs, .int s_whiles, .int s_variants, .int s_open, .ref m23, .int s_isMade, .int s_conditions, .ref m24, .ref m25, .ref m26, .ref m27, .int s_kept, .ref m28, .int s_tops, .ref m29, .int s_used, .ref m30, .ref m31, .int s_looked, .int s_rows, .int s_firstRow, .ref m32, .ref m33, .ref m34, .ref m35, .ref m36, .ref m37, .ref m38, .ref m39, .ref m40, .int s_isBroken, .ref m41, .int s_atoms, .ref m42])), (m1, .inl (ax 0, 400, .inl (fun j => nI (g j))))] := ⟨hP1, hD1⟩
                  obtain ⟨hP, hD⟩ := hW7
                  clear hP1 hD1 hS1
                  rw [← hQe]
                  obtain ⟨hP9, hD9⟩ := xw_sub2 (wc := (fun u : Nat → Nat => [(m0, .inr (11, [.int s_thrown, .int s_taped, .ref m1, .int (nI n), .int s_outSize, .ref m2, .int (nI (u 0)), .int (nI (u 1)), .int (nI b), .int (nI (ltE g n (n - b) b)), .int s_failed, .ref m3, .ref m4, .ref m5, .int s_isProgram, .int s_half, .ref m6, .ref m7, .ref m8, .ref m9, .ref m10, .ref m11, .ref m12, .ref m13, .ref m14, .ref m15, .ref m16, .ref m17, .ref m18, .ref m19, .ref m20, .int s_signs, .ref m21, .int s_stacked, .ref m22, .int s_name, .int s_shift, .int s_statements, .int s_ifs, .int s_whiles, .int s_variants, .int s_open, .ref m23, .int s_isMade, .int s_conditions, .ref m24, .ref m25, .ref m26, .ref m27, .int s_kept, .ref m28, .int s_tops, .ref m29, .int s_used, .ref m30, .ref m31, .int s_looked, .int s_rows, .int s_firstRow, .ref m32, .ref m33, .ref m34, .ref m35, .ref m36, .ref m37, .ref m38, .ref m39, .ref m40, .int s_isBroken, .ref m41, .int s_atoms, .ref m42])), (m1, .inl (ax 0, 400, .inl (fun j => nI (g j))))]) (ixn [1, v0])) hP hD [0, 1] (by decide) rfl
                  have hsp0 : 1 = rwK g n b := (by unfold rwK; first | (exfalso; omega; done) | rw [if_pos (by first | assumption | omega)] | (rw [if_neg (by first | assumption | omega), if_pos (by first | assumption | omega)]) | (rw [if_neg (by first | assumption | omega), if_neg (by first | assumption | omega), hd, show q = ltE g n (n - b) b by omega]))
                  have hsp1 : v0 = rwV g n b v0 := (by unfold rwV; first | (exfalso; omega; done) | (rw [if_pos (by first | assumption | omega), if_pos (by first | assumption | omega)]) | (rw [if_pos (by first | assumption | omega), if_neg (by first | assumption | omega)]) | rw [if_neg (by first | assumption | omega)])
                  exact W.vret hx hb hr (fun t ht hW => ⟨⟨ixn [1, v0], rfl, ⟨hsp0, hsp1⟩, ⟨by rw [ht]; exact hP9, hD9⟩⟩, hS.F ht⟩) hS.2.2 d_Model_readWord_165
              · replace c_51 : ¬ ltE g n (n - b) b ≤ q := fun hq9 => c_51 ((nI_leI (a := ltE g n (n - b) b) (b := q) (by first | exact Nat.lt_of_lt_of_le (by assumption) (by decide) | exact Nat.lt_of_le_of_lt (by assumption) (by decide) | omega) (by first | exact Nat.lt_of_lt_of_le (by assumption) (by decide) | exact Nat.lt_of_le_of_lt (by assumption) (by decide) | omega)).mpr hq9)
                refine lv_iload_n hx hb d_Model_readWord_107 rfl (lv_at hl1 0 rfl) ?_
                refine lv_aload_n hx hb d_Model_readWord_108 rfl (lv_at hl1 3 rfl) ?_
                refine va_get (D := D) (ci := 11) (v := .int (nI b)) (C := R_Model) (T := F_Model) (N := 72) hx hb hts i_Model hown hK.1 hP 0 rfl rfl 8 (by decide) (hts _ wd_1044) (fun _ h9 => h9) rfl d_Model_readWord_109 ?_
                refine lv_bipush (v := 6) hx hb d_Model_readWord_112 (by decide) ?_
                refine lv_iadd hx hb d_Model_readWord_114 ?_
                refine lv_topi (fun z_59 ez_59 => ?_)
                have ez_59 : z_59 = nI (b + 6) := ez_59.trans (nI_add b 6)
                subst ez_59
                refine lv_icmp_ge (tgt := 139) hx hb d_Model_readWord_115 (by decide) (fun c_60 => ?_) (fun c_60 => ?_)
                · replace c_60 : b + 6 ≤ q := (nI_leI (a := b + 6) (b := q) (by first | exact Nat.lt_of_lt_of_le (by assumption) (by decide) | exact Nat.lt_of_le_of_lt (by assumption) (by decide) | omega) (by first | exact Nat.lt_of_lt_of_le (by assumption) (by decide) | exact Nat.lt_of_le_of_lt (by assumption) (by decide) | omega)).mp c_60
                  have hwb : d < 387420489 := by rw [hd]; exact wv_bd (by first | assumption | omega) (fun j h1 h2 => hE5 j h1 (by first | assumption | omega))
                  refine lv_aload_n hx hb d_Model_readWord_139 rfl (lv_at hl1 3 rfl) ?_
                  refine lv_aload_n hx hb d_Model_readWord_140 rfl (lv_at hl1 3 rfl) ?_
                  refine va_get (D := D) (ci := 11) (v := .int (nI (ltE g n (n - b) b))) (C := R_Model) (T := F_Model) (N := 72) hx hb hts i_Model hown hK.1 hP 0 rfl rfl 9 (by decide) (hts _ wd_1045) (fun _ h9 => h9) rfl d_Model_readWord_141 ?_
                  refine lv_aload_n hx hb d_Model_readWord_144 rfl (lv_at hl1 3 rfl) ?_
                  refine va_get (D := D) (ci := 11) (v := .int (nI b)) (C := R_Model) (T := F_Model) (N := 72) hx hb hts i_Model hown hK.1 hP 0 rfl rfl 8 (by decide) (hts _ wd_1044) (fun _ h9 => h9) rfl d_Model_readWord_145 ?_
                  refine lv_bipush (v := 6) hx hb d_Model_readWord_148 (by decide) ?_
                  refine lv_iadd hx hb d_Model_readWord_150 ?_
                  refine lv_topi (fun z_61 ez_61 => ?_)
                  have ez_61 : z_61 = nI (b + 6) := ez_61.trans (nI_add b 6)
                  subst ez_61
                  refine lv_icmp_le (tgt := 158) hx hb d_Model_readWord_151 (by decide) (fun c_62 => ?_) (fun c_62 => ?_)
                  · replace c_62 : ltE g n (n - b) b ≤ b + 6 := (nI_leI (a := ltE g n (n - b) b) (b := b + 6) (by first | exact Nat.lt_of_lt_of_le (by assumption) (by decide) | exact Nat.lt_of_le_of_lt (by assumption) (by decide) | omega) (by first | exact Nat.lt_of_lt_of_le (by assumption) (by decide) | exact Nat.lt_of_le_of_lt (by assumption) (by decide) | omega)).mp c_62
                    refine lv_iload_n hx hb d_Model_readWord_158 rfl (lv_at hl1 1 rfl) ?_
                    obtain ⟨hPc, hDc, hFc, hCs⟩ := xw_sub3 (wc := []) hP hD hS hA [] (by decide) rfl
                    have hz := xz_of hN hS
                    refine va_calli (va_runS (As := [.int (nI d)]) (rest := [.ref m0]) ⟨hx, hb, hml, hown, hts⟩ (c_M_wordOf l D ax d H.size (by first | assumption | omega)) (xcS (n := 1) hts wd_1292 wd_15 wd_1290 wd_1291 rfl rfl (by decide +kernel) ⟨Nat.le_of_ble_eq_true rfl, Nat.le_of_ble_eq_true rfl⟩) (xpS (As := [.int (nI d)]) hPc hK hz hDc) rfl rfl hl1.1 rfl (lv_room (Nat.le_of_ble_eq_true rfl)) d_Model_readWord_159 ⟨Nat.le_of_ble_eq_true rfl, Nat.le_of_ble_eq_true rfl⟩) hS (fun q _ h => hFc q h) hFc (fun r_65 u_63 t H_64 locs ht hvm hw hB hz1 hk1 hS1 => ?_)
                    try dsimp only at hw
                    subst hw
                    obtain ⟨hP1, hD1⟩ := hB
                    rw [ht] at hP1
                    have hjn := xw_join3 (wl := [(m0, .inr (11, [.int s_thrown, .int s_taped, .ref m1, .int (nI n), .int s_outSize, .ref m2, .int s_kind, .int (nI v0), .int (nI b), .int (nI (ltE g n (n - b) b)), .int s_failed, .ref m3, .ref m4, .ref m5, .int s_isProgram, .int s_half, .ref m6, .ref m7, .ref m8, .ref m9, .ref m10, .ref m11, .ref m12, .ref m13, .ref m14, .ref m15, .ref m16, .ref m17, .ref m18, .ref m19, .ref m20, .int s_signs, .ref m21, .int s_stacked, .ref m22, .int s_name, .int s_shift, .int s_statements, .int s_ifs, .int s_whiles, .int s_variants, .int s_open, .ref m23, .int s_isMade, .int s_conditions, .ref m24, .ref m25, .ref m26, .ref m27, .int s_kept, .ref m28, .int s_tops, .ref m29, .int s_used, .ref m30, .ref m31, .int s_looked, .int s_rows, .int s_firstRow, .ref m32, .ref m33, .ref m34, .ref m35, .ref m36, .ref m37, .ref m38, .ref m39, .ref m40, .int s_isBroken, .ref m41, .int s_atoms, .ref m42])), (m1, .inl (ax 0, 400, .inl (fun j => nI (g j))))]) hP hD [] [0, 1] hCs (by decide) (by decide) hk1 hFc hP1 hD1 rfl
                    clear hP1 hD1
                    clear hPc hDc hFc hCs hz hz1 hk1 ht hvm
                    clear hP hD hS
                    have hS := hS1
                    obtain ⟨hP, hD⟩ := hjn
                    clear hS1
                    refine va_put (D := D) (ci := 11) (v := .int (nI (wo d))) (ty := .int) (C := R_Model) (T := F_Model) (N := 72) hx hb hts i_Model t_Model t_Model_ok n_Model hown hK.1 hP hD hS 0 rfl rfl 6 (by decide) (hts _ wd_1042) (fun _ h9 => h9) rfl (by decide +kernel) rfl rfl (Nat.le_of_ble_eq_true rfl) d_Model_readWord_162 (fun H_66 locs hP1 hD1 hS1 => ?_)
                    clear hP hD hS
                    have hS := hS1
                    have hW7 : (fun w9 : va_W => va_P D classes w9 H_66 ∧ va_D A w9) [(m0, .inr (11, [.int s_thrown, .int s_taped, .ref m1, .int (nI n), .int s_outSize, .ref m2, .int (nI (wo d)), .int (nI v0), .int (nI b), .int (nI (ltE g n (n - b) b)), .int s_failed, .ref m3, .ref m4, .ref m5, .int s_isProgram, .int s_half, .ref m6, .ref m7, .ref m8, .ref m9, .ref m10, .ref m11, .ref m12, .ref m13, .ref m14, .ref m15, .ref m16, .ref m17, .ref m18, .ref m19, .ref m20, .int s_signs, .ref m21, .int s_stacked, .ref m22, .int s_name, .int s_shift, .int s_statements, .int s_ifs, .int s_whiles, .int s_variants, .int s_open, .ref m23, .int s_isMade, .int s_conditions, .ref m24, .ref m25, .ref m26, .ref m27, .int s_kept, .ref m28, .int s_tops, .ref m29, .int s_used, .ref m30, .ref m31, .int s_looked, .int s_rows, .int s_firstRow, .ref m32, .ref m33, .ref m34, .ref m35, .ref m36, .ref m37, .ref m38, .ref m39, .ref m40, .int s_isBroken, .ref m41, .int s_atoms, .ref m42])), (m1, .inl (ax 0, 400, .inl (fun j => nI (g j))))] := ⟨hP1, hD1⟩
                    obtain ⟨hP, hD⟩ := hW7
                    clear hP1 hD1 hS1
                    rw [← hQe]
                    obtain ⟨hP9, hD9⟩ := xw_sub2 (wc := (fun u : Nat → Nat => [(m0, .inr (11, [.int s_thrown, .int s_taped, .ref m1, .int (nI n), .int s_outSize, .ref m2, .int (nI (u 0)), .int (nI (u 1)), .int (nI b), .int (nI (ltE g n (n - b) b)), .int s_failed, .ref m3, .ref m4, .ref m5, .int s_isProgram, .int s_half, .ref m6, .ref m7, .ref m8, .ref m9, .ref m10, .ref m11, .ref m12, .ref m13, .ref m14, .ref m15, .ref m16, .ref m17, .ref m18, .ref m19, .ref m20, .int s_signs, .ref m21, .int s_stacked, .ref m22, .int s_name, .int s_shift, .int s_statements, .int s_ifs, .int s_whiles, .int s_variants, .int s_open, .ref m23, .int s_isMade, .int s_conditions, .ref m24, .ref m25, .ref m26, .ref m27, .int s_kept, .ref m28, .int s_tops, .ref m29, .int s_used, .ref m30, .ref m31, .int s_looked, .int s_rows, .int s_firstRow, .ref m32, .ref m33, .ref m34, .ref m35, .ref m36, .ref m37, .ref m38, .ref m39, .ref m40, .int s_isBroken, .ref m41, .int s_atoms, .ref m42])), (m1, .inl (ax 0, 400, .inl (fun j => nI (g j))))]) (ixn [(wo d), v0])) hP hD [0, 1] (by decide) rfl
                    have hsp0 : (wo d) = rwK g n b := (by unfold rwK; first | (exfalso; omega; done) | rw [if_pos (by first | assumption | omega)] | (rw [if_neg (by first | assumption | omega), if_pos (by first | assumption | omega)]) | (rw [if_neg (by first | assumption | omega), if_neg (by first | assumption | omega), hd, show q = ltE g n (n - b) b by omega]))
                    have hsp1 : v0 = rwV g n b v0 := (by unfold rwV; first | (exfalso; omega; done) | (rw [if_pos (by first | assumption | omega), if_pos (by first | assumption | omega)]) | (rw [if_pos (by first | assumption | omega), if_neg (by first | assumption | omega)]) | rw [if_neg (by first | assumption | omega)])
                    exact W.vret hx hb hr (fun t ht hW => ⟨⟨ixn [(wo d), v0], rfl, ⟨hsp0, hsp1⟩, ⟨by rw [ht]; exact hP9, hD9⟩⟩, hS.F ht⟩) hS.2.2 d_Model_readWord_165
                  · replace c_62 : ¬ ltE g n (n - b) b ≤ b + 6 := fun hq9 => c_62 ((nI_leI (a := ltE g n (n - b) b) (b := b + 6) (by first | exact Nat.lt_of_lt_of_le (by assumption) (by decide) | exact Nat.lt_of_le_of_lt (by assumption) (by decide) | omega) (by first | exact Nat.lt_of_lt_of_le (by assumption) (by decide) | exact Nat.lt_of_le_of_lt (by assumption) (by decide) | omega)).mpr hq9)
                    refine lv_iconst (v := 1) hx hb d_Model_readWord_154 (by decide) ?_
                    refine lv_goto (tgt := 162) hx hb d_Model_readWord_155 (by decide) ?_
                    refine va_put (D := D) (ci := 11) (v := .int 1) (ty := .int) (C := R_Model) (T := F_Model) (N := 72) hx hb hts i_Model t_Model t_Model_ok n_Model hown hK.1 hP hD hS 0 rfl rfl 6 (by decide) (hts _ wd_1042) (fun _ h9 => h9) rfl (by decide +kernel) rfl rfl (Nat.le_of_ble_eq_true rfl) d_Model_readWord_162 (fun H_67 locs hP1 hD1 hS1 => ?_)
                    clear hP hD hS
                    have hS := hS1
                    have hW7 : (fun w9 : va_W => va_P D classes w9 H_67 ∧ va_D A w9) [(m0, .inr (11, [.int s_thrown, .int s_taped, .ref m1, .int (nI n), .int s_outSize, .ref m2, .int 1, .int (nI v0), .int (nI b), .int (nI (ltE g n (n - b) b)), .int s_failed, .ref m3, .ref m4, .ref m5, .int s_isProgram, .int s_half, .ref m6, .ref m7, .ref m8, .ref m9, .ref m10, .ref m11, .ref m12, .ref m13, .ref m14, .ref m15, .ref m16, .ref m17, .ref m18, .ref m19, .ref m20, .int s_signs, .ref m21, .int s_stacked, .ref m22, .int s_name, .int s_shift, .int s_statements, .int s_ifs, .int s_whiles, .int s_variants, .int s_open, .ref m23, .int s_isMade, .int s_conditions, .ref m24, .ref m25, .ref m26, .ref m27, .int s_kept, .ref m28, .int s_tops, .ref m29, .int s_used, .ref m30, .ref m31, .int s_looked, .int s_rows, .int s_firstRow, .ref m32, .ref m33, .ref m34, .ref m35, .ref m36, .ref m37, .ref m38, .ref m39, .ref m40, .int s_isBroken, .ref m41, .int s_atoms, .ref m42])), (m1, .inl (ax 0, 400, .inl (fun j => nI (g j))))] := ⟨hP1, hD1⟩
                    obtain ⟨hP, hD⟩ := hW7
                    clear hP1 hD1 hS1
                    rw [← hQe]
                    obtain ⟨hP9, hD9⟩ := xw_sub2 (wc := (fun u : Nat → Nat => [(m0, .inr (11, [.int s_thrown, .int s_taped, .ref m1, .int (nI n), .int s_outSize, .ref m2, .int (nI (u 0)), .int (nI (u 1)), .int (nI b), .int (nI (ltE g n (n - b) b)), .int s_failed, .ref m3, .ref m4, .ref m5, .int s_isProgram, .int s_half, .ref m6, .ref m7, .ref m8, .ref m9, .ref m10, .ref m11, .ref m12, .ref m13, .ref m14, .ref m15, .ref m16, .ref m17, .ref m18, .ref m19, .ref m20, .int s_signs, .ref m21, .int s_stacked, .ref m22, .int s_name, .int s_shift, .int s_statements, .int s_ifs, .int s_whiles, .int s_variants, .int s_open, .ref m23, .int s_isMade, .int s_conditions, .ref m24, .ref m25, .ref m26, .ref m27, .int s_kept, .ref m28, .int s_tops, .ref m29, .int s_used, .ref m30, .ref m31, .int s_looked, .int s_rows, .int s_firstRow, .ref m32, .ref m33, .ref m34, .ref m35, .ref m36, .ref m37, .ref m38, .ref m39, .ref m40, .int s_isBroken, .ref m41, .int s_atoms, .ref m42])), (m1, .inl (ax 0, 400, .inl (fun j => nI (g j))))]) (ixn [1, v0])) hP hD [0, 1] (by decide) rfl
                    have hsp0 : 1 = rwK g n b := (by unfold rwK; first | (exfalso; omega; done) | rw [if_pos (by first | assumption | omega)] | (rw [if_neg (by first | assumption | omega), if_pos (by first | assumption | omega)]) | (rw [if_neg (by first | assumption | omega), if_neg (by first | assumption | omega), hd, show q = ltE g n (n - b) b by omega]))
                    have hsp1 : v0 = rwV g n b v0 := (by unfold rwV; first | (exfalso; omega; done) | (rw [if_pos (by first | assumption | omega), if_pos (by first | assumption | omega)]) | (rw [if_pos (by first | assumption | omega), if_neg (by first | assumption | omega)]) | rw [if_neg (by first | assumption | omega)])
                    exact W.vret hx hb hr (fun t ht hW => ⟨⟨ixn [1, v0], rfl, ⟨hsp0, hsp1⟩, ⟨by rw [ht]; exact hP9, hD9⟩⟩, hS.F ht⟩) hS.2.2 d_Model_readWord_165
                · replace c_60 : ¬ b + 6 ≤ q := fun hq9 => c_60 ((nI_leI (a := b + 6) (b := q) (by first | exact Nat.lt_of_lt_of_le (by assumption) (by decide) | exact Nat.lt_of_le_of_lt (by assumption) (by decide) | omega) (by first | exact Nat.lt_of_lt_of_le (by assumption) (by decide) | exact Nat.lt_of_le_of_lt (by assumption) (by decide) | omega)).mpr hq9)
                  have hgq := hE5 q (by first | assumption | omega) (by first | assumption | omega)
                  refine lv_bipush (v := 27) hx hb d_Model_readWord_118 (by decide) ?_
                  refine lv_iload_n hx hb d_Model_readWord_120 rfl (lv_at hl1 1 rfl) ?_
                  refine lv_imul hx hb d_Model_readWord_121 ?_
                  refine lv_topi (fun z_68 ez_68 => ?_)
                  have ez_68 : z_68 = nI (27 * d) := ez_68.trans (pk_mul 27 d)
                  subst ez_68
                  refine lv_aload_n hx hb d_Model_readWord_122 rfl (lv_at hl1 3 rfl) ?_
                  refine va_get (D := D) (ci := 11) (v := .ref m1) (C := R_Model) (T := F_Model) (N := 72) hx hb hts i_Model hown hK.1 hP 0 rfl rfl 2 (by decide) (hts _ wd_1038) (fun _ h9 => h9) rfl d_Model_readWord_123 ?_
                  refine lv_iload_n hx hb d_Model_readWord_126 rfl (lv_at hl1 0 rfl) ?_
                  refine va_iald hx hb hK.1 hP 1 0 rfl rfl (vp_in_nI (by first | assumption | omega) (by decide)) d_Model_readWord_127 ?_
                  refine W.eq (g2 := F0 m 128 ls [.int (nI (g q)), .int (nI (27 * d))]) (by rw [nI_clamp (by first | exact Nat.lt_of_lt_of_le (by assumption) (by decide) | exact Nat.lt_of_le_of_lt (by assumption) (by decide) | omega)]) ?_
                  refine lv_iadd hx hb d_Model_readWord_128 ?_
                  refine lv_topi (fun z_69 ez_69 => ?_)
                  have ez_69 : z_69 = nI (27 * d + g q) := ez_69.trans (nI_add (27 * d) (g q))
                  subst ez_69
                  refine lv_bipush (v := 96) hx hb d_Model_readWord_129 (by decide) ?_
                  refine lv_isub hx hb d_Model_readWord_131 ?_
                  refine lv_topi (fun z_70 ez_70 => ?_)
                  have ez_70 : z_70 = nI ((27 * d + g q) - 96) := ez_70.trans (pk_sub (a := 27 * d + g q) (b := 96) (by first | assumption | omega))
                  subst ez_70
                  refine lv_istore_n (lv' := [(2, .int (nI ((27 * d + g q) - 96))), (3, .int (nI q)), (1, .int (nI (g b))), (0, .ref m0)]) hx hb d_Model_readWord_132 rfl hl1 (by decide) rfl (fun ls hl2 => ?_)
                  clear hl1; have hl1 := hl2; clear hl2
                  refine lv_iinc (v := nI (q + 1)) (lv' := [(3, .int (nI (q + 1))), (2, .int (nI ((27 * d + g q) - 96))), (1, .int (nI (g b))), (0, .ref m0)]) hx hb d_Model_readWord_133 hl1 (k := 1) rfl (nI_add q 1) (by decide) rfl (fun ls hl2 => ?_)
                  clear hl1; have hl1 := hl2; clear hl2
                  refine lv_goto (tgt := 99) hx hb d_Model_readWord_136 (by decide) ?_
                  exact ih_49 (q + 1) ((27 * d + g q) - 96) (by first | assumption | omega) (by first | assumption | omega) (by first | assumption | omega) (by first | assumption | omega) (by rw [show q + 1 - b = (q - b) + 1 by omega, hd]; show _ = 27 * wv g b (q - b) + g (b + (q - b)) - 96; rw [show b + (q - b) = q by omega]) _ _ _ (hP.sub [0, 1] rfl) (hD.sub [0, 1] (by decide) rfl) hS (lv_sub hl1 [0, 1, 2, 3] rfl)
          · replace c_46 : ¬ g b < 119 := fun hq9 => c_46 ((nI_ltI (a := g b) (b := 119) (by first | exact Nat.lt_of_lt_of_le (by assumption) (by decide) | exact Nat.lt_of_le_of_lt (by assumption) (by decide) | omega) (by decide)).mpr hq9)
            refine lv_aload_n hx hb d_Model_readWord_62 rfl (lv_at hl1 1 rfl) ?_
            refine lv_iconst (v := 2) hx hb d_Model_readWord_63 (by decide) ?_
            refine va_put (D := D) (ci := 11) (v := .int 2) (ty := .int) (C := R_Model) (T := F_Model) (N := 72) hx hb hts i_Model t_Model t_Model_ok n_Model hown hK.1 hP hD hS 0 rfl rfl 6 (by decide) (hts _ wd_1042) (fun _ h9 => h9) rfl (by decide +kernel) rfl rfl (Nat.le_of_ble_eq_true rfl) d_Model_readWord_64 (fun H_71 locs hP1 hD1 hS1 => ?_)
            clear hP hD hS
            have hS := hS1
            have hW7 : (fun w9 : va_W => va_P D classes w9 H_71 ∧ va_D A w9) [(m0, .inr (11, [.int s_thrown, .int s_taped, .ref m1, .int (nI n), .int s_outSize, .ref m2, .int 2, .int (nI v0), .int (nI b), .int (nI (ltE g n (n - b) b)), .int s_failed, .ref m3, .ref m4, .ref m5, .int s_isProgram, .int s_half, .ref m6, .ref m7, .ref m8, .ref m9, .ref m10, .ref m11, .ref m12, .ref m13, .ref m14, .ref m15, .ref m16, .ref m17, .ref m18, .ref m19, .ref m20, .int s_signs, .ref m21, .int s_stacked, .ref m22, .int s_name, .int s_shift, .int s_statements, .int s_ifs, .int s_whiles, .int s_variants, .int s_open, .ref m23, .int s_isMade, .int s_conditions, .ref m24, .ref m25, .ref m26, .ref m27, .int s_kept, .ref m28, .int s_tops, .ref m29, .int s_used, .ref m30, .ref m31, .int s_looked, .int s_rows, .int s_firstRow, .ref m32, .ref m33, .ref m34, .ref m35, .ref m36, .ref m37, .ref m38, .ref m39, .ref m40, .int s_isBroken, .ref m41, .int s_atoms, .ref m42])), (m1, .inl (ax 0, 400, .inl (fun j => nI (g j))))] := ⟨hP1, hD1⟩
            obtain ⟨hP, hD⟩ := hW7
            clear hP1 hD1 hS1
            refine lv_aload_n hx hb d_Model_readWord_67 rfl (lv_at hl1 1 rfl) ?_
            refine lv_iload_n hx hb d_Model_readWord_68 rfl (lv_at hl1 0 rfl) ?_
            refine lv_bipush (v := 102) hx hb d_Model_readWord_69 (by decide) ?_
            refine lv_icmp_gt (tgt := 81) hx hb d_Model_readWord_71 (by decide) (fun c_72 => ?_) (fun c_72 => ?_)
            · replace c_72 : 102 < g b := (nI_ltI (a := 102) (b := g b) (by decide) (by first | exact Nat.lt_of_lt_of_le (by assumption) (by decide) | exact Nat.lt_of_le_of_lt (by assumption) (by decide) | omega)).mp c_72
              refine lv_iload_n hx hb d_Model_readWord_81 rfl (lv_at hl1 0 rfl) ?_
              refine lv_bipush (v := 119) hx hb d_Model_readWord_82 (by decide) ?_
              refine lv_isub hx hb d_Model_readWord_84 ?_
              refine lv_topi (fun z_73 ez_73 => ?_)
              have ez_73 : z_73 = nI (g b - 119) := ez_73.trans (pk_sub (a := g b) (b := 119) (by first | assumption | omega))
              subst ez_73
              refine lv_bipush (v := 6) hx hb d_Model_readWord_85 (by decide) ?_
              refine lv_iadd hx hb d_Model_readWord_87 ?_
              refine lv_topi (fun z_74 ez_74 => ?_)
              have ez_74 : z_74 = nI (g b - 119 + 6) := ez_74.trans (nI_add (g b - 119) 6)
              subst ez_74
              refine va_put (D := D) (ci := 11) (v := .int (nI (g b - 119 + 6))) (ty := .int) (C := R_Model) (T := F_Model) (N := 72) hx hb hts i_Model t_Model t_Model_ok n_Model hown hK.1 hP hD hS 0 rfl rfl 7 (by decide) (hts _ wd_1043) (fun _ h9 => h9) rfl (by decide +kernel) rfl rfl (Nat.le_of_ble_eq_true rfl) d_Model_readWord_88 (fun H_75 locs hP1 hD1 hS1 => ?_)
              clear hP hD hS
              have hS := hS1
              have hW7 : (fun w9 : va_W => va_P D classes w9 H_75 ∧ va_D A w9) [(m0, .inr (11, [.int s_thrown, .int s_taped, .ref m1, .int (nI n), .int s_outSize, .ref m2, .int 2, .int (nI (g b - 119 + 6)), .int (nI b), .int (nI (ltE g n (n - b) b)), .int s_failed, .ref m3, .ref m4, .ref m5, .int s_isProgram, .int s_half, .ref m6, .ref m7, .ref m8, .ref m9, .ref m10, .ref m11, .ref m12, .ref m13, .ref m14, .ref m15, .ref m16, .ref m17, .ref m18, .ref m19, .ref m20, .int s_signs, .ref m21, .int s_stacked, .ref m22, .int s_name, .int s_shift, .int s_statements, .int s_ifs, .int s_whiles, .int s_variants, .int s_open, .ref m23, .int s_isMade, .int s_conditions, .ref m24, .ref m25, .ref m26, .ref m27, .int s_kept, .ref m28, .int s_tops, .ref m29, .int s_used, .ref m30, .ref m31, .int s_looked, .int s_rows, .int s_firstRow, .ref m32, .ref m33, .ref m34, .ref m35, .ref m36, .ref m37, .ref m38, .ref m39, .ref m40, .int s_isBroken, .ref m41, .int s_atoms, .ref m42])), (m1, .inl (ax 0, 400, .inl (fun j => nI (g j))))] := ⟨hP1, hD1⟩
              obtain ⟨hP, hD⟩ := hW7
              clear hP1 hD1 hS1
              rw [← hQe]
              obtain ⟨hP9, hD9⟩ := xw_sub2 (wc := (fun u : Nat → Nat => [(m0, .inr (11, [.int s_thrown, .int s_taped, .ref m1, .int (nI n), .int s_outSize, .ref m2, .int (nI (u 0)), .int (nI (u 1)), .int (nI b), .int (nI (ltE g n (n - b) b)), .int s_failed, .ref m3, .ref m4, .ref m5, .int s_isProgram, .int s_half, .ref m6, .ref m7, .ref m8, .ref m9, .ref m10, .ref m11, .ref m12, .ref m13, .ref m14, .ref m15, .ref m16, .ref m17, .ref m18, .ref m19, .ref m20, .int s_signs, .ref m21, .int s_stacked, .ref m22, .int s_name, .int s_shift, .int s_statements, .int s_ifs, .int s_whiles, .int s_variants, .int s_open, .ref m23, .int s_isMade, .int s_conditions, .ref m24, .ref m25, .ref m26, .ref m27, .int s_kept, .ref m28, .int s_tops, .ref m29, .int s_used, .ref m30, .ref m31, .int s_looked, .int s_rows, .int s_firstRow, .ref m32, .ref m33, .ref m34, .ref m35, .ref m36, .ref m37, .ref m38, .ref m39, .ref m40, .int s_isBroken, .ref m41, .int s_atoms, .ref m42])), (m1, .inl (ax 0, 400, .inl (fun j => nI (g j))))]) (ixn [2, (g b - 119 + 6)])) hP hD [0, 1] (by decide) rfl
              have hsp0 : 2 = rwK g n b := (by unfold rwK; first | (exfalso; omega; done) | rw [if_pos (by first | assumption | omega)] | (rw [if_neg (by first | assumption | omega), if_pos (by first | assumption | omega)]) | (rw [if_neg (by first | assumption | omega), if_neg (by first | assumption | omega), hd, show q = ltE g n (n - b) b by omega]))
              have hsp1 : (g b - 119 + 6) = rwV g n b v0 := (by unfold rwV; first | (exfalso; omega; done) | (rw [if_pos (by first | assumption | omega), if_pos (by first | assumption | omega)]) | (rw [if_pos (by first | assumption | omega), if_neg (by first | assumption | omega)]) | rw [if_neg (by first | assumption | omega)])
              exact W.vret hx hb hr (fun t ht hW => ⟨⟨ixn [2, (g b - 119 + 6)], rfl, ⟨hsp0, hsp1⟩, ⟨by rw [ht]; exact hP9, hD9⟩⟩, hS.F ht⟩) hS.2.2 d_Model_readWord_91
            · replace c_72 : ¬ 102 < g b := fun hq9 => c_72 ((nI_ltI (a := 102) (b := g b) (by decide) (by first | exact Nat.lt_of_lt_of_le (by assumption) (by decide) | exact Nat.lt_of_le_of_lt (by assumption) (by decide) | omega)).mpr hq9)
              refine lv_iload_n hx hb d_Model_readWord_74 rfl (lv_at hl1 0 rfl) ?_
              refine lv_bipush (v := 97) hx hb d_Model_readWord_75 (by decide) ?_
              refine lv_isub hx hb d_Model_readWord_77 ?_
              refine lv_topi (fun z_76 ez_76 => ?_)
              have ez_76 : z_76 = nI (g b - 97) := ez_76.trans (pk_sub (a := g b) (b := 97) (by first | assumption | omega))
              subst ez_76
              refine lv_goto (tgt := 88) hx hb d_Model_readWord_78 (by decide) ?_
              refine va_put (D := D) (ci := 11) (v := .int (nI (g b - 97))) (ty := .int) (C := R_Model) (T := F_Model) (N := 72) hx hb hts i_Model t_Model t_Model_ok n_Model hown hK.1 hP hD hS 0 rfl rfl 7 (by decide) (hts _ wd_1043) (fun _ h9 => h9) rfl (by decide +kernel) rfl rfl (Nat.le_of_ble_eq_true rfl) d_Model_readWord_88 (fun H_77 locs hP1 hD1 hS1 => ?_)
              clear hP hD hS
              have hS := hS1
              have hW7 : (fun w9 : va_W => va_P D classes w9 H_77 ∧ va_D A w9) [(m0, .inr (11, [.int s_thrown, .int s_taped, .ref m1, .int (nI n), .int s_outSize, .ref m2, .int 2, .int (nI (g b - 97)), .int (nI b), .int (nI (ltE g n (n - b) b)), .int s_failed, .ref m3, .ref m4, .ref m5, .int s_isProgram, .int s_half, .ref m6, .ref m7, .ref m8, .ref m9, .ref m10, .ref m11, .ref m12, .ref m13, .ref m14, .ref m15, .ref m16, .ref m17, .ref m18, .ref m19, .ref m20, .int s_signs, .ref m21, .int s_stacked, .ref m22, .int s_name, .int s_shift, .int s_statements, .int s_ifs, .int s_whiles, .int s_variants, .int s_open, .ref m23, .int s_isMade, .int s_conditions, .ref m24, .ref m25, .ref m26, .ref m27, .int s_kept, .ref m28, .int s_tops, .ref m29, .int s_used, .ref m30, .ref m31, .int s_looked, .int s_rows, .int s_firstRow, .ref m32, .ref m33, .ref m34, .ref m35, .ref m36, .ref m37, .ref m38, .ref m39, .ref m40, .int s_isBroken, .ref m41, .int s_atoms, .ref m42])), (m1, .inl (ax 0, 400, .inl (fun j => nI (g j))))] := ⟨hP1, hD1⟩
              obtain ⟨hP, hD⟩ := hW7
              clear hP1 hD1 hS1
              rw [← hQe]
              obtain ⟨hP9, hD9⟩ := xw_sub2 (wc := (fun u : Nat → Nat => [(m0, .inr (11, [.int s_thrown, .int s_taped, .ref m1, .int (nI n), .int s_outSize, .ref m2, .int (nI (u 0)), .int (nI (u 1)), .int (nI b), .int (nI (ltE g n (n - b) b)), .int s_failed, .ref m3, .ref m4, .ref m5, .int s_isProgram, .int s_half, .ref m6, .ref m7, .ref m8, .ref m9, .ref m10, .ref m11, .ref m12, .ref m13, .ref m14, .ref m15, .ref m16, .ref m17, .ref m18, .ref m19, .ref m20, .int s_signs, .ref m21, .int s_stacked, .ref m22, .int s_name, .int s_shift, .int s_statements, .int s_ifs, .int s_whiles, .int s_variants, .int s_open, .ref m23, .int s_isMade, .int s_conditions, .ref m24, .ref m25, .ref m26, .ref m27, .int s_kept, .ref m28, .int s_tops, .ref m29, .int s_used, .ref m30, .ref m31, .int s_looked, .int s_rows, .int s_firstRow, .ref m32, .ref m33, .ref m34, .ref m35, .ref m36, .ref m37, .ref m38, .ref m39, .ref m40, .int s_isBroken, .ref m41, .int s_atoms, .ref m42])), (m1, .inl (ax 0, 400, .inl (fun j => nI (g j))))]) (ixn [2, (g b - 97)])) hP hD [0, 1] (by decide) rfl
              have hsp0 : 2 = rwK g n b := (by unfold rwK; first | (exfalso; omega; done) | rw [if_pos (by first | assumption | omega)] | (rw [if_neg (by first | assumption | omega), if_pos (by first | assumption | omega)]) | (rw [if_neg (by first | assumption | omega), if_neg (by first | assumption | omega), hd, show q = ltE g n (n - b) b by omega]))
              have hsp1 : (g b - 97) = rwV g n b v0 := (by unfold rwV; first | (exfalso; omega; done) | (rw [if_pos (by first | assumption | omega), if_pos (by first | assumption | omega)]) | (rw [if_pos (by first | assumption | omega), if_neg (by first | assumption | omega)]) | rw [if_neg (by first | assumption | omega)])
              exact W.vret hx hb hr (fun t ht hW => ⟨⟨ixn [2, (g b - 97)], rfl, ⟨hsp0, hsp1⟩, ⟨by rw [ht]; exact hP9, hD9⟩⟩, hS.F ht⟩) hS.2.2 d_Model_readWord_91
    · replace c_11 : (97 ≤ (bt g n q) ∧ (bt g n q) ≤ 122) := zb_y c_11
      have hqn : q < n := lt_in (by assumption)
      refine lv_aload_n hx hb d_Model_readWord_14 rfl (lv_at hl1 0 rfl) ?_
      refine lv_dup hx hb d_Model_readWord_15 rfl ?_
      refine va_get (D := D) (ci := 11) (v := .int (nI q)) (C := R_Model) (T := F_Model) (N := 72) hx hb hts i_Model hown hK.1 hP 0 rfl rfl 9 (by decide) (hts _ wd_1045) (fun _ h9 => h9) rfl d_Model_readWord_16 ?_
      refine lv_iconst (v := 1) hx hb d_Model_readWord_19 (by decide) ?_
      refine lv_iadd hx hb d_Model_readWord_20 ?_
      refine lv_topi (fun z_78 ez_78 => ?_)
      have ez_78 : z_78 = nI (q + 1) := ez_78.trans (nI_add q 1)
      subst ez_78
      refine va_put (D := D) (ci := 11) (v := .int (nI (q + 1))) (ty := .int) (C := R_Model) (T := F_Model) (N := 72) hx hb hts i_Model t_Model t_Model_ok n_Model hown hK.1 hP hD hS 0 rfl rfl 9 (by decide) (hts _ wd_1045) (fun _ h9 => h9) rfl (by decide +kernel) rfl rfl (Nat.le_of_ble_eq_true rfl) d_Model_readWord_21 (fun H_79 locs hP1 hD1 hS1 => ?_)
      clear hP hD hS
      have hS := hS1
      have hW7 : (fun w9 : va_W => va_P D classes w9 H_79 ∧ va_D A w9) [(m0, .inr (11, [.int s_thrown, .int s_taped, .ref m1, .int (nI n), .int s_outSize, .ref m2, .int s_kind, .int (nI v0), .int (nI b), .int (nI (q + 1)), .int s_failed, .ref m3, .ref m4, .ref m5, .int s_isProgram, .int s_half, .ref m6, .ref m7, .ref m8, .ref m9, .ref m10, .ref m11, .ref m12, .ref m13, .ref m14, .ref m15, .ref m16, .ref m17, .ref m18, .ref m19, .ref m20, .int s_signs, .ref m21, .int s_stacked, .ref m22, .int s_name, .int s_shift, .int s_statements, .int s_ifs, .int s_whiles, .int s_variants, .int s_open, .ref m23, .int s_isMade, .int s_conditions, .ref m24, .ref m25, .ref m26, .ref m27, .int s_kept, .ref m28, .int s_tops, .ref m29, .int s_used, .ref m30, .ref m31, .int s_looked, .int s_rows, .int s_firstRow, .ref m32, .ref m33, .ref m34, .ref m35, .ref m36, .ref m37, .ref m38, .ref m39, .ref m40, .int s_isBroken, .ref m41, .int s_atoms, .ref m42])), (m1, .inl (ax 0, 400, .inl (fun j => nI (g j))))] := ⟨hP1, hD1⟩
      obtain ⟨hP, hD⟩ := hW7
      clear hP1 hD1 hS1
      refine lv_goto (tgt := 0) hx hb d_Model_readWord_24 (by decide) ?_
      exact ih_3 (q + 1) (by first | assumption | omega) (by first | assumption | omega) (by first | assumption | omega) (by rw [← hE]; exact (ltE_step (q := q) (by assumption)).symm) _ _ _ (hP.sub [0, 1] rfl) (hD.sub [0, 1] (by decide) rfl) hS (lv_sub hl1 [0] rfl)
