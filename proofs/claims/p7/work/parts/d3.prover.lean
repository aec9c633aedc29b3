theorem ps_34 : Cond.selects "TripleDesk$Prover" ⟨"TripleDesk$Prover", "ask", "(II)V"⟩ ⟨"TripleDesk$Prover", "ask", "(II)V"⟩ ∈ lw_gd := ps_in (q := (⟨"TripleDesk$Prover", "ask", "(II)V"⟩, 9)) (i := 34) (by decide +kernel)
theorem wd_6 : ((Jvm.Cond.initialized "TripleDesk$Prover")) ∈ lw_gd := lw_gd_in (i := 6) (by decide +kernel) rfl
theorem wd_104 : ((Jvm.Cond.fieldLink "TripleDesk$Prover" (39 : Nat) "TripleDesk$Nodes" "op" "[B")) ∈ lw_gd := lw_gd_in (i := 104) (by decide +kernel) rfl
theorem wd_110 : ((Jvm.Cond.fieldLink "TripleDesk$Prover" (57 : Nat) "TripleDesk$Nodes" "left" "[I")) ∈ lw_gd := lw_gd_in (i := 110) (by decide +kernel) rfl
theorem wd_115 : ((Jvm.Cond.fieldLink "TripleDesk$Prover" (60 : Nat) "TripleDesk$Nodes" "right" "[I")) ∈ lw_gd := lw_gd_in (i := 115) (by decide +kernel) rfl
theorem wd_183 : ((Jvm.Cond.fieldLink "TripleDesk$Prover" (29 : Nat) "TripleDesk$Prover" "formula" "LTripleDesk$Nodes;")) ∈ lw_gd := lw_gd_in (i := 183) (by decide +kernel) rfl
theorem wd_184 : ((Jvm.Cond.fieldLink "TripleDesk$Prover" (18 : Nat) "TripleDesk$Prover" "rowsOf" "[S")) ∈ lw_gd := lw_gd_in (i := 184) (by decide +kernel) rfl
theorem wd_185 : ((Jvm.Cond.fieldLink "TripleDesk$Prover" (22 : Nat) "TripleDesk$Prover" "demand" "[I")) ∈ lw_gd := lw_gd_in (i := 185) (by decide +kernel) rfl
theorem wd_186 : ((Jvm.Cond.fieldLink "TripleDesk$Prover" (26 : Nat) "TripleDesk$Prover" "index" "[I")) ∈ lw_gd := lw_gd_in (i := 186) (by decide +kernel) rfl
theorem wd_187 : ((Jvm.Cond.fieldLink "TripleDesk$Prover" (86 : Nat) "TripleDesk$Prover" "waiting" "I")) ∈ lw_gd := lw_gd_in (i := 187) (by decide +kernel) rfl
theorem wd_825 : ((Jvm.Cond.methodLink "TripleDesk$Prover" (67 : Nat) ({ cls := "java/lang/Math", name := "min", desc := "(II)I" } : Jvm.MethodName))) ∈ lw_gd := lw_gd_in (i := 825) (by decide +kernel) rfl
theorem wd_839 : ((Jvm.Cond.methodLink "TripleDesk$Prover" (89 : Nat) ({ cls := "TripleDesk$Prover", name := "ask", desc := "(II)V" } : Jvm.MethodName))) ∈ lw_gd := lw_gd_in (i := 839) (by decide +kernel) rfl
theorem wd_841 : ((Jvm.Cond.instanceMethod ({ cls := "TripleDesk$Prover", name := "ask", desc := "(II)V" } : Jvm.MethodName))) ∈ lw_gd := lw_gd_in (i := 841) (by decide +kernel) rfl
theorem wd_842 : ((Jvm.Cond.code ({ cls := "TripleDesk$Prover", name := "ask", desc := "(II)V" } : Jvm.MethodName) prog_8_method_8_code (3 : Nat) (Option.none : Option Jvm.ClassFile.FieldType))) ∈ lw_gd := lw_gd_in (i := 842) (by decide +kernel) rfl
theorem wd_867 : ((Jvm.Cond.methodLink "TripleDesk$Prover" (105 : Nat) ({ cls := "java/lang/Math", name := "max", desc := "(II)I" } : Jvm.MethodName))) ∈ lw_gd := lw_gd_in (i := 867) (by decide +kernel) rfl
theorem wd_868 : ((Jvm.Cond.static ({ cls := "java/lang/Math", name := "max", desc := "(II)I" } : Jvm.MethodName))) ∈ lw_gd := lw_gd_in (i := 868) (by decide +kernel) rfl
theorem wd_869 : ((Jvm.Cond.code ({ cls := "java/lang/Math", name := "max", desc := "(II)I" } : Jvm.MethodName) prog_19_method_65_code (2 : Nat) (Option.some Jvm.ClassFile.FieldType.int))) ∈ lw_gd := lw_gd_in (i := 869) (by decide +kernel) rfl
theorem nar_s (y : Int32) : narrow .short (.int y.toInt16.toInt32) = .int y.toInt16.toInt32 := by
  show Value.int (y.toInt16.toInt32.toInt16.toInt32) = _
  rw [Int16.toInt16_toInt32]
theorem mx1 {z y : Int32} (e : z = if (1 : Int32) < y then y else 1) : ¬ z = 0 := fun h => by
  rw [h] at e
  by_cases q : (1 : Int32) < y
  · rw [if_pos q] at e
    subst e
    exact absurd q (by decide)
  · rw [if_neg q] at e
    exact absurd e (by decide)
theorem nb_xor1 {a b : Nat} (h : b ≤ 1) : nI (2 * a + b) ^^^ 1 = nI (2 * a + (1 - b)) := by
  apply Int32.toBitVec_inj.mp
  rw [Int32.toBitVec_xor]
  apply BitVec.eq_of_toNat_eq
  show (BitVec.ofNat 32 (2 * a + b) ^^^ BitVec.ofNat 32 1).toNat = (BitVec.ofNat 32 (2 * a + (1 - b))).toNat
  rw [BitVec.toNat_xor, BitVec.toNat_ofNat, BitVec.toNat_ofNat, BitVec.toNat_ofNat, ← Nat.xor_mod_two_pow]
  congr 1
  rcases Nat.eq_or_lt_of_le h with e | e
  · subst e
    have h1 : (2 * a + 1) ^^^ 1 = 2 * a := by
      apply Nat.eq_of_testBit_eq; intro i
      rw [Nat.testBit_xor]
      cases i with
      | zero => simp [Nat.testBit_zero]
      | succ i => simp [Nat.testBit_succ]; congr 1; omega
    rw [h1]; omega
  · have hb : b = 0 := by omega
    subst hb
    have h1 : (2 * a + 0) ^^^ 1 = 2 * a + 1 := by
      apply Nat.eq_of_testBit_eq; intro i
      rw [Nat.testBit_xor]
      cases i with
      | zero => simp [Nat.testBit_zero]
      | succ i => simp [Nat.testBit_succ]; congr 1; omega
    rw [h1]
/-- what is demanded: nodes that there are -/
def dmo (dm : Nat → Nat) (w b : Nat) : Prop := ∀ i, i < w → dm i < b
theorem dmo.up {dm : Nat → Nat} {w b v : Nat} (h : dmo dm w b) (hv : v < b) : dmo (sup dm w v) (w + 1) b := fun i hi => by
  by_cases e : i = w
  · subst e; rw [sup_eq]; exact hv
  · rw [sup_ne e]; exact h i (by omega)
theorem dmo.dn {dm : Nat → Nat} {w w' b : Nat} (h : dmo dm w b) (hw : w' ≤ w) : dmo dm w' b := fun i hi => h i (by omega)
def ndp (fl fr : Nat → Int32) (i o : Nat) : Prop := (o < 6 → trm (fl i) ∧ trm (fr i)) ∧ (6 ≤ o → ∃ a, a < i ∧ fl i = nI a) ∧ (7 ≤ o → ∃ b, b < i ∧ fr i = nI b)
theorem nd_p {fo fl fr : Nat → Int32} {i : Nat} (h : ndo fo fl fr i) : ∃ o, o ≤ 8 ∧ fo i = nI o ∧ ndp fl fr i o := h
theorem nd_o {fo fl fr : Nat → Int32} {i : Nat} (h : ndo fo fl fr i) : ∃ o, o ≤ 8 ∧ fo i = nI o ∧ (o < 6 → trm (fl i) ∧ trm (fr i)) ∧ (6 ≤ o → ∃ a, a < i ∧ fl i = nI a) ∧ (7 ≤ o → ∃ b, b < i ∧ fr i = nI b) := h
abbrev b_Prover_limited : ByteArray := prog_8_method_4_code
def y_Prover_limited : MethodName := ⟨R_Prover, "limited", "(I)S"⟩
theorem d_Prover_limited_0 : decode b_Prover_limited 0 = .ok (.iload_n 0, 1) := by decide +kernel
theorem d_Prover_limited_1 : decode b_Prover_limited 1 = .ok (.sipush 5001, 3) := by decide +kernel
theorem d_Prover_limited_4 : decode b_Prover_limited 4 = .ok (.invokestatic 67, 3) := by decide +kernel
theorem d_Prover_limited_7 : decode b_Prover_limited 7 = .ok (.i2s, 1) := by decide +kernel
theorem d_Prover_limited_8 : decode b_Prover_limited 8 = .ok (.ireturn, 1) := by decide +kernel
set_option maxHeartbeats 40000000 in
set_option maxRecDepth 100000 in
theorem c_P_limited (l : Launch) (D : va_G) (ax : Nat → ClassId) (q : Nat) (sz : Nat) (hq : q < 2 ^ 31) : Met l y_Prover_limited (xws (.code y_Prover_limited b_Prover_limited 1 (some .short))) ({ frames := 10, cells := 0, slots := 0, locals := 400 }) (va_Pc [.int (nI q)] (xo D ax [] sz)) ((va_Qi (fun (r : Int32) (u : Nat → Nat) => r = nI (u 0) ∧ (u 0 = lm8 q ∧ u 0 ≤ 5001)) (xb D (va_A [] sz) (fun u => [])) (va_A [] sz))) 0 0 (va_A [] sz) := by
  refine Met.ofW (cc := b_Prover_limited) (maxL := 1) (ret := (some .short)) (by decide) rfl ?_
  intro p e s m args below meth c s₁ B hml hv
  obtain ⟨rfl, hsz, hP, hK, hD0⟩ := hv
  have hx := B.exec
  have hb := B.bytes
  have hr := B.returns
  have hts := xw_hts B.pre
  have hown : s.vm.findClass R_Prover = some m.cls := findClass_of_methodNamed B.named
  have hlocks := B.notSynchronized
  subst hsz
  have hD := hD0.self (sz := s.heap.size)
  have hN := xz_entry hP
  generalize hAe : va_A [] s.heap.size = A at hD hN ⊢
  have hA : ∀ q : Nat, s.heap.size ≤ q → A q := fun q h => by rw [← hAe]; exact Or.inr h
  have hS : va_S A s.heap s.heap [] := va_S.rf
  have hl0 := lv_entry ([.int (nI q)]) (n := 1) (Nat.le_of_ble_eq_true rfl)
  rw [lg_entry_eq]
  generalize (lg_sl ([.int (nI q)]) ++ List.replicate (1 - (lg_sl ([.int (nI q)])).length) Slot.unset).toArray = ls at hl0 ⊢
  have hl1 : lv_has ls 1 [(0, .int (nI q))] := hl0
  refine xw_gen (fun Z9 hQe => ?_)
  refine lv_iload_n hx hb d_Prover_limited_0 rfl (lv_at hl1 0 rfl) ?_
  refine lv_sipush (v := 5001) hx hb d_Prover_limited_1 (by decide) ?_
  refine va_mmin hx hb (hl1.1.trans hml.symm).symm hown (hts _ wd_825) (hts _ wd_362) (hts _ wd_13) (hts _ wd_363) (Nat.le_of_ble_eq_true rfl) (Nat.le_of_ble_eq_true rfl) (Nat.le_of_ble_eq_true rfl) (Nat.le_of_ble_eq_true rfl) d_Prover_limited_4 ?_
  refine lv_topi (fun z_1 ez_1 => ?_)
  have ez_1 : z_1 = nI (min q 5001) := ez_1.trans (mm_min (a := q) (b := 5001) (by first | assumption | omega) (by first | assumption | omega))
  subst ez_1
  refine lv_i2s (v := nI (min q 5001)) hx hb d_Prover_limited_7 (nb_i2s (by first | assumption | omega)) ?_
  rw [← hQe]
  obtain ⟨hP9, hD9⟩ := xw_sub2 (wc := (fun u : Nat → Nat => []) (ixn [(min q 5001)])) hP hD [] (by decide) rfl
  have hsp0 : (min q 5001) = lm8 q := (lm8_min _)
  have hsp1 : (min q 5001) ≤ 5001 := (by first | assumption | omega)
  exact W.zret (v := nI (min q 5001)) hx hb hr (nar_sn (by first | assumption | omega)) (fun t ht hW => ⟨⟨nI (min q 5001), ixn [(min q 5001)], rfl, ⟨rfl, ⟨hsp0, hsp1⟩⟩, ⟨by rw [ht]; exact hP9, hD9⟩⟩, hS.F ht⟩) hS.2.2 d_Prover_limited_8
abbrev b_Prover_ask : ByteArray := prog_8_method_8_code
def y_Prover_ask : MethodName := ⟨R_Prover, "ask", "(II)V"⟩
theorem d_Prover_ask_0 : decode b_Prover_ask 0 = .ok (.aload_n 0, 1) := by decide +kernel
theorem d_Prover_ask_1 : decode b_Prover_ask 1 = .ok (.getfield 86, 3) := by decide +kernel
theorem d_Prover_ask_4 : decode b_Prover_ask 4 = .ok (.bipush 64, 2) := by decide +kernel
theorem d_Prover_ask_6 : decode b_Prover_ask 6 = .ok (.if_icmp .ge 33, 3) := by decide +kernel
theorem d_Prover_ask_9 : decode b_Prover_ask 9 = .ok (.aload_n 0, 1) := by decide +kernel
theorem d_Prover_ask_10 : decode b_Prover_ask 10 = .ok (.getfield 22, 3) := by decide +kernel
theorem d_Prover_ask_13 : decode b_Prover_ask 13 = .ok (.aload_n 0, 1) := by decide +kernel
theorem d_Prover_ask_14 : decode b_Prover_ask 14 = .ok (.getfield 86, 3) := by decide +kernel
theorem d_Prover_ask_17 : decode b_Prover_ask 17 = .ok (.iload_n 1, 1) := by decide +kernel
theorem d_Prover_ask_18 : decode b_Prover_ask 18 = .ok (.iastore, 1) := by decide +kernel
theorem d_Prover_ask_19 : decode b_Prover_ask 19 = .ok (.aload_n 0, 1) := by decide +kernel
theorem d_Prover_ask_20 : decode b_Prover_ask 20 = .ok (.getfield 26, 3) := by decide +kernel
theorem d_Prover_ask_23 : decode b_Prover_ask 23 = .ok (.aload_n 0, 1) := by decide +kernel
theorem d_Prover_ask_24 : decode b_Prover_ask 24 = .ok (.getfield 86, 3) := by decide +kernel
theorem d_Prover_ask_27 : decode b_Prover_ask 27 = .ok (.iload_n 2, 1) := by decide +kernel
theorem d_Prover_ask_28 : decode b_Prover_ask 28 = .ok (.iastore, 1) := by decide +kernel
theorem d_Prover_ask_29 : decode b_Prover_ask 29 = .ok (.aload_n 0, 1) := by decide +kernel
theorem d_Prover_ask_30 : decode b_Prover_ask 30 = .ok (.dup, 1) := by decide +kernel
theorem d_Prover_ask_31 : decode b_Prover_ask 31 = .ok (.getfield 86, 3) := by decide +kernel
theorem d_Prover_ask_34 : decode b_Prover_ask 34 = .ok (.iconst 1, 1) := by decide +kernel
theorem d_Prover_ask_35 : decode b_Prover_ask 35 = .ok (.iadd, 1) := by decide +kernel
theorem d_Prover_ask_36 : decode b_Prover_ask 36 = .ok (.putfield 86, 3) := by decide +kernel
theorem d_Prover_ask_39 : decode b_Prover_ask 39 = .ok (.return_, 1) := by decide +kernel
set_option maxHeartbeats 40000000 in
set_option maxRecDepth 100000 in
theorem c_P_ask (l : Launch) (D : va_G) (ax : Nat → ClassId) (p0 q1 q2 q3 wt rl b0 : Nat) (s_rows s_atoms s_first : Int32) (ro ix : Nat → Int32) (dm : Nat → Nat) (n0 : Nat) (wn : Nat) (x2 : Int32) (sz : Nat) (hwt : wt < 64) : Met l y_Prover_ask (xws (.code y_Prover_ask b_Prover_ask 3 none)) ({ frames := 10, cells := 0, slots := 0, locals := 400 }) (va_Pc [.ref p0, .int (nI wn), .int x2] (xo D ax [(p0, .inr (6, [.ref b0, .int s_rows, .int s_atoms, .int s_first, .ref n0, .ref q1, .ref q2, .ref q3, .int (nI wt)])), (q1, .inl (ax 2, rl, .inl ro)), (q2, .inl (ax 0, 64, .inl (fun j => nI (dm j)))), (q3, .inl (ax 0, 64, .inl ix))] sz)) ((va_Qv (fun (u : Nat → Nat) => True) (xb D (va_A [(p0, .inr (6, [.ref b0, .int s_rows, .int s_atoms, .int s_first, .ref n0, .ref q1, .ref q2, .ref q3, .int (nI wt)])), (q1, .inl (ax 2, rl, .inl ro)), (q2, .inl (ax 0, 64, .inl (fun j => nI (dm j)))), (q3, .inl (ax 0, 64, .inl ix))] sz) (fun u => [(p0, .inr (6, [.ref b0, .int s_rows, .int s_atoms, .int s_first, .ref n0, .ref q1, .ref q2, .ref q3, .int (nI (wt + 1))])), (q1, .inl (ax 2, rl, .inl ro)), (q2, .inl (ax 0, 64, .inl (fun j => nI ((sup dm wt wn) j)))), (q3, .inl (ax 0, 64, .inl (upd ix wt x2)))])) (va_A [(p0, .inr (6, [.ref b0, .int s_rows, .int s_atoms, .int s_first, .ref n0, .ref q1, .ref q2, .ref q3, .int (nI wt)])), (q1, .inl (ax 2, rl, .inl ro)), (q2, .inl (ax 0, 64, .inl (fun j => nI (dm j)))), (q3, .inl (ax 0, 64, .inl ix))] sz))) 0 0 (va_A [(p0, .inr (6, [.ref b0, .int s_rows, .int s_atoms, .int s_first, .ref n0, .ref q1, .ref q2, .ref q3, .int (nI wt)])), (q1, .inl (ax 2, rl, .inl ro)), (q2, .inl (ax 0, 64, .inl (fun j => nI (dm j)))), (q3, .inl (ax 0, 64, .inl ix))] sz) := by
  refine Met.ofW (cc := b_Prover_ask) (maxL := 3) (ret := none) (by decide) rfl ?_
  intro p e s m args below meth c s₁ B hml hv
  obtain ⟨rfl, hsz, hP, hK, hD0⟩ := hv
  have hx := B.exec
  have hb := B.bytes
  have hr := B.returns
  have hts := xw_hts B.pre
  have hown : s.vm.findClass R_Prover = some m.cls := findClass_of_methodNamed B.named
  have hlocks := B.notSynchronized
  subst hsz
  have hD := hD0.self (sz := s.heap.size)
  have hN := xz_entry hP
  generalize hAe : va_A [(p0, .inr (6, [.ref b0, .int s_rows, .int s_atoms, .int s_first, .ref n0, .ref q1, .ref q2, .ref q3, .int (nI wt)])), (q1, .inl (ax 2, rl, .inl ro)), (q2, .inl (ax 0, 64, .inl (fun j => nI (dm j)))), (q3, .inl (ax 0, 64, .inl ix))] s.heap.size = A at hD hN ⊢
  have hA : ∀ q : Nat, s.heap.size ≤ q → A q := fun q h => by rw [← hAe]; exact Or.inr h
  have hS : va_S A s.heap s.heap [] := va_S.rf
  have hl0 := lv_entry ([.ref p0, .int (nI wn), .int x2]) (n := 3) (Nat.le_of_ble_eq_true rfl)
  rw [lg_entry_eq]
  generalize (lg_sl ([.ref p0, .int (nI wn), .int x2]) ++ List.replicate (3 - (lg_sl ([.ref p0, .int (nI wn), .int x2])).length) Slot.unset).toArray = ls at hl0 ⊢
  have hl1 : lv_has ls 3 [(0, .ref p0), (1, .int (nI wn)), (2, .int x2)] := hl0
  refine xw_gen (fun Z9 hQe => ?_)
  refine lv_aload_n hx hb d_Prover_ask_0 rfl (lv_at hl1 0 rfl) ?_
  refine va_get (D := D) (ci := 6) (v := .int (nI wt)) (C := R_Prover) (T := F_Prover) (N := 9) hx hb hts i_Prover hown hK.1 hP 0 rfl rfl 8 (by decide) (hts _ wd_187) (fun _ h9 => h9) rfl d_Prover_ask_1 ?_
  refine lv_bipush (v := 64) hx hb d_Prover_ask_4 (by decide) ?_
  refine lv_icmp_ge (tgt := 39) hx hb d_Prover_ask_6 (by decide) (fun c_1 => ?_) (fun c_1 => ?_)
  · exfalso
    replace c_1 : 64 ≤ wt := (nI_leI (a := 64) (b := wt) (by decide) (by first | exact Nat.lt_of_lt_of_le (by assumption) (by decide) | exact Nat.lt_of_le_of_lt (by assumption) (by decide) | omega)).mp c_1
    omega
  replace c_1 : ¬ 64 ≤ wt := fun hq9 => c_1 ((nI_leI (a := 64) (b := wt) (by decide) (by first | exact Nat.lt_of_lt_of_le (by assumption) (by decide) | exact Nat.lt_of_le_of_lt (by assumption) (by decide) | omega)).mpr hq9)
  refine lv_aload_n hx hb d_Prover_ask_9 rfl (lv_at hl1 0 rfl) ?_
  refine va_get (D := D) (ci := 6) (v := .ref q2) (C := R_Prover) (T := F_Prover) (N := 9) hx hb hts i_Prover hown hK.1 hP 0 rfl rfl 6 (by decide) (hts _ wd_185) (fun _ h9 => h9) rfl d_Prover_ask_10 ?_
  refine lv_aload_n hx hb d_Prover_ask_13 rfl (lv_at hl1 0 rfl) ?_
  refine va_get (D := D) (ci := 6) (v := .int (nI wt)) (C := R_Prover) (T := F_Prover) (N := 9) hx hb hts i_Prover hown hK.1 hP 0 rfl rfl 8 (by decide) (hts _ wd_187) (fun _ h9 => h9) rfl d_Prover_ask_14 ?_
  refine lv_iload_n hx hb d_Prover_ask_17 rfl (lv_at hl1 1 rfl) ?_
  refine va_iast hx hb hK.1 hP hD hS 2 0 rfl rfl (vp_in_nI (by first | assumption | omega) (by decide)) d_Prover_ask_18 (fun H_2 locs hP1 hD1 hS1 => ?_)
  rw [nI_clamp (by first | exact Nat.lt_of_lt_of_le (by assumption) (by decide) | exact Nat.lt_of_le_of_lt (by assumption) (by decide) | omega)] at hP1 hD1
  rw [xf_sup dm wt wn] at hP1 hD1
  clear hP hD hS
  have hS := hS1
  have hW7 : (fun w9 : va_W => va_P D classes w9 H_2 ∧ va_D A w9) [(p0, .inr (6, [.ref b0, .int s_rows, .int s_atoms, .int s_first, .ref n0, .ref q1, .ref q2, .ref q3, .int (nI wt)])), (q1, .inl (ax 2, rl, .inl ro)), (q2, .inl (ax 0, 64, .inl (fun j => nI (sup dm wt wn j)))), (q3, .inl (ax 0, 64, .inl ix))] := ⟨hP1, hD1⟩
  obtain ⟨hP, hD⟩ := hW7
  clear hP1 hD1 hS1
  refine lv_aload_n hx hb d_Prover_ask_19 rfl (lv_at hl1 0 rfl) ?_
  refine va_get (D := D) (ci := 6) (v := .ref q3) (C := R_Prover) (T := F_Prover) (N := 9) hx hb hts i_Prover hown hK.1 hP 0 rfl rfl 7 (by decide) (hts _ wd_186) (fun _ h9 => h9) rfl d_Prover_ask_20 ?_
  refine lv_aload_n hx hb d_Prover_ask_23 rfl (lv_at hl1 0 rfl) ?_
  refine va_get (D := D) (ci := 6) (v := .int (nI wt)) (C := R_Prover) (T := F_Prover) (N := 9) hx hb hts i_Prover hown hK.1 hP 0 rfl rfl 8 (by decide) (hts _ wd_187) (fun _ h9 => h9) rfl d_Prover_ask_24 ?_
  refine lv_iload_n hx hb d_Prover_ask_27 rfl (lv_at hl1 2 rfl) ?_
  refine va_iast hx hb hK.1 hP hD hS 3 0 rfl rfl (vp_in_nI (by first | assumption | omega) (by decide)) d_Prover_ask_28 (fun H_3 locs hP1 hD1 hS1 => ?_)
  rw [nI_clamp (by first | exact Nat.lt_of_lt_of_le (by assumption) (by decide) | exact Nat.lt_of_le_of_lt (by assumption) (by decide) | omega)] at hP1 hD1
  clear hP hD hS
  have hS := hS1
  have hW7 : (fun w9 : va_W => va_P D classes w9 H_3 ∧ va_D A w9) [(p0, .inr (6, [.ref b0, .int s_rows, .int s_atoms, .int s_first, .ref n0, .ref q1, .ref q2, .ref q3, .int (nI wt)])), (q1, .inl (ax 2, rl, .inl ro)), (q2, .inl (ax 0, 64, .inl (fun j => nI (sup dm wt wn j)))), (q3, .inl (ax 0, 64, .inl (upd ix wt x2)))] := ⟨hP1, hD1⟩
  obtain ⟨hP, hD⟩ := hW7
  clear hP1 hD1 hS1
  refine lv_aload_n hx hb d_Prover_ask_29 rfl (lv_at hl1 0 rfl) ?_
  refine lv_dup hx hb d_Prover_ask_30 rfl ?_
  refine va_get (D := D) (ci := 6) (v := .int (nI wt)) (C := R_Prover) (T := F_Prover) (N := 9) hx hb hts i_Prover hown hK.1 hP 0 rfl rfl 8 (by decide) (hts _ wd_187) (fun _ h9 => h9) rfl d_Prover_ask_31 ?_
  refine lv_iconst (v := 1) hx hb d_Prover_ask_34 (by decide) ?_
  refine lv_iadd hx hb d_Prover_ask_35 ?_
  refine lv_topi (fun z_4 ez_4 => ?_)
  have ez_4 : z_4 = nI (wt + 1) := ez_4.trans (nI_add wt 1)
  subst ez_4
  refine va_put (D := D) (ci := 6) (v := .int (nI (wt + 1))) (ty := .int) (C := R_Prover) (T := F_Prover) (N := 9) hx hb hts i_Prover t_Prover t_Prover_ok n_Prover hown hK.1 hP hD hS 0 rfl rfl 8 (by decide) (hts _ wd_187) (fun _ h9 => h9) rfl (by decide +kernel) rfl rfl (Nat.le_of_ble_eq_true rfl) d_Prover_ask_36 (fun H_5 locs hP1 hD1 hS1 => ?_)
  clear hP hD hS
  have hS := hS1
  have hW7 : (fun w9 : va_W => va_P D classes w9 H_5 ∧ va_D A w9) [(p0, .inr (6, [.ref b0, .int s_rows, .int s_atoms, .int s_first, .ref n0, .ref q1, .ref q2, .ref q3, .int (nI (wt + 1))])), (q1, .inl (ax 2, rl, .inl ro)), (q2, .inl (ax 0, 64, .inl (fun j => nI (sup dm wt wn j)))), (q3, .inl (ax 0, 64, .inl (upd ix wt x2)))] := ⟨hP1, hD1⟩
  obtain ⟨hP, hD⟩ := hW7
  clear hP1 hD1 hS1
  rw [← hQe]
  obtain ⟨hP9, hD9⟩ := xw_sub2 (wc := (fun u : Nat → Nat => [(p0, .inr (6, [.ref b0, .int s_rows, .int s_atoms, .int s_first, .ref n0, .ref q1, .ref q2, .ref q3, .int (nI (wt + 1))])), (q1, .inl (ax 2, rl, .inl ro)), (q2, .inl (ax 0, 64, .inl (fun j => nI ((sup dm wt wn) j)))), (q3, .inl (ax 0, 64, .inl (upd ix wt x2)))]) (ixn [])) hP hD [0, 1, 2, 3] (by decide) rfl
  exact W.vret hx hb hr (fun t ht hW => ⟨⟨ixn [], rfl, trivial, ⟨by rw [ht]; exact hP9, hD9⟩⟩, hS.F ht⟩) hS.2.2 d_Prover_ask_39
abbrev b_Prover_comparison : ByteArray := prog_8_method_9_code
def y_Prover_comparison : MethodName := ⟨R_Prover, "comparison", "(I)I"⟩
theorem d_Prover_comparison_0 : decode b_Prover_comparison 0 = .ok (.aload_n 0, 1) := by decide +kernel
theorem d_Prover_comparison_1 : decode b_Prover_comparison 1 = .ok (.getfield 29, 3) := by decide +kernel
theorem d_Prover_comparison_4 : decode b_Prover_comparison 4 = .ok (.getfield 39, 3) := by decide +kernel
theorem d_Prover_comparison_7 : decode b_Prover_comparison 7 = .ok (.aload_n 0, 1) := by decide +kernel
theorem d_Prover_comparison_8 : decode b_Prover_comparison 8 = .ok (.getfield 22, 3) := by decide +kernel
theorem d_Prover_comparison_11 : decode b_Prover_comparison 11 = .ok (.iload_n 1, 1) := by decide +kernel
theorem d_Prover_comparison_12 : decode b_Prover_comparison 12 = .ok (.iaload, 1) := by decide +kernel
theorem d_Prover_comparison_13 : decode b_Prover_comparison 13 = .ok (.iconst 1, 1) := by decide +kernel
theorem d_Prover_comparison_14 : decode b_Prover_comparison 14 = .ok (.ishr, 1) := by decide +kernel
theorem d_Prover_comparison_15 : decode b_Prover_comparison 15 = .ok (.baload, 1) := by decide +kernel
theorem d_Prover_comparison_16 : decode b_Prover_comparison 16 = .ok (.iconst 1, 1) := by decide +kernel
theorem d_Prover_comparison_17 : decode b_Prover_comparison 17 = .ok (.ixor, 1) := by decide +kernel
theorem d_Prover_comparison_18 : decode b_Prover_comparison 18 = .ok (.aload_n 0, 1) := by decide +kernel
theorem d_Prover_comparison_19 : decode b_Prover_comparison 19 = .ok (.getfield 22, 3) := by decide +kernel
theorem d_Prover_comparison_22 : decode b_Prover_comparison 22 = .ok (.iload_n 1, 1) := by decide +kernel
theorem d_Prover_comparison_23 : decode b_Prover_comparison 23 = .ok (.iaload, 1) := by decide +kernel
theorem d_Prover_comparison_24 : decode b_Prover_comparison 24 = .ok (.iconst 1, 1) := by decide +kernel
theorem d_Prover_comparison_25 : decode b_Prover_comparison 25 = .ok (.iand, 1) := by decide +kernel
theorem d_Prover_comparison_26 : decode b_Prover_comparison 26 = .ok (.ixor, 1) := by decide +kernel
theorem d_Prover_comparison_27 : decode b_Prover_comparison 27 = .ok (.istore_n 2, 1) := by decide +kernel
theorem d_Prover_comparison_28 : decode b_Prover_comparison 28 = .ok (.iload_n 2, 1) := by decide +kernel
theorem d_Prover_comparison_29 : decode b_Prover_comparison 29 = .ok (.iconst 5, 1) := by decide +kernel
theorem d_Prover_comparison_30 : decode b_Prover_comparison 30 = .ok (.if_icmp .eq 5, 3) := by decide +kernel
theorem d_Prover_comparison_33 : decode b_Prover_comparison 33 = .ok (.iload_n 2, 1) := by decide +kernel
theorem d_Prover_comparison_34 : decode b_Prover_comparison 34 = .ok (.ireturn, 1) := by decide +kernel
theorem d_Prover_comparison_35 : decode b_Prover_comparison 35 = .ok (.aload_n 0, 1) := by decide +kernel
theorem d_Prover_comparison_36 : decode b_Prover_comparison 36 = .ok (.getfield 26, 3) := by decide +kernel
theorem d_Prover_comparison_39 : decode b_Prover_comparison 39 = .ok (.iload_n 1, 1) := by decide +kernel
theorem d_Prover_comparison_40 : decode b_Prover_comparison 40 = .ok (.iaload, 1) := by decide +kernel
theorem d_Prover_comparison_41 : decode b_Prover_comparison 41 = .ok (.ifCond .ne 7, 3) := by decide +kernel
theorem d_Prover_comparison_44 : decode b_Prover_comparison 44 = .ok (.iconst 0, 1) := by decide +kernel
theorem d_Prover_comparison_45 : decode b_Prover_comparison 45 = .ok (.goto 4, 3) := by decide +kernel
theorem d_Prover_comparison_48 : decode b_Prover_comparison 48 = .ok (.iconst 3, 1) := by decide +kernel
theorem d_Prover_comparison_49 : decode b_Prover_comparison 49 = .ok (.ireturn, 1) := by decide +kernel
set_option maxHeartbeats 40000000 in
set_option maxRecDepth 100000 in
theorem c_P_comparison (l : Launch) (D : va_G) (ax : Nat → ClassId) (p0 q1 q2 q3 wt rl b0 : Nat) (s_rows s_atoms s_first : Int32) (ro ix : Nat → Int32) (dm : Nat → Nat) (n0 n1 n2 n3 cp z9 : Nat) (fo fl fr : Nat → Int32) (i1 : Nat) (ls9 : List sgT) (sz : Nat) (hi1 : i1 < 64) (hdm : dm i1 < 2 * z9) (hz9 : z9 ≤ cp) (hcp : cp ≤ 100000) (hnl : ndl fo fl fr ls9) (hll : ls9.length = z9) (hnb9 : nbl 21483 ls9) (h6 : (ath ls9 (dm i1 / 2)).1 < 6) (hxi : i2n (ix i1) ≤ 5001) : Met l y_Prover_comparison (xws (.code y_Prover_comparison b_Prover_comparison 3 (some .int))) ({ frames := 10, cells := 0, slots := 0, locals := 400 }) (va_Pc [.ref p0, .int (nI i1)] (xo D ax [(p0, .inr (6, [.ref b0, .int s_rows, .int s_atoms, .int s_first, .ref n0, .ref q1, .ref q2, .ref q3, .int (nI wt)])), (q1, .inl (ax 2, rl, .inl ro)), (q2, .inl (ax 0, 64, .inl (fun j => nI (dm j)))), (q3, .inl (ax 0, 64, .inl ix)), (n0, .inr (4, [.ref n1, .ref n2, .ref n3, .int (nI z9)])), (n1, .inl (ax 1, cp, .inl fo)), (n2, .inl (ax 0, cp, .inl fl)), (n3, .inl (ax 0, cp, .inl fr))] sz)) ((va_Qi (fun (r : Int32) (u : Nat → Nat) => r = nI (u 0) ∧ (u 0 = cd8 (ath ls9 (dm i1 / 2)).1 (dm i1 % 2) (i2n (ix i1)) ∧ u 0 ≤ 4)) (xb D (va_A [(p0, .inr (6, [.ref b0, .int s_rows, .int s_atoms, .int s_first, .ref n0, .ref q1, .ref q2, .ref q3, .int (nI wt)])), (q1, .inl (ax 2, rl, .inl ro)), (q2, .inl (ax 0, 64, .inl (fun j => nI (dm j)))), (q3, .inl (ax 0, 64, .inl ix)), (n0, .inr (4, [.ref n1, .ref n2, .ref n3, .int (nI z9)])), (n1, .inl (ax 1, cp, .inl fo)), (n2, .inl (ax 0, cp, .inl fl)), (n3, .inl (ax 0, cp, .inl fr))] sz) (fun u => [(p0, .inr (6, [.ref b0, .int s_rows, .int s_atoms, .int s_first, .ref n0, .ref q1, .ref q2, .ref q3, .int (nI wt)])), (q1, .inl (ax 2, rl, .inl ro)), (q2, .inl (ax 0, 64, .inl (fun j => nI (dm j)))), (q3, .inl (ax 0, 64, .inl ix)), (n0, .inr (4, [.ref n1, .ref n2, .ref n3, .int (nI z9)])), (n1, .inl (ax 1, cp, .inl fo)), (n2, .inl (ax 0, cp, .inl fl)), (n3, .inl (ax 0, cp, .inl fr))])) (va_A [(p0, .inr (6, [.ref b0, .int s_rows, .int s_atoms, .int s_first, .ref n0, .ref q1, .ref q2, .ref q3, .int (nI wt)])), (q1, .inl (ax 2, rl, .inl ro)), (q2, .inl (ax 0, 64, .inl (fun j => nI (dm j)))), (q3, .inl (ax 0, 64, .inl ix)), (n0, .inr (4, [.ref n1, .ref n2, .ref n3, .int (nI z9)])), (n1, .inl (ax 1, cp, .inl fo)), (n2, .inl (ax 0, cp, .inl fl)), (n3, .inl (ax 0, cp, .inl fr))] sz))) 0 0 (va_A [(p0, .inr (6, [.ref b0, .int s_rows, .int s_atoms, .int s_first, .ref n0, .ref q1, .ref q2, .ref q3, .int (nI wt)])), (q1, .inl (ax 2, rl, .inl ro)), (q2, .inl (ax 0, 64, .inl (fun j => nI (dm j)))), (q3, .inl (ax 0, 64, .inl ix)), (n0, .inr (4, [.ref n1, .ref n2, .ref n3, .int (nI z9)])), (n1, .inl (ax 1, cp, .inl fo)), (n2, .inl (ax 0, cp, .inl fl)), (n3, .inl (ax 0, cp, .inl fr))] sz) := by
  refine Met.ofW (cc := b_Prover_comparison) (maxL := 3) (ret := (some .int)) (by decide) rfl ?_
  intro p e s m args below meth c s₁ B hml hv
  obtain ⟨rfl, hsz, hP, hK, hD0⟩ := hv
  have hx := B.exec
  have hb := B.bytes
  have hr := B.returns
  have hts := xw_hts B.pre
  have hown : s.vm.findClass R_Prover = some m.cls := findClass_of_methodNamed B.named
  have hlocks := B.notSynchronized
  subst hsz
  have hD := hD0.self (sz := s.heap.size)
  have hN := xz_entry hP
  generalize hAe : va_A [(p0, .inr (6, [.ref b0, .int s_rows, .int s_atoms, .int s_first, .ref n0, .ref q1, .ref q2, .ref q3, .int (nI wt)])), (q1, .inl (ax 2, rl, .inl ro)), (q2, .inl (ax 0, 64, .inl (fun j => nI (dm j)))), (q3, .inl (ax 0, 64, .inl ix)), (n0, .inr (4, [.ref n1, .ref n2, .ref n3, .int (nI z9)])), (n1, .inl (ax 1, cp, .inl fo)), (n2, .inl (ax 0, cp, .inl fl)), (n3, .inl (ax 0, cp, .inl fr))] s.heap.size = A at hD hN ⊢
  have hA : ∀ q : Nat, s.heap.size ≤ q → A q := fun q h => by rw [← hAe]; exact Or.inr h
  have hS : va_S A s.heap s.heap [] := va_S.rf
  have hl0 := lv_entry ([.ref p0, .int (nI i1)]) (n := 3) (Nat.le_of_ble_eq_true rfl)
  rw [lg_entry_eq]
  generalize (lg_sl ([.ref p0, .int (nI i1)]) ++ List.replicate (3 - (lg_sl ([.ref p0, .int (nI i1)])).length) Slot.unset).toArray = ls at hl0 ⊢
  have hl1 : lv_has ls 3 [(0, .ref p0), (1, .int (nI i1))] := hl0
  refine xw_gen (fun Z9 hQe => ?_)
  have ho2 := (hnl (dm i1 / 2) (by first | assumption | omega)).1
  obtain ⟨o9, ho9⟩ : ∃ o, (ath ls9 (dm i1 / 2)).1 = o := ⟨_, rfl⟩
  rw [ho9] at ho2 h6
  refine lv_aload_n hx hb d_Prover_comparison_0 rfl (lv_at hl1 0 rfl) ?_
  refine va_get (D := D) (ci := 6) (v := .ref n0) (C := R_Prover) (T := F_Prover) (N := 9) hx hb hts i_Prover hown hK.1 hP 0 rfl rfl 4 (by decide) (hts _ wd_183) (fun _ h9 => h9) rfl d_Prover_comparison_1 ?_
  refine va_get (D := D) (ci := 4) (v := .ref n1) (C := R_Nodes) (T := F_Nodes) (N := 4) hx hb hts i_Nodes hown hK.1 hP 4 rfl rfl 0 (by decide) (hts _ wd_104) (fun _ h9 => h9) rfl d_Prover_comparison_4 ?_
  refine lv_aload_n hx hb d_Prover_comparison_7 rfl (lv_at hl1 0 rfl) ?_
  refine va_get (D := D) (ci := 6) (v := .ref q2) (C := R_Prover) (T := F_Prover) (N := 9) hx hb hts i_Prover hown hK.1 hP 0 rfl rfl 6 (by decide) (hts _ wd_185) (fun _ h9 => h9) rfl d_Prover_comparison_8 ?_
  refine lv_iload_n hx hb d_Prover_comparison_11 rfl (lv_at hl1 1 rfl) ?_
  refine va_iald hx hb hK.1 hP 2 0 rfl rfl (vp_in_nI (by first | assumption | omega) (by decide)) d_Prover_comparison_12 ?_
  refine W.eq (g2 := F0 m 13 ls [.int (nI (dm i1)), .ref n1]) (by rw [nI_clamp (by first | exact Nat.lt_of_lt_of_le (by assumption) (by decide) | exact Nat.lt_of_le_of_lt (by assumption) (by decide) | omega)]) ?_
  refine lv_iconst (v := 1) hx hb d_Prover_comparison_13 (by decide) ?_
  refine lv_ishr hx hb d_Prover_comparison_14 ?_
  refine lv_topi (fun z_1 ez_1 => ?_)
  have ez_1 : z_1 = nI ((dm i1) / 2) := ez_1.trans (nb_shr (k := 1) (a := dm i1) (by decide) (by first | assumption | omega))
  subst ez_1
  refine va_bald hx hb hK.1 hP 5 1 rfl rfl (vp_in_nI (by first | assumption | omega) (by first | exact Nat.lt_of_lt_of_le (by assumption) (by decide) | exact Nat.lt_of_le_of_lt (by assumption) (by decide) | omega)) d_Prover_comparison_15 ?_
  refine W.eq (g2 := F0 m 16 ls [.int (fo ((dm i1) / 2))]) (by rw [nI_clamp (by first | exact Nat.lt_of_lt_of_le (by assumption) (by decide) | exact Nat.lt_of_le_of_lt (by assumption) (by decide) | omega)]) ?_
  refine W.eq (g2 := F0 m 16 ls [.int (nI o9)]) (by rw [ho2]) ?_
  refine lv_iconst (v := 1) hx hb d_Prover_comparison_16 (by decide) ?_
  refine lv_ixor hx hb d_Prover_comparison_17 ?_
  refine lv_topi (fun z_2 ez_2 => ?_)
  have ez_2 : z_2 = nI (ng8 o9) := ez_2.trans (cn8_x h6)
  subst ez_2
  refine lv_aload_n hx hb d_Prover_comparison_18 rfl (lv_at hl1 0 rfl) ?_
  refine va_get (D := D) (ci := 6) (v := .ref q2) (C := R_Prover) (T := F_Prover) (N := 9) hx hb hts i_Prover hown hK.1 hP 0 rfl rfl 6 (by decide) (hts _ wd_185) (fun _ h9 => h9) rfl d_Prover_comparison_19 ?_
  refine lv_iload_n hx hb d_Prover_comparison_22 rfl (lv_at hl1 1 rfl) ?_
  refine va_iald hx hb hK.1 hP 2 0 rfl rfl (vp_in_nI (by first | assumption | omega) (by decide)) d_Prover_comparison_23 ?_
  refine W.eq (g2 := F0 m 24 ls [.int (nI (dm i1)), .int (nI (ng8 o9))]) (by rw [nI_clamp (by first | exact Nat.lt_of_lt_of_le (by assumption) (by decide) | exact Nat.lt_of_le_of_lt (by assumption) (by decide) | omega)]) ?_
  refine lv_iconst (v := 1) hx hb d_Prover_comparison_24 (by decide) ?_
  refine lv_iand hx hb d_Prover_comparison_25 ?_
  refine lv_topi (fun z_3 ez_3 => ?_)
  have ez_3 : z_3 = nI ((dm i1) % 2) := ez_3.trans (nb_and 1 (dm i1))
  subst ez_3
  refine lv_ixor hx hb d_Prover_comparison_26 ?_
  refine lv_topi (fun z_4 ez_4 => ?_)
  have ez_4 : z_4 = nI (cn8 o9 (dm i1 % 2)) := ez_4.trans (cn8_y h6 (by first | assumption | omega))
  subst ez_4
  refine lv_istore_n (lv' := [(2, .int (nI (cn8 o9 (dm i1 % 2)))), (0, .ref p0), (1, .int (nI i1))]) hx hb d_Prover_comparison_27 rfl hl1 (by decide) rfl (fun ls hl2 => ?_)
  clear hl1; have hl1 := hl2; clear hl2
  have hcn9 := cn8_le (o := o9) (t := dm i1 % 2) h6 (by first | assumption | omega)
  refine lv_iload_n hx hb d_Prover_comparison_28 rfl (lv_at hl1 0 rfl) ?_
  refine lv_iconst (v := 5) hx hb d_Prover_comparison_29 (by decide) ?_
  refine lv_icmp_eq (tgt := 35) hx hb d_Prover_comparison_30 (by decide) (fun c_5 => ?_) (fun c_5 => ?_)
  · replace c_5 : cn8 o9 (dm i1 % 2) = 5 := (nI_eq (a := cn8 o9 (dm i1 % 2)) (b := 5) (by first | exact Nat.lt_of_lt_of_le (by assumption) (by decide) | exact Nat.lt_of_le_of_lt (by assumption) (by decide) | omega) (by decide)).mp c_5
    refine lv_aload_n hx hb d_Prover_comparison_35 rfl (lv_at hl1 1 rfl) ?_
    refine va_get (D := D) (ci := 6) (v := .ref q3) (C := R_Prover) (T := F_Prover) (N := 9) hx hb hts i_Prover hown hK.1 hP 0 rfl rfl 7 (by decide) (hts _ wd_186) (fun _ h9 => h9) rfl d_Prover_comparison_36 ?_
    refine lv_iload_n hx hb d_Prover_comparison_39 rfl (lv_at hl1 2 rfl) ?_
    refine va_iald hx hb hK.1 hP 3 0 rfl rfl (vp_in_nI (by first | assumption | omega) (by decide)) d_Prover_comparison_40 ?_
    refine W.eq (g2 := F0 m 41 ls [.int (ix i1)]) (by rw [nI_clamp (by first | exact Nat.lt_of_lt_of_le (by assumption) (by decide) | exact Nat.lt_of_le_of_lt (by assumption) (by decide) | omega)]) ?_
    refine W.eq (g2 := F0 m 41 ls [.int (nI (i2n (ix i1)))]) (by rw [nI_i2n]) ?_
    refine lv_if_ne (tgt := 48) hx hb d_Prover_comparison_41 (by decide) (fun c_6 => ?_) (fun c_6 => ?_)
    · replace c_6 : ¬ i2n (ix i1) = 0 := fun hq9 => c_6 ((nI_eq (a := i2n (ix i1)) (b := 0) (by first | exact Nat.lt_of_lt_of_le (by assumption) (by decide) | exact Nat.lt_of_le_of_lt (by assumption) (by decide) | omega) (by decide)).mpr hq9)
      refine lv_iconst (v := 3) hx hb d_Prover_comparison_48 (by decide) ?_
      rw [← hQe]
      obtain ⟨hP9, hD9⟩ := xw_sub2 (wc := (fun u : Nat → Nat => [(p0, .inr (6, [.ref b0, .int s_rows, .int s_atoms, .int s_first, .ref n0, .ref q1, .ref q2, .ref q3, .int (nI wt)])), (q1, .inl (ax 2, rl, .inl ro)), (q2, .inl (ax 0, 64, .inl (fun j => nI (dm j)))), (q3, .inl (ax 0, 64, .inl ix)), (n0, .inr (4, [.ref n1, .ref n2, .ref n3, .int (nI z9)])), (n1, .inl (ax 1, cp, .inl fo)), (n2, .inl (ax 0, cp, .inl fl)), (n3, .inl (ax 0, cp, .inl fr))]) (ixn [3])) hP hD [0, 1, 2, 3, 4, 5, 6, 7] (by decide) rfl
      have hsp0 : 3 = cd8 (ath ls9 (dm i1 / 2)).1 (dm i1 % 2) (i2n (ix i1)) := (by rw [ho9]; exact cd8_3 (by first | assumption | omega) (by first | assumption | omega))
      have hsp1 : 3 ≤ 4 := (by decide)
      exact W.iret (v := 3) hx hb hr (fun t ht hW => ⟨⟨3, ixn [3], rfl, ⟨rfl, ⟨hsp0, hsp1⟩⟩, ⟨by rw [ht]; exact hP9, hD9⟩⟩, hS.F ht⟩) hS.2.2 d_Prover_comparison_49
    · replace c_6 : i2n (ix i1) = 0 := (nI_eq (a := i2n (ix i1)) (b := 0) (by first | exact Nat.lt_of_lt_of_le (by assumption) (by decide) | exact Nat.lt_of_le_of_lt (by assumption) (by decide) | omega) (by decide)).mp c_6
      refine lv_iconst (v := 0) hx hb d_Prover_comparison_44 (by decide) ?_
      refine lv_goto (tgt := 49) hx hb d_Prover_comparison_45 (by decide) ?_
      rw [← hQe]
      obtain ⟨hP9, hD9⟩ := xw_sub2 (wc := (fun u : Nat → Nat => [(p0, .inr (6, [.ref b0, .int s_rows, .int s_atoms, .int s_first, .ref n0, .ref q1, .ref q2, .ref q3, .int (nI wt)])), (q1, .inl (ax 2, rl, .inl ro)), (q2, .inl (ax 0, 64, .inl (fun j => nI (dm j)))), (q3, .inl (ax 0, 64, .inl ix)), (n0, .inr (4, [.ref n1, .ref n2, .ref n3, .int (nI z9)])), (n1, .inl (ax 1, cp, .inl fo)), (n2, .inl (ax 0, cp, .inl fl)), (n3, .inl (ax 0, cp, .inl fr))]) (ixn [0])) hP hD [0, 1, 2, 3, 4, 5, 6, 7] (by decide) rfl
      have hsp0 : 0 = cd8 (ath ls9 (dm i1 / 2)).1 (dm i1 % 2) (i2n (ix i1)) := (by rw [ho9]; exact cd8_0 (by first | assumption | omega) (by first | assumption | omega))
      have hsp1 : 0 ≤ 4 := (by decide)
      exact W.iret (v := 0) hx hb hr (fun t ht hW => ⟨⟨0, ixn [0], rfl, ⟨rfl, ⟨hsp0, hsp1⟩⟩, ⟨by rw [ht]; exact hP9, hD9⟩⟩, hS.F ht⟩) hS.2.2 d_Prover_comparison_49
  · replace c_5 : ¬ cn8 o9 (dm i1 % 2) = 5 := fun hq9 => c_5 ((nI_eq (a := cn8 o9 (dm i1 % 2)) (b := 5) (by first | exact Nat.lt_of_lt_of_le (by assumption) (by decide) | exact Nat.lt_of_le_of_lt (by assumption) (by decide) | omega) (by decide)).mpr hq9)
    refine lv_iload_n hx hb d_Prover_comparison_33 rfl (lv_at hl1 0 rfl) ?_
    rw [← hQe]
    obtain ⟨hP9, hD9⟩ := xw_sub2 (wc := (fun u : Nat → Nat => [(p0, .inr (6, [.ref b0, .int s_rows, .int s_atoms, .int s_first, .ref n0, .ref q1, .ref q2, .ref q3, .int (nI wt)])), (q1, .inl (ax 2, rl, .inl ro)), (q2, .inl (ax 0, 64, .inl (fun j => nI (dm j)))), (q3, .inl (ax 0, 64, .inl ix)), (n0, .inr (4, [.ref n1, .ref n2, .ref n3, .int (nI z9)])), (n1, .inl (ax 1, cp, .inl fo)), (n2, .inl (ax 0, cp, .inl fl)), (n3, .inl (ax 0, cp, .inl fr))]) (ixn [(cn8 o9 (dm i1 % 2))])) hP hD [0, 1, 2, 3, 4, 5, 6, 7] (by decide) rfl
    have hsp0 : (cn8 o9 (dm i1 % 2)) = cd8 (ath ls9 (dm i1 / 2)).1 (dm i1 % 2) (i2n (ix i1)) := (by rw [ho9]; exact cd8_n (by first | assumption | omega))
    have hsp1 : (cn8 o9 (dm i1 % 2)) ≤ 4 := (by have h9 := cn8_le (o := o9) (t := dm i1 % 2) h6 (by first | assumption | omega); omega)
    exact W.iret (v := nI (cn8 o9 (dm i1 % 2))) hx hb hr (fun t ht hW => ⟨⟨nI (cn8 o9 (dm i1 % 2)), ixn [(cn8 o9 (dm i1 % 2))], rfl, ⟨rfl, ⟨hsp0, hsp1⟩⟩, ⟨by rw [ht]; exact hP9, hD9⟩⟩, hS.F ht⟩) hS.2.2 d_Prover_comparison_34
abbrev b_Prover_divide : ByteArray := prog_8_method_10_code
def y_Prover_divide : MethodName := ⟨R_Prover, "divide", "(III)V"⟩
theorem d_Prover_divide_0 : decode b_Prover_divide 0 = .ok (.aload_n 0, 1) := by decide +kernel
theorem d_Prover_divide_1 : decode b_Prover_divide 1 = .ok (.getfield 29, 3) := by decide +kernel
theorem d_Prover_divide_4 : decode b_Prover_divide 4 = .ok (.getfield 39, 3) := by decide +kernel
theorem d_Prover_divide_7 : decode b_Prover_divide 7 = .ok (.iload_n 1, 1) := by decide +kernel
theorem d_Prover_divide_8 : decode b_Prover_divide 8 = .ok (.baload, 1) := by decide +kernel
theorem d_Prover_divide_9 : decode b_Prover_divide 9 = .ok (.istore 4, 2) := by decide +kernel
theorem d_Prover_divide_11 : decode b_Prover_divide 11 = .ok (.iconst 2, 1) := by decide +kernel
theorem d_Prover_divide_12 : decode b_Prover_divide 12 = .ok (.aload_n 0, 1) := by decide +kernel
theorem d_Prover_divide_13 : decode b_Prover_divide 13 = .ok (.getfield 29, 3) := by decide +kernel
theorem d_Prover_divide_16 : decode b_Prover_divide 16 = .ok (.getfield 57, 3) := by decide +kernel
theorem d_Prover_divide_19 : decode b_Prover_divide 19 = .ok (.iload_n 1, 1) := by decide +kernel
theorem d_Prover_divide_20 : decode b_Prover_divide 20 = .ok (.iaload, 1) := by decide +kernel
theorem d_Prover_divide_21 : decode b_Prover_divide 21 = .ok (.imul, 1) := by decide +kernel
theorem d_Prover_divide_22 : decode b_Prover_divide 22 = .ok (.iload_n 2, 1) := by decide +kernel
theorem d_Prover_divide_23 : decode b_Prover_divide 23 = .ok (.iadd, 1) := by decide +kernel
theorem d_Prover_divide_24 : decode b_Prover_divide 24 = .ok (.istore 5, 2) := by decide +kernel
theorem d_Prover_divide_26 : decode b_Prover_divide 26 = .ok (.iload 4, 2) := by decide +kernel
theorem d_Prover_divide_28 : decode b_Prover_divide 28 = .ok (.bipush 6, 2) := by decide +kernel
theorem d_Prover_divide_30 : decode b_Prover_divide 30 = .ok (.if_icmp .ne 13, 3) := by decide +kernel
theorem d_Prover_divide_33 : decode b_Prover_divide 33 = .ok (.aload_n 0, 1) := by decide +kernel
theorem d_Prover_divide_34 : decode b_Prover_divide 34 = .ok (.iload 5, 2) := by decide +kernel
theorem d_Prover_divide_36 : decode b_Prover_divide 36 = .ok (.iconst 1, 1) := by decide +kernel
theorem d_Prover_divide_37 : decode b_Prover_divide 37 = .ok (.ixor, 1) := by decide +kernel
theorem d_Prover_divide_38 : decode b_Prover_divide 38 = .ok (.iload_n 3, 1) := by decide +kernel
theorem d_Prover_divide_39 : decode b_Prover_divide 39 = .ok (.invokevirtual 89, 3) := by decide +kernel
theorem d_Prover_divide_42 : decode b_Prover_divide 42 = .ok (.return_, 1) := by decide +kernel
theorem d_Prover_divide_43 : decode b_Prover_divide 43 = .ok (.iconst 2, 1) := by decide +kernel
theorem d_Prover_divide_44 : decode b_Prover_divide 44 = .ok (.aload_n 0, 1) := by decide +kernel
theorem d_Prover_divide_45 : decode b_Prover_divide 45 = .ok (.getfield 29, 3) := by decide +kernel
theorem d_Prover_divide_48 : decode b_Prover_divide 48 = .ok (.getfield 60, 3) := by decide +kernel
theorem d_Prover_divide_51 : decode b_Prover_divide 51 = .ok (.iload_n 1, 1) := by decide +kernel
theorem d_Prover_divide_52 : decode b_Prover_divide 52 = .ok (.iaload, 1) := by decide +kernel
theorem d_Prover_divide_53 : decode b_Prover_divide 53 = .ok (.imul, 1) := by decide +kernel
theorem d_Prover_divide_54 : decode b_Prover_divide 54 = .ok (.iload_n 2, 1) := by decide +kernel
theorem d_Prover_divide_55 : decode b_Prover_divide 55 = .ok (.iadd, 1) := by decide +kernel
theorem d_Prover_divide_56 : decode b_Prover_divide 56 = .ok (.istore 6, 2) := by decide +kernel
theorem d_Prover_divide_58 : decode b_Prover_divide 58 = .ok (.iload 4, 2) := by decide +kernel
theorem d_Prover_divide_60 : decode b_Prover_divide 60 = .ok (.bipush 7, 2) := by decide +kernel
theorem d_Prover_divide_62 : decode b_Prover_divide 62 = .ok (.if_icmp .ne 7, 3) := by decide +kernel
theorem d_Prover_divide_65 : decode b_Prover_divide 65 = .ok (.iconst 1, 1) := by decide +kernel
theorem d_Prover_divide_66 : decode b_Prover_divide 66 = .ok (.goto 4, 3) := by decide +kernel
theorem d_Prover_divide_69 : decode b_Prover_divide 69 = .ok (.iconst 0, 1) := by decide +kernel
theorem d_Prover_divide_70 : decode b_Prover_divide 70 = .ok (.iload_n 2, 1) := by decide +kernel
theorem d_Prover_divide_71 : decode b_Prover_divide 71 = .ok (.iconst 1, 1) := by decide +kernel
theorem d_Prover_divide_72 : decode b_Prover_divide 72 = .ok (.if_icmp .ne 7, 3) := by decide +kernel
theorem d_Prover_divide_75 : decode b_Prover_divide 75 = .ok (.iconst 1, 1) := by decide +kernel
theorem d_Prover_divide_76 : decode b_Prover_divide 76 = .ok (.goto 4, 3) := by decide +kernel
theorem d_Prover_divide_79 : decode b_Prover_divide 79 = .ok (.iconst 0, 1) := by decide +kernel
theorem d_Prover_divide_80 : decode b_Prover_divide 80 = .ok (.if_icmp .ne 7, 3) := by decide +kernel
theorem d_Prover_divide_83 : decode b_Prover_divide 83 = .ok (.iconst 1, 1) := by decide +kernel
theorem d_Prover_divide_84 : decode b_Prover_divide 84 = .ok (.goto 4, 3) := by decide +kernel
theorem d_Prover_divide_87 : decode b_Prover_divide 87 = .ok (.iconst 0, 1) := by decide +kernel
theorem d_Prover_divide_88 : decode b_Prover_divide 88 = .ok (.istore 7, 2) := by decide +kernel
theorem d_Prover_divide_90 : decode b_Prover_divide 90 = .ok (.iload 7, 2) := by decide +kernel
theorem d_Prover_divide_92 : decode b_Prover_divide 92 = .ok (.ifCond .eq 39, 3) := by decide +kernel
theorem d_Prover_divide_95 : decode b_Prover_divide 95 = .ok (.iconst 1, 1) := by decide +kernel
theorem d_Prover_divide_96 : decode b_Prover_divide 96 = .ok (.aload_n 0, 1) := by decide +kernel
theorem d_Prover_divide_97 : decode b_Prover_divide 97 = .ok (.getfield 18, 3) := by decide +kernel
theorem d_Prover_divide_100 : decode b_Prover_divide 100 = .ok (.iload 6, 2) := by decide +kernel
theorem d_Prover_divide_102 : decode b_Prover_divide 102 = .ok (.saload, 1) := by decide +kernel
theorem d_Prover_divide_103 : decode b_Prover_divide 103 = .ok (.invokestatic 105, 3) := by decide +kernel
theorem d_Prover_divide_106 : decode b_Prover_divide 106 = .ok (.istore 8, 2) := by decide +kernel
theorem d_Prover_divide_108 : decode b_Prover_divide 108 = .ok (.aload_n 0, 1) := by decide +kernel
theorem d_Prover_divide_109 : decode b_Prover_divide 109 = .ok (.iload 6, 2) := by decide +kernel
theorem d_Prover_divide_111 : decode b_Prover_divide 111 = .ok (.iload_n 3, 1) := by decide +kernel
theorem d_Prover_divide_112 : decode b_Prover_divide 112 = .ok (.iload 8, 2) := by decide +kernel
theorem d_Prover_divide_114 : decode b_Prover_divide 114 = .ok (.irem, 1) := by decide +kernel
theorem d_Prover_divide_115 : decode b_Prover_divide 115 = .ok (.invokevirtual 89, 3) := by decide +kernel
theorem d_Prover_divide_118 : decode b_Prover_divide 118 = .ok (.aload_n 0, 1) := by decide +kernel
theorem d_Prover_divide_119 : decode b_Prover_divide 119 = .ok (.iload 5, 2) := by decide +kernel
theorem d_Prover_divide_121 : decode b_Prover_divide 121 = .ok (.iload_n 3, 1) := by decide +kernel
theorem d_Prover_divide_122 : decode b_Prover_divide 122 = .ok (.iload 8, 2) := by decide +kernel
theorem d_Prover_divide_124 : decode b_Prover_divide 124 = .ok (.idiv, 1) := by decide +kernel
theorem d_Prover_divide_125 : decode b_Prover_divide 125 = .ok (.invokevirtual 89, 3) := by decide +kernel
theorem d_Prover_divide_128 : decode b_Prover_divide 128 = .ok (.goto 39, 3) := by decide +kernel
theorem d_Prover_divide_131 : decode b_Prover_divide 131 = .ok (.iload_n 3, 1) := by decide +kernel
theorem d_Prover_divide_132 : decode b_Prover_divide 132 = .ok (.aload_n 0, 1) := by decide +kernel
theorem d_Prover_divide_133 : decode b_Prover_divide 133 = .ok (.getfield 18, 3) := by decide +kernel
theorem d_Prover_divide_136 : decode b_Prover_divide 136 = .ok (.iload 5, 2) := by decide +kernel
theorem d_Prover_divide_138 : decode b_Prover_divide 138 = .ok (.saload, 1) := by decide +kernel
theorem d_Prover_divide_139 : decode b_Prover_divide 139 = .ok (.if_icmp .ge 13, 3) := by decide +kernel
theorem d_Prover_divide_142 : decode b_Prover_divide 142 = .ok (.aload_n 0, 1) := by decide +kernel
theorem d_Prover_divide_143 : decode b_Prover_divide 143 = .ok (.iload 5, 2) := by decide +kernel
theorem d_Prover_divide_145 : decode b_Prover_divide 145 = .ok (.iload_n 3, 1) := by decide +kernel
theorem d_Prover_divide_146 : decode b_Prover_divide 146 = .ok (.invokevirtual 89, 3) := by decide +kernel
theorem d_Prover_divide_149 : decode b_Prover_divide 149 = .ok (.goto 18, 3) := by decide +kernel
theorem d_Prover_divide_152 : decode b_Prover_divide 152 = .ok (.aload_n 0, 1) := by decide +kernel
theorem d_Prover_divide_153 : decode b_Prover_divide 153 = .ok (.iload 6, 2) := by decide +kernel
theorem d_Prover_divide_155 : decode b_Prover_divide 155 = .ok (.iload_n 3, 1) := by decide +kernel
theorem d_Prover_divide_156 : decode b_Prover_divide 156 = .ok (.aload_n 0, 1) := by decide +kernel
theorem d_Prover_divide_157 : decode b_Prover_divide 157 = .ok (.getfield 18, 3) := by decide +kernel
theorem d_Prover_divide_160 : decode b_Prover_divide 160 = .ok (.iload 5, 2) := by decide +kernel
theorem d_Prover_divide_162 : decode b_Prover_divide 162 = .ok (.saload, 1) := by decide +kernel
theorem d_Prover_divide_163 : decode b_Prover_divide 163 = .ok (.isub, 1) := by decide +kernel
theorem d_Prover_divide_164 : decode b_Prover_divide 164 = .ok (.invokevirtual 89, 3) := by decide +kernel
theorem d_Prover_divide_167 : decode b_Prover_divide 167 = .ok (.return_, 1) := by decide +kernel
set_option maxHeartbeats 40000000 in
set_option maxRecDepth 100000 in
theorem c_P_divide (l : Launch) (D : va_G) (ax : Nat → ClassId) (p0 q1 q2 q3 wt rl b0 : Nat) (s_rows s_atoms s_first : Int32) (ro ix : Nat → Int32) (dm : Nat → Nat) (n0 n1 n2 n3 cp z9 : Nat) (fo fl fr : Nat → Int32) (nd tr rx : Nat) (ls9 : List sgT) (sz : Nat) (hnd : nd < z9) (htr : tr ≤ 1) (h6 : ¬ fo nd < 6) (hz9 : z9 ≤ cp) (hcp : cp ≤ 100000) (hrl : 2 * z9 ≤ rl) (hrl2 : rl ≤ 300000) (hnv : ndv fo fl fr z9) (hnl : ndl fo fl fr ls9) (hll : ls9.length = z9) (hnb9 : nbl 21483 ls9) (hro : roQ8 ls9 z9 ro) (hd8 : dvP8 ls9 (2 * nd + tr) wt rx dm ix) : Met l y_Prover_divide (xws (.code y_Prover_divide b_Prover_divide 9 none)) ({ frames := 20, cells := 0, slots := 0, locals := 800 }) (va_Pc [.ref p0, .int (nI nd), .int (nI tr), .int (nI rx)] (xo D ax [(p0, .inr (6, [.ref b0, .int s_rows, .int s_atoms, .int s_first, .ref n0, .ref q1, .ref q2, .ref q3, .int (nI wt)])), (q1, .inl (ax 2, rl, .inl ro)), (q2, .inl (ax 0, 64, .inl (fun j => nI (dm j)))), (q3, .inl (ax 0, 64, .inl ix)), (n0, .inr (4, [.ref n1, .ref n2, .ref n3, .int (nI z9)])), (n1, .inl (ax 1, cp, .inl fo)), (n2, .inl (ax 0, cp, .inl fl)), (n3, .inl (ax 0, cp, .inl fr))] sz)) ((va_Qv (fun (u : Nat → Nat) => (u 0 ≤ wt + 2)) (fun (u : Nat → Nat) (t9 : State) => ∃ xdm : Nat → Nat, ∃ xix : Nat → Int32, (dvQ8 ls9 (2 * nd + tr) wt rx dm ix xdm xix (u 0)) ∧ va_P D classes [(p0, .inr (6, [.ref b0, .int s_rows, .int s_atoms, .int s_first, .ref n0, .ref q1, .ref q2, .ref q3, .int (nI (u 0))])), (q1, .inl (ax 2, rl, .inl ro)), (q2, .inl (ax 0, 64, .inl (fun j => nI (xdm j)))), (q3, .inl (ax 0, 64, .inl xix)), (n0, .inr (4, [.ref n1, .ref n2, .ref n3, .int (nI z9)])), (n1, .inl (ax 1, cp, .inl fo)), (n2, .inl (ax 0, cp, .inl fl)), (n3, .inl (ax 0, cp, .inl fr))] t9.heap ∧ va_D (va_A [(p0, .inr (6, [.ref b0, .int s_rows, .int s_atoms, .int s_first, .ref n0, .ref q1, .ref q2, .ref q3, .int (nI wt)])), (q1, .inl (ax 2, rl, .inl ro)), (q2, .inl (ax 0, 64, .inl (fun j => nI (dm j)))), (q3, .inl (ax 0, 64, .inl ix)), (n0, .inr (4, [.ref n1, .ref n2, .ref n3, .int (nI z9)])), (n1, .inl (ax 1, cp, .inl fo)), (n2, .inl (ax 0, cp, .inl fl)), (n3, .inl (ax 0, cp, .inl fr))] sz) [(p0, .inr (6, [.ref b0, .int s_rows, .int s_atoms, .int s_first, .ref n0, .ref q1, .ref q2, .ref q3, .int (nI (u 0))])), (q1, .inl (ax 2, rl, .inl ro)), (q2, .inl (ax 0, 64, .inl (fun j => nI (xdm j)))), (q3, .inl (ax 0, 64, .inl xix)), (n0, .inr (4, [.ref n1, .ref n2, .ref n3, .int (nI z9)])), (n1, .inl (ax 1, cp, .inl fo)), (n2, .inl (ax 0, cp, .inl fl)), (n3, .inl (ax 0, cp, .inl fr))]) (va_A [(p0, .inr (6, [.ref b0, .int s_rows, .int s_atoms, .int s_first, .ref n0, .ref q1, .ref q2, .ref q3, .int (nI wt)])), (q1, .inl (ax 2, rl, .inl ro)), (q2, .inl (ax 0, 64, .inl (fun j => nI (dm j)))), (q3, .inl (ax 0, 64, .inl ix)), (n0, .inr (4, [.ref n1, .ref n2, .ref n3, .int (nI z9)])), (n1, .inl (ax 1, cp, .inl fo)), (n2, .inl (ax 0, cp, .inl fl)), (n3, .inl (ax 0, cp, .inl fr))] sz))) 0 0 (va_A [(p0, .inr (6, [.ref b0, .int s_rows, .int s_atoms, .int s_first, .ref n0, .ref q1, .ref q2, .ref q3, .int (nI wt)])), (q1, .inl (ax 2, rl, .inl ro)), (q2, .inl (ax 0, 64, .inl (fun j => nI (dm j)))), (q3, .inl (ax 0, 64, .inl ix)), (n0, .inr (4, [.ref n1, .ref n2, .ref n3, .int (nI z9)])), (n1, .inl (ax 1, cp, .inl fo)), (n2, .inl (ax 0, cp, .inl fl)), (n3, .inl (ax 0, cp, .inl fr))] sz) := by
  refine Met.ofW (cc := b_Prover_divide) (maxL := 9) (ret := none) (by decide) rfl ?_
  intro p e s m args below meth c s₁ B hml hv
  obtain ⟨rfl, hsz, hP, hK, hD0⟩ := hv
  have hx := B.exec
  have hb := B.bytes
  have hr := B.returns
  have hts := xw_hts B.pre
  have hown : s.vm.findClass R_Prover = some m.cls := findClass_of_methodNamed B.named
  have hlocks := B.notSynchronized
  subst hsz
  have hD := hD0.self (sz := s.heap.size)
  have hN := xz_entry hP
  generalize hAe : va_A [(p0, .inr (6, [.ref b0, .int s_rows, .int s_atoms, .int s_first, .ref n0, .ref q1, .ref q2, .ref q3, .int (nI wt)])), (q1, .inl (ax 2, rl, .inl ro)), (q2, .inl (ax 0, 64, .inl (fun j => nI (dm j)))), (q3, .inl (ax 0, 64, .inl ix)), (n0, .inr (4, [.ref n1, .ref n2, .ref n3, .int (nI z9)])), (n1, .inl (ax 1, cp, .inl fo)), (n2, .inl (ax 0, cp, .inl fl)), (n3, .inl (ax 0, cp, .inl fr))] s.heap.size = A at hD hN ⊢
  have hA : ∀ q : Nat, s.heap.size ≤ q → A q := fun q h => by rw [← hAe]; exact Or.inr h
  have hS : va_S A s.heap s.heap [] := va_S.rf
  have hl0 := lv_entry ([.ref p0, .int (nI nd), .int (nI tr), .int (nI rx)]) (n := 9) (Nat.le_of_ble_eq_true rfl)
  rw [lg_entry_eq]
  generalize (lg_sl ([.ref p0, .int (nI nd), .int (nI tr), .int (nI rx)]) ++ List.replicate (9 - (lg_sl ([.ref p0, .int (nI nd), .int (nI tr), .int (nI rx)])).length) Slot.unset).toArray = ls at hl0 ⊢
  have hl1 : lv_has ls 9 [(0, .ref p0), (1, .int (nI nd)), (2, .int (nI tr)), (3, .int (nI rx))] := hl0
  refine xw_gen (fun Z9 hQe => ?_)
  obtain ⟨o9, ho1, ho2, ho3, ho4, ho5⟩ := nd_o (hnv nd hnd)
  have h69 : 6 ≤ o9 := by rw [ho2] at h6; exact Nat.le_of_not_lt (fun q => h6 (nI_lt (b := 6) q (by first | assumption | omega)))
  obtain ⟨a9, ha1, ha2⟩ := ho4 h69
  have hop9 := opn9 hnl hnb9 (by first | assumption | omega) (by first | assumption | omega) ho2
  obtain ⟨hw64, hx50⟩ := hd8.sm
  refine lv_aload_n hx hb d_Prover_divide_0 rfl (lv_at hl1 0 rfl) ?_
  refine va_get (D := D) (ci := 6) (v := .ref n0) (C := R_Prover) (T := F_Prover) (N := 9) hx hb hts i_Prover hown hK.1 hP 0 rfl rfl 4 (by decide) (hts _ wd_183) (fun _ h9 => h9) rfl d_Prover_divide_1 ?_
  refine va_get (D := D) (ci := 4) (v := .ref n1) (C := R_Nodes) (T := F_Nodes) (N := 4) hx hb hts i_Nodes hown hK.1 hP 4 rfl rfl 0 (by decide) (hts _ wd_104) (fun _ h9 => h9) rfl d_Prover_divide_4 ?_
  refine lv_iload_n hx hb d_Prover_divide_7 rfl (lv_at hl1 1 rfl) ?_
  refine va_bald hx hb hK.1 hP 5 1 rfl rfl (vp_in_nI (by first | assumption | omega) (by first | exact Nat.lt_of_lt_of_le (by assumption) (by decide) | exact Nat.lt_of_le_of_lt (by assumption) (by decide) | omega)) d_Prover_divide_8 ?_
  refine W.eq (g2 := F0 m 9 ls [.int (fo nd)]) (by rw [nI_clamp (by first | exact Nat.lt_of_lt_of_le (by assumption) (by decide) | exact Nat.lt_of_le_of_lt (by assumption) (by decide) | omega)]) ?_
  refine W.eq (g2 := F0 m 9 ls [.int (nI o9)]) (by rw [ho2]) ?_
  refine lv_istore (lv' := [(4, .int (nI o9)), (0, .ref p0), (1, .int (nI nd)), (2, .int (nI tr)), (3, .int (nI rx))]) hx hb d_Prover_divide_9 hl1 (by decide) rfl (fun ls hl2 => ?_)
  clear hl1; have hl1 := hl2; clear hl2
  refine lv_iconst (v := 2) hx hb d_Prover_divide_11 (by decide) ?_
  refine lv_aload_n hx hb d_Prover_divide_12 rfl (lv_at hl1 1 rfl) ?_
  refine va_get (D := D) (ci := 6) (v := .ref n0) (C := R_Prover) (T := F_Prover) (N := 9) hx hb hts i_Prover hown hK.1 hP 0 rfl rfl 4 (by decide) (hts _ wd_183) (fun _ h9 => h9) rfl d_Prover_divide_13 ?_
  refine va_get (D := D) (ci := 4) (v := .ref n2) (C := R_Nodes) (T := F_Nodes) (N := 4) hx hb hts i_Nodes hown hK.1 hP 4 rfl rfl 1 (by decide) (hts _ wd_110) (fun _ h9 => h9) rfl d_Prover_divide_16 ?_
  refine lv_iload_n hx hb d_Prover_divide_19 rfl (lv_at hl1 2 rfl) ?_
  refine va_iald hx hb hK.1 hP 6 0 rfl rfl (vp_in_nI (by first | assumption | omega) (by first | exact Nat.lt_of_lt_of_le (by assumption) (by decide) | exact Nat.lt_of_le_of_lt (by assumption) (by decide) | omega)) d_Prover_divide_20 ?_
  refine W.eq (g2 := F0 m 21 ls [.int (fl nd), .int 2]) (by rw [nI_clamp (by first | exact Nat.lt_of_lt_of_le (by assumption) (by decide) | exact Nat.lt_of_le_of_lt (by assumption) (by decide) | omega)]) ?_
  refine W.eq (g2 := F0 m 21 ls [.int (nI a9), .int 2]) (by rw [ha2]) ?_
  refine lv_imul hx hb d_Prover_divide_21 ?_
  refine lv_topi (fun z_1 ez_1 => ?_)
  have ez_1 : z_1 = nI (2 * a9) := ez_1.trans (pk_mul 2 a9)
  subst ez_1
  refine lv_iload_n hx hb d_Prover_divide_22 rfl (lv_at hl1 3 rfl) ?_
  refine lv_iadd hx hb d_Prover_divide_23 ?_
  refine lv_topi (fun z_2 ez_2 => ?_)
  have ez_2 : z_2 = nI (2 * a9 + tr) := ez_2.trans (nI_add (2 * a9) tr)
  subst ez_2
  refine lv_istore (lv' := [(5, .int (nI (2 * a9 + tr))), (4, .int (nI o9)), (0, .ref p0), (1, .int (nI nd)), (2, .int (nI tr)), (3, .int (nI rx))]) hx hb d_Prover_divide_24 hl1 (by decide) rfl (fun ls hl2 => ?_)
  clear hl1; have hl1 := hl2; clear hl2
  refine lv_iload hx hb d_Prover_divide_26 (lv_at hl1 1 rfl) ?_
  refine lv_bipush (v := 6) hx hb d_Prover_divide_28 (by decide) ?_
  refine lv_icmp_ne (tgt := 43) hx hb d_Prover_divide_30 (by decide) (fun c_3 => ?_) (fun c_3 => ?_)
  · replace c_3 : ¬ o9 = 6 := fun hq9 => c_3 ((nI_eq (a := o9) (b := 6) (by first | exact Nat.lt_of_lt_of_le (by assumption) (by decide) | exact Nat.lt_of_le_of_lt (by assumption) (by decide) | omega) (by decide)).mpr hq9)
    obtain ⟨c9, hc1, hc2⟩ := ho5 (by first | assumption | omega)
    obtain ⟨ea9, ec9⟩ := pr_b hnl (by first | assumption | omega) hop9 (by first | assumption | omega) ha1 hc1 (by first | assumption | omega) ha2 hc2
    have hw65 := hd8.b7 htr (show 7 ≤ (ath ls9 nd).1 by omega) (by first | assumption | omega)
    refine lv_iconst (v := 2) hx hb d_Prover_divide_43 (by decide) ?_
    refine lv_aload_n hx hb d_Prover_divide_44 rfl (lv_at hl1 2 rfl) ?_
    refine va_get (D := D) (ci := 6) (v := .ref n0) (C := R_Prover) (T := F_Prover) (N := 9) hx hb hts i_Prover hown hK.1 hP 0 rfl rfl 4 (by decide) (hts _ wd_183) (fun _ h9 => h9) rfl d_Prover_divide_45 ?_
    refine va_get (D := D) (ci := 4) (v := .ref n3) (C := R_Nodes) (T := F_Nodes) (N := 4) hx hb hts i_Nodes hown hK.1 hP 4 rfl rfl 2 (by decide) (hts _ wd_115) (fun _ h9 => h9) rfl d_Prover_divide_48 ?_
    refine lv_iload_n hx hb d_Prover_divide_51 rfl (lv_at hl1 3 rfl) ?_
    refine va_iald hx hb hK.1 hP 7 0 rfl rfl (vp_in_nI (by first | assumption | omega) (by first | exact Nat.lt_of_lt_of_le (by assumption) (by decide) | exact Nat.lt_of_le_of_lt (by assumption) (by decide) | omega)) d_Prover_divide_52 ?_
    refine W.eq (g2 := F0 m 53 ls [.int (fr nd), .int 2]) (by rw [nI_clamp (by first | exact Nat.lt_of_lt_of_le (by assumption) (by decide) | exact Nat.lt_of_le_of_lt (by assumption) (by decide) | omega)]) ?_
    refine W.eq (g2 := F0 m 53 ls [.int (nI c9), .int 2]) (by rw [hc2]) ?_
    refine lv_imul hx hb d_Prover_divide_53 ?_
    refine lv_topi (fun z_4 ez_4 => ?_)
    have ez_4 : z_4 = nI (2 * c9) := ez_4.trans (pk_mul 2 c9)
    subst ez_4
    refine lv_iload_n hx hb d_Prover_divide_54 rfl (lv_at hl1 4 rfl) ?_
    refine lv_iadd hx hb d_Prover_divide_55 ?_
    refine lv_topi (fun z_5 ez_5 => ?_)
    have ez_5 : z_5 = nI (2 * c9 + tr) := ez_5.trans (nI_add (2 * c9) tr)
    subst ez_5
    refine lv_istore (lv' := [(6, .int (nI (2 * c9 + tr))), (5, .int (nI (2 * a9 + tr))), (4, .int (nI o9)), (0, .ref p0), (1, .int (nI nd)), (2, .int (nI tr)), (3, .int (nI rx))]) hx hb d_Prover_divide_56 hl1 (by decide) rfl (fun ls hl2 => ?_)
    clear hl1; have hl1 := hl2; clear hl2
    refine lv_iload hx hb d_Prover_divide_58 (lv_at hl1 2 rfl) ?_
    refine lv_bipush (v := 7) hx hb d_Prover_divide_60 (by decide) ?_
    refine lv_icmp_ne (tgt := 69) hx hb d_Prover_divide_62 (by decide) (fun c_6 => ?_) (fun c_6 => ?_)
    · replace c_6 : ¬ o9 = 7 := fun hq9 => c_6 ((nI_eq (a := o9) (b := 7) (by first | exact Nat.lt_of_lt_of_le (by assumption) (by decide) | exact Nat.lt_of_le_of_lt (by assumption) (by decide) | omega) (by decide)).mpr hq9)
      refine lv_iconst (v := 0) hx hb d_Prover_divide_69 (by decide) ?_
      refine lv_iload_n hx hb d_Prover_divide_70 rfl (lv_at hl1 5 rfl) ?_
      refine lv_iconst (v := 1) hx hb d_Prover_divide_71 (by decide) ?_
      refine lv_icmp_ne (tgt := 79) hx hb d_Prover_divide_72 (by decide) (fun c_7 => ?_) (fun c_7 => ?_)
      · replace c_7 : ¬ tr = 1 := fun hq9 => c_7 ((nI_eq (a := tr) (b := 1) (by first | exact Nat.lt_of_lt_of_le (by assumption) (by decide) | exact Nat.lt_of_le_of_lt (by assumption) (by decide) | omega) (by decide)).mpr hq9)
        refine lv_iconst (v := 0) hx hb d_Prover_divide_79 (by decide) ?_
        refine lv_icmp_ne (tgt := 87) hx hb d_Prover_divide_80 (by decide) (fun c_8 => ?_) (fun c_8 => ?_)
        · first | exact absurd c_8 (by decide) | exact absurd (by decide) c_8
        refine lv_iconst (v := 1) hx hb d_Prover_divide_83 (by decide) ?_
        refine lv_goto (tgt := 88) hx hb d_Prover_divide_84 (by decide) ?_
        refine lv_istore (lv' := [(7, .int 1), (6, .int (nI (2 * c9 + tr))), (5, .int (nI (2 * a9 + tr))), (4, .int (nI o9)), (0, .ref p0), (1, .int (nI nd)), (2, .int (nI tr)), (3, .int (nI rx))]) hx hb d_Prover_divide_88 hl1 (by decide) rfl (fun ls hl2 => ?_)
        clear hl1; have hl1 := hl2; clear hl2
        refine lv_iload hx hb d_Prover_divide_90 (lv_at hl1 0 rfl) ?_
        refine lv_if_eq (tgt := 131) hx hb d_Prover_divide_92 (by decide) (fun c_9 => ?_) (fun c_9 => ?_)
        · first | exact absurd c_9 (by decide) | exact absurd (by decide) c_9
        refine lv_iconst (v := 1) hx hb d_Prover_divide_95 (by decide) ?_
        refine lv_aload_n hx hb d_Prover_divide_96 rfl (lv_at hl1 4 rfl) ?_
        refine va_get (D := D) (ci := 6) (v := .ref q1) (C := R_Prover) (T := F_Prover) (N := 9) hx hb hts i_Prover hown hK.1 hP 0 rfl rfl 5 (by decide) (hts _ wd_184) (fun _ h9 => h9) rfl d_Prover_divide_97 ?_
        refine lv_iload hx hb d_Prover_divide_100 (lv_at hl1 1 rfl) ?_
        refine va_sald hx hb hK.1 hP 1 2 rfl rfl (vp_in_nI (by first | assumption | omega) (by first | exact Nat.lt_of_lt_of_le (by assumption) (by decide) | exact Nat.lt_of_le_of_lt (by assumption) (by decide) | omega)) d_Prover_divide_102 ?_
        refine W.eq (g2 := F0 m 103 ls [.int (ro (2 * c9 + tr)), .int 1]) (by rw [nI_clamp (by first | exact Nat.lt_of_lt_of_le (by assumption) (by decide) | exact Nat.lt_of_le_of_lt (by assumption) (by decide) | omega)]) ?_
        have hro9 : ro (2 * c9 + tr) = nI (rwo (olf ls9) (2 * c9 + tr)) := by first | exact hro _ (by first | assumption | omega) | (rw [upd_ne (by first | assumption | omega)]; exact hro _ (by first | assumption | omega))
        have hrp9 := rwo_pos (o := olf ls9) (d := 2 * c9 + tr)
        have hrq9 := rwo_le (o := olf ls9) (d := 2 * c9 + tr)
        refine W.eq (g2 := F0 m 103 ls [.int (nI (rwo (olf ls9) (2 * c9 + tr))), .int 1]) (by rw [hro9]) ?_
        clear hro9
        refine va_mmax hx hb (hl1.1.trans hml.symm).symm hown (hts _ wd_867) (hts _ wd_868) (hts _ wd_13) (hts _ wd_869) (Nat.le_of_ble_eq_true rfl) (Nat.le_of_ble_eq_true rfl) (Nat.le_of_ble_eq_true rfl) (Nat.le_of_ble_eq_true rfl) d_Prover_divide_103 ?_
        refine lv_topi (fun z_10 ez_10 => ?_)
        have ez_10 : z_10 = nI (max 1 (rwo (olf ls9) (2 * c9 + tr))) := ez_10.trans (mm_max (a := 1) (b := rwo (olf ls9) (2 * c9 + tr)) (by first | assumption | omega) (by first | assumption | omega))
        subst ez_10
        refine W.eq (g2 := F0 m 106 ls [.int (nI (rwo (olf ls9) (2 * c9 + tr)))]) (by rw [show max 1 (rwo (olf ls9) (2 * c9 + tr)) = rwo (olf ls9) (2 * c9 + tr) by omega]) ?_
        refine lv_istore (lv' := [(8, .int (nI (rwo (olf ls9) (2 * c9 + tr)))), (7, .int 1), (6, .int (nI (2 * c9 + tr))), (5, .int (nI (2 * a9 + tr))), (4, .int (nI o9)), (0, .ref p0), (1, .int (nI nd)), (2, .int (nI tr)), (3, .int (nI rx))]) hx hb d_Prover_divide_106 hl1 (by decide) rfl (fun ls hl2 => ?_)
        clear hl1; have hl1 := hl2; clear hl2
        refine lv_aload_n hx hb d_Prover_divide_108 rfl (lv_at hl1 5 rfl) ?_
        refine lv_iload hx hb d_Prover_divide_109 (lv_at hl1 2 rfl) ?_
        refine lv_iload_n hx hb d_Prover_divide_111 rfl (lv_at hl1 8 rfl) ?_
        refine lv_iload hx hb d_Prover_divide_112 (lv_at hl1 0 rfl) ?_
        refine lv_irem hx hb d_Prover_divide_114 (nI_ne0 (by first | assumption | omega) (by first | assumption | omega)) ?_
        refine lv_topi (fun z_11 ez_11 => ?_)
        have ez_11 : z_11 = nI (rx % (rwo (olf ls9) (2 * c9 + tr))) := ez_11.trans (pk_rem (a := rx) (d := rwo (olf ls9) (2 * c9 + tr)) (by first | assumption | omega) (by first | assumption | omega) (by first | assumption | omega))
        subst ez_11
        obtain ⟨hPc, hDc, hFc, hCs⟩ := xw_sub3 (wc := [(p0, .inr (6, [.ref b0, .int s_rows, .int s_atoms, .int s_first, .ref n0, .ref q1, .ref q2, .ref q3, .int (nI wt)])), (q1, .inl (ax 2, rl, .inl ro)), (q2, .inl (ax 0, 64, .inl (fun j => nI (dm j)))), (q3, .inl (ax 0, 64, .inl ix))]) hP hD hS hA [0, 1, 2, 3] (by decide) rfl
        have hz := xz_of hN hS
        refine va_callv (va_runV (As := [.int (nI (2 * c9 + tr)), .int (nI (rx % (rwo (olf ls9) (2 * c9 + tr))))]) (rest := []) ⟨hx, hb, hml, hown, hts⟩ (c_P_ask l D ax p0 q1 q2 q3 wt rl b0 s_rows s_atoms s_first ro ix dm n0 (2 * c9 + tr) (nI (rx % (rwo (olf ls9) (2 * c9 + tr)))) s.heap.size (by first | assumption | omega)) (xcV (n := 2) hts wd_842 wd_6 wd_839 wd_841 ps_34 rfl rfl (by decide +kernel) ⟨Nat.le_of_ble_eq_true rfl, Nat.le_of_ble_eq_true rfl⟩) (xpV (ci := 6) (q0 := 0) (As := [.int (nI (2 * c9 + tr)), .int (nI (rx % (rwo (olf ls9) (2 * c9 + tr))))]) hPc hK hz hDc rfl rfl) rfl rfl hl1.1 rfl (lv_room (Nat.le_of_ble_eq_true rfl)) d_Prover_divide_115 ⟨Nat.le_of_ble_eq_true rfl, Nat.le_of_ble_eq_true rfl⟩) hS (fun q _ h => hFc q h) hFc (fun u_12 t H_13 locs ht hvm hw hB hz1 hk1 hS1 => ?_)
        try dsimp only at hw
        obtain ⟨hP1, hD1⟩ := hB
        rw [ht] at hP1
        have hjn := xw_join3 (wl := [(n0, .inr (4, [.ref n1, .ref n2, .ref n3, .int (nI z9)])), (n1, .inl (ax 1, cp, .inl fo)), (n2, .inl (ax 0, cp, .inl fl)), (n3, .inl (ax 0, cp, .inl fr)), (p0, .inr (6, [.ref b0, .int s_rows, .int s_atoms, .int s_first, .ref n0, .ref q1, .ref q2, .ref q3, .int (nI (wt + 1))])), (q1, .inl (ax 2, rl, .inl ro)), (q2, .inl (ax 0, 64, .inl (fun j => nI ((sup dm wt (2 * c9 + tr)) j)))), (q3, .inl (ax 0, 64, .inl (upd ix wt (nI (rx % (rwo (olf ls9) (2 * c9 + tr)))))))]) hP hD [0, 1, 2, 3] [4, 5, 6, 7] hCs (by decide) (by decide) hk1 hFc hP1 hD1 rfl
        clear hP1 hD1
        clear hPc hDc hFc hCs hz hz1 hk1 ht hvm
        clear hP hD hS
        have hS := hS1
        obtain ⟨hP, hD⟩ := hjn
        clear hS1
        refine lv_aload_n hx hb d_Prover_divide_118 rfl (lv_at hl1 5 rfl) ?_
        refine lv_iload hx hb d_Prover_divide_119 (lv_at hl1 3 rfl) ?_
        refine lv_iload_n hx hb d_Prover_divide_121 rfl (lv_at hl1 8 rfl) ?_
        refine lv_iload hx hb d_Prover_divide_122 (lv_at hl1 0 rfl) ?_
        refine lv_idiv hx hb d_Prover_divide_124 (nI_ne0 (by first | assumption | omega) (by first | assumption | omega)) ?_
        refine lv_topi (fun z_15 ez_15 => ?_)
        have ez_15 : z_15 = nI (rx / (rwo (olf ls9) (2 * c9 + tr))) := ez_15.trans (pk_div (a := rx) (d := rwo (olf ls9) (2 * c9 + tr)) (by first | assumption | omega) (by first | assumption | omega) (by first | assumption | omega))
        subst ez_15
        obtain ⟨hPc, hDc, hFc, hCs⟩ := xw_sub3 (wc := [(p0, .inr (6, [.ref b0, .int s_rows, .int s_atoms, .int s_first, .ref n0, .ref q1, .ref q2, .ref q3, .int (nI (wt + 1))])), (q1, .inl (ax 2, rl, .inl ro)), (q2, .inl (ax 0, 64, .inl (fun j => nI ((sup dm wt (2 * c9 + tr)) j)))), (q3, .inl (ax 0, 64, .inl (upd ix wt (nI (rx % (rwo (olf ls9) (2 * c9 + tr)))))))]) hP hD hS hA [4, 5, 6, 7] (by decide) rfl
        have hz := xz_of hN hS
        refine va_callv (va_runV (As := [.int (nI (2 * a9 + tr)), .int (nI (rx / (rwo (olf ls9) (2 * c9 + tr))))]) (rest := []) ⟨hx, hb, hml, hown, hts⟩ (c_P_ask l D ax p0 q1 q2 q3 (wt + 1) rl b0 s_rows s_atoms s_first ro (upd ix wt (nI (rx % (rwo (olf ls9) (2 * c9 + tr))))) (sup dm wt (2 * c9 + tr)) n0 (2 * a9 + tr) (nI (rx / (rwo (olf ls9) (2 * c9 + tr)))) H_13.size (by first | assumption | omega)) (xcV (n := 2) hts wd_842 wd_6 wd_839 wd_841 ps_34 rfl rfl (by decide +kernel) ⟨Nat.le_of_ble_eq_true rfl, Nat.le_of_ble_eq_true rfl⟩) (xpV (ci := 6) (q0 := 0) (As := [.int (nI (2 * a9 + tr)), .int (nI (rx / (rwo (olf ls9) (2 * c9 + tr))))]) hPc hK hz hDc rfl rfl) rfl rfl hl1.1 rfl (lv_room (Nat.le_of_ble_eq_true rfl)) d_Prover_divide_125 ⟨Nat.le_of_ble_eq_true rfl, Nat.le_of_ble_eq_true rfl⟩) hS (fun q _ h => hFc q h) hFc (fun u_16 t H_17 locs ht hvm hw hB hz1 hk1 hS1 => ?_)
        try dsimp only at hw
        obtain ⟨hP1, hD1⟩ := hB
        rw [ht] at hP1
        have hjn := xw_join3 (wl := [(n0, .inr (4, [.ref n1, .ref n2, .ref n3, .int (nI z9)])), (n1, .inl (ax 1, cp, .inl fo)), (n2, .inl (ax 0, cp, .inl fl)), (n3, .inl (ax 0, cp, .inl fr)), (p0, .inr (6, [.ref b0, .int s_rows, .int s_atoms, .int s_first, .ref n0, .ref q1, .ref q2, .ref q3, .int (nI (wt + 2))])), (q1, .inl (ax 2, rl, .inl ro)), (q2, .inl (ax 0, 64, .inl (fun j => nI ((sup (sup dm wt (2 * c9 + tr)) (wt + 1) (2 * a9 + tr)) j)))), (q3, .inl (ax 0, 64, .inl (upd (upd ix wt (nI (rx % (rwo (olf ls9) (2 * c9 + tr))))) (wt + 1) (nI (rx / (rwo (olf ls9) (2 * c9 + tr)))))))]) hP hD [4, 5, 6, 7] [0, 1, 2, 3] hCs (by decide) (by decide) hk1 hFc hP1 hD1 rfl
        clear hP1 hD1
        clear hPc hDc hFc hCs hz hz1 hk1 ht hvm
        clear hP hD hS
        have hS := hS1
        obtain ⟨hP, hD⟩ := hjn
        clear hS1
        refine lv_goto (tgt := 167) hx hb d_Prover_divide_128 (by decide) ?_
        rw [← hQe]
        obtain ⟨hP9, hD9⟩ := xw_sub2 (wc := (fun (u : Nat → Nat) (xdm : Nat → Nat) (xix : Nat → Int32) => [(p0, .inr (6, [.ref b0, .int s_rows, .int s_atoms, .int s_first, .ref n0, .ref q1, .ref q2, .ref q3, .int (nI (u 0))])), (q1, .inl (ax 2, rl, .inl ro)), (q2, .inl (ax 0, 64, .inl (fun j => nI (xdm j)))), (q3, .inl (ax 0, 64, .inl xix)), (n0, .inr (4, [.ref n1, .ref n2, .ref n3, .int (nI z9)])), (n1, .inl (ax 1, cp, .inl fo)), (n2, .inl (ax 0, cp, .inl fl)), (n3, .inl (ax 0, cp, .inl fr))]) (ixn [(wt + 2)]) (sup (sup dm wt (2 * c9 + tr)) (wt + 1) (2 * a9 + tr)) (upd (upd ix wt (nI (rx % (rwo (olf ls9) (2 * c9 + tr))))) (wt + 1) (nI (rx / (rwo (olf ls9) (2 * c9 + tr)))))) hP hD [4, 5, 6, 7, 0, 1, 2, 3] (by decide) rfl
        have hex0 : dvQ8 ls9 (2 * nd + tr) wt rx dm ix (sup (sup dm wt (2 * c9 + tr)) (wt + 1) (2 * a9 + tr)) (upd (upd ix wt (nI (rx % (rwo (olf ls9) (2 * c9 + tr))))) (wt + 1) (nI (rx / (rwo (olf ls9) (2 * c9 + tr))))) ((wt + 2)) := (dvQ8_y hd8 htr (show 7 ≤ (ath ls9 nd).1 by omega) (by first | assumption | omega) (show (ath ls9 nd).1 + tr = 8 by omega) ea9 ec9 rfl rfl)
        have hsp0 : (wt + 2) ≤ wt + 2 := (by first | assumption | omega)
        exact W.vret hx hb hr (fun t ht hW => ⟨⟨ixn [(wt + 2)], rfl, hsp0, ⟨sup (sup dm wt (2 * c9 + tr)) (wt + 1) (2 * a9 + tr), (upd (upd ix wt (nI (rx % (rwo (olf ls9) (2 * c9 + tr))))) (wt + 1) (nI (rx / (rwo (olf ls9) (2 * c9 + tr))))), hex0, by rw [ht]; exact hP9, hD9⟩⟩, hS.F ht⟩) hS.2.2 d_Prover_divide_167
      · replace c_7 : tr = 1 := (nI_eq (a := tr) (b := 1) (by first | exact Nat.lt_of_lt_of_le (by assumption) (by decide) | exact Nat.lt_of_le_of_lt (by assumption) (by decide) | omega) (by decide)).mp c_7
        refine lv_iconst (v := 1) hx hb d_Prover_divide_75 (by decide) ?_
        refine lv_goto (tgt := 80) hx hb d_Prover_divide_76 (by decide) ?_
        refine lv_icmp_ne (tgt := 87) hx hb d_Prover_divide_80 (by decide) (fun c_19 => ?_) (fun c_19 => ?_)
        rotate_left
        · first | exact absurd c_19 (by decide) | exact absurd (by decide) c_19
        refine lv_iconst (v := 0) hx hb d_Prover_divide_87 (by decide) ?_
        refine lv_istore (lv' := [(7, .int 0), (6, .int (nI (2 * c9 + tr))), (5, .int (nI (2 * a9 + tr))), (4, .int (nI o9)), (0, .ref p0), (1, .int (nI nd)), (2, .int (nI tr)), (3, .int (nI rx))]) hx hb d_Prover_divide_88 hl1 (by decide) rfl (fun ls hl2 => ?_)
        clear hl1; have hl1 := hl2; clear hl2
        refine lv_iload hx hb d_Prover_divide_90 (lv_at hl1 0 rfl) ?_
        refine lv_if_eq (tgt := 131) hx hb d_Prover_divide_92 (by decide) (fun c_20 => ?_) (fun c_20 => ?_)
        rotate_left
        · first | exact absurd c_20 (by decide) | exact absurd (by decide) c_20
        refine lv_iload_n hx hb d_Prover_divide_131 rfl (lv_at hl1 7 rfl) ?_
        refine lv_aload_n hx hb d_Prover_divide_132 rfl (lv_at hl1 4 rfl) ?_
        refine va_get (D := D) (ci := 6) (v := .ref q1) (C := R_Prover) (T := F_Prover) (N := 9) hx hb hts i_Prover hown hK.1 hP 0 rfl rfl 5 (by decide) (hts _ wd_184) (fun _ h9 => h9) rfl d_Prover_divide_133 ?_
        refine lv_iload hx hb d_Prover_divide_136 (lv_at hl1 2 rfl) ?_
        refine va_sald hx hb hK.1 hP 1 2 rfl rfl (vp_in_nI (by first | assumption | omega) (by first | exact Nat.lt_of_lt_of_le (by assumption) (by decide) | exact Nat.lt_of_le_of_lt (by assumption) (by decide) | omega)) d_Prover_divide_138 ?_
        refine W.eq (g2 := F0 m 139 ls [.int (ro (2 * a9 + tr)), .int (nI rx)]) (by rw [nI_clamp (by first | exact Nat.lt_of_lt_of_le (by assumption) (by decide) | exact Nat.lt_of_le_of_lt (by assumption) (by decide) | omega)]) ?_
        have hro9 : ro (2 * a9 + tr) = nI (rwo (olf ls9) (2 * a9 + tr)) := by first | exact hro _ (by first | assumption | omega) | (rw [upd_ne (by first | assumption | omega)]; exact hro _ (by first | assumption | omega))
        have hrp9 := rwo_pos (o := olf ls9) (d := 2 * a9 + tr)
        have hrq9 := rwo_le (o := olf ls9) (d := 2 * a9 + tr)
        refine W.eq (g2 := F0 m 139 ls [.int (nI (rwo (olf ls9) (2 * a9 + tr))), .int (nI rx)]) (by rw [hro9]) ?_
        clear hro9
        refine lv_icmp_ge (tgt := 152) hx hb d_Prover_divide_139 (by decide) (fun c_21 => ?_) (fun c_21 => ?_)
        · replace c_21 : rwo (olf ls9) (2 * a9 + tr) ≤ rx := (nI_leI (a := rwo (olf ls9) (2 * a9 + tr)) (b := rx) (by first | exact Nat.lt_of_lt_of_le (by assumption) (by decide) | exact Nat.lt_of_le_of_lt (by assumption) (by decide) | omega) (by first | exact Nat.lt_of_lt_of_le (by assumption) (by decide) | exact Nat.lt_of_le_of_lt (by assumption) (by decide) | omega)).mp c_21
          refine lv_aload_n hx hb d_Prover_divide_152 rfl (lv_at hl1 4 rfl) ?_
          refine lv_iload hx hb d_Prover_divide_153 (lv_at hl1 1 rfl) ?_
          refine lv_iload_n hx hb d_Prover_divide_155 rfl (lv_at hl1 7 rfl) ?_
          refine lv_aload_n hx hb d_Prover_divide_156 rfl (lv_at hl1 4 rfl) ?_
          refine va_get (D := D) (ci := 6) (v := .ref q1) (C := R_Prover) (T := F_Prover) (N := 9) hx hb hts i_Prover hown hK.1 hP 0 rfl rfl 5 (by decide) (hts _ wd_184) (fun _ h9 => h9) rfl d_Prover_divide_157 ?_
          refine lv_iload hx hb d_Prover_divide_160 (lv_at hl1 2 rfl) ?_
          refine va_sald hx hb hK.1 hP 1 2 rfl rfl (vp_in_nI (by first | assumption | omega) (by first | exact Nat.lt_of_lt_of_le (by assumption) (by decide) | exact Nat.lt_of_le_of_lt (by assumption) (by decide) | omega)) d_Prover_divide_162 ?_
          refine W.eq (g2 := F0 m 163 ls [.int (ro (2 * a9 + tr)), .int (nI rx), .int (nI (2 * c9 + tr)), .ref p0]) (by rw [nI_clamp (by first | exact Nat.lt_of_lt_of_le (by assumption) (by decide) | exact Nat.lt_of_le_of_lt (by assumption) (by decide) | omega)]) ?_
          have hro9 : ro (2 * a9 + tr) = nI (rwo (olf ls9) (2 * a9 + tr)) := by first | exact hro _ (by first | assumption | omega) | (rw [upd_ne (by first | assumption | omega)]; exact hro _ (by first | assumption | omega))
          have hrp9 := rwo_pos (o := olf ls9) (d := 2 * a9 + tr)
          have hrq9 := rwo_le (o := olf ls9) (d := 2 * a9 + tr)
          refine W.eq (g2 := F0 m 163 ls [.int (nI (rwo (olf ls9) (2 * a9 + tr))), .int (nI rx), .int (nI (2 * c9 + tr)), .ref p0]) (by rw [hro9]) ?_
          clear hro9
          refine lv_isub hx hb d_Prover_divide_163 ?_
          refine lv_topi (fun z_22 ez_22 => ?_)
          have ez_22 : z_22 = nI (rx - (rwo (olf ls9) (2 * a9 + tr))) := ez_22.trans (pk_sub (a := rx) (b := rwo (olf ls9) (2 * a9 + tr)) (by first | assumption | omega))
          subst ez_22
          obtain ⟨hPc, hDc, hFc, hCs⟩ := xw_sub3 (wc := [(p0, .inr (6, [.ref b0, .int s_rows, .int s_atoms, .int s_first, .ref n0, .ref q1, .ref q2, .ref q3, .int (nI wt)])), (q1, .inl (ax 2, rl, .inl ro)), (q2, .inl (ax 0, 64, .inl (fun j => nI (dm j)))), (q3, .inl (ax 0, 64, .inl ix))]) hP hD hS hA [0, 1, 2, 3] (by decide) rfl
          have hz := xz_of hN hS
          refine va_callv (va_runV (As := [.int (nI (2 * c9 + tr)), .int (nI (rx - (rwo (olf ls9) (2 * a9 + tr))))]) (rest := []) ⟨hx, hb, hml, hown, hts⟩ (c_P_ask l D ax p0 q1 q2 q3 wt rl b0 s_rows s_atoms s_first ro ix dm n0 (2 * c9 + tr) (nI (rx - (rwo (olf ls9) (2 * a9 + tr)))) s.heap.size (by first | assumption | omega)) (xcV (n := 2) hts wd_842 wd_6 wd_839 wd_841 ps_34 rfl rfl (by decide +kernel) ⟨Nat.le_of_ble_eq_true rfl, Nat.le_of_ble_eq_true rfl⟩) (xpV (ci := 6) (q0 := 0) (As := [.int (nI (2 * c9 + tr)), .int (nI (rx - (rwo (olf ls9) (2 * a9 + tr))))]) hPc hK hz hDc rfl rfl) rfl rfl hl1.1 rfl (lv_room (Nat.le_of_ble_eq_true rfl)) d_Prover_divide_164 ⟨Nat.le_of_ble_eq_true rfl, Nat.le_of_ble_eq_true rfl⟩) hS (fun q _ h => hFc q h) hFc (fun u_23 t H_24 locs ht hvm hw hB hz1 hk1 hS1 => ?_)
          try dsimp only at hw
          obtain ⟨hP1, hD1⟩ := hB
          rw [ht] at hP1
          have hjn := xw_join3 (wl := [(n0, .inr (4, [.ref n1, .ref n2, .ref n3, .int (nI z9)])), (n1, .inl (ax 1, cp, .inl fo)), (n2, .inl (ax 0, cp, .inl fl)), (n3, .inl (ax 0, cp, .inl fr)), (p0, .inr (6, [.ref b0, .int s_rows, .int s_atoms, .int s_first, .ref n0, .ref q1, .ref q2, .ref q3, .int (nI (wt + 1))])), (q1, .inl (ax 2, rl, .inl ro)), (q2, .inl (ax 0, 64, .inl (fun j => nI ((sup dm wt (2 * c9 + tr)) j)))), (q3, .inl (ax 0, 64, .inl (upd ix wt (nI (rx - (rwo (olf ls9) (2 * a9 + tr)))))))]) hP hD [0, 1, 2, 3] [4, 5, 6, 7] hCs (by decide) (by decide) hk1 hFc hP1 hD1 rfl
          clear hP1 hD1
          clear hPc hDc hFc hCs hz hz1 hk1 ht hvm
          clear hP hD hS
          have hS := hS1
          obtain ⟨hP, hD⟩ := hjn
          clear hS1
          rw [← hQe]
          obtain ⟨hP9, hD9⟩ := xw_sub2 (wc := (fun (u : Nat → Nat) (xdm : Nat → Nat) (xix : Nat → Int32) => [(p0, .inr (6, [.ref b0, .int s_rows, .int s_atoms, .int s_first, .ref n0, .ref q1, .ref q2, .ref q3, .int (nI (u 0))])), (q1, .inl (ax 2, rl, .inl ro)), (q2, .inl (ax 0, 64, .inl (fun j => nI (xdm j)))), (q3, .inl (ax 0, 64, .inl xix)), (n0, .inr (4, [.ref n1, .ref n2, .ref n3, .int (nI z9)])), (n1, .inl (ax 1, cp, .inl fo)), (n2, .inl (ax 0, cp, .inl fl)), (n3, .inl (ax 0, cp, .inl fr))]) (ixn [(wt + 1)]) (sup dm wt (2 * c9 + tr)) (upd ix wt (nI (rx - (rwo (olf ls9) (2 * a9 + tr)))))) hP hD [4, 5, 6, 7, 0, 1, 2, 3] (by decide) rfl
          have hex0 : dvQ8 ls9 (2 * nd + tr) wt rx dm ix (sup dm wt (2 * c9 + tr)) (upd ix wt (nI (rx - (rwo (olf ls9) (2 * a9 + tr))))) ((wt + 1)) := (dvQ8_r hd8 htr (show 7 ≤ (ath ls9 nd).1 by omega) (by first | assumption | omega) (show ¬ (ath ls9 nd).1 + tr = 8 by omega) ea9 (by first | assumption | omega) ec9 rfl)
          have hsp0 : (wt + 1) ≤ wt + 2 := (by first | assumption | omega)
          exact W.vret hx hb hr (fun t ht hW => ⟨⟨ixn [(wt + 1)], rfl, hsp0, ⟨sup dm wt (2 * c9 + tr), (upd ix wt (nI (rx - (rwo (olf ls9) (2 * a9 + tr))))), hex0, by rw [ht]; exact hP9, hD9⟩⟩, hS.F ht⟩) hS.2.2 d_Prover_divide_167
        · replace c_21 : ¬ rwo (olf ls9) (2 * a9 + tr) ≤ rx := fun hq9 => c_21 ((nI_leI (a := rwo (olf ls9) (2 * a9 + tr)) (b := rx) (by first | exact Nat.lt_of_lt_of_le (by assumption) (by decide) | exact Nat.lt_of_le_of_lt (by assumption) (by decide) | omega) (by first | exact Nat.lt_of_lt_of_le (by assumption) (by decide) | exact Nat.lt_of_le_of_lt (by assumption) (by decide) | omega)).mpr hq9)
          refine lv_aload_n hx hb d_Prover_divide_142 rfl (lv_at hl1 4 rfl) ?_
          refine lv_iload hx hb d_Prover_divide_143 (lv_at hl1 2 rfl) ?_
          refine lv_iload_n hx hb d_Prover_divide_145 rfl (lv_at hl1 7 rfl) ?_
          obtain ⟨hPc, hDc, hFc, hCs⟩ := xw_sub3 (wc := [(p0, .inr (6, [.ref b0, .int s_rows, .int s_atoms, .int s_first, .ref n0, .ref q1, .ref q2, .ref q3, .int (nI wt)])), (q1, .inl (ax 2, rl, .inl ro)), (q2, .inl (ax 0, 64, .inl (fun j => nI (dm j)))), (q3, .inl (ax 0, 64, .inl ix))]) hP hD hS hA [0, 1, 2, 3] (by decide) rfl
          have hz := xz_of hN hS
          refine va_callv (va_runV (As := [.int (nI (2 * a9 + tr)), .int (nI rx)]) (rest := []) ⟨hx, hb, hml, hown, hts⟩ (c_P_ask l D ax p0 q1 q2 q3 wt rl b0 s_rows s_atoms s_first ro ix dm n0 (2 * a9 + tr) (nI rx) s.heap.size (by first | assumption | omega)) (xcV (n := 2) hts wd_842 wd_6 wd_839 wd_841 ps_34 rfl rfl (by decide +kernel) ⟨Nat.le_of_ble_eq_true rfl, Nat.le_of_ble_eq_true rfl⟩) (xpV (ci := 6) (q0 := 0) (As := [.int (nI (2 * a9 + tr)), .int (nI rx)]) hPc hK hz hDc rfl rfl) rfl rfl hl1.1 rfl (lv_room (Nat.le_of_ble_eq_true rfl)) d_Prover_divide_146 ⟨Nat.le_of_ble_eq_true rfl, Nat.le_of_ble_eq_true rfl⟩) hS (fun q _ h => hFc q h) hFc (fun u_26 t H_27 locs ht hvm hw hB hz1 hk1 hS1 => ?_)
          try dsimp only at hw
          obtain ⟨hP1, hD1⟩ := hB
          rw [ht] at hP1
          have hjn := xw_join3 (wl := [(n0, .inr (4, [.ref n1, .ref n2, .ref n3, .int (nI z9)])), (n1, .inl (ax 1, cp, .inl fo)), (n2, .inl (ax 0, cp, .inl fl)), (n3, .inl (ax 0, cp, .inl fr)), (p0, .inr (6, [.ref b0, .int s_rows, .int s_atoms, .int s_first, .ref n0, .ref q1, .ref q2, .ref q3, .int (nI (wt + 1))])), (q1, .inl (ax 2, rl, .inl ro)), (q2, .inl (ax 0, 64, .inl (fun j => nI ((sup dm wt (2 * a9 + tr)) j)))), (q3, .inl (ax 0, 64, .inl (upd ix wt (nI rx))))]) hP hD [0, 1, 2, 3] [4, 5, 6, 7] hCs (by decide) (by decide) hk1 hFc hP1 hD1 rfl
          clear hP1 hD1
          clear hPc hDc hFc hCs hz hz1 hk1 ht hvm
          clear hP hD hS
          have hS := hS1
          obtain ⟨hP, hD⟩ := hjn
          clear hS1
          refine lv_goto (tgt := 167) hx hb d_Prover_divide_149 (by decide) ?_
          rw [← hQe]
          obtain ⟨hP9, hD9⟩ := xw_sub2 (wc := (fun (u : Nat → Nat) (xdm : Nat → Nat) (xix : Nat → Int32) => [(p0, .inr (6, [.ref b0, .int s_rows, .int s_atoms, .int s_first, .ref n0, .ref q1, .ref q2, .ref q3, .int (nI (u 0))])), (q1, .inl (ax 2, rl, .inl ro)), (q2, .inl (ax 0, 64, .inl (fun j => nI (xdm j)))), (q3, .inl (ax 0, 64, .inl xix)), (n0, .inr (4, [.ref n1, .ref n2, .ref n3, .int (nI z9)])), (n1, .inl (ax 1, cp, .inl fo)), (n2, .inl (ax 0, cp, .inl fl)), (n3, .inl (ax 0, cp, .inl fr))]) (ixn [(wt + 1)]) (sup dm wt (2 * a9 + tr)) (upd ix wt (nI rx))) hP hD [4, 5, 6, 7, 0, 1, 2, 3] (by decide) rfl
          have hex0 : dvQ8 ls9 (2 * nd + tr) wt rx dm ix (sup dm wt (2 * a9 + tr)) (upd ix wt (nI rx)) ((wt + 1)) := (dvQ8_l hd8 htr (show 7 ≤ (ath ls9 nd).1 by omega) (by first | assumption | omega) (show ¬ (ath ls9 nd).1 + tr = 8 by omega) ea9 (by first | assumption | omega))
          have hsp0 : (wt + 1) ≤ wt + 2 := (by first | assumption | omega)
          exact W.vret hx hb hr (fun t ht hW => ⟨⟨ixn [(wt + 1)], rfl, hsp0, ⟨sup dm wt (2 * a9 + tr), (upd ix wt (nI rx)), hex0, by rw [ht]; exact hP9, hD9⟩⟩, hS.F ht⟩) hS.2.2 d_Prover_divide_167
    · replace c_6 : o9 = 7 := (nI_eq (a := o9) (b := 7) (by first | exact Nat.lt_of_lt_of_le (by assumption) (by decide) | exact Nat.lt_of_le_of_lt (by assumption) (by decide) | omega) (by decide)).mp c_6
      refine lv_iconst (v := 1) hx hb d_Prover_divide_65 (by decide) ?_
      refine lv_goto (tgt := 70) hx hb d_Prover_divide_66 (by decide) ?_
      refine lv_iload_n hx hb d_Prover_divide_70 rfl (lv_at hl1 5 rfl) ?_
      refine lv_iconst (v := 1) hx hb d_Prover_divide_71 (by decide) ?_
      refine lv_icmp_ne (tgt := 79) hx hb d_Prover_divide_72 (by decide) (fun c_29 => ?_) (fun c_29 => ?_)
      · replace c_29 : ¬ tr = 1 := fun hq9 => c_29 ((nI_eq (a := tr) (b := 1) (by first | exact Nat.lt_of_lt_of_le (by assumption) (by decide) | exact Nat.lt_of_le_of_lt (by assumption) (by decide) | omega) (by decide)).mpr hq9)
        refine lv_iconst (v := 0) hx hb d_Prover_divide_79 (by decide) ?_
        refine lv_icmp_ne (tgt := 87) hx hb d_Prover_divide_80 (by decide) (fun c_30 => ?_) (fun c_30 => ?_)
        rotate_left
        · first | exact absurd c_30 (by decide) | exact absurd (by decide) c_30
        refine lv_iconst (v := 0) hx hb d_Prover_divide_87 (by decide) ?_
        refine lv_istore (lv' := [(7, .int 0), (6, .int (nI (2 * c9 + tr))), (5, .int (nI (2 * a9 + tr))), (4, .int (nI o9)), (0, .ref p0), (1, .int (nI nd)), (2, .int (nI tr)), (3, .int (nI rx))]) hx hb d_Prover_divide_88 hl1 (by decide) rfl (fun ls hl2 => ?_)
        clear hl1; have hl1 := hl2; clear hl2
        refine lv_iload hx hb d_Prover_divide_90 (lv_at hl1 0 rfl) ?_
        refine lv_if_eq (tgt := 131) hx hb d_Prover_divide_92 (by decide) (fun c_31 => ?_) (fun c_31 => ?_)
        rotate_left
        · first | exact absurd c_31 (by decide) | exact absurd (by decide) c_31
        refine lv_iload_n hx hb d_Prover_divide_131 rfl (lv_at hl1 7 rfl) ?_
        refine lv_aload_n hx hb d_Prover_divide_132 rfl (lv_at hl1 4 rfl) ?_
        refine va_get (D := D) (ci := 6) (v := .ref q1) (C := R_Prover) (T := F_Prover) (N := 9) hx hb hts i_Prover hown hK.1 hP 0 rfl rfl 5 (by decide) (hts _ wd_184) (fun _ h9 => h9) rfl d_Prover_divide_133 ?_
        refine lv_iload hx hb d_Prover_divide_136 (lv_at hl1 2 rfl) ?_
        refine va_sald hx hb hK.1 hP 1 2 rfl rfl (vp_in_nI (by first | assumption | omega) (by first | exact Nat.lt_of_lt_of_le (by assumption) (by decide) | exact Nat.lt_of_le_of_lt (by assumption) (by decide) | omega)) d_Prover_divide_138 ?_
        refine W.eq (g2 := F0 m 139 ls [.int (ro (2 * a9 + tr)), .int (nI rx)]) (by rw [nI_clamp (by first | exact Nat.lt_of_lt_of_le (by assumption) (by decide) | exact Nat.lt_of_le_of_lt (by assumption) (by decide) | omega)]) ?_
        have hro9 : ro (2 * a9 + tr) = nI (rwo (olf ls9) (2 * a9 + tr)) := by first | exact hro _ (by first | assumption | omega) | (rw [upd_ne (by first | assumption | omega)]; exact hro _ (by first | assumption | omega))
        have hrp9 := rwo_pos (o := olf ls9) (d := 2 * a9 + tr)
        have hrq9 := rwo_le (o := olf ls9) (d := 2 * a9 + tr)
        refine W.eq (g2 := F0 m 139 ls [.int (nI (rwo (olf ls9) (2 * a9 + tr))), .int (nI rx)]) (by rw [hro9]) ?_
        clear hro9
        refine lv_icmp_ge (tgt := 152) hx hb d_Prover_divide_139 (by decide) (fun c_32 => ?_) (fun c_32 => ?_)
        · replace c_32 : rwo (olf ls9) (2 * a9 + tr) ≤ rx := (nI_leI (a := rwo (olf ls9) (2 * a9 + tr)) (b := rx) (by first | exact Nat.lt_of_lt_of_le (by assumption) (by decide) | exact Nat.lt_of_le_of_lt (by assumption) (by decide) | omega) (by first | exact Nat.lt_of_lt_of_le (by assumption) (by decide) | exact Nat.lt_of_le_of_lt (by assumption) (by decide) | omega)).mp c_32
          refine lv_aload_n hx hb d_Prover_divide_152 rfl (lv_at hl1 4 rfl) ?_
          refine lv_iload hx hb d_Prover_divide_153 (lv_at hl1 1 rfl) ?_
          refine lv_iload_n hx hb d_Prover_divide_155 rfl (lv_at hl1 7 rfl) ?_
          refine lv_aload_n hx hb d_Prover_divide_156 rfl (lv_at hl1 4 rfl) ?_
          refine va_get (D := D) (ci := 6) (v := .ref q1) (C := R_Prover) (T := F_Prover) (N := 9) hx hb hts i_Prover hown hK.1 hP 0 rfl rfl 5 (by decide) (hts _ wd_184) (fun _ h9 => h9) rfl d_Prover_divide_157 ?_
          refine lv_iload hx hb d_Prover_divide_160 (lv_at hl1 2 rfl) ?_
          refine va_sald hx hb hK.1 hP 1 2 rfl rfl (vp_in_nI (by first | assumption | omega) (by first | exact Nat.lt_of_lt_of_le (by assumption) (by decide) | exact Nat.lt_of_le_of_lt (by assumption) (by decide) | omega)) d_Prover_divide_162 ?_
          refine W.eq (g2 := F0 m 163 ls [.int (ro (2 * a9 + tr)), .int (nI rx), .int (nI (2 * c9 + tr)), .ref p0]) (by rw [nI_clamp (by first | exact Nat.lt_of_lt_of_le (by assumption) (by decide) | exact Nat.lt_of_le_of_lt (by assumption) (by decide) | omega)]) ?_
          have hro9 : ro (2 * a9 + tr) = nI (rwo (olf ls9) (2 * a9 + tr)) := by first | exact hro _ (by first | assumption | omega) | (rw [upd_ne (by first | assumption | omega)]; exact hro _ (by first | assumption | omega))
          have hrp9 := rwo_pos (o := olf ls9) (d := 2 * a9 + tr)
          have hrq9 := rwo_le (o := olf ls9) (d := 2 * a9 + tr)
          refine W.eq (g2 := F0 m 163 ls [.int (nI (rwo (olf ls9) (2 * a9 + tr))), .int (nI rx), .int (nI (2 * c9 + tr)), .ref p0]) (by rw [hro9]) ?_
          clear hro9
          refine lv_isub hx hb d_Prover_divide_163 ?_
          refine lv_topi (fun z_33 ez_33 => ?_)
          have ez_33 : z_33 = nI (rx - (rwo (olf ls9) (2 * a9 + tr))) := ez_33.trans (pk_sub (a := rx) (b := rwo (olf ls9) (2 * a9 + tr)) (by first | assumption | omega))
          subst ez_33
          obtain ⟨hPc, hDc, hFc, hCs⟩ := xw_sub3 (wc := [(p0, .inr (6, [.ref b0, .int s_rows, .int s_atoms, .int s_first, .ref n0, .ref q1, .ref q2, .ref q3, .int (nI wt)])), (q1, .inl (ax 2, rl, .inl ro)), (q2, .inl (ax 0, 64, .inl (fun j => nI (dm j)))), (q3, .inl (ax 0, 64, .inl ix))]) hP hD hS hA [0, 1, 2, 3] (by decide) rfl
          have hz := xz_of hN hS
          refine va_callv (va_runV (As := [.int (nI (2 * c9 + tr)), .int (nI (rx - (rwo (olf ls9) (2 * a9 + tr))))]) (rest := []) ⟨hx, hb, hml, hown, hts⟩ (c_P_ask l D ax p0 q1 q2 q3 wt rl b0 s_rows s_atoms s_first ro ix dm n0 (2 * c9 + tr) (nI (rx - (rwo (olf ls9) (2 * a9 + tr)))) s.heap.size (by first | assumption | omega)) (xcV (n := 2) hts wd_842 wd_6 wd_839 wd_841 ps_34 rfl rfl (by decide +kernel) ⟨Nat.le_of_ble_eq_true rfl, Nat.le_of_ble_eq_true rfl⟩) (xpV (ci := 6) (q0 := 0) (As := [.int (nI (2 * c9 + tr)), .int (nI (rx - (rwo (olf ls9) (2 * a9 + tr))))]) hPc hK hz hDc rfl rfl) rfl rfl hl1.1 rfl (lv_room (Nat.le_of_ble_eq_true rfl)) d_Prover_divide_164 ⟨Nat.le_of_ble_eq_true rfl, Nat.le_of_ble_eq_true rfl⟩) hS (fun q _ h => hFc q h) hFc (fun u_34 t H_35 locs ht hvm hw hB hz1 hk1 hS1 => ?_)
          try dsimp only at hw
          obtain ⟨hP1, hD1⟩ := hB
          rw [ht] at hP1
          have hjn := xw_join3 (wl := [(n0, .inr (4, [.ref n1, .ref n2, .ref n3, .int (nI z9)])), (n1, .inl (ax 1, cp, .inl fo)), (n2, .inl (ax 0, cp, .inl fl)), (n3, .inl (ax 0, cp, .inl fr)), (p0, .inr (6, [.ref b0, .int s_rows, .int s_atoms, .int s_first, .ref n0, .ref q1, .ref q2, .ref q3, .int (nI (wt + 1))])), (q1, .inl (ax 2, rl, .inl ro)), (q2, .inl (ax 0, 64, .inl (fun j => nI ((sup dm wt (2 * c9 + tr)) j)))), (q3, .inl (ax 0, 64, .inl (upd ix wt (nI (rx - (rwo (olf ls9) (2 * a9 + tr)))))))]) hP hD [0, 1, 2, 3] [4, 5, 6, 7] hCs (by decide) (by decide) hk1 hFc hP1 hD1 rfl
          clear hP1 hD1
          clear hPc hDc hFc hCs hz hz1 hk1 ht hvm
          clear hP hD hS
          have hS := hS1
          obtain ⟨hP, hD⟩ := hjn
          clear hS1
          rw [← hQe]
          obtain ⟨hP9, hD9⟩ := xw_sub2 (wc := (fun (u : Nat → Nat) (xdm : Nat → Nat) (xix : Nat → Int32) => [(p0, .inr (6, [.ref b0, .int s_rows, .int s_atoms, .int s_first, .ref n0, .ref q1, .ref q2, .ref q3, .int (nI (u 0))])), (q1, .inl (ax 2, rl, .inl ro)), (q2, .inl (ax 0, 64, .inl (fun j => nI (xdm j)))), (q3, .inl (ax 0, 64, .inl xix)), (n0, .inr (4, [.ref n1, .ref n2, .ref n3, .int (nI z9)])), (n1, .inl (ax 1, cp, .inl fo)), (n2, .inl (ax 0, cp, .inl fl)), (n3, .inl (ax 0, cp, .inl fr))]) (ixn [(wt + 1)]) (sup dm wt (2 * c9 + tr)) (upd ix wt (nI (rx - (rwo (olf ls9) (2 * a9 + tr)))))) hP hD [4, 5, 6, 7, 0, 1, 2, 3] (by decide) rfl
          have hex0 : dvQ8 ls9 (2 * nd + tr) wt rx dm ix (sup dm wt (2 * c9 + tr)) (upd ix wt (nI (rx - (rwo (olf ls9) (2 * a9 + tr))))) ((wt + 1)) := (dvQ8_r hd8 htr (show 7 ≤ (ath ls9 nd).1 by omega) (by first | assumption | omega) (show ¬ (ath ls9 nd).1 + tr = 8 by omega) ea9 (by first | assumption | omega) ec9 rfl)
          have hsp0 : (wt + 1) ≤ wt + 2 := (by first | assumption | omega)
          exact W.vret hx hb hr (fun t ht hW => ⟨⟨ixn [(wt + 1)], rfl, hsp0, ⟨sup dm wt (2 * c9 + tr), (upd ix wt (nI (rx - (rwo (olf ls9) (2 * a9 + tr))))), hex0, by rw [ht]; exact hP9, hD9⟩⟩, hS.F ht⟩) hS.2.2 d_Prover_divide_167
        · replace c_32 : ¬ rwo (olf ls9) (2 * a9 + tr) ≤ rx := fun hq9 => c_32 ((nI_leI (a := rwo (olf ls9) (2 * a9 + tr)) (b := rx) (by first | exact Nat.lt_of_lt_of_le (by assumption) (by decide) | exact Nat.lt_of_le_of_lt (by assumption) (by decide) | omega) (by first | exact Nat.lt_of_lt_of_le (by assumption) (by decide) | exact Nat.lt_of_le_of_lt (by assumption) (by decide) | omega)).mpr hq9)
          refine lv_aload_n hx hb d_Prover_divide_142 rfl (lv_at hl1 4 rfl) ?_
          refine lv_iload hx hb d_Prover_divide_143 (lv_at hl1 2 rfl) ?_
          refine lv_iload_n hx hb d_Prover_divide_145 rfl (lv_at hl1 7 rfl) ?_
          obtain ⟨hPc, hDc, hFc, hCs⟩ := xw_sub3 (wc := [(p0, .inr (6, [.ref b0, .int s_rows, .int s_atoms, .int s_first, .ref n0, .ref q1, .ref q2, .ref q3, .int (nI wt)])), (q1, .inl (ax 2, rl, .inl ro)), (q2, .inl (ax 0, 64, .inl (fun j => nI (dm j)))), (q3, .inl (ax 0, 64, .inl ix))]) hP hD hS hA [0, 1, 2, 3] (by decide) rfl
          have hz := xz_of hN hS
          refine va_callv (va_runV (As := [.int (nI (2 * a9 + tr)), .int (nI rx)]) (rest := []) ⟨hx, hb, hml, hown, hts⟩ (c_P_ask l D ax p0 q1 q2 q3 wt rl b0 s_rows s_atoms s_first ro ix dm n0 (2 * a9 + tr) (nI rx) s.heap.size (by first | assumption | omega)) (xcV (n := 2) hts wd_842 wd_6 wd_839 wd_841 ps_34 rfl rfl (by decide +kernel) ⟨Nat.le_of_ble_eq_true rfl, Nat.le_of_ble_eq_true rfl⟩) (xpV (ci := 6) (q0 := 0) (As := [.int (nI (2 * a9 + tr)), .int (nI rx)]) hPc hK hz hDc rfl rfl) rfl rfl hl1.1 rfl (lv_room (Nat.le_of_ble_eq_true rfl)) d_Prover_divide_146 ⟨Nat.le_of_ble_eq_true rfl, Nat.le_of_ble_eq_true rfl⟩) hS (fun q _ h => hFc q h) hFc (fun u_37 t H_38 locs ht hvm hw hB hz1 hk1 hS1 => ?_)
          try dsimp only at hw
          obtain ⟨hP1, hD1⟩ := hB
          rw [ht] at hP1
          have hjn := xw_join3 (wl := [(n0, .inr (4, [.ref n1, .ref n2, .ref n3, .int (nI z9)])), (n1, .inl (ax 1, cp, .inl fo)), (n2, .inl (ax 0, cp, .inl fl)), (n3, .inl (ax 0, cp, .inl fr)), (p0, .inr (6, [.ref b0, .int s_rows, .int s_atoms, .int s_first, .ref n0, .ref q1, .ref q2, .ref q3, .int (nI (wt + 1))])), (q1, .inl (ax 2, rl, .inl ro)), (q2, .inl (ax 0, 64, .inl (fun j => nI ((sup dm wt (2 * a9 + tr)) j)))), (q3, .inl (ax 0, 64, .inl (upd ix wt (nI rx))))]) hP hD [0, 1, 2, 3] [4, 5, 6, 7] hCs (by decide) (by decide) hk1 hFc hP1 hD1 rfl
          clear hP1 hD1
          clear hPc hDc hFc hCs hz hz1 hk1 ht hvm
          clear hP hD hS
          have hS := hS1
          obtain ⟨hP, hD⟩ := hjn
          clear hS1
          refine lv_goto (tgt := 167) hx hb d_Prover_divide_149 (by decide) ?_
          rw [← hQe]
          obtain ⟨hP9, hD9⟩ := xw_sub2 (wc := (fun (u : Nat → Nat) (xdm : Nat → Nat) (xix : Nat → Int32) => [(p0, .inr (6, [.ref b0, .int s_rows, .int s_atoms, .int s_first, .ref n0, .ref q1, .ref q2, .ref q3, .int (nI (u 0))])), (q1, .inl (ax 2, rl, .inl ro)), (q2, .inl (ax 0, 64, .inl (fun j => nI (xdm j)))), (q3, .inl (ax 0, 64, .inl xix)), (n0, .inr (4, [.ref n1, .ref n2, .ref n3, .int (nI z9)])), (n1, .inl (ax 1, cp, .inl fo)), (n2, .inl (ax 0, cp, .inl fl)), (n3, .inl (ax 0, cp, .inl fr))]) (ixn [(wt + 1)]) (sup dm wt (2 * a9 + tr)) (upd ix wt (nI rx))) hP hD [4, 5, 6, 7, 0, 1, 2, 3] (by decide) rfl
          have hex0 : dvQ8 ls9 (2 * nd + tr) wt rx dm ix (sup dm wt (2 * a9 + tr)) (upd ix wt (nI rx)) ((wt + 1)) := (dvQ8_l hd8 htr (show 7 ≤ (ath ls9 nd).1 by omega) (by first | assumption | omega) (show ¬ (ath ls9 nd).1 + tr = 8 by omega) ea9 (by first | assumption | omega))
          have hsp0 : (wt + 1) ≤ wt + 2 := (by first | assumption | omega)
          exact W.vret hx hb hr (fun t ht hW => ⟨⟨ixn [(wt + 1)], rfl, hsp0, ⟨sup dm wt (2 * a9 + tr), (upd ix wt (nI rx)), hex0, by rw [ht]; exact hP9, hD9⟩⟩, hS.F ht⟩) hS.2.2 d_Prover_divide_167
      · replace c_29 : tr = 1 := (nI_eq (a := tr) (b := 1) (by first | exact Nat.lt_of_lt_of_le (by assumption) (by decide) | exact Nat.lt_of_le_of_lt (by assumption) (by decide) | omega) (by decide)).mp c_29
        refine lv_iconst (v := 1) hx hb d_Prover_divide_75 (by decide) ?_
        refine lv_goto (tgt := 80) hx hb d_Prover_divide_76 (by decide) ?_
        refine lv_icmp_ne (tgt := 87) hx hb d_Prover_divide_80 (by decide) (fun c_40 => ?_) (fun c_40 => ?_)
        · first | exact absurd c_40 (by decide) | exact absurd (by decide) c_40
        refine lv_iconst (v := 1) hx hb d_Prover_divide_83 (by decide) ?_
        refine lv_goto (tgt := 88) hx hb d_Prover_divide_84 (by decide) ?_
        refine lv_istore (lv' := [(7, .int 1), (6, .int (nI (2 * c9 + tr))), (5, .int (nI (2 * a9 + tr))), (4, .int (nI o9)), (0, .ref p0), (1, .int (nI nd)), (2, .int (nI tr)), (3, .int (nI rx))]) hx hb d_Prover_divide_88 hl1 (by decide) rfl (fun ls hl2 => ?_)
        clear hl1; have hl1 := hl2; clear hl2
        refine lv_iload hx hb d_Prover_divide_90 (lv_at hl1 0 rfl) ?_
        refine lv_if_eq (tgt := 131) hx hb d_Prover_divide_92 (by decide) (fun c_41 => ?_) (fun c_41 => ?_)
        · first | exact absurd c_41 (by decide) | exact absurd (by decide) c_41
        refine lv_iconst (v := 1) hx hb d_Prover_divide_95 (by decide) ?_
        refine lv_aload_n hx hb d_Prover_divide_96 rfl (lv_at hl1 4 rfl) ?_
        refine va_get (D := D) (ci := 6) (v := .ref q1) (C := R_Prover) (T := F_Prover) (N := 9) hx hb hts i_Prover hown hK.1 hP 0 rfl rfl 5 (by decide) (hts _ wd_184) (fun _ h9 => h9) rfl d_Prover_divide_97 ?_
        refine lv_iload hx hb d_Prover_divide_100 (lv_at hl1 1 rfl) ?_
        refine va_sald hx hb hK.1 hP 1 2 rfl rfl (vp_in_nI (by first | assumption | omega) (by first | exact Nat.lt_of_lt_of_le (by assumption) (by decide) | exact Nat.lt_of_le_of_lt (by assumption) (by decide) | omega)) d_Prover_divide_102 ?_
        refine W.eq (g2 := F0 m 103 ls [.int (ro (2 * c9 + tr)), .int 1]) (by rw [nI_clamp (by first | exact Nat.lt_of_lt_of_le (by assumption) (by decide) | exact Nat.lt_of_le_of_lt (by assumption) (by decide) | omega)]) ?_
        have hro9 : ro (2 * c9 + tr) = nI (rwo (olf ls9) (2 * c9 + tr)) := by first | exact hro _ (by first | assumption | omega) | (rw [upd_ne (by first | assumption | omega)]; exact hro _ (by first | assumption | omega))
        have hrp9 := rwo_pos (o := olf ls9) (d := 2 * c9 + tr)
        have hrq9 := rwo_le (o := olf ls9) (d := 2 * c9 + tr)
        refine W.eq (g2 := F0 m 103 ls [.int (nI (rwo (olf ls9) (2 * c9 + tr))), .int 1]) (by rw [hro9]) ?_
        clear hro9
        refine va_mmax hx hb (hl1.1.trans hml.symm).symm hown (hts _ wd_867) (hts _ wd_868) (hts _ wd_13) (hts _ wd_869) (Nat.le_of_ble_eq_true rfl) (Nat.le_of_ble_eq_true rfl) (Nat.le_of_ble_eq_true rfl) (Nat.le_of_ble_eq_true rfl) d_Prover_divide_103 ?_
        refine lv_topi (fun z_42 ez_42 => ?_)
        have ez_42 : z_42 = nI (max 1 (rwo (olf ls9) (2 * c9 + tr))) := ez_42.trans (mm_max (a := 1) (b := rwo (olf ls9) (2 * c9 + tr)) (by first | assumption | omega) (by first | assumption | omega))
        subst ez_42
        refine W.eq (g2 := F0 m 106 ls [.int (nI (rwo (olf ls9) (2 * c9 + tr)))]) (by rw [show max 1 (rwo (olf ls9) (2 * c9 + tr)) = rwo (olf ls9) (2 * c9 + tr) by omega]) ?_
        refine lv_istore (lv' := [(8, .int (nI (rwo (olf ls9) (2 * c9 + tr)))), (7, .int 1), (6, .int (nI (2 * c9 + tr))), (5, .int (nI (2 * a9 + tr))), (4, .int (nI o9)), (0, .ref p0), (1, .int (nI nd)), (2, .int (nI tr)), (3, .int (nI rx))]) hx hb d_Prover_divide_106 hl1 (by decide) rfl (fun ls hl2 => ?_)
        clear hl1; have hl1 := hl2; clear hl2
        refine lv_aload_n hx hb d_Prover_divide_108 rfl (lv_at hl1 5 rfl) ?_
        refine lv_iload hx hb d_Prover_divide_109 (lv_at hl1 2 rfl) ?_
        refine lv_iload_n hx hb d_Prover_divide_111 rfl (lv_at hl1 8 rfl) ?_
        refine lv_iload hx hb d_Prover_divide_112 (lv_at hl1 0 rfl) ?_
        refine lv_irem hx hb d_Prover_divide_114 (nI_ne0 (by first | assumption | omega) (by first | assumption | omega)) ?_
        refine lv_topi (fun z_43 ez_43 => ?_)
        have ez_43 : z_43 = nI (rx % (rwo (olf ls9) (2 * c9 + tr))) := ez_43.trans (pk_rem (a := rx) (d := rwo (olf ls9) (2 * c9 + tr)) (by first | assumption | omega) (by first | assumption | omega) (by first | assumption | omega))
        subst ez_43
        obtain ⟨hPc, hDc, hFc, hCs⟩ := xw_sub3 (wc := [(p0, .inr (6, [.ref b0, .int s_rows, .int s_atoms, .int s_first, .ref n0, .ref q1, .ref q2, .ref q3, .int (nI wt)])), (q1, .inl (ax 2, rl, .inl ro)), (q2, .inl (ax 0, 64, .inl (fun j => nI (dm j)))), (q3, .inl (ax 0, 64, .inl ix))]) hP hD hS hA [0, 1, 2, 3] (by decide) rfl
        have hz := xz_of hN hS
        refine va_callv (va_runV (As := [.int (nI (2 * c9 + tr)), .int (nI (rx % (rwo (olf ls9) (2 * c9 + tr))))]) (rest := []) ⟨hx, hb, hml, hown, hts⟩ (c_P_ask l D ax p0 q1 q2 q3 wt rl b0 s_rows s_atoms s_first ro ix dm n0 (2 * c9 + tr) (nI (rx % (rwo (olf ls9) (2 * c9 + tr)))) s.heap.size (by first | assumption | omega)) (xcV (n := 2) hts wd_842 wd_6 wd_839 wd_841 ps_34 rfl rfl (by decide +kernel) ⟨Nat.le_of_ble_eq_true rfl, Nat.le_of_ble_eq_true rfl⟩) (xpV (ci := 6) (q0 := 0) (As := [.int (nI (2 * c9 + tr)), .int (nI (rx % (rwo (olf ls9) (2 * c9 + tr))))]) hPc hK hz hDc rfl rfl) rfl rfl hl1.1 rfl (lv_room (Nat.le_of_ble_eq_true rfl)) d_Prover_divide_115 ⟨Nat.le_of_ble_eq_true rfl, Nat.le_of_ble_eq_true rfl⟩) hS (fun q _ h => hFc q h) hFc (fun u_44 t H_45 locs ht hvm hw hB hz1 hk1 hS1 => ?_)
        try dsimp only at hw
        obtain ⟨hP1, hD1⟩ := hB
        rw [ht] at hP1
        have hjn := xw_join3 (wl := [(n0, .inr (4, [.ref n1, .ref n2, .ref n3, .int (nI z9)])), (n1, .inl (ax 1, cp, .inl fo)), (n2, .inl (ax 0, cp, .inl fl)), (n3, .inl (ax 0, cp, .inl fr)), (p0, .inr (6, [.ref b0, .int s_rows, .int s_atoms, .int s_first, .ref n0, .ref q1, .ref q2, .ref q3, .int (nI (wt + 1))])), (q1, .inl (ax 2, rl, .inl ro)), (q2, .inl (ax 0, 64, .inl (fun j => nI ((sup dm wt (2 * c9 + tr)) j)))), (q3, .inl (ax 0, 64, .inl (upd ix wt (nI (rx % (rwo (olf ls9) (2 * c9 + tr)))))))]) hP hD [0, 1, 2, 3] [4, 5, 6, 7] hCs (by decide) (by decide) hk1 hFc hP1 hD1 rfl
        clear hP1 hD1
        clear hPc hDc hFc hCs hz hz1 hk1 ht hvm
        clear hP hD hS
        have hS := hS1
        obtain ⟨hP, hD⟩ := hjn
        clear hS1
        refine lv_aload_n hx hb d_Prover_divide_118 rfl (lv_at hl1 5 rfl) ?_
        refine lv_iload hx hb d_Prover_divide_119 (lv_at hl1 3 rfl) ?_
        refine lv_iload_n hx hb d_Prover_divide_121 rfl (lv_at hl1 8 rfl) ?_
        refine lv_iload hx hb d_Prover_divide_122 (lv_at hl1 0 rfl) ?_
        refine lv_idiv hx hb d_Prover_divide_124 (nI_ne0 (by first | assumption | omega) (by first | assumption | omega)) ?_
        refine lv_topi (fun z_47 ez_47 => ?_)
        have ez_47 : z_47 = nI (rx / (rwo (olf ls9) (2 * c9 + tr))) := ez_47.trans (pk_div (a := rx) (d := rwo (olf ls9) (2 * c9 + tr)) (by first | assumption | omega) (by first | assumption | omega) (by first | assumption | omega))
        subst ez_47
        obtain ⟨hPc, hDc, hFc, hCs⟩ := xw_sub3 (wc := [(p0, .inr (6, [.ref b0, .int s_rows, .int s_atoms, .int s_first, .ref n0, .ref q1, .ref q2, .ref q3, .int (nI (wt + 1))])), (q1, .inl (ax 2, rl, .inl ro)), (q2, .inl (ax 0, 64, .inl (fun j => nI ((sup dm wt (2 * c9 + tr)) j)))), (q3, .inl (ax 0, 64, .inl (upd ix wt (nI (rx % (rwo (olf ls9) (2 * c9 + tr)))))))]) hP hD hS hA [4, 5, 6, 7] (by decide) rfl
        have hz := xz_of hN hS
        refine va_callv (va_runV (As := [.int (nI (2 * a9 + tr)), .int (nI (rx / (rwo (olf ls9) (2 * c9 + tr))))]) (rest := []) ⟨hx, hb, hml, hown, hts⟩ (c_P_ask l D ax p0 q1 q2 q3 (wt + 1) rl b0 s_rows s_atoms s_first ro (upd ix wt (nI (rx % (rwo (olf ls9) (2 * c9 + tr))))) (sup dm wt (2 * c9 + tr)) n0 (2 * a9 + tr) (nI (rx / (rwo (olf ls9) (2 * c9 + tr)))) H_45.size (by first | assumption | omega)) (xcV (n := 2) hts wd_842 wd_6 wd_839 wd_841 ps_34 rfl rfl (by decide +kernel) ⟨Nat.le_of_ble_eq_true rfl, Nat.le_of_ble_eq_true rfl⟩) (xpV (ci := 6) (q0 := 0) (As := [.int (nI (2 * a9 + tr)), .int (nI (rx / (rwo (olf ls9) (2 * c9 + tr))))]) hPc hK hz hDc rfl rfl) rfl rfl hl1.1 rfl (lv_room (Nat.le_of_ble_eq_true rfl)) d_Prover_divide_125 ⟨Nat.le_of_ble_eq_true rfl, Nat.le_of_ble_eq_true rfl⟩) hS (fun q _ h => hFc q h) hFc (fun u_48 t H_49 locs ht hvm hw hB hz1 hk1 hS1 => ?_)
        try dsimp only at hw
        obtain ⟨hP1, hD1⟩ := hB
        rw [ht] at hP1
        have hjn := xw_join3 (wl := [(n0, .inr (4, [.ref n1, .ref n2, .ref n3, .int (nI z9)])), (n1, .inl (ax 1, cp, .inl fo)), (n2, .inl (ax 0, cp, .inl fl)), (n3, .inl (ax 0, cp, .inl fr)), (p0, .inr (6, [.ref b0, .int s_rows, .int s_atoms, .int s_first, .ref n0, .ref q1, .ref q2, .ref q3, .int (nI (wt + 2))])), (q1, .inl (ax 2, rl, .inl ro)), (q2, .inl (ax 0, 64, .inl (fun j => nI ((sup (sup dm wt (2 * c9 + tr)) (wt + 1) (2 * a9 + tr)) j)))), (q3, .inl (ax 0, 64, .inl (upd (upd ix wt (nI (rx % (rwo (olf ls9) (2 * c9 + tr))))) (wt + 1) (nI (rx / (rwo (olf ls9) (2 * c9 + tr)))))))]) hP hD [4, 5, 6, 7] [0, 1, 2, 3] hCs (by decide) (by decide) hk1 hFc hP1 hD1 rfl
        clear hP1 hD1
        clear hPc hDc hFc hCs hz hz1 hk1 ht hvm
        clear hP hD hS
        have hS := hS1
        obtain ⟨hP, hD⟩ := hjn
        clear hS1
        refine lv_goto (tgt := 167) hx hb d_Prover_divide_128 (by decide) ?_
        rw [← hQe]
        obtain ⟨hP9, hD9⟩ := xw_sub2 (wc := (fun (u : Nat → Nat) (xdm : Nat → Nat) (xix : Nat → Int32) => [(p0, .inr (6, [.ref b0, .int s_rows, .int s_atoms, .int s_first, .ref n0, .ref q1, .ref q2, .ref q3, .int (nI (u 0))])), (q1, .inl (ax 2, rl, .inl ro)), (q2, .inl (ax 0, 64, .inl (fun j => nI (xdm j)))), (q3, .inl (ax 0, 64, .inl xix)), (n0, .inr (4, [.ref n1, .ref n2, .ref n3, .int (nI z9)])), (n1, .inl (ax 1, cp, .inl fo)), (n2, .inl (ax 0, cp, .inl fl)), (n3, .inl (ax 0, cp, .inl fr))]) (ixn [(wt + 2)]) (sup (sup dm wt (2 * c9 + tr)) (wt + 1) (2 * a9 + tr)) (upd (upd ix wt (nI (rx % (rwo (olf ls9) (2 * c9 + tr))))) (wt + 1) (nI (rx / (rwo (olf ls9) (2 * c9 + tr)))))) hP hD [4, 5, 6, 7, 0, 1, 2, 3] (by decide) rfl
        have hex0 : dvQ8 ls9 (2 * nd + tr) wt rx dm ix (sup (sup dm wt (2 * c9 + tr)) (wt + 1) (2 * a9 + tr)) (upd (upd ix wt (nI (rx % (rwo (olf ls9) (2 * c9 + tr))))) (wt + 1) (nI (rx / (rwo (olf ls9) (2 * c9 + tr))))) ((wt + 2)) := (dvQ8_y hd8 htr (show 7 ≤ (ath ls9 nd).1 by omega) (by first | assumption | omega) (show (ath ls9 nd).1 + tr = 8 by omega) ea9 ec9 rfl rfl)
        have hsp0 : (wt + 2) ≤ wt + 2 := (by first | assumption | omega)
        exact W.vret hx hb hr (fun t ht hW => ⟨⟨ixn [(wt + 2)], rfl, hsp0, ⟨sup (sup dm wt (2 * c9 + tr)) (wt + 1) (2 * a9 + tr), (upd (upd ix wt (nI (rx % (rwo (olf ls9) (2 * c9 + tr))))) (wt + 1) (nI (rx / (rwo (olf ls9) (2 * c9 + tr))))), hex0, by rw [ht]; exact hP9, hD9⟩⟩, hS.F ht⟩) hS.2.2 d_Prover_divide_167
  · replace c_3 : o9 = 6 := (nI_eq (a := o9) (b := 6) (by first | exact Nat.lt_of_lt_of_le (by assumption) (by decide) | exact Nat.lt_of_le_of_lt (by assumption) (by decide) | omega) (by decide)).mp c_3
    have ea9 := pr_n hnl (by first | assumption | omega) hop9 (by first | assumption | omega) ha1 (by first | assumption | omega) ha2
    refine lv_aload_n hx hb d_Prover_divide_33 rfl (lv_at hl1 2 rfl) ?_
    refine lv_iload hx hb d_Prover_divide_34 (lv_at hl1 0 rfl) ?_
    refine lv_iconst (v := 1) hx hb d_Prover_divide_36 (by decide) ?_
    refine lv_ixor hx hb d_Prover_divide_37 ?_
    refine lv_topi (fun z_51 ez_51 => ?_)
    have ez_51 : z_51 = nI (2 * a9 + (1 - tr)) := ez_51.trans (nb_xor1 (by first | assumption | omega))
    subst ez_51
    refine lv_iload_n hx hb d_Prover_divide_38 rfl (lv_at hl1 5 rfl) ?_
    obtain ⟨hPc, hDc, hFc, hCs⟩ := xw_sub3 (wc := [(p0, .inr (6, [.ref b0, .int s_rows, .int s_atoms, .int s_first, .ref n0, .ref q1, .ref q2, .ref q3, .int (nI wt)])), (q1, .inl (ax 2, rl, .inl ro)), (q2, .inl (ax 0, 64, .inl (fun j => nI (dm j)))), (q3, .inl (ax 0, 64, .inl ix))]) hP hD hS hA [0, 1, 2, 3] (by decide) rfl
    have hz := xz_of hN hS
    refine va_callv (va_runV (As := [.int (nI (2 * a9 + (1 - tr))), .int (nI rx)]) (rest := []) ⟨hx, hb, hml, hown, hts⟩ (c_P_ask l D ax p0 q1 q2 q3 wt rl b0 s_rows s_atoms s_first ro ix dm n0 (2 * a9 + (1 - tr)) (nI rx) s.heap.size (by first | assumption | omega)) (xcV (n := 2) hts wd_842 wd_6 wd_839 wd_841 ps_34 rfl rfl (by decide +kernel) ⟨Nat.le_of_ble_eq_true rfl, Nat.le_of_ble_eq_true rfl⟩) (xpV (ci := 6) (q0 := 0) (As := [.int (nI (2 * a9 + (1 - tr))), .int (nI rx)]) hPc hK hz hDc rfl rfl) rfl rfl hl1.1 rfl (lv_room (Nat.le_of_ble_eq_true rfl)) d_Prover_divide_39 ⟨Nat.le_of_ble_eq_true rfl, Nat.le_of_ble_eq_true rfl⟩) hS (fun q _ h => hFc q h) hFc (fun u_52 t H_53 locs ht hvm hw hB hz1 hk1 hS1 => ?_)
    try dsimp only at hw
    obtain ⟨hP1, hD1⟩ := hB
    rw [ht] at hP1
    have hjn := xw_join3 (wl := [(n0, .inr (4, [.ref n1, .ref n2, .ref n3, .int (nI z9)])), (n1, .inl (ax 1, cp, .inl fo)), (n2, .inl (ax 0, cp, .inl fl)), (n3, .inl (ax 0, cp, .inl fr)), (p0, .inr (6, [.ref b0, .int s_rows, .int s_atoms, .int s_first, .ref n0, .ref q1, .ref q2, .ref q3, .int (nI (wt + 1))])), (q1, .inl (ax 2, rl, .inl ro)), (q2, .inl (ax 0, 64, .inl (fun j => nI ((sup dm wt (2 * a9 + (1 - tr))) j)))), (q3, .inl (ax 0, 64, .inl (upd ix wt (nI rx))))]) hP hD [0, 1, 2, 3] [4, 5, 6, 7] hCs (by decide) (by decide) hk1 hFc hP1 hD1 rfl
    clear hP1 hD1
    clear hPc hDc hFc hCs hz hz1 hk1 ht hvm
    clear hP hD hS
    have hS := hS1
    obtain ⟨hP, hD⟩ := hjn
    clear hS1
    rw [← hQe]
    obtain ⟨hP9, hD9⟩ := xw_sub2 (wc := (fun (u : Nat → Nat) (xdm : Nat → Nat) (xix : Nat → Int32) => [(p0, .inr (6, [.ref b0, .int s_rows, .int s_atoms, .int s_first, .ref n0, .ref q1, .ref q2, .ref q3, .int (nI (u 0))])), (q1, .inl (ax 2, rl, .inl ro)), (q2, .inl (ax 0, 64, .inl (fun j => nI (xdm j)))), (q3, .inl (ax 0, 64, .inl xix)), (n0, .inr (4, [.ref n1, .ref n2, .ref n3, .int (nI z9)])), (n1, .inl (ax 1, cp, .inl fo)), (n2, .inl (ax 0, cp, .inl fl)), (n3, .inl (ax 0, cp, .inl fr))]) (ixn [(wt + 1)]) (sup dm wt (2 * a9 + (1 - tr))) (upd ix wt (nI rx))) hP hD [4, 5, 6, 7, 0, 1, 2, 3] (by decide) rfl
    have hex0 : dvQ8 ls9 (2 * nd + tr) wt rx dm ix (sup dm wt (2 * a9 + (1 - tr))) (upd ix wt (nI rx)) ((wt + 1)) := (dvQ8_n hd8 htr (show (ath ls9 nd).1 = 6 by omega) (by first | assumption | omega) ea9)
    have hsp0 : (wt + 1) ≤ wt + 2 := (by first | assumption | omega)
    exact W.vret hx hb hr (fun t ht hW => ⟨⟨ixn [(wt + 1)], rfl, hsp0, ⟨sup dm wt (2 * a9 + (1 - tr)), (upd ix wt (nI rx)), hex0, by rw [ht]; exact hP9, hD9⟩⟩, hS.F ht⟩) hS.2.2 d_Prover_divide_42
