theorem ps_32 : Cond.selects "TripleDesk$Prover" ⟨"TripleDesk$Prover", "countNode", "(I)V"⟩ ⟨"TripleDesk$Prover", "countNode", "(I)V"⟩ ∈ lw_gd := ps_in (q := (⟨"TripleDesk$Prover", "countNode", "(I)V"⟩, 9)) (i := 32) (by decide +kernel)
theorem wd_207 : ((Jvm.Cond.arrayClass Jvm.ClassFile.FieldType.short)) ∈ lw_gd := lw_gd_in (i := 207) (by decide +kernel) rfl
theorem wd_818 : ((Jvm.Cond.methodLink "TripleDesk$Prover" (46 : Nat) ({ cls := "TripleDesk$Prover", name := "countNode", desc := "(I)V" } : Jvm.MethodName))) ∈ lw_gd := lw_gd_in (i := 818) (by decide +kernel) rfl
theorem wd_820 : ((Jvm.Cond.instanceMethod ({ cls := "TripleDesk$Prover", name := "countNode", desc := "(I)V" } : Jvm.MethodName))) ∈ lw_gd := lw_gd_in (i := 820) (by decide +kernel) rfl
theorem wd_821 : ((Jvm.Cond.code ({ cls := "TripleDesk$Prover", name := "countNode", desc := "(I)V" } : Jvm.MethodName) prog_8_method_3_code (9 : Nat) (Option.none : Option Jvm.ClassFile.FieldType))) ∈ lw_gd := lw_gd_in (i := 821) (by decide +kernel) rfl
/-- the rows' array is as long as twice the nodes', or no longer than they are -/
def rlo (rl cp : Nat) : Prop := rl = 2 * cp ∨ rl ≤ cp
theorem rlo.lt {rl cp : Nat} (h : rlo rl cp) (q : rl < 2 * cp) : rl ≤ cp := by
  rcases h with h | h
  · omega
  · exact h
theorem rlo.le {rl cp : Nat} (h : rlo rl cp) : rl ≤ 2 * cp := by
  rcases h with h | h <;> omega
theorem rlo.up {rl cp cp' : Nat} (h : rlo rl cp) (k : dbl cp cp') : rlo rl cp' := by
  unfold rlo dbl at *; omega
abbrev b_Prover_count : ByteArray := prog_8_method_2_code
def y_Prover_count : MethodName := ⟨R_Prover, "count", "(LTripleDesk$Nodes;)V"⟩
theorem d_Prover_count_0 : decode b_Prover_count 0 = .ok (.aload_n 0, 1) := by decide +kernel
theorem d_Prover_count_1 : decode b_Prover_count 1 = .ok (.aload_n 1, 1) := by decide +kernel
theorem d_Prover_count_2 : decode b_Prover_count 2 = .ok (.putfield 29, 3) := by decide +kernel
theorem d_Prover_count_5 : decode b_Prover_count 5 = .ok (.aload_n 0, 1) := by decide +kernel
theorem d_Prover_count_6 : decode b_Prover_count 6 = .ok (.getfield 18, 3) := by decide +kernel
theorem d_Prover_count_9 : decode b_Prover_count 9 = .ok (.arraylength, 1) := by decide +kernel
theorem d_Prover_count_10 : decode b_Prover_count 10 = .ok (.iconst 2, 1) := by decide +kernel
theorem d_Prover_count_11 : decode b_Prover_count 11 = .ok (.aload_n 1, 1) := by decide +kernel
theorem d_Prover_count_12 : decode b_Prover_count 12 = .ok (.getfield 33, 3) := by decide +kernel
theorem d_Prover_count_15 : decode b_Prover_count 15 = .ok (.imul, 1) := by decide +kernel
theorem d_Prover_count_16 : decode b_Prover_count 16 = .ok (.if_icmp .ge 16, 3) := by decide +kernel
theorem d_Prover_count_19 : decode b_Prover_count 19 = .ok (.aload_n 0, 1) := by decide +kernel
theorem d_Prover_count_20 : decode b_Prover_count 20 = .ok (.iconst 2, 1) := by decide +kernel
theorem d_Prover_count_21 : decode b_Prover_count 21 = .ok (.aload_n 1, 1) := by decide +kernel
theorem d_Prover_count_22 : decode b_Prover_count 22 = .ok (.getfield 39, 3) := by decide +kernel
theorem d_Prover_count_25 : decode b_Prover_count 25 = .ok (.arraylength, 1) := by decide +kernel
theorem d_Prover_count_26 : decode b_Prover_count 26 = .ok (.imul, 1) := by decide +kernel
theorem d_Prover_count_27 : decode b_Prover_count 27 = .ok (.newarray .short, 2) := by decide +kernel
theorem d_Prover_count_29 : decode b_Prover_count 29 = .ok (.putfield 18, 3) := by decide +kernel
theorem d_Prover_count_32 : decode b_Prover_count 32 = .ok (.aload_n 0, 1) := by decide +kernel
theorem d_Prover_count_33 : decode b_Prover_count 33 = .ok (.iconst 0, 1) := by decide +kernel
theorem d_Prover_count_34 : decode b_Prover_count 34 = .ok (.putfield 43, 3) := by decide +kernel
theorem d_Prover_count_37 : decode b_Prover_count 37 = .ok (.iconst 0, 1) := by decide +kernel
theorem d_Prover_count_38 : decode b_Prover_count 38 = .ok (.istore_n 2, 1) := by decide +kernel
theorem d_Prover_count_39 : decode b_Prover_count 39 = .ok (.iload_n 2, 1) := by decide +kernel
theorem d_Prover_count_40 : decode b_Prover_count 40 = .ok (.aload_n 1, 1) := by decide +kernel
theorem d_Prover_count_41 : decode b_Prover_count 41 = .ok (.getfield 33, 3) := by decide +kernel
theorem d_Prover_count_44 : decode b_Prover_count 44 = .ok (.if_icmp .ge 14, 3) := by decide +kernel
theorem d_Prover_count_47 : decode b_Prover_count 47 = .ok (.aload_n 0, 1) := by decide +kernel
theorem d_Prover_count_48 : decode b_Prover_count 48 = .ok (.iload_n 2, 1) := by decide +kernel
theorem d_Prover_count_49 : decode b_Prover_count 49 = .ok (.invokevirtual 46, 3) := by decide +kernel
theorem d_Prover_count_52 : decode b_Prover_count 52 = .ok (.iinc 2 1, 3) := by decide +kernel
theorem d_Prover_count_55 : decode b_Prover_count 55 = .ok (.goto (-16), 3) := by decide +kernel
theorem d_Prover_count_58 : decode b_Prover_count 58 = .ok (.aload_n 0, 1) := by decide +kernel
theorem d_Prover_count_59 : decode b_Prover_count 59 = .ok (.aload_n 0, 1) := by decide +kernel
theorem d_Prover_count_60 : decode b_Prover_count 60 = .ok (.getfield 18, 3) := by decide +kernel
theorem d_Prover_count_63 : decode b_Prover_count 63 = .ok (.iconst 2, 1) := by decide +kernel
theorem d_Prover_count_64 : decode b_Prover_count 64 = .ok (.aload_n 1, 1) := by decide +kernel
theorem d_Prover_count_65 : decode b_Prover_count 65 = .ok (.invokevirtual 50, 3) := by decide +kernel
theorem d_Prover_count_68 : decode b_Prover_count 68 = .ok (.imul, 1) := by decide +kernel
theorem d_Prover_count_69 : decode b_Prover_count 69 = .ok (.saload, 1) := by decide +kernel
theorem d_Prover_count_70 : decode b_Prover_count 70 = .ok (.putfield 54, 3) := by decide +kernel
theorem d_Prover_count_73 : decode b_Prover_count 73 = .ok (.return_, 1) := by decide +kernel
set_option maxHeartbeats 40000000 in
set_option maxRecDepth 100000 in
theorem c_P_count (l : Launch) (D : va_G) (ax : Nat → ClassId) (p0 q1 q2 q3 wt rl b0 : Nat) (s_rows s_atoms s_first : Int32) (ro ix : Nat → Int32) (dm : Nat → Nat) (n0 n1 n2 n3 cp z9 : Nat) (fo fl fr : Nat → Int32) (vf : Value) (ls9 : List sgT) (sz tz : Nat) (hz1 : 1 ≤ z9) (hz9 : z9 ≤ cp) (hcp : cp ≤ 100000) (hrlo : rlo rl cp) (hnv : ndv fo fl fr z9) (hnl : ndl fo fl fr ls9) (hll : ls9.length = z9) (hnb9 : nbl 21483 ls9) : Met l y_Prover_count (xws (.code y_Prover_count b_Prover_count 3 none)) ({ frames := 30, cells := 1, slots := 2 * cp, locals := 1200 }) (va_Pc [.ref p0, .ref n0] (xo3 D ax [(p0, .inr (6, [.ref b0, .int s_rows, .int s_atoms, .int s_first, vf, .ref q1, .ref q2, .ref q3, .int (nI wt)])), (q1, .inl (ax 2, rl, .inl ro)), (q2, .inl (ax 0, 64, .inl (fun j => nI (dm j)))), (q3, .inl (ax 0, 64, .inl ix)), (n0, .inr (4, [.ref n1, .ref n2, .ref n3, .int (nI z9)])), (n1, .inl (ax 1, cp, .inl fo)), (n2, .inl (ax 0, cp, .inl fl)), (n3, .inl (ax 0, cp, .inl fr))] sz tz)) ((va_Qv (fun (u : Nat → Nat) => (2 * z9 ≤ u 1 ∧ rl ≤ u 1 ∧ rlo (u 1) cp ∧ u 2 = rwl8 ls9 ∧ u 3 = atn8 (olf ls9) z9)) (fun (u : Nat → Nat) (t9 : State) => ∃ xro : Nat → Int32, (t9.heap.size ≤ sz + (u 1 - rl)) ∧ (tsl t9.heap ≤ tz + (2 * (u 1 - rl))) ∧ (roQ8 ls9 z9 xro) ∧ va_P D classes [(p0, .inr (6, [.ref b0, .int (nI (u 2)), .int (nI (u 3)), .int s_first, .ref n0, .ref (u 0), .ref q2, .ref q3, .int (nI wt)])), (u 0, .inl (ax 2, u 1, .inl xro)), (q2, .inl (ax 0, 64, .inl (fun j => nI (dm j)))), (q3, .inl (ax 0, 64, .inl ix)), (n0, .inr (4, [.ref n1, .ref n2, .ref n3, .int (nI z9)])), (n1, .inl (ax 1, cp, .inl fo)), (n2, .inl (ax 0, cp, .inl fl)), (n3, .inl (ax 0, cp, .inl fr))] t9.heap ∧ va_D (va_A [(p0, .inr (6, [.ref b0, .int s_rows, .int s_atoms, .int s_first, vf, .ref q1, .ref q2, .ref q3, .int (nI wt)])), (q1, .inl (ax 2, rl, .inl ro)), (q2, .inl (ax 0, 64, .inl (fun j => nI (dm j)))), (q3, .inl (ax 0, 64, .inl ix)), (n0, .inr (4, [.ref n1, .ref n2, .ref n3, .int (nI z9)])), (n1, .inl (ax 1, cp, .inl fo)), (n2, .inl (ax 0, cp, .inl fl)), (n3, .inl (ax 0, cp, .inl fr))] sz) [(p0, .inr (6, [.ref b0, .int (nI (u 2)), .int (nI (u 3)), .int s_first, .ref n0, .ref (u 0), .ref q2, .ref q3, .int (nI wt)])), (u 0, .inl (ax 2, u 1, .inl xro)), (q2, .inl (ax 0, 64, .inl (fun j => nI (dm j)))), (q3, .inl (ax 0, 64, .inl ix)), (n0, .inr (4, [.ref n1, .ref n2, .ref n3, .int (nI z9)])), (n1, .inl (ax 1, cp, .inl fo)), (n2, .inl (ax 0, cp, .inl fl)), (n3, .inl (ax 0, cp, .inl fr))]) (va_A [(p0, .inr (6, [.ref b0, .int s_rows, .int s_atoms, .int s_first, vf, .ref q1, .ref q2, .ref q3, .int (nI wt)])), (q1, .inl (ax 2, rl, .inl ro)), (q2, .inl (ax 0, 64, .inl (fun j => nI (dm j)))), (q3, .inl (ax 0, 64, .inl ix)), (n0, .inr (4, [.ref n1, .ref n2, .ref n3, .int (nI z9)])), (n1, .inl (ax 1, cp, .inl fo)), (n2, .inl (ax 0, cp, .inl fl)), (n3, .inl (ax 0, cp, .inl fr))] sz))) 1 (2 * cp) (va_A [(p0, .inr (6, [.ref b0, .int s_rows, .int s_atoms, .int s_first, vf, .ref q1, .ref q2, .ref q3, .int (nI wt)])), (q1, .inl (ax 2, rl, .inl ro)), (q2, .inl (ax 0, 64, .inl (fun j => nI (dm j)))), (q3, .inl (ax 0, 64, .inl ix)), (n0, .inr (4, [.ref n1, .ref n2, .ref n3, .int (nI z9)])), (n1, .inl (ax 1, cp, .inl fo)), (n2, .inl (ax 0, cp, .inl fl)), (n3, .inl (ax 0, cp, .inl fr))] sz) := by
  refine Met.ofW (cc := b_Prover_count) (maxL := 3) (ret := none) (by decide) rfl ?_
  intro p e s m args below meth c s₁ B hml hv
  obtain ⟨rfl, ⟨hsz, hP, hK, hD0⟩, htz⟩ := hv
  have hx := B.exec
  have hb := B.bytes
  have hr := B.returns
  have hts := xw_hts B.pre
  have hown : s.vm.findClass R_Prover = some m.cls := findClass_of_methodNamed B.named
  have hlocks := B.notSynchronized
  subst hsz
  subst htz
  have hD := hD0.self (sz := s.heap.size)
  have hN := xz_entry hP
  generalize hAe : va_A [(p0, .inr (6, [.ref b0, .int s_rows, .int s_atoms, .int s_first, vf, .ref q1, .ref q2, .ref q3, .int (nI wt)])), (q1, .inl (ax 2, rl, .inl ro)), (q2, .inl (ax 0, 64, .inl (fun j => nI (dm j)))), (q3, .inl (ax 0, 64, .inl ix)), (n0, .inr (4, [.ref n1, .ref n2, .ref n3, .int (nI z9)])), (n1, .inl (ax 1, cp, .inl fo)), (n2, .inl (ax 0, cp, .inl fl)), (n3, .inl (ax 0, cp, .inl fr))] s.heap.size = A at hD hN ⊢
  have hA : ∀ q : Nat, s.heap.size ≤ q → A q := fun q h => by rw [← hAe]; exact Or.inr h
  have hS : va_S A s.heap s.heap [] := va_S.rf
  have hl0 := lv_entry ([.ref p0, .ref n0]) (n := 3) (Nat.le_of_ble_eq_true rfl)
  rw [lg_entry_eq]
  generalize (lg_sl ([.ref p0, .ref n0]) ++ List.replicate (3 - (lg_sl ([.ref p0, .ref n0])).length) Slot.unset).toArray = ls at hl0 ⊢
  have hl1 : lv_has ls 3 [(0, .ref p0), (1, .ref n0)] := hl0
  refine xw_gen (fun Z9 hQe => ?_)
  have hrle := hrlo.le
  refine lv_aload_n hx hb d_Prover_count_0 rfl (lv_at hl1 0 rfl) ?_
  refine lv_aload_n hx hb d_Prover_count_1 rfl (lv_at hl1 1 rfl) ?_
  refine va_put (D := D) (ci := 6) (v := .ref n0) (ty := .object "TripleDesk$Nodes") (C := R_Prover) (T := F_Prover) (N := 9) hx hb hts i_Prover t_Prover t_Prover_ok n_Prover hown hK.1 hP hD hS 0 rfl rfl 4 (by decide) (hts _ wd_183) (fun _ h9 => h9) rfl (by decide +kernel) rfl rfl (Nat.le_of_ble_eq_true rfl) d_Prover_count_2 (fun H_1 locs hP1 hD1 hS1 => ?_)
  clear hP hD hS
  have hS := hS1
  have hW7 : (fun w9 : va_W => va_P D classes w9 H_1 ∧ va_D A w9) [(p0, .inr (6, [.ref b0, .int s_rows, .int s_atoms, .int s_first, .ref n0, .ref q1, .ref q2, .ref q3, .int (nI wt)])), (q1, .inl (ax 2, rl, .inl ro)), (q2, .inl (ax 0, 64, .inl (fun j => nI (dm j)))), (q3, .inl (ax 0, 64, .inl ix)), (n0, .inr (4, [.ref n1, .ref n2, .ref n3, .int (nI z9)])), (n1, .inl (ax 1, cp, .inl fo)), (n2, .inl (ax 0, cp, .inl fl)), (n3, .inl (ax 0, cp, .inl fr))] := ⟨hP1, hD1⟩
  obtain ⟨hP, hD⟩ := hW7
  clear hP1 hD1 hS1
  refine lv_aload_n hx hb d_Prover_count_5 rfl (lv_at hl1 0 rfl) ?_
  refine va_get (D := D) (ci := 6) (v := .ref q1) (C := R_Prover) (T := F_Prover) (N := 9) hx hb hts i_Prover hown hK.1 hP 0 rfl rfl 5 (by decide) (hts _ wd_184) (fun _ h9 => h9) rfl d_Prover_count_6 ?_
  refine va_alen hx hb hK.1 hP 1 2 rfl rfl (v := _) rfl d_Prover_count_9 ?_
  refine lv_iconst (v := 2) hx hb d_Prover_count_10 (by decide) ?_
  refine lv_aload_n hx hb d_Prover_count_11 rfl (lv_at hl1 1 rfl) ?_
  refine va_get (D := D) (ci := 4) (v := .int (nI z9)) (C := R_Nodes) (T := F_Nodes) (N := 4) hx hb hts i_Nodes hown hK.1 hP 4 rfl rfl 3 (by decide) (hts _ wd_119) (fun _ h9 => h9) rfl d_Prover_count_12 ?_
  refine lv_imul hx hb d_Prover_count_15 ?_
  refine lv_topi (fun z_2 ez_2 => ?_)
  have ez_2 : z_2 = nI (2 * z9) := ez_2.trans (pk_mul 2 z9)
  subst ez_2
  refine lv_icmp_ge (tgt := 32) hx hb d_Prover_count_16 (by decide) (fun c_3 => ?_) (fun c_3 => ?_)
  · replace c_3 : 2 * z9 ≤ rl := (nI_leI (a := 2 * z9) (b := rl) (by first | exact Nat.lt_of_lt_of_le (by assumption) (by decide) | exact Nat.lt_of_le_of_lt (by assumption) (by decide) | omega) (by first | exact Nat.lt_of_lt_of_le (by assumption) (by decide) | exact Nat.lt_of_le_of_lt (by assumption) (by decide) | omega)).mp c_3
    refine lv_aload_n hx hb d_Prover_count_32 rfl (lv_at hl1 0 rfl) ?_
    refine lv_iconst (v := 0) hx hb d_Prover_count_33 (by decide) ?_
    refine va_put (D := D) (ci := 6) (v := .int 0) (ty := .int) (C := R_Prover) (T := F_Prover) (N := 9) hx hb hts i_Prover t_Prover t_Prover_ok n_Prover hown hK.1 hP hD hS 0 rfl rfl 2 (by decide) (hts _ wd_179) (fun _ h9 => h9) rfl (by decide +kernel) rfl rfl (Nat.le_of_ble_eq_true rfl) d_Prover_count_34 (fun H_4 locs hP1 hD1 hS1 => ?_)
    clear hP hD hS
    have hS := hS1
    have hW7 : (fun w9 : va_W => va_P D classes w9 H_4 ∧ va_D A w9) [(p0, .inr (6, [.ref b0, .int s_rows, .int 0, .int s_first, .ref n0, .ref q1, .ref q2, .ref q3, .int (nI wt)])), (q1, .inl (ax 2, rl, .inl ro)), (q2, .inl (ax 0, 64, .inl (fun j => nI (dm j)))), (q3, .inl (ax 0, 64, .inl ix)), (n0, .inr (4, [.ref n1, .ref n2, .ref n3, .int (nI z9)])), (n1, .inl (ax 1, cp, .inl fo)), (n2, .inl (ax 0, cp, .inl fl)), (n3, .inl (ax 0, cp, .inl fr))] := ⟨hP1, hD1⟩
    obtain ⟨hP, hD⟩ := hW7
    clear hP1 hD1 hS1
    refine lv_iconst (v := 0) hx hb d_Prover_count_37 (by decide) ?_
    refine lv_istore_n (lv' := [(2, .int 0), (0, .ref p0), (1, .ref n0)]) hx hb d_Prover_count_38 rfl hl1 (by decide) rfl (fun ls hl2 => ?_)
    clear hl1; have hl1 := hl2; clear hl2
    have hle1 : 2 * z9 ≤ rl := by omega
    have hle2 : rl ≤ 300000 := by have := hrlo.le; omega
    suffices key_5 : ∀ (k : Nat) (i1 an1 : Nat) (ro1 : Nat → Int32), z9 - i1 < k → i1 ≤ z9 → roQ8 ls9 i1 ro1 → an1 = atn8 (olf ls9) i1 → ∀ (H : Heap) (locs : List Loc) (ls : Array Slot), va_P D classes [(q2, .inl (ax 0, 64, .inl (fun j => nI (dm j)))), (q3, .inl (ax 0, 64, .inl ix)), (n0, .inr (4, [.ref n1, .ref n2, .ref n3, .int (nI z9)])), (n1, .inl (ax 1, cp, .inl fo)), (n2, .inl (ax 0, cp, .inl fl)), (n3, .inl (ax 0, cp, .inl fr)), (p0, .inr (6, [.ref b0, .int s_rows, .int (nI an1), .int s_first, .ref n0, .ref q1, .ref q2, .ref q3, .int (nI wt)])), (q1, .inl (ax 2, rl, .inl ro1))] H → va_D A [(q2, .inl (ax 0, 64, .inl (fun j => nI (dm j)))), (q3, .inl (ax 0, 64, .inl ix)), (n0, .inr (4, [.ref n1, .ref n2, .ref n3, .int (nI z9)])), (n1, .inl (ax 1, cp, .inl fo)), (n2, .inl (ax 0, cp, .inl fl)), (n3, .inl (ax 0, cp, .inl fr)), (p0, .inr (6, [.ref b0, .int s_rows, .int (nI an1), .int s_first, .ref n0, .ref q1, .ref q2, .ref q3, .int (nI wt)])), (q1, .inl (ax 2, rl, .inl ro1))] → va_S A s.heap H locs → lv_has ls 3 [(0, .ref p0), (1, .ref n0), (2, .int (nI i1))] → W p l e (headSpec (xws (.code y_Prover_count b_Prover_count 3 none)) ({ frames := 30, cells := 1, slots := 2 * cp, locals := 1200 })).room s m ([.ref p0, .ref n0] : List Value).toArray below meth c H locs 0 0 Z9 (F0 m 39 ls []) from key_5 (z9 - 0 + 1) 0 0 ro (Nat.lt_succ_self _) (by first | assumption | omega) (fun d hd => absurd hd (by first | assumption | omega)) rfl _ _ _ (hP.sub [2, 3, 4, 5, 6, 7, 0, 1] rfl) (hD.sub [2, 3, 4, 5, 6, 7, 0, 1] (by decide) rfl) hS (lv_sub hl1 [1, 2, 0] rfl)
    intro k_6
    induction k_6 with
    | zero =>
      intro i1 an1 ro1 hk_8
      exact absurd hk_8 (Nat.not_lt_zero _)
    | succ k_6 ih_7 =>
      clear hP hD hS hl1
      intro i1 an1 ro1 hk_8 hi1 hro1 han1 H locs ls hP hD hS hl1
      refine lv_iload_n hx hb d_Prover_count_39 rfl (lv_at hl1 2 rfl) ?_
      refine lv_aload_n hx hb d_Prover_count_40 rfl (lv_at hl1 1 rfl) ?_
      refine va_get (D := D) (ci := 4) (v := .int (nI z9)) (C := R_Nodes) (T := F_Nodes) (N := 4) hx hb hts i_Nodes hown hK.1 hP 2 rfl rfl 3 (by decide) (hts _ wd_119) (fun _ h9 => h9) rfl d_Prover_count_41 ?_
      refine lv_icmp_ge (tgt := 58) hx hb d_Prover_count_44 (by decide) (fun c_9 => ?_) (fun c_9 => ?_)
      · replace c_9 : z9 ≤ i1 := (nI_leI (a := z9) (b := i1) (by first | exact Nat.lt_of_lt_of_le (by assumption) (by decide) | exact Nat.lt_of_le_of_lt (by assumption) (by decide) | omega) (by first | exact Nat.lt_of_lt_of_le (by assumption) (by decide) | exact Nat.lt_of_le_of_lt (by assumption) (by decide) | omega)).mp c_9
        refine lv_aload_n hx hb d_Prover_count_58 rfl (lv_at hl1 0 rfl) ?_
        refine lv_aload_n hx hb d_Prover_count_59 rfl (lv_at hl1 0 rfl) ?_
        refine va_get (D := D) (ci := 6) (v := .ref q1) (C := R_Prover) (T := F_Prover) (N := 9) hx hb hts i_Prover hown hK.1 hP 6 rfl rfl 5 (by decide) (hts _ wd_184) (fun _ h9 => h9) rfl d_Prover_count_60 ?_
        refine lv_iconst (v := 2) hx hb d_Prover_count_63 (by decide) ?_
        refine lv_aload_n hx hb d_Prover_count_64 rfl (lv_at hl1 1 rfl) ?_
        obtain ⟨hPc, hDc, hFc, hCs⟩ := xw_sub3 (wc := [(n0, .inr (4, [.ref n1, .ref n2, .ref n3, .int (nI z9)])), (n1, .inl (ax 1, cp, .inl fo)), (n2, .inl (ax 0, cp, .inl fl)), (n3, .inl (ax 0, cp, .inl fr))]) hP hD hS hA [2, 3, 4, 5] (by decide) rfl
        have hz := xz_of hN hS
        refine va_calli (va_runV (As := []) (rest := [.int 2, .ref q1, .ref p0]) ⟨hx, hb, hml, hown, hts⟩ (c_Nodes_root l D ax n0 n1 n2 n3 cp z9 fo fl fr H.size (by first | assumption | omega)) (xcV (n := 0) hts wd_772 wd_5 wd_826 wd_770 wd_771 rfl rfl (by decide +kernel) ⟨Nat.le_of_ble_eq_true rfl, Nat.le_of_ble_eq_true rfl⟩) (xpV (ci := 4) (q0 := 0) (As := []) hPc hK hz hDc rfl rfl) rfl rfl hl1.1 rfl (lv_room (Nat.le_of_ble_eq_true rfl)) d_Prover_count_65 ⟨Nat.le_of_ble_eq_true rfl, (show (0) + (0) ≤ (2 * cp) by omega)⟩) hS (fun q _ h => hFc q h) hFc (fun r_12 u_10 t H_11 locs ht hvm hw hB hz1 hk1 hS1 => ?_)
        try dsimp only at hw
        subst hw
        obtain ⟨hP1, hD1⟩ := hB
        rw [ht] at hP1
        have hjn := xw_join3 (wl := [(q2, .inl (ax 0, 64, .inl (fun j => nI (dm j)))), (q3, .inl (ax 0, 64, .inl ix)), (p0, .inr (6, [.ref b0, .int s_rows, .int (nI an1), .int s_first, .ref n0, .ref q1, .ref q2, .ref q3, .int (nI wt)])), (q1, .inl (ax 2, rl, .inl ro1)), (n0, .inr (4, [.ref n1, .ref n2, .ref n3, .int (nI z9)])), (n1, .inl (ax 1, cp, .inl fo)), (n2, .inl (ax 0, cp, .inl fl)), (n3, .inl (ax 0, cp, .inl fr))]) hP hD [2, 3, 4, 5] [0, 1, 6, 7] hCs (by decide) (by decide) hk1 hFc hP1 hD1 rfl
        clear hP1 hD1
        clear hPc hDc hFc hCs hz hz1 hk1 ht hvm
        clear hP hD hS
        have hS := hS1
        obtain ⟨hP, hD⟩ := hjn
        clear hS1
        refine lv_imul hx hb d_Prover_count_68 ?_
        refine lv_topi (fun z_13 ez_13 => ?_)
        have ez_13 : z_13 = nI (2 * (z9 - 1)) := ez_13.trans (pk_mul 2 (z9 - 1))
        subst ez_13
        refine va_sald hx hb hK.1 hP 3 2 rfl rfl (vp_in_nI (by first | assumption | omega) (by first | exact Nat.lt_of_lt_of_le (by assumption) (by decide) | exact Nat.lt_of_le_of_lt (by assumption) (by decide) | omega)) d_Prover_count_69 ?_
        refine W.eq (g2 := F0 m 70 ls [.int (ro1 (2 * (z9 - 1))), .ref p0]) (by rw [nI_clamp (by first | exact Nat.lt_of_lt_of_le (by assumption) (by decide) | exact Nat.lt_of_le_of_lt (by assumption) (by decide) | omega)]) ?_
        have ei9 : i1 = z9 := by omega
        have hro9 : ro1 (2 * (z9 - 1)) = nI (rwo (olf ls9) (2 * (z9 - 1))) := hro1 _ (by first | assumption | omega)
        refine W.eq (g2 := F0 m 70 ls [.int (nI (rwo (olf ls9) (2 * (z9 - 1)))), .ref p0]) (by rw [hro9]) ?_
        refine va_put (D := D) (ci := 6) (v := .int (nI (rwo (olf ls9) (2 * (z9 - 1))))) (ty := .int) (C := R_Prover) (T := F_Prover) (N := 9) hx hb hts i_Prover t_Prover t_Prover_ok n_Prover hown hK.1 hP hD hS 2 rfl rfl 1 (by decide) (hts _ wd_177) (fun _ h9 => h9) rfl (by decide +kernel) rfl rfl (Nat.le_of_ble_eq_true rfl) d_Prover_count_70 (fun H_14 locs hP1 hD1 hS1 => ?_)
        clear hP hD hS
        have hS := hS1
        have hW7 : (fun w9 : va_W => va_P D classes w9 H_14 ∧ va_D A w9) [(q2, .inl (ax 0, 64, .inl (fun j => nI (dm j)))), (q3, .inl (ax 0, 64, .inl ix)), (p0, .inr (6, [.ref b0, .int (nI (rwo (olf ls9) (2 * (z9 - 1)))), .int (nI an1), .int s_first, .ref n0, .ref q1, .ref q2, .ref q3, .int (nI wt)])), (q1, .inl (ax 2, rl, .inl ro1)), (n0, .inr (4, [.ref n1, .ref n2, .ref n3, .int (nI z9)])), (n1, .inl (ax 1, cp, .inl fo)), (n2, .inl (ax 0, cp, .inl fl)), (n3, .inl (ax 0, cp, .inl fr))] := ⟨hP1, hD1⟩
        obtain ⟨hP, hD⟩ := hW7
        clear hP1 hD1 hS1
        rw [← hQe]
        refine wk_know (fun hk8 hk9 => ?_)
        refine W.widen (k := 1) (n := 2 * cp) (Nat.le_of_ble_eq_true rfl) (by first | assumption | omega) ?_
        obtain ⟨hP9, hD9⟩ := xw_sub2 (wc := (fun (u : Nat → Nat) (xro : Nat → Int32) => [(p0, .inr (6, [.ref b0, .int (nI (u 2)), .int (nI (u 3)), .int s_first, .ref n0, .ref (u 0), .ref q2, .ref q3, .int (nI wt)])), (u 0, .inl (ax 2, u 1, .inl xro)), (q2, .inl (ax 0, 64, .inl (fun j => nI (dm j)))), (q3, .inl (ax 0, 64, .inl ix)), (n0, .inr (4, [.ref n1, .ref n2, .ref n3, .int (nI z9)])), (n1, .inl (ax 1, cp, .inl fo)), (n2, .inl (ax 0, cp, .inl fl)), (n3, .inl (ax 0, cp, .inl fr))]) (ixn [q1, rl, (rwo (olf ls9) (2 * (z9 - 1))), an1]) ro1) hP hD [2, 3, 0, 1, 4, 5, 6, 7] (by decide) rfl
        have hex0 : roQ8 ls9 z9 ro1 := (by rw [← ei9]; exact hro1)
        have hg8 : H_14.size ≤ s.heap.size + (rl - rl) := by omega
        have hg9 : tsl H_14 ≤ tsl s.heap + (2 * (rl - rl)) := by omega
        have hsp0 : 2 * z9 ≤ rl := (by first | assumption | omega)
        have hsp1 : rl ≤ rl := (by first | assumption | omega)
        have hsp2 : rlo (rl) cp := hrlo
        have hsp3 : (rwo (olf ls9) (2 * (z9 - 1))) = rwl8 ls9 := (by unfold rwl8; rw [hll])
        have hsp4 : an1 = atn8 (olf ls9) z9 := (by rw [han1, ei9])
        exact W.vret hx hb hr (fun t ht hW => ⟨⟨ixn [q1, rl, (rwo (olf ls9) (2 * (z9 - 1))), an1], rfl, ⟨hsp0, hsp1, hsp2, hsp3, hsp4⟩, ⟨ro1, by rw [ht]; exact hg8, by rw [ht]; exact hg9, hex0, by rw [ht]; exact hP9, hD9⟩⟩, hS.F ht⟩) hS.2.2 d_Prover_count_73
      · replace c_9 : ¬ z9 ≤ i1 := fun hq9 => c_9 ((nI_leI (a := z9) (b := i1) (by first | exact Nat.lt_of_lt_of_le (by assumption) (by decide) | exact Nat.lt_of_le_of_lt (by assumption) (by decide) | omega) (by first | exact Nat.lt_of_lt_of_le (by assumption) (by decide) | exact Nat.lt_of_le_of_lt (by assumption) (by decide) | omega)).mpr hq9)
        refine lv_aload_n hx hb d_Prover_count_47 rfl (lv_at hl1 0 rfl) ?_
        refine lv_iload_n hx hb d_Prover_count_48 rfl (lv_at hl1 2 rfl) ?_
        obtain ⟨hPc, hDc, hFc, hCs⟩ := xw_sub3 (wc := [(p0, .inr (6, [.ref b0, .int s_rows, .int (nI an1), .int s_first, .ref n0, .ref q1, .ref q2, .ref q3, .int (nI wt)])), (q1, .inl (ax 2, rl, .inl ro1)), (q2, .inl (ax 0, 64, .inl (fun j => nI (dm j)))), (q3, .inl (ax 0, 64, .inl ix)), (n0, .inr (4, [.ref n1, .ref n2, .ref n3, .int (nI z9)])), (n1, .inl (ax 1, cp, .inl fo)), (n2, .inl (ax 0, cp, .inl fl)), (n3, .inl (ax 0, cp, .inl fr))]) hP hD hS hA [6, 7, 0, 1, 2, 3, 4, 5] (by decide) rfl
        have hz := xz_of hN hS
        refine va_callv (va_runV (As := [.int (nI i1)]) (rest := []) ⟨hx, hb, hml, hown, hts⟩ (c_P_countNode l D ax p0 q1 q2 q3 wt rl b0 s_rows 0 s_first ro1 ix dm n0 n1 n2 n3 cp z9 fo fl fr i1 an1 ls9 H.size (by first | assumption | omega) hz9 hcp (by first | assumption | omega) (by first | assumption | omega) hnv hnl hll hnb9 hro1 han1) (xcV (n := 1) hts wd_821 wd_6 wd_818 wd_820 ps_32 rfl rfl (by decide +kernel) ⟨Nat.le_of_ble_eq_true rfl, Nat.le_of_ble_eq_true rfl⟩) (xpV (ci := 6) (q0 := 0) (As := [.int (nI i1)]) hPc hK hz hDc rfl rfl) rfl rfl hl1.1 rfl (lv_room (Nat.le_of_ble_eq_true rfl)) d_Prover_count_49 ⟨Nat.le_of_ble_eq_true rfl, (show (0) + (0) ≤ (2 * cp) by omega)⟩) hS (fun q _ h => hFc q h) hFc (fun u_15 t H_16 locs ht hvm hw hB hz1 hk1 hS1 => ?_)
        try dsimp only at hw
        have hs_18 := hw
        obtain ⟨x_19, hx_20, hP1, hD1⟩ := hB
        rw [ht] at hP1
        have hjn := xw_join3 (wl := [(p0, .inr (6, [.ref b0, .int s_rows, .int (nI (u_15 0)), .int s_first, .ref n0, .ref q1, .ref q2, .ref q3, .int (nI wt)])), (q1, .inl (ax 2, rl, .inl x_19)), (q2, .inl (ax 0, 64, .inl (fun j => nI (dm j)))), (q3, .inl (ax 0, 64, .inl ix)), (n0, .inr (4, [.ref n1, .ref n2, .ref n3, .int (nI z9)])), (n1, .inl (ax 1, cp, .inl fo)), (n2, .inl (ax 0, cp, .inl fl)), (n3, .inl (ax 0, cp, .inl fr))]) hP hD [6, 7, 0, 1, 2, 3, 4, 5] [] hCs (by decide) (by decide) hk1 hFc hP1 hD1 rfl
        clear hP1 hD1
        clear hPc hDc hFc hCs hz hz1 hk1 ht hvm
        clear hP hD hS
        have hS := hS1
        obtain ⟨hP, hD⟩ := hjn
        clear hS1
        refine lv_iinc (v := nI (i1 + 1)) (lv' := [(2, .int (nI (i1 + 1))), (0, .ref p0), (1, .ref n0)]) hx hb d_Prover_count_52 hl1 (k := 2) rfl (nI_add i1 1) (by decide) rfl (fun ls hl2 => ?_)
        clear hl1; have hl1 := hl2; clear hl2
        refine lv_goto (tgt := 39) hx hb d_Prover_count_55 (by decide) ?_
        exact ih_7 (i1 + 1) (u_15 0) x_19 (by first | assumption | omega) (by first | assumption | omega) hx_20 hs_18 _ _ _ (hP.sub [2, 3, 4, 5, 6, 7, 0, 1] rfl) (hD.sub [2, 3, 4, 5, 6, 7, 0, 1] (by decide) rfl) hS (lv_sub hl1 [1, 2, 0] rfl)
  · replace c_3 : ¬ 2 * z9 ≤ rl := fun hq9 => c_3 ((nI_leI (a := 2 * z9) (b := rl) (by first | exact Nat.lt_of_lt_of_le (by assumption) (by decide) | exact Nat.lt_of_le_of_lt (by assumption) (by decide) | omega) (by first | exact Nat.lt_of_lt_of_le (by assumption) (by decide) | exact Nat.lt_of_le_of_lt (by assumption) (by decide) | omega)).mpr hq9)
    have hrc := hrlo.lt (by first | assumption | omega)
    refine lv_aload_n hx hb d_Prover_count_19 rfl (lv_at hl1 0 rfl) ?_
    refine lv_iconst (v := 2) hx hb d_Prover_count_20 (by decide) ?_
    refine lv_aload_n hx hb d_Prover_count_21 rfl (lv_at hl1 1 rfl) ?_
    refine va_get (D := D) (ci := 4) (v := .ref n1) (C := R_Nodes) (T := F_Nodes) (N := 4) hx hb hts i_Nodes hown hK.1 hP 4 rfl rfl 0 (by decide) (hts _ wd_104) (fun _ h9 => h9) rfl d_Prover_count_22 ?_
    refine va_alen hx hb hK.1 hP 5 1 rfl rfl (v := _) rfl d_Prover_count_25 ?_
    refine lv_imul hx hb d_Prover_count_26 ?_
    refine lv_topi (fun z_21 ez_21 => ?_)
    have ez_21 : z_21 = nI (2 * cp) := ez_21.trans (pk_mul 2 cp)
    subst ez_21
    refine xnewa (atype := .short) (ty := .short) (aX := ax 2) hx hb (hts _ wd_207) rfl hK.2.1.2.2.1 hP hD hS hA (xa_s (2 * cp)) (nI_pos (by first | assumption | omega)) (nI_clamp (by first | assumption | omega)) (by show _ * 2 ≤ _; omega) (Nat.le_of_ble_eq_true rfl) (show (0) + (2 * cp) ≤ (2 * cp) by omega) d_Prover_count_27 (fun q_22 H_23 hP1 hD1 hS1 => ?_)
    clear hP hD hS
    have hS := hS1
    have hW7 : (fun w9 : va_W => va_P D classes w9 H_23 ∧ va_D A w9) [(p0, .inr (6, [.ref b0, .int s_rows, .int s_atoms, .int s_first, .ref n0, .ref q1, .ref q2, .ref q3, .int (nI wt)])), (q1, .inl (ax 2, rl, .inl ro)), (q2, .inl (ax 0, 64, .inl (fun j => nI (dm j)))), (q3, .inl (ax 0, 64, .inl ix)), (n0, .inr (4, [.ref n1, .ref n2, .ref n3, .int (nI z9)])), (n1, .inl (ax 1, cp, .inl fo)), (n2, .inl (ax 0, cp, .inl fl)), (n3, .inl (ax 0, cp, .inl fr)), (q_22, .inl (ax 2, (2 * cp), .inl (fun _ => 0)))] := ⟨hP1, hD1⟩
    obtain ⟨hP, hD⟩ := hW7
    clear hP1 hD1 hS1
    refine W.widen (k := 1) (n := 2 * cp) (Nat.le_of_ble_eq_true rfl) (by first | assumption | omega) ?_
    refine va_put (D := D) (ci := 6) (v := .ref q_22) (ty := .array .short) (C := R_Prover) (T := F_Prover) (N := 9) hx hb hts i_Prover t_Prover t_Prover_ok n_Prover hown hK.1 hP hD hS 0 rfl rfl 5 (by decide) (hts _ wd_184) (fun _ h9 => h9) rfl (by decide +kernel) rfl rfl (Nat.le_of_ble_eq_true rfl) d_Prover_count_29 (fun H_24 locs hP1 hD1 hS1 => ?_)
    clear hP hD hS
    have hS := hS1
    have hW7 : (fun w9 : va_W => va_P D classes w9 H_24 ∧ va_D A w9) [(p0, .inr (6, [.ref b0, .int s_rows, .int s_atoms, .int s_first, .ref n0, .ref q_22, .ref q2, .ref q3, .int (nI wt)])), (q1, .inl (ax 2, rl, .inl ro)), (q2, .inl (ax 0, 64, .inl (fun j => nI (dm j)))), (q3, .inl (ax 0, 64, .inl ix)), (n0, .inr (4, [.ref n1, .ref n2, .ref n3, .int (nI z9)])), (n1, .inl (ax 1, cp, .inl fo)), (n2, .inl (ax 0, cp, .inl fl)), (n3, .inl (ax 0, cp, .inl fr)), (q_22, .inl (ax 2, (2 * cp), .inl (fun _ => 0)))] := ⟨hP1, hD1⟩
    obtain ⟨hP, hD⟩ := hW7
    clear hP1 hD1 hS1
    refine lv_aload_n hx hb d_Prover_count_32 rfl (lv_at hl1 0 rfl) ?_
    refine lv_iconst (v := 0) hx hb d_Prover_count_33 (by decide) ?_
    refine va_put (D := D) (ci := 6) (v := .int 0) (ty := .int) (C := R_Prover) (T := F_Prover) (N := 9) hx hb hts i_Prover t_Prover t_Prover_ok n_Prover hown hK.1 hP hD hS 0 rfl rfl 2 (by decide) (hts _ wd_179) (fun _ h9 => h9) rfl (by decide +kernel) rfl rfl (Nat.le_of_ble_eq_true rfl) d_Prover_count_34 (fun H_25 locs hP1 hD1 hS1 => ?_)
    clear hP hD hS
    have hS := hS1
    have hW7 : (fun w9 : va_W => va_P D classes w9 H_25 ∧ va_D A w9) [(p0, .inr (6, [.ref b0, .int s_rows, .int 0, .int s_first, .ref n0, .ref q_22, .ref q2, .ref q3, .int (nI wt)])), (q1, .inl (ax 2, rl, .inl ro)), (q2, .inl (ax 0, 64, .inl (fun j => nI (dm j)))), (q3, .inl (ax 0, 64, .inl ix)), (n0, .inr (4, [.ref n1, .ref n2, .ref n3, .int (nI z9)])), (n1, .inl (ax 1, cp, .inl fo)), (n2, .inl (ax 0, cp, .inl fl)), (n3, .inl (ax 0, cp, .inl fr)), (q_22, .inl (ax 2, (2 * cp), .inl (fun _ => 0)))] := ⟨hP1, hD1⟩
    obtain ⟨hP, hD⟩ := hW7
    clear hP1 hD1 hS1
    refine lv_iconst (v := 0) hx hb d_Prover_count_37 (by decide) ?_
    refine lv_istore_n (lv' := [(2, .int 0), (0, .ref p0), (1, .ref n0)]) hx hb d_Prover_count_38 rfl hl1 (by decide) rfl (fun ls hl2 => ?_)
    clear hl1; have hl1 := hl2; clear hl2
    have hle1 : 2 * z9 ≤ (2 * cp) := by omega
    have hle2 : (2 * cp) ≤ 300000 := by have := hrlo.le; omega
    suffices key_26 : ∀ (k : Nat) (i1 an1 : Nat) (ro1 : Nat → Int32), z9 - i1 < k → i1 ≤ z9 → roQ8 ls9 i1 ro1 → an1 = atn8 (olf ls9) i1 → ∀ (H : Heap) (locs : List Loc) (ls : Array Slot), va_P D classes [(q1, .inl (ax 2, rl, .inl ro)), (q2, .inl (ax 0, 64, .inl (fun j => nI (dm j)))), (q3, .inl (ax 0, 64, .inl ix)), (n0, .inr (4, [.ref n1, .ref n2, .ref n3, .int (nI z9)])), (n1, .inl (ax 1, cp, .inl fo)), (n2, .inl (ax 0, cp, .inl fl)), (n3, .inl (ax 0, cp, .inl fr)), (p0, .inr (6, [.ref b0, .int s_rows, .int (nI an1), .int s_first, .ref n0, .ref q_22, .ref q2, .ref q3, .int (nI wt)])), (q_22, .inl (ax 2, (2 * cp), .inl ro1))] H → va_D A [(q1, .inl (ax 2, rl, .inl ro)), (q2, .inl (ax 0, 64, .inl (fun j => nI (dm j)))), (q3, .inl (ax 0, 64, .inl ix)), (n0, .inr (4, [.ref n1, .ref n2, .ref n3, .int (nI z9)])), (n1, .inl (ax 1, cp, .inl fo)), (n2, .inl (ax 0, cp, .inl fl)), (n3, .inl (ax 0, cp, .inl fr)), (p0, .inr (6, [.ref b0, .int s_rows, .int (nI an1), .int s_first, .ref n0, .ref q_22, .ref q2, .ref q3, .int (nI wt)])), (q_22, .inl (ax 2, (2 * cp), .inl ro1))] → va_S A s.heap H locs → lv_has ls 3 [(0, .ref p0), (1, .ref n0), (2, .int (nI i1))] → W p l e (headSpec (xws (.code y_Prover_count b_Prover_count 3 none)) ({ frames := 30, cells := 1, slots := 2 * cp, locals := 1200 })).room s m ([.ref p0, .ref n0] : List Value).toArray below meth c H locs 1 (2 * cp) Z9 (F0 m 39 ls []) from key_26 (z9 - 0 + 1) 0 0 (fun _ => 0) (Nat.lt_succ_self _) (by first | assumption | omega) (fun d hd => absurd hd (by first | assumption | omega)) rfl _ _ _ (hP.sub [1, 2, 3, 4, 5, 6, 7, 0, 8] rfl) (hD.sub [1, 2, 3, 4, 5, 6, 7, 0, 8] (by decide) rfl) hS (lv_sub hl1 [1, 2, 0] rfl)
    intro k_27
    induction k_27 with
    | zero =>
      intro i1 an1 ro1 hk_29
      exact absurd hk_29 (Nat.not_lt_zero _)
    | succ k_27 ih_28 =>
      clear hP hD hS hl1
      intro i1 an1 ro1 hk_29 hi1 hro1 han1 H locs ls hP hD hS hl1
      refine lv_iload_n hx hb d_Prover_count_39 rfl (lv_at hl1 2 rfl) ?_
      refine lv_aload_n hx hb d_Prover_count_40 rfl (lv_at hl1 1 rfl) ?_
      refine va_get (D := D) (ci := 4) (v := .int (nI z9)) (C := R_Nodes) (T := F_Nodes) (N := 4) hx hb hts i_Nodes hown hK.1 hP 3 rfl rfl 3 (by decide) (hts _ wd_119) (fun _ h9 => h9) rfl d_Prover_count_41 ?_
      refine lv_icmp_ge (tgt := 58) hx hb d_Prover_count_44 (by decide) (fun c_30 => ?_) (fun c_30 => ?_)
      · replace c_30 : z9 ≤ i1 := (nI_leI (a := z9) (b := i1) (by first | exact Nat.lt_of_lt_of_le (by assumption) (by decide) | exact Nat.lt_of_le_of_lt (by assumption) (by decide) | omega) (by first | exact Nat.lt_of_lt_of_le (by assumption) (by decide) | exact Nat.lt_of_le_of_lt (by assumption) (by decide) | omega)).mp c_30
        refine lv_aload_n hx hb d_Prover_count_58 rfl (lv_at hl1 0 rfl) ?_
        refine lv_aload_n hx hb d_Prover_count_59 rfl (lv_at hl1 0 rfl) ?_
        refine va_get (D := D) (ci := 6) (v := .ref q_22) (C := R_Prover) (T := F_Prover) (N := 9) hx hb hts i_Prover hown hK.1 hP 7 rfl rfl 5 (by decide) (hts _ wd_184) (fun _ h9 => h9) rfl d_Prover_count_60 ?_
        refine lv_iconst (v := 2) hx hb d_Prover_count_63 (by decide) ?_
        refine lv_aload_n hx hb d_Prover_count_64 rfl (lv_at hl1 1 rfl) ?_
        obtain ⟨hPc, hDc, hFc, hCs⟩ := xw_sub3 (wc := [(n0, .inr (4, [.ref n1, .ref n2, .ref n3, .int (nI z9)])), (n1, .inl (ax 1, cp, .inl fo)), (n2, .inl (ax 0, cp, .inl fl)), (n3, .inl (ax 0, cp, .inl fr))]) hP hD hS hA [3, 4, 5, 6] (by decide) rfl
        have hz := xz_of hN hS
        refine va_calli (va_runV (As := []) (rest := [.int 2, .ref q_22, .ref p0]) ⟨hx, hb, hml, hown, hts⟩ (c_Nodes_root l D ax n0 n1 n2 n3 cp z9 fo fl fr H.size (by first | assumption | omega)) (xcV (n := 0) hts wd_772 wd_5 wd_826 wd_770 wd_771 rfl rfl (by decide +kernel) ⟨Nat.le_of_ble_eq_true rfl, Nat.le_of_ble_eq_true rfl⟩) (xpV (ci := 4) (q0 := 0) (As := []) hPc hK hz hDc rfl rfl) rfl rfl hl1.1 rfl (lv_room (Nat.le_of_ble_eq_true rfl)) d_Prover_count_65 ⟨Nat.le_of_ble_eq_true rfl, (show (2 * cp) + (0) ≤ (2 * cp) by omega)⟩) hS (fun q _ h => hFc q h) hFc (fun r_33 u_31 t H_32 locs ht hvm hw hB hz1 hk1 hS1 => ?_)
        try dsimp only at hw
        subst hw
        obtain ⟨hP1, hD1⟩ := hB
        rw [ht] at hP1
        have hjn := xw_join3 (wl := [(q1, .inl (ax 2, rl, .inl ro)), (q2, .inl (ax 0, 64, .inl (fun j => nI (dm j)))), (q3, .inl (ax 0, 64, .inl ix)), (p0, .inr (6, [.ref b0, .int s_rows, .int (nI an1), .int s_first, .ref n0, .ref q_22, .ref q2, .ref q3, .int (nI wt)])), (q_22, .inl (ax 2, (2 * cp), .inl ro1)), (n0, .inr (4, [.ref n1, .ref n2, .ref n3, .int (nI z9)])), (n1, .inl (ax 1, cp, .inl fo)), (n2, .inl (ax 0, cp, .inl fl)), (n3, .inl (ax 0, cp, .inl fr))]) hP hD [3, 4, 5, 6] [0, 1, 2, 7, 8] hCs (by decide) (by decide) hk1 hFc hP1 hD1 rfl
        clear hP1 hD1
        clear hPc hDc hFc hCs hz hz1 hk1 ht hvm
        clear hP hD hS
        have hS := hS1
        obtain ⟨hP, hD⟩ := hjn
        clear hS1
        refine lv_imul hx hb d_Prover_count_68 ?_
        refine lv_topi (fun z_34 ez_34 => ?_)
        have ez_34 : z_34 = nI (2 * (z9 - 1)) := ez_34.trans (pk_mul 2 (z9 - 1))
        subst ez_34
        refine va_sald hx hb hK.1 hP 4 2 rfl rfl (vp_in_nI (by first | assumption | omega) (by first | exact Nat.lt_of_lt_of_le (by assumption) (by decide) | exact Nat.lt_of_le_of_lt (by assumption) (by decide) | omega)) d_Prover_count_69 ?_
        refine W.eq (g2 := F0 m 70 ls [.int (ro1 (2 * (z9 - 1))), .ref p0]) (by rw [nI_clamp (by first | exact Nat.lt_of_lt_of_le (by assumption) (by decide) | exact Nat.lt_of_le_of_lt (by assumption) (by decide) | omega)]) ?_
        have ei9 : i1 = z9 := by omega
        have hro9 : ro1 (2 * (z9 - 1)) = nI (rwo (olf ls9) (2 * (z9 - 1))) := hro1 _ (by first | assumption | omega)
        refine W.eq (g2 := F0 m 70 ls [.int (nI (rwo (olf ls9) (2 * (z9 - 1)))), .ref p0]) (by rw [hro9]) ?_
        refine va_put (D := D) (ci := 6) (v := .int (nI (rwo (olf ls9) (2 * (z9 - 1))))) (ty := .int) (C := R_Prover) (T := F_Prover) (N := 9) hx hb hts i_Prover t_Prover t_Prover_ok n_Prover hown hK.1 hP hD hS 3 rfl rfl 1 (by decide) (hts _ wd_177) (fun _ h9 => h9) rfl (by decide +kernel) rfl rfl (Nat.le_of_ble_eq_true rfl) d_Prover_count_70 (fun H_35 locs hP1 hD1 hS1 => ?_)
        clear hP hD hS
        have hS := hS1
        have hW7 : (fun w9 : va_W => va_P D classes w9 H_35 ∧ va_D A w9) [(q1, .inl (ax 2, rl, .inl ro)), (q2, .inl (ax 0, 64, .inl (fun j => nI (dm j)))), (q3, .inl (ax 0, 64, .inl ix)), (p0, .inr (6, [.ref b0, .int (nI (rwo (olf ls9) (2 * (z9 - 1)))), .int (nI an1), .int s_first, .ref n0, .ref q_22, .ref q2, .ref q3, .int (nI wt)])), (q_22, .inl (ax 2, (2 * cp), .inl ro1)), (n0, .inr (4, [.ref n1, .ref n2, .ref n3, .int (nI z9)])), (n1, .inl (ax 1, cp, .inl fo)), (n2, .inl (ax 0, cp, .inl fl)), (n3, .inl (ax 0, cp, .inl fr))] := ⟨hP1, hD1⟩
        obtain ⟨hP, hD⟩ := hW7
        clear hP1 hD1 hS1
        rw [← hQe]
        refine wk_know (fun hk8 hk9 => ?_)
        obtain ⟨hP9, hD9⟩ := xw_sub2 (wc := (fun (u : Nat → Nat) (xro : Nat → Int32) => [(p0, .inr (6, [.ref b0, .int (nI (u 2)), .int (nI (u 3)), .int s_first, .ref n0, .ref (u 0), .ref q2, .ref q3, .int (nI wt)])), (u 0, .inl (ax 2, u 1, .inl xro)), (q2, .inl (ax 0, 64, .inl (fun j => nI (dm j)))), (q3, .inl (ax 0, 64, .inl ix)), (n0, .inr (4, [.ref n1, .ref n2, .ref n3, .int (nI z9)])), (n1, .inl (ax 1, cp, .inl fo)), (n2, .inl (ax 0, cp, .inl fl)), (n3, .inl (ax 0, cp, .inl fr))]) (ixn [q_22, (2 * cp), (rwo (olf ls9) (2 * (z9 - 1))), an1]) ro1) hP hD [3, 4, 1, 2, 5, 6, 7, 8] (by decide) rfl
        have hex0 : roQ8 ls9 z9 ro1 := (by rw [← ei9]; exact hro1)
        have hg8 : H_35.size ≤ s.heap.size + ((2 * cp) - rl) := by omega
        have hg9 : tsl H_35 ≤ tsl s.heap + (2 * ((2 * cp) - rl)) := by omega
        have hsp0 : 2 * z9 ≤ (2 * cp) := (by first | assumption | omega)
        have hsp1 : rl ≤ (2 * cp) := (by first | assumption | omega)
        have hsp2 : rlo ((2 * cp)) cp := (Or.inl (by first | assumption | omega))
        have hsp3 : (rwo (olf ls9) (2 * (z9 - 1))) = rwl8 ls9 := (by unfold rwl8; rw [hll])
        have hsp4 : an1 = atn8 (olf ls9) z9 := (by rw [han1, ei9])
        exact W.vret hx hb hr (fun t ht hW => ⟨⟨ixn [q_22, (2 * cp), (rwo (olf ls9) (2 * (z9 - 1))), an1], rfl, ⟨hsp0, hsp1, hsp2, hsp3, hsp4⟩, ⟨ro1, by rw [ht]; exact hg8, by rw [ht]; exact hg9, hex0, by rw [ht]; exact hP9, hD9⟩⟩, hS.F ht⟩) hS.2.2 d_Prover_count_73
      · replace c_30 : ¬ z9 ≤ i1 := fun hq9 => c_30 ((nI_leI (a := z9) (b := i1) (by first | exact Nat.lt_of_lt_of_le (by assumption) (by decide) | exact Nat.lt_of_le_of_lt (by assumption) (by decide) | omega) (by first | exact Nat.lt_of_lt_of_le (by assumption) (by decide) | exact Nat.lt_of_le_of_lt (by assumption) (by decide) | omega)).mpr hq9)
        refine lv_aload_n hx hb d_Prover_count_47 rfl (lv_at hl1 0 rfl) ?_
        refine lv_iload_n hx hb d_Prover_count_48 rfl (lv_at hl1 2 rfl) ?_
        obtain ⟨hPc, hDc, hFc, hCs⟩ := xw_sub3 (wc := [(p0, .inr (6, [.ref b0, .int s_rows, .int (nI an1), .int s_first, .ref n0, .ref q_22, .ref q2, .ref q3, .int (nI wt)])), (q_22, .inl (ax 2, (2 * cp), .inl ro1)), (q2, .inl (ax 0, 64, .inl (fun j => nI (dm j)))), (q3, .inl (ax 0, 64, .inl ix)), (n0, .inr (4, [.ref n1, .ref n2, .ref n3, .int (nI z9)])), (n1, .inl (ax 1, cp, .inl fo)), (n2, .inl (ax 0, cp, .inl fl)), (n3, .inl (ax 0, cp, .inl fr))]) hP hD hS hA [7, 8, 1, 2, 3, 4, 5, 6] (by decide) rfl
        have hz := xz_of hN hS
        refine va_callv (va_runV (As := [.int (nI i1)]) (rest := []) ⟨hx, hb, hml, hown, hts⟩ (c_P_countNode l D ax p0 q_22 q2 q3 wt (2 * cp) b0 s_rows 0 s_first ro1 ix dm n0 n1 n2 n3 cp z9 fo fl fr i1 an1 ls9 H.size (by first | assumption | omega) hz9 hcp (by first | assumption | omega) (by first | assumption | omega) hnv hnl hll hnb9 hro1 han1) (xcV (n := 1) hts wd_821 wd_6 wd_818 wd_820 ps_32 rfl rfl (by decide +kernel) ⟨Nat.le_of_ble_eq_true rfl, Nat.le_of_ble_eq_true rfl⟩) (xpV (ci := 6) (q0 := 0) (As := [.int (nI i1)]) hPc hK hz hDc rfl rfl) rfl rfl hl1.1 rfl (lv_room (Nat.le_of_ble_eq_true rfl)) d_Prover_count_49 ⟨Nat.le_of_ble_eq_true rfl, (show (2 * cp) + (0) ≤ (2 * cp) by omega)⟩) hS (fun q _ h => hFc q h) hFc (fun u_36 t H_37 locs ht hvm hw hB hz1 hk1 hS1 => ?_)
        try dsimp only at hw
        have hs_39 := hw
        obtain ⟨x_40, hx_41, hP1, hD1⟩ := hB
        rw [ht] at hP1
        have hjn := xw_join3 (wl := [(q1, .inl (ax 2, rl, .inl ro)), (p0, .inr (6, [.ref b0, .int s_rows, .int (nI (u_36 0)), .int s_first, .ref n0, .ref q_22, .ref q2, .ref q3, .int (nI wt)])), (q_22, .inl (ax 2, (2 * cp), .inl x_40)), (q2, .inl (ax 0, 64, .inl (fun j => nI (dm j)))), (q3, .inl (ax 0, 64, .inl ix)), (n0, .inr (4, [.ref n1, .ref n2, .ref n3, .int (nI z9)])), (n1, .inl (ax 1, cp, .inl fo)), (n2, .inl (ax 0, cp, .inl fl)), (n3, .inl (ax 0, cp, .inl fr))]) hP hD [7, 8, 1, 2, 3, 4, 5, 6] [0] hCs (by decide) (by decide) hk1 hFc hP1 hD1 rfl
        clear hP1 hD1
        clear hPc hDc hFc hCs hz hz1 hk1 ht hvm
        clear hP hD hS
        have hS := hS1
        obtain ⟨hP, hD⟩ := hjn
        clear hS1
        refine lv_iinc (v := nI (i1 + 1)) (lv' := [(2, .int (nI (i1 + 1))), (0, .ref p0), (1, .ref n0)]) hx hb d_Prover_count_52 hl1 (k := 2) rfl (nI_add i1 1) (by decide) rfl (fun ls hl2 => ?_)
        clear hl1; have hl1 := hl2; clear hl2
        refine lv_goto (tgt := 39) hx hb d_Prover_count_55 (by decide) ?_
        exact ih_28 (i1 + 1) (u_36 0) x_40 (by first | assumption | omega) (by first | assumption | omega) hx_41 hs_39 _ _ _ (hP.sub [0, 3, 4, 5, 6, 7, 8, 1, 2] rfl) (hD.sub [0, 3, 4, 5, 6, 7, 8, 1, 2] (by decide) rfl) hS (lv_sub hl1 [1, 2, 0] rfl)
