theorem ps_58 : Cond.selects "TripleDeskModel" ⟨"TripleDeskModel", "depth", "()I"⟩ ⟨"TripleDeskModel", "depth", "()I"⟩ ∈ lw_gd := ps_in (q := (⟨"TripleDeskModel", "depth", "()I"⟩, 72)) (i := 58) (by decide +kernel)
theorem ps_59 : Cond.selects "TripleDeskModel" ⟨"TripleDeskModel", "atom", "(Z)V"⟩ ⟨"TripleDeskModel", "atom", "(Z)V"⟩ ∈ lw_gd := ps_in (q := (⟨"TripleDeskModel", "atom", "(Z)V"⟩, 72)) (i := 59) (by decide +kernel)
theorem ps_63 : Cond.selects "TripleDeskModel" ⟨"TripleDeskModel", "emitNots", "()V"⟩ ⟨"TripleDeskModel", "emitNots", "()V"⟩ ∈ lw_gd := ps_in (q := (⟨"TripleDeskModel", "emitNots", "()V"⟩, 72)) (i := 63) (by decide +kernel)
theorem wd_1106 : ((Jvm.Cond.fieldLink "TripleDeskModel" (238 : Nat) "TripleDeskModel" "atoms" "I")) ∈ lw_gd := lw_gd_in (i := 1106) (by decide +kernel) rfl
theorem wd_1316 : ((Jvm.Cond.methodLink "TripleDeskModel" (235 : Nat) ({ cls := "TripleDeskModel", name := "depth", desc := "()I" } : Jvm.MethodName))) ∈ lw_gd := lw_gd_in (i := 1316) (by decide +kernel) rfl
theorem wd_1318 : ((Jvm.Cond.instanceMethod ({ cls := "TripleDeskModel", name := "depth", desc := "()I" } : Jvm.MethodName))) ∈ lw_gd := lw_gd_in (i := 1318) (by decide +kernel) rfl
theorem wd_1319 : ((Jvm.Cond.code ({ cls := "TripleDeskModel", name := "depth", desc := "()I" } : Jvm.MethodName) prog_13_method_22_code (3 : Nat) (Option.some Jvm.ClassFile.FieldType.int))) ∈ lw_gd := lw_gd_in (i := 1319) (by decide +kernel) rfl
theorem wd_1320 : ((Jvm.Cond.methodLink "TripleDeskModel" (241 : Nat) ({ cls := "TripleDeskModel", name := "atom", desc := "(Z)V" } : Jvm.MethodName))) ∈ lw_gd := lw_gd_in (i := 1320) (by decide +kernel) rfl
theorem wd_1322 : ((Jvm.Cond.instanceMethod ({ cls := "TripleDeskModel", name := "atom", desc := "(Z)V" } : Jvm.MethodName))) ∈ lw_gd := lw_gd_in (i := 1322) (by decide +kernel) rfl
theorem wd_1323 : ((Jvm.Cond.code ({ cls := "TripleDeskModel", name := "atom", desc := "(Z)V" } : Jvm.MethodName) prog_13_method_18_code (5 : Nat) (Option.none : Option Jvm.ClassFile.FieldType))) ∈ lw_gd := lw_gd_in (i := 1323) (by decide +kernel) rfl
theorem wd_1336 : ((Jvm.Cond.methodLink "TripleDeskModel" (244 : Nat) ({ cls := "TripleDeskModel", name := "emitNots", desc := "()V" } : Jvm.MethodName))) ∈ lw_gd := lw_gd_in (i := 1336) (by decide +kernel) rfl
theorem wd_1338 : ((Jvm.Cond.instanceMethod ({ cls := "TripleDeskModel", name := "emitNots", desc := "()V" } : Jvm.MethodName))) ∈ lw_gd := lw_gd_in (i := 1338) (by decide +kernel) rfl
theorem wd_1339 : ((Jvm.Cond.code ({ cls := "TripleDeskModel", name := "emitNots", desc := "()V" } : Jvm.MethodName) prog_13_method_20_code (1 : Nat) (Option.none : Option Jvm.ClassFile.FieldType))) ∈ lw_gd := lw_gd_in (i := 1339) (by decide +kernel) rfl
theorem xf_supc (st : Nat → Nat) (i v : Nat) (x : Int32) (h : x = nI v) : upd (fun j => nI (st j)) i x = (fun j => nI (sup st i v j)) := by rw [h]; exact xf_sup st i v
theorem dpt_pop {st : Nat → Nat} {k : Nat} (h : 0 < k) : dpt st (k - 1) ≤ dpt st k ∧ dpt st k ≤ dpt st (k - 1) + 1 := by
  obtain ⟨m, rfl⟩ : ∃ m, k = m + 1 := ⟨k - 1, by omega⟩
  rw [Nat.add_sub_cancel]
  show dpt st m ≤ dpt st m + (if st m = 1 ∨ st m = 9 then 1 else 0) ∧ dpt st m + (if st m = 1 ∨ st m = 9 then 1 else 0) ≤ dpt st m + 1
  split <;> omega
theorem dpt_p1 {st : Nat → Nat} {sd : Nat} : dpt (sup st sd 1) (sd + 1) = dpt st sd + 1 := by rw [dpt_push, if_pos (Or.inl rfl)]
theorem dpt_p9 {st : Nat → Nat} {sd : Nat} : dpt (sup st sd 9) (sd + 1) = dpt st sd + 1 := by rw [dpt_push, if_pos (Or.inr rfl)]
theorem dpt_p2 {st : Nat → Nat} {sd : Nat} : dpt (sup st sd 2) (sd + 1) = dpt st sd := by rw [dpt_push, if_neg (by decide)]; rfl
theorem dpt_p3 {st : Nat → Nat} {sd : Nat} : dpt (sup st sd 3) (sd + 1) = dpt st sd := by rw [dpt_push, if_neg (by decide)]; rfl
theorem sup_lt {st : Nat → Nat} {i v : Nat} (h : ∀ j, st j < 100) (hv : v < 100) : ∀ j, sup st i v j < 100 := fun j => by unfold sup; split; exact hv; exact h j
theorem part_ok {g : Nat} {f f' : Nat → Int32} {q q' sd at1 : Nat} {st : Nat → Nat} (h : cib g f q st sd) (hs : sto st sd) (hd : dpt st sd ≤ 10) (hb : sd ≤ dpt st sd + at1) (h4 : q' = q + 1) (h1 : ∀ j, j < 6 * q → f' j = f j) (h2 : f' (6 * q) = 0 ∧ nmo g (f' (6 * q + 1)) ∧ nmo g (f' (6 * q + 4))) :
    (sto st (sd - ntop st sd) ∧ cim g (enF f' q' (ntop st sd)) (q' + ntop st sd) st (sd - ntop st sd) ∧ dpt st (sd - ntop st sd) ≤ 10 ∧ sd - ntop st sd + 1 ≤ dpt st (sd - ntop st sd) + (at1 + 1)) := by
  subst h4
  have hm := atom_ok h h1 h2
  obtain ⟨n1, n2⟩ := nots_ok (ntop st sd) hm (Nat.le_refl _)
  have := ntop_le (st := st) sd
  exact ⟨sto_pop hs (by omega), n1, by omega, by omega⟩
theorem cib0 {g : Nat} {f : Nat → Int32} {st : Nat → Nat} : cib g f 0 st 0 := ⟨fun k hk => absurd hk (Nat.not_lt_zero _), rfl⟩
theorem sto0 {st : Nat → Nat} (h : ∀ j, st j < 100) : sto st 0 := ⟨h, fun j hj => absurd hj (Nat.not_lt_zero _)⟩
abbrev b_Model_part : ByteArray := prog_13_method_24_code
def y_Model_part : MethodName := ⟨R_Model, "part", "(Z)V"⟩
theorem d_Model_part_0 : decode b_Model_part 0 = .ok (.aload_n 0, 1) := by decide +kernel
theorem d_Model_part_1 : decode b_Model_part 1 = .ok (.getfield 199, 3) := by decide +kernel
theorem d_Model_part_4 : decode b_Model_part 4 = .ok (.ifCond .ne 79, 3) := by decide +kernel
theorem d_Model_part_7 : decode b_Model_part 7 = .ok (.aload_n 0, 1) := by decide +kernel
theorem d_Model_part_8 : decode b_Model_part 8 = .ok (.bipush 33, 2) := by decide +kernel
theorem d_Model_part_10 : decode b_Model_part 10 = .ok (.invokevirtual 212, 3) := by decide +kernel
theorem d_Model_part_13 : decode b_Model_part 13 = .ok (.ifCond .ne 12, 3) := by decide +kernel
theorem d_Model_part_16 : decode b_Model_part 16 = .ok (.aload_n 0, 1) := by decide +kernel
theorem d_Model_part_17 : decode b_Model_part 17 = .ok (.bipush 40, 2) := by decide +kernel
theorem d_Model_part_19 : decode b_Model_part 19 = .ok (.invokevirtual 212, 3) := by decide +kernel
theorem d_Model_part_22 : decode b_Model_part 22 = .ok (.ifCond .eq 61, 3) := by decide +kernel
theorem d_Model_part_25 : decode b_Model_part 25 = .ok (.aload_n 0, 1) := by decide +kernel
theorem d_Model_part_26 : decode b_Model_part 26 = .ok (.invokevirtual 235, 3) := by decide +kernel
theorem d_Model_part_29 : decode b_Model_part 29 = .ok (.bipush 10, 2) := by decide +kernel
theorem d_Model_part_31 : decode b_Model_part 31 = .ok (.if_icmp .ne 11, 3) := by decide +kernel
theorem d_Model_part_34 : decode b_Model_part 34 = .ok (.aload_n 0, 1) := by decide +kernel
theorem d_Model_part_35 : decode b_Model_part 35 = .ok (.iconst 1, 1) := by decide +kernel
theorem d_Model_part_36 : decode b_Model_part 36 = .ok (.putfield 199, 3) := by decide +kernel
theorem d_Model_part_39 : decode b_Model_part 39 = .ok (.goto (-39), 3) := by decide +kernel
theorem d_Model_part_42 : decode b_Model_part 42 = .ok (.aload_n 0, 1) := by decide +kernel
theorem d_Model_part_43 : decode b_Model_part 43 = .ok (.getfield 75, 3) := by decide +kernel
theorem d_Model_part_46 : decode b_Model_part 46 = .ok (.aload_n 0, 1) := by decide +kernel
theorem d_Model_part_47 : decode b_Model_part 47 = .ok (.getfield 229, 3) := by decide +kernel
theorem d_Model_part_50 : decode b_Model_part 50 = .ok (.aload_n 0, 1) := by decide +kernel
theorem d_Model_part_51 : decode b_Model_part 51 = .ok (.bipush 33, 2) := by decide +kernel
theorem d_Model_part_53 : decode b_Model_part 53 = .ok (.invokevirtual 212, 3) := by decide +kernel
theorem d_Model_part_56 : decode b_Model_part 56 = .ok (.ifCond .eq 7, 3) := by decide +kernel
theorem d_Model_part_59 : decode b_Model_part 59 = .ok (.iconst 1, 1) := by decide +kernel
theorem d_Model_part_60 : decode b_Model_part 60 = .ok (.goto 5, 3) := by decide +kernel
theorem d_Model_part_63 : decode b_Model_part 63 = .ok (.bipush 9, 2) := by decide +kernel
theorem d_Model_part_65 : decode b_Model_part 65 = .ok (.iastore, 1) := by decide +kernel
theorem d_Model_part_66 : decode b_Model_part 66 = .ok (.aload_n 0, 1) := by decide +kernel
theorem d_Model_part_67 : decode b_Model_part 67 = .ok (.dup, 1) := by decide +kernel
theorem d_Model_part_68 : decode b_Model_part 68 = .ok (.getfield 229, 3) := by decide +kernel
theorem d_Model_part_71 : decode b_Model_part 71 = .ok (.iconst 1, 1) := by decide +kernel
theorem d_Model_part_72 : decode b_Model_part 72 = .ok (.iadd, 1) := by decide +kernel
theorem d_Model_part_73 : decode b_Model_part 73 = .ok (.putfield 229, 3) := by decide +kernel
theorem d_Model_part_76 : decode b_Model_part 76 = .ok (.aload_n 0, 1) := by decide +kernel
theorem d_Model_part_77 : decode b_Model_part 77 = .ok (.invokevirtual 203, 3) := by decide +kernel
theorem d_Model_part_80 : decode b_Model_part 80 = .ok (.goto (-80), 3) := by decide +kernel
theorem d_Model_part_83 : decode b_Model_part 83 = .ok (.aload_n 0, 1) := by decide +kernel
theorem d_Model_part_84 : decode b_Model_part 84 = .ok (.getfield 199, 3) := by decide +kernel
theorem d_Model_part_87 : decode b_Model_part 87 = .ok (.ifCond .eq 4, 3) := by decide +kernel
theorem d_Model_part_90 : decode b_Model_part 90 = .ok (.return_, 1) := by decide +kernel
theorem d_Model_part_91 : decode b_Model_part 91 = .ok (.aload_n 0, 1) := by decide +kernel
theorem d_Model_part_92 : decode b_Model_part 92 = .ok (.getfield 238, 3) := by decide +kernel
theorem d_Model_part_95 : decode b_Model_part 95 = .ok (.bipush 8, 2) := by decide +kernel
theorem d_Model_part_97 : decode b_Model_part 97 = .ok (.if_icmp .ne 9, 3) := by decide +kernel
theorem d_Model_part_100 : decode b_Model_part 100 = .ok (.aload_n 0, 1) := by decide +kernel
theorem d_Model_part_101 : decode b_Model_part 101 = .ok (.iconst 1, 1) := by decide +kernel
theorem d_Model_part_102 : decode b_Model_part 102 = .ok (.putfield 199, 3) := by decide +kernel
theorem d_Model_part_105 : decode b_Model_part 105 = .ok (.return_, 1) := by decide +kernel
theorem d_Model_part_106 : decode b_Model_part 106 = .ok (.aload_n 0, 1) := by decide +kernel
theorem d_Model_part_107 : decode b_Model_part 107 = .ok (.dup, 1) := by decide +kernel
theorem d_Model_part_108 : decode b_Model_part 108 = .ok (.getfield 238, 3) := by decide +kernel
theorem d_Model_part_111 : decode b_Model_part 111 = .ok (.iconst 1, 1) := by decide +kernel
theorem d_Model_part_112 : decode b_Model_part 112 = .ok (.iadd, 1) := by decide +kernel
theorem d_Model_part_113 : decode b_Model_part 113 = .ok (.putfield 238, 3) := by decide +kernel
theorem d_Model_part_116 : decode b_Model_part 116 = .ok (.aload_n 0, 1) := by decide +kernel
theorem d_Model_part_117 : decode b_Model_part 117 = .ok (.iload_n 1, 1) := by decide +kernel
theorem d_Model_part_118 : decode b_Model_part 118 = .ok (.invokevirtual 241, 3) := by decide +kernel
theorem d_Model_part_121 : decode b_Model_part 121 = .ok (.aload_n 0, 1) := by decide +kernel
theorem d_Model_part_122 : decode b_Model_part 122 = .ok (.invokevirtual 244, 3) := by decide +kernel
theorem d_Model_part_125 : decode b_Model_part 125 = .ok (.return_, 1) := by decide +kernel
set_option maxHeartbeats 40000000 in
set_option maxRecDepth 100000 in
theorem c_M_part (l : Launch) (D : va_G) (ax : Nat → ClassId) (m0 m1 m2 m3 m4 m5 m6 m7 m8 m9 m10 m11 m12 m13 m14 m15 m16 m17 m18 m19 m20 m21 m22 m23 m24 m25 m26 m27 m28 m29 m30 m31 m32 m33 m34 m35 m36 m37 m38 m39 m40 m41 m42 : Nat) (s_thrown s_taped s_outSize s_isProgram s_half s_name s_shift s_statements s_ifs s_whiles s_variants s_open s_isMade s_conditions s_kept s_tops s_used s_looked s_rows s_firstRow s_isBroken : Int32) (n b en k v : Nat) (g : Nat → Nat) (gh q sd at1 c0 : Nat) (st : Nat → Nat) (f : Nat → Int32) (sz : Nat) (hn : n ≤ 400) (hg : ∀ j, g j < 256) (hbe : b ≤ en) (hen : en ≤ n) (hk0 : tk0 k b en) (hk : k < 10000) (hv : v < 20000) (hkv : tkq g n b en k v) (hgh : gh ≤ 1) (hat : at1 ≤ 8) (hc0 : q + sd + 2 * at1 + c0 ≤ b) (hq : q + sd ≤ 12 * at1 + 1) (hbin : sd ≤ dpt st sd + at1) (hd10 : dpt st sd ≤ 10) (hst : sto st sd) (hci : cib (6 + 4 * gh) f q st sd) (hns : nst st sd) : Met l y_Model_part (xws (.code y_Model_part b_Model_part 2 none)) ({ frames := 70, cells := 0, slots := 0, locals := 2800 }) (va_Pc [.ref m0, .int (nI gh)] (xo D ax [(m0, .inr (11, [.int s_thrown, .int s_taped, .ref m1, .int (nI n), .int s_outSize, .ref m2, .int (nI k), .int (nI v), .int (nI b), .int (nI en), .int 0, .ref m3, .ref m4, .ref m5, .int s_isProgram, .int s_half, .ref m6, .ref m7, .ref m8, .ref m9, .ref m10, .ref m11, .ref m12, .ref m13, .ref m14, .ref m15, .ref m16, .ref m17, .ref m18, .ref m19, .ref m20, .int (nI q), .ref m21, .int (nI sd), .ref m22, .int s_name, .int s_shift, .int s_statements, .int s_ifs, .int s_whiles, .int s_variants, .int s_open, .ref m23, .int s_isMade, .int s_conditions, .ref m24, .ref m25, .ref m26, .ref m27, .int s_kept, .ref m28, .int s_tops, .ref m29, .int s_used, .ref m30, .ref m31, .int s_looked, .int s_rows, .int s_firstRow, .ref m32, .ref m33, .ref m34, .ref m35, .ref m36, .ref m37, .ref m38, .ref m39, .ref m40, .int s_isBroken, .ref m41, .int (nI at1), .ref m42])), (m1, .inl (ax 0, 400, .inl (fun j => nI (g j)))), (m22, .inl (ax 0, 64, .inl (fun j => nI (st j)))), (m21, .inl (ax 0, 1200, .inl f))] sz)) ((va_Qv (fun (u : Nat → Nat) => (b ≤ u 0 ∧ u 0 ≤ u 1 ∧ u 1 ≤ n ∧ tk0 (u 2) (u 0) (u 1) ∧ u 2 < 10000 ∧ u 3 < 20000 ∧ tkq g n (u 0) (u 1) (u 2) (u 3) ∧ u 4 ≤ 1 ∧ imp0 (u 4) (u 7 = at1 + 1) ∧ imp0 (u 4) (u 5 + u 6 ≤ 12 * u 7) ∧ imp0 (u 4) (u 5 + u 6 + 2 * u 7 + c0 ≤ u 0) ∧ imp0 (u 4) (b < u 0) ∧ at1 ≤ u 7 ∧ u 7 ≤ 8)) (fun (u : Nat → Nat) (t9 : State) => ∃ xst : Nat → Nat, ∃ xnm : Int32, ∃ xsh : Int32, ∃ xF : Nat → Int32, (∀ j, xst j < 100) ∧ (imp0 (u 4) ((sto xst (u 6) ∧ cim (6 + 4 * gh) xF (u 5) xst (u 6) ∧ dpt xst (u 6) ≤ 10 ∧ u 6 + 1 ≤ dpt xst (u 6) + u 7))) ∧ (imp0 (u 4) (rdS g n gh b (stkl st sd) at1 (u 0) xst (u 6) (u 7))) ∧ (imp1 (u 4) (rdX g n gh b (stkl st sd) at1 (u 0))) ∧ va_P D classes [(m0, .inr (11, [.int s_thrown, .int s_taped, .ref m1, .int (nI n), .int s_outSize, .ref m2, .int (nI (u 2)), .int (nI (u 3)), .int (nI (u 0)), .int (nI (u 1)), .int (nI (u 4)), .ref m3, .ref m4, .ref m5, .int s_isProgram, .int s_half, .ref m6, .ref m7, .ref m8, .ref m9, .ref m10, .ref m11, .ref m12, .ref m13, .ref m14, .ref m15, .ref m16, .ref m17, .ref m18, .ref m19, .ref m20, .int (nI (u 5)), .ref m21, .int (nI (u 6)), .ref m22, .int xnm, .int xsh, .int s_statements, .int s_ifs, .int s_whiles, .int s_variants, .int s_open, .ref m23, .int s_isMade, .int s_conditions, .ref m24, .ref m25, .ref m26, .ref m27, .int s_kept, .ref m28, .int s_tops, .ref m29, .int s_used, .ref m30, .ref m31, .int s_looked, .int s_rows, .int s_firstRow, .ref m32, .ref m33, .ref m34, .ref m35, .ref m36, .ref m37, .ref m38, .ref m39, .ref m40, .int s_isBroken, .ref m41, .int (nI (u 7)), .ref m42])), (m1, .inl (ax 0, 400, .inl (fun j => nI (g j)))), (m22, .inl (ax 0, 64, .inl (fun j => nI (xst j)))), (m21, .inl (ax 0, 1200, .inl xF))] t9.heap ∧ va_D (va_A [(m0, .inr (11, [.int s_thrown, .int s_taped, .ref m1, .int (nI n), .int s_outSize, .ref m2, .int (nI k), .int (nI v), .int (nI b), .int (nI en), .int 0, .ref m3, .ref m4, .ref m5, .int s_isProgram, .int s_half, .ref m6, .ref m7, .ref m8, .ref m9, .ref m10, .ref m11, .ref m12, .ref m13, .ref m14, .ref m15, .ref m16, .ref m17, .ref m18, .ref m19, .ref m20, .int (nI q), .ref m21, .int (nI sd), .ref m22, .int s_name, .int s_shift, .int s_statements, .int s_ifs, .int s_whiles, .int s_variants, .int s_open, .ref m23, .int s_isMade, .int s_conditions, .ref m24, .ref m25, .ref m26, .ref m27, .int s_kept, .ref m28, .int s_tops, .ref m29, .int s_used, .ref m30, .ref m31, .int s_looked, .int s_rows, .int s_firstRow, .ref m32, .ref m33, .ref m34, .ref m35, .ref m36, .ref m37, .ref m38, .ref m39, .ref m40, .int s_isBroken, .ref m41, .int (nI at1), .ref m42])), (m1, .inl (ax 0, 400, .inl (fun j => nI (g j)))), (m22, .inl (ax 0, 64, .inl (fun j => nI (st j)))), (m21, .inl (ax 0, 1200, .inl f))] sz) [(m0, .inr (11, [.int s_thrown, .int s_taped, .ref m1, .int (nI n), .int s_outSize, .ref m2, .int (nI (u 2)), .int (nI (u 3)), .int (nI (u 0)), .int (nI (u 1)), .int (nI (u 4)), .ref m3, .ref m4, .ref m5, .int s_isProgram, .int s_half, .ref m6, .ref m7, .ref m8, .ref m9, .ref m10, .ref m11, .ref m12, .ref m13, .ref m14, .ref m15, .ref m16, .ref m17, .ref m18, .ref m19, .ref m20, .int (nI (u 5)), .ref m21, .int (nI (u 6)), .ref m22, .int xnm, .int xsh, .int s_statements, .int s_ifs, .int s_whiles, .int s_variants, .int s_open, .ref m23, .int s_isMade, .int s_conditions, .ref m24, .ref m25, .ref m26, .ref m27, .int s_kept, .ref m28, .int s_tops, .ref m29, .int s_used, .ref m30, .ref m31, .int s_looked, .int s_rows, .int s_firstRow, .ref m32, .ref m33, .ref m34, .ref m35, .ref m36, .ref m37, .ref m38, .ref m39, .ref m40, .int s_isBroken, .ref m41, .int (nI (u 7)), .ref m42])), (m1, .inl (ax 0, 400, .inl (fun j => nI (g j)))), (m22, .inl (ax 0, 64, .inl (fun j => nI (xst j)))), (m21, .inl (ax 0, 1200, .inl xF))]) (va_A [(m0, .inr (11, [.int s_thrown, .int s_taped, .ref m1, .int (nI n), .int s_outSize, .ref m2, .int (nI k), .int (nI v), .int (nI b), .int (nI en), .int 0, .ref m3, .ref m4, .ref m5, .int s_isProgram, .int s_half, .ref m6, .ref m7, .ref m8, .ref m9, .ref m10, .ref m11, .ref m12, .ref m13, .ref m14, .ref m15, .ref m16, .ref m17, .ref m18, .ref m19, .ref m20, .int (nI q), .ref m21, .int (nI sd), .ref m22, .int s_name, .int s_shift, .int s_statements, .int s_ifs, .int s_whiles, .int s_variants, .int s_open, .ref m23, .int s_isMade, .int s_conditions, .ref m24, .ref m25, .ref m26, .ref m27, .int s_kept, .ref m28, .int s_tops, .ref m29, .int s_used, .ref m30, .ref m31, .int s_looked, .int s_rows, .int s_firstRow, .ref m32, .ref m33, .ref m34, .ref m35, .ref m36, .ref m37, .ref m38, .ref m39, .ref m40, .int s_isBroken, .ref m41, .int (nI at1), .ref m42])), (m1, .inl (ax 0, 400, .inl (fun j => nI (g j)))), (m22, .inl (ax 0, 64, .inl (fun j => nI (st j)))), (m21, .inl (ax 0, 1200, .inl f))] sz))) 0 0 (va_A [(m0, .inr (11, [.int s_thrown, .int s_taped, .ref m1, .int (nI n), .int s_outSize, .ref m2, .int (nI k), .int (nI v), .int (nI b), .int (nI en), .int 0, .ref m3, .ref m4, .ref m5, .int s_isProgram, .int s_half, .ref m6, .ref m7, .ref m8, .ref m9, .ref m10, .ref m11, .ref m12, .ref m13, .ref m14, .ref m15, .ref m16, .ref m17, .ref m18, .ref m19, .ref m20, .int (nI q), .ref m21, .int (nI sd), .ref m22, .int s_name, .int s_shift, .int s_statements, .int s_ifs, .int s_whiles, .int s_variants, .int s_open, .ref m23, .int s_isMade, .int s_conditions, .ref m24, .ref m25, .ref m26, .ref m27, .int s_kept, .ref m28, .int s_tops, .ref m29, .int s_used, .ref m30, .ref m31, .int s_looked, .int s_rows, .int s_firstRow, .ref m32, .ref m33, .ref m34, .ref m35, .ref m36, .ref m37, .ref m38, .ref m39, .ref m40, .int s_isBroken, .ref m41, .int (nI at1), .ref m42])), (m1, .inl (ax 0, 400, .inl (fun j => nI (g j)))), (m22, .inl (ax 0, 64, .inl (fun j => nI (st j)))), (m21, .inl (ax 0, 1200, .inl f))] sz) := by
  refine Met.ofW (cc := b_Model_part) (maxL := 2) (ret := none) (by decide) rfl ?_
  intro p e s m args below meth c s₁ B hml hv
  obtain ⟨rfl, hsz, hP, hK, hD0⟩ := hv
  have hx := B.exec
  have hb := B.bytes
  have hr := B.returns
  have hts := xw_hts B.pre
  have hown : s.vm.findClass R_Model = some m.cls := findClass_of_methodNamed B.named
  have hlocks := B.notSynchronized
  subst hsz
  have hD := hD0.self (sz := s.heap.size)
  have hN := xz_entry hP
  generalize hAe : va_A [(m0, .inr (11, [.int s_thrown, .int s_taped, .ref m1, .int (nI n), .int s_outSize, .ref m2, .int (nI k), .int (nI v), .int (nI b), .int (nI en), .int 0, .ref m3, .ref m4, .ref m5, .int s_isProgram, .int s_half, .ref m6, .ref m7, .ref m8, .ref m9, .ref m10, .ref m11, .ref m12, .ref m13, .ref m14, .ref m15, .ref m16, .ref m17, .ref m18, .ref m19, .ref m20, .int (nI q), .ref m21, .int (nI sd), .ref m22, .int s_name, .int s_shift, .int s_statements, .int s_ifs, .int s_whiles, .int s_variants, .int s_open, .ref m23, .int s_isMade, .int s_conditions, .ref m24, .ref m25, .ref m26, .ref m27, .int s_kept, .ref m28, .int s_tops, .ref m29, .int s_used, .ref m30, .ref m31, .int s_looked, .int s_rows, .int s_firstRow, .ref m32, .ref m33, .ref m34, .ref m35, .ref m36, .ref m37, .ref m38, .ref m39, .ref m40, .int s_isBroken, .ref m41, .int (nI at1), .ref m42])), (m1, .inl (ax 0, 400, .inl (fun j => nI (g j)))), (m22, .inl (ax 0, 64, .inl (fun j => nI (st j)))), (m21, .inl (ax 0, 1200, .inl f))] s.heap.size = A at hD hN ⊢
  have hA : ∀ q : Nat, s.heap.size ≤ q → A q := fun q h => by rw [← hAe]; exact Or.inr h
  have hS : va_S A s.heap s.heap [] := va_S.rf
  have hl0 := lv_entry ([.ref m0, .int (nI gh)]) (n := 2) (Nat.le_of_ble_eq_true rfl)
  rw [lg_entry_eq]
  generalize (lg_sl ([.ref m0, .int (nI gh)]) ++ List.replicate (2 - (lg_sl ([.ref m0, .int (nI gh)])).length) Slot.unset).toArray = ls at hl0 ⊢
  have hl1 : lv_has ls 2 [(0, .ref m0), (1, .int (nI gh))] := hl0
  suffices key_1 : ∀ (k : Nat) (b1 e1 k1 v1 f1 s1 : Nat) (st1 : Nat → Nat), 2 * (n + 1 - b1) + (1 - f1) < k → b ≤ b1 → b1 ≤ e1 → e1 ≤ n → tk0 k1 b1 e1 → k1 < 10000 → v1 < 20000 → tkq g n b1 e1 k1 v1 → f1 ≤ 1 → q + s1 + 2 * at1 + c0 ≤ b1 → s1 + dpt st sd = sd + dpt st1 s1 → dpt st1 s1 ≤ 10 → sto st1 s1 → cib (6 + 4 * gh) f q st1 s1 → imp0 f1 (rdP g n gh b (stkl st sd) at1 b1 st1 s1) → imp1 f1 (rdX g n gh b (stkl st sd) at1 b1) → ∀ (H : Heap) (locs : List Loc) (ls : Array Slot), va_P D classes [(m0, .inr (11, [.int s_thrown, .int s_taped, .ref m1, .int (nI n), .int s_outSize, .ref m2, .int (nI k1), .int (nI v1), .int (nI b1), .int (nI e1), .int (nI f1), .ref m3, .ref m4, .ref m5, .int s_isProgram, .int s_half, .ref m6, .ref m7, .ref m8, .ref m9, .ref m10, .ref m11, .ref m12, .ref m13, .ref m14, .ref m15, .ref m16, .ref m17, .ref m18, .ref m19, .ref m20, .int (nI q), .ref m21, .int (nI s1), .ref m22, .int s_name, .int s_shift, .int s_statements, .int s_ifs, .int s_whiles, .int s_variants, .int s_open, .ref m23, .int s_isMade, .int s_conditions, .ref m24, .ref m25, .ref m26, .ref m27, .int s_kept, .ref m28, .int s_tops, .ref m29, .int s_used, .ref m30, .ref m31, .int s_looked, .int s_rows, .int s_firstRow, .ref m32, .ref m33, .ref m34, .ref m35, .ref m36, .ref m37, .ref m38, .ref m39, .ref m40, .int s_isBroken, .ref m41, .int (nI at1), .ref m42])), (m1, .inl (ax 0, 400, .inl (fun j => nI (g j)))), (m22, .inl (ax 0, 64, .inl (fun j => nI (st1 j)))), (m21, .inl (ax 0, 1200, .inl f))] H → va_D A [(m0, .inr (11, [.int s_thrown, .int s_taped, .ref m1, .int (nI n), .int s_outSize, .ref m2, .int (nI k1), .int (nI v1), .int (nI b1), .int (nI e1), .int (nI f1), .ref m3, .ref m4, .ref m5, .int s_isProgram, .int s_half, .ref m6, .ref m7, .ref m8, .ref m9, .ref m10, .ref m11, .ref m12, .ref m13, .ref m14, .ref m15, .ref m16, .ref m17, .ref m18, .ref m19, .ref m20, .int (nI q), .ref m21, .int (nI s1), .ref m22, .int s_name, .int s_shift, .int s_statements, .int s_ifs, .int s_whiles, .int s_variants, .int s_open, .ref m23, .int s_isMade, .int s_conditions, .ref m24, .ref m25, .ref m26, .ref m27, .int s_kept, .ref m28, .int s_tops, .ref m29, .int s_used, .ref m30, .ref m31, .int s_looked, .int s_rows, .int s_firstRow, .ref m32, .ref m33, .ref m34, .ref m35, .ref m36, .ref m37, .ref m38, .ref m39, .ref m40, .int s_isBroken, .ref m41, .int (nI at1), .ref m42])), (m1, .inl (ax 0, 400, .inl (fun j => nI (g j)))), (m22, .inl (ax 0, 64, .inl (fun j => nI (st1 j)))), (m21, .inl (ax 0, 1200, .inl f))] → va_S A s.heap H locs → lv_has ls 2 [(0, .ref m0), (1, .int (nI gh))] → W p l e (headSpec (xws (.code y_Model_part b_Model_part 2 none)) ({ frames := 70, cells := 0, slots := 0, locals := 2800 })).room s m ([.ref m0, .int (nI gh)] : List Value).toArray below meth c H locs 0 0 (MQ below (va_Qv (fun (u : Nat → Nat) => (b ≤ u 0 ∧ u 0 ≤ u 1 ∧ u 1 ≤ n ∧ tk0 (u 2) (u 0) (u 1) ∧ u 2 < 10000 ∧ u 3 < 20000 ∧ tkq g n (u 0) (u 1) (u 2) (u 3) ∧ u 4 ≤ 1 ∧ imp0 (u 4) (u 7 = at1 + 1) ∧ imp0 (u 4) (u 5 + u 6 ≤ 12 * u 7) ∧ imp0 (u 4) (u 5 + u 6 + 2 * u 7 + c0 ≤ u 0) ∧ imp0 (u 4) (b < u 0) ∧ at1 ≤ u 7 ∧ u 7 ≤ 8)) (fun (u : Nat → Nat) (t9 : State) => ∃ xst : Nat → Nat, ∃ xnm : Int32, ∃ xsh : Int32, ∃ xF : Nat → Int32, (∀ j, xst j < 100) ∧ (imp0 (u 4) ((sto xst (u 6) ∧ cim (6 + 4 * gh) xF (u 5) xst (u 6) ∧ dpt xst (u 6) ≤ 10 ∧ u 6 + 1 ≤ dpt xst (u 6) + u 7))) ∧ (imp0 (u 4) (rdS g n gh b (stkl st sd) at1 (u 0) xst (u 6) (u 7))) ∧ (imp1 (u 4) (rdX g n gh b (stkl st sd) at1 (u 0))) ∧ va_P D classes [(m0, .inr (11, [.int s_thrown, .int s_taped, .ref m1, .int (nI n), .int s_outSize, .ref m2, .int (nI (u 2)), .int (nI (u 3)), .int (nI (u 0)), .int (nI (u 1)), .int (nI (u 4)), .ref m3, .ref m4, .ref m5, .int s_isProgram, .int s_half, .ref m6, .ref m7, .ref m8, .ref m9, .ref m10, .ref m11, .ref m12, .ref m13, .ref m14, .ref m15, .ref m16, .ref m17, .ref m18, .ref m19, .ref m20, .int (nI (u 5)), .ref m21, .int (nI (u 6)), .ref m22, .int xnm, .int xsh, .int s_statements, .int s_ifs, .int s_whiles, .int s_variants, .int s_open, .ref m23, .int s_isMade, .int s_conditions, .ref m24, .ref m25, .ref m26, .ref m27, .int s_kept, .ref m28, .int s_tops, .ref m29, .int s_used, .ref m30, .ref m31, .int s_looked, .int s_rows, .int s_firstRow, .ref m32, .ref m33, .ref m34, .ref m35, .ref m36, .ref m37, .ref m38, .ref m39, .ref m40, .int s_isBroken, .ref m41, .int (nI (u 7)), .ref m42])), (m1, .inl (ax 0, 400, .inl (fun j => nI (g j)))), (m22, .inl (ax 0, 64, .inl (fun j => nI (xst j)))), (m21, .inl (ax 0, 1200, .inl xF))] t9.heap ∧ va_D A [(m0, .inr (11, [.int s_thrown, .int s_taped, .ref m1, .int (nI n), .int s_outSize, .ref m2, .int (nI (u 2)), .int (nI (u 3)), .int (nI (u 0)), .int (nI (u 1)), .int (nI (u 4)), .ref m3, .ref m4, .ref m5, .int s_isProgram, .int s_half, .ref m6, .ref m7, .ref m8, .ref m9, .ref m10, .ref m11, .ref m12, .ref m13, .ref m14, .ref m15, .ref m16, .ref m17, .ref m18, .ref m19, .ref m20, .int (nI (u 5)), .ref m21, .int (nI (u 6)), .ref m22, .int xnm, .int xsh, .int s_statements, .int s_ifs, .int s_whiles, .int s_variants, .int s_open, .ref m23, .int s_isMade, .int s_conditions, .ref m24, .ref m25, .ref m26, .ref m27, .int s_kept, .ref m28, .int s_tops, .ref m29, .int s_used, .ref m30, .ref m31, .int s_looked, .int s_rows, .int s_firstRow, .ref m32, .ref m33, .ref m34, .ref m35, .ref m36, .ref m37, .ref m38, .ref m39, .ref m40, .int s_isBroken, .ref m41, .int (nI (u 7)), .ref m42])), (m1, .inl (ax 0, 400, .inl (fun j => nI (g j)))), (m22, .inl (ax 0, 64, .inl (fun j => nI (xst j)))), (m21, .inl (ax 0, 1200, .inl xF))]) A) ([.ref m0, .int (nI gh)] : List Value).toArray s 0 0 A) (F0 m 0 ls []) from key_1 (2 * (n + 1 - b) + (1 - 0) + 1) b en k v 0 sd st (Nat.lt_succ_self _) (by omega) (by omega) (by omega) hk0 (by omega) (by omega) hkv (by omega) (by omega) (by omega) (by omega) hst hci (Or.inr (rdP_0 hns)) (Or.inl rfl) _ _ _ (hP) (hD) hS (lv_sub hl1 [0, 1] rfl)
  intro k_2
  induction k_2 with
  | zero =>
    intro b1 e1 k1 v1 f1 s1 st1 hk_4
    exact absurd hk_4 (Nat.not_lt_zero _)
  | succ k_2 ih_3 =>
    clear hP hD hS hl1
    intro b1 e1 k1 v1 f1 s1 st1 hk_4 g1 g2 g3 g4 g5 g6 g7 g8 g9 g10 g11 hst1 hci1 hP1 hX1 H locs ls hP hD hS hl1
    refine lv_aload_n hx hb d_Model_part_0 rfl (lv_at hl1 0 rfl) ?_
    refine va_get (D := D) (ci := 11) (v := .int (nI f1)) (C := R_Model) (T := F_Model) (N := 72) hx hb hts i_Model hown hK.1 hP 0 rfl rfl 10 (by decide) (hts _ wd_1046) (fun _ h9 => h9) rfl d_Model_part_1 ?_
    refine lv_if_ne (tgt := 83) hx hb d_Model_part_4 (by decide) (fun c_5 => ?_) (fun c_5 => ?_)
    · replace c_5 : ¬ f1 = 0 := fun hq9 => c_5 ((nI_eq (a := f1) (b := 0) (by omega) (by omega)).mpr hq9)
      refine lv_aload_n hx hb d_Model_part_83 rfl (lv_at hl1 0 rfl) ?_
      refine va_get (D := D) (ci := 11) (v := .int (nI f1)) (C := R_Model) (T := F_Model) (N := 72) hx hb hts i_Model hown hK.1 hP 0 rfl rfl 10 (by decide) (hts _ wd_1046) (fun _ h9 => h9) rfl d_Model_part_84 ?_
      refine lv_if_eq (tgt := 91) hx hb d_Model_part_87 (by decide) (fun c_6 => ?_) (fun c_6 => ?_)
      · replace c_6 : f1 = 0 := (nI_eq (a := f1) (b := 0) (by omega) (by omega)).mp c_6
        rw [show f1 = 0 by omega] at hP hD
        have hP7 := hP; have hD7 := hD; clear hP hD
        have hW7 : (fun w9 : va_W => va_P D classes w9 H ∧ va_D A w9) [(m0, .inr (11, [.int s_thrown, .int s_taped, .ref m1, .int (nI n), .int s_outSize, .ref m2, .int (nI k1), .int (nI v1), .int (nI b1), .int (nI e1), .int 0, .ref m3, .ref m4, .ref m5, .int s_isProgram, .int s_half, .ref m6, .ref m7, .ref m8, .ref m9, .ref m10, .ref m11, .ref m12, .ref m13, .ref m14, .ref m15, .ref m16, .ref m17, .ref m18, .ref m19, .ref m20, .int (nI q), .ref m21, .int (nI s1), .ref m22, .int s_name, .int s_shift, .int s_statements, .int s_ifs, .int s_whiles, .int s_variants, .int s_open, .ref m23, .int s_isMade, .int s_conditions, .ref m24, .ref m25, .ref m26, .ref m27, .int s_kept, .ref m28, .int s_tops, .ref m29, .int s_used, .ref m30, .ref m31, .int s_looked, .int s_rows, .int s_firstRow, .ref m32, .ref m33, .ref m34, .ref m35, .ref m36, .ref m37, .ref m38, .ref m39, .ref m40, .int s_isBroken, .ref m41, .int (nI at1), .ref m42])), (m1, .inl (ax 0, 400, .inl (fun j => nI (g j)))), (m22, .inl (ax 0, 64, .inl (fun j => nI (st1 j)))), (m21, .inl (ax 0, 1200, .inl f))] := ⟨hP7, hD7⟩
        obtain ⟨hP, hD⟩ := hW7
        clear hP7 hD7
        refine lv_aload_n hx hb d_Model_part_91 rfl (lv_at hl1 0 rfl) ?_
        refine va_get (D := D) (ci := 11) (v := .int (nI at1)) (C := R_Model) (T := F_Model) (N := 72) hx hb hts i_Model hown hK.1 hP 0 rfl rfl 70 (by decide) (hts _ wd_1106) (fun _ h9 => h9) rfl d_Model_part_92 ?_
        refine lv_bipush (v := 8) hx hb d_Model_part_95 (by decide) ?_
        refine lv_icmp_ne (tgt := 106) hx hb d_Model_part_97 (by decide) (fun c_7 => ?_) (fun c_7 => ?_)
        · replace c_7 : ¬ at1 = 8 := fun hq9 => c_7 ((nI_eq (a := at1) (b := 8) (by omega) (by omega)).mpr hq9)
          refine lv_aload_n hx hb d_Model_part_106 rfl (lv_at hl1 0 rfl) ?_
          refine lv_dup hx hb d_Model_part_107 rfl ?_
          refine va_get (D := D) (ci := 11) (v := .int (nI at1)) (C := R_Model) (T := F_Model) (N := 72) hx hb hts i_Model hown hK.1 hP 0 rfl rfl 70 (by decide) (hts _ wd_1106) (fun _ h9 => h9) rfl d_Model_part_108 ?_
          refine lv_iconst (v := 1) hx hb d_Model_part_111 (by decide) ?_
          refine lv_iadd hx hb d_Model_part_112 ?_
          refine lv_topi (fun z_8 ez_8 => ?_)
          have ez_8 : z_8 = nI (at1 + 1) := ez_8.trans (nI_add at1 1)
          subst ez_8
          refine va_put (D := D) (ci := 11) (v := .int (nI (at1 + 1))) (ty := .int) (C := R_Model) (T := F_Model) (N := 72) hx hb hts i_Model t_Model t_Model_ok n_Model hown hK.1 hP hD hS 0 rfl rfl 70 (by decide) (hts _ wd_1106) (fun _ h9 => h9) rfl (by decide +kernel) rfl rfl (Nat.le_of_ble_eq_true rfl) d_Model_part_113 (fun H_9 locs hP1 hD1 hS1 => ?_)
          clear hP hD hS
          have hS := hS1
          have hW7 : (fun w9 : va_W => va_P D classes w9 H_9 ∧ va_D A w9) [(m0, .inr (11, [.int s_thrown, .int s_taped, .ref m1, .int (nI n), .int s_outSize, .ref m2, .int (nI k1), .int (nI v1), .int (nI b1), .int (nI e1), .int 0, .ref m3, .ref m4, .ref m5, .int s_isProgram, .int s_half, .ref m6, .ref m7, .ref m8, .ref m9, .ref m10, .ref m11, .ref m12, .ref m13, .ref m14, .ref m15, .ref m16, .ref m17, .ref m18, .ref m19, .ref m20, .int (nI q), .ref m21, .int (nI s1), .ref m22, .int s_name, .int s_shift, .int s_statements, .int s_ifs, .int s_whiles, .int s_variants, .int s_open, .ref m23, .int s_isMade, .int s_conditions, .ref m24, .ref m25, .ref m26, .ref m27, .int s_kept, .ref m28, .int s_tops, .ref m29, .int s_used, .ref m30, .ref m31, .int s_looked, .int s_rows, .int s_firstRow, .ref m32, .ref m33, .ref m34, .ref m35, .ref m36, .ref m37, .ref m38, .ref m39, .ref m40, .int s_isBroken, .ref m41, .int (nI (at1 + 1)), .ref m42])), (m1, .inl (ax 0, 400, .inl (fun j => nI (g j)))), (m22, .inl (ax 0, 64, .inl (fun j => nI (st1 j)))), (m21, .inl (ax 0, 1200, .inl f))] := ⟨hP1, hD1⟩
          obtain ⟨hP, hD⟩ := hW7
          clear hP1 hD1 hS1
          refine lv_aload_n hx hb d_Model_part_116 rfl (lv_at hl1 0 rfl) ?_
          refine lv_iload_n hx hb d_Model_part_117 rfl (lv_at hl1 1 rfl) ?_
          obtain ⟨hPc, hDc, hFc, hCs⟩ := xw_sub3 (wc := [(m0, .inr (11, [.int s_thrown, .int s_taped, .ref m1, .int (nI n), .int s_outSize, .ref m2, .int (nI k1), .int (nI v1), .int (nI b1), .int (nI e1), .int 0, .ref m3, .ref m4, .ref m5, .int s_isProgram, .int s_half, .ref m6, .ref m7, .ref m8, .ref m9, .ref m10, .ref m11, .ref m12, .ref m13, .ref m14, .ref m15, .ref m16, .ref m17, .ref m18, .ref m19, .ref m20, .int (nI q), .ref m21, .int (nI s1), .ref m22, .int s_name, .int s_shift, .int s_statements, .int s_ifs, .int s_whiles, .int s_variants, .int s_open, .ref m23, .int s_isMade, .int s_conditions, .ref m24, .ref m25, .ref m26, .ref m27, .int s_kept, .ref m28, .int s_tops, .ref m29, .int s_used, .ref m30, .ref m31, .int s_looked, .int s_rows, .int s_firstRow, .ref m32, .ref m33, .ref m34, .ref m35, .ref m36, .ref m37, .ref m38, .ref m39, .ref m40, .int s_isBroken, .ref m41, .int (nI (at1 + 1)), .ref m42])), (m1, .inl (ax 0, 400, .inl (fun j => nI (g j)))), (m21, .inl (ax 0, 1200, .inl f))]) hP hD hS hA [0, 1, 3] (by decide) rfl
          have hz := xz_of hN hS
          refine va_callv (va_runV (As := [.int (nI gh)]) (rest := []) ⟨hx, hb, hml, hown, hts⟩ (c_M_atom l D ax m0 m1 m2 m3 m4 m5 m6 m7 m8 m9 m10 m11 m12 m13 m14 m15 m16 m17 m18 m19 m20 m21 m22 m23 m24 m25 m26 m27 m28 m29 m30 m31 m32 m33 m34 m35 m36 m37 m38 m39 m40 m41 m42 s_thrown s_taped s_outSize s_isProgram s_half (nI s1) s_name s_shift s_statements s_ifs s_whiles s_variants s_open s_isMade s_conditions s_kept s_tops s_used s_looked s_rows s_firstRow s_isBroken (nI (at1 + 1)) n b1 e1 k1 v1 g gh q f H_9.size hn hg (by omega) (by omega) (by assumption) (by omega) (by omega) (by assumption) hgh (by omega)) (xcV (n := 1) hts wd_1323 wd_15 wd_1320 wd_1322 ps_59 rfl rfl (by decide +kernel) ⟨Nat.le_of_ble_eq_true rfl, Nat.le_of_ble_eq_true rfl⟩) (xpV (ci := 11) (q0 := 0) (As := [.int (nI gh)]) hPc hK hz hDc rfl rfl) rfl rfl hl1.1 rfl (lv_room (Nat.le_of_ble_eq_true rfl)) d_Model_part_118 ⟨Nat.le_of_ble_eq_true rfl, Nat.le_of_ble_eq_true rfl⟩) hS (fun q _ h => hFc q h) hFc (fun u_10 t H_11 locs ht hvm hw hB hz1 hk1 hS1 => ?_)
          try dsimp only at hw
          obtain ⟨hs_13, hs_14, hs_15, hs_16, hs_17, hs_18, hs_19, hs_20, hs_21, hs_22, hs_23, hs_24⟩ := hw
          obtain ⟨x_25, x_26, x_27, hx_28, hx_29, hP1, hD1⟩ := hB
          rw [ht] at hP1
          have hjn := xw_join3 (wl := [(m22, .inl (ax 0, 64, .inl (fun j => nI (st1 j)))), (m0, .inr (11, [.int s_thrown, .int s_taped, .ref m1, .int (nI n), .int s_outSize, .ref m2, .int (nI (u_10 2)), .int (nI (u_10 3)), .int (nI (u_10 0)), .int (nI (u_10 1)), .int (nI (u_10 4)), .ref m3, .ref m4, .ref m5, .int s_isProgram, .int s_half, .ref m6, .ref m7, .ref m8, .ref m9, .ref m10, .ref m11, .ref m12, .ref m13, .ref m14, .ref m15, .ref m16, .ref m17, .ref m18, .ref m19, .ref m20, .int (nI (u_10 5)), .ref m21, .int (nI s1), .ref m22, .int x_25, .int x_26, .int s_statements, .int s_ifs, .int s_whiles, .int s_variants, .int s_open, .ref m23, .int s_isMade, .int s_conditions, .ref m24, .ref m25, .ref m26, .ref m27, .int s_kept, .ref m28, .int s_tops, .ref m29, .int s_used, .ref m30, .ref m31, .int s_looked, .int s_rows, .int s_firstRow, .ref m32, .ref m33, .ref m34, .ref m35, .ref m36, .ref m37, .ref m38, .ref m39, .ref m40, .int s_isBroken, .ref m41, .int (nI (at1 + 1)), .ref m42])), (m1, .inl (ax 0, 400, .inl (fun j => nI (g j)))), (m21, .inl (ax 0, 1200, .inl x_27))]) hP hD [0, 1, 3] [2] hCs (by decide) (by decide) hk1 hFc hP1 hD1 rfl
          clear hP1 hD1
          clear hPc hDc hFc hCs hz hz1 hk1 ht hvm
          clear hP hD hS
          have hS := hS1
          obtain ⟨hP, hD⟩ := hjn
          clear hS1
          have hnt2 := ntop_le (st := st1) s1
          by_cases hf_30 : u_10 4 = 1
          · clear hs_21 hs_23 hx_29
            rw [show u_10 4 = 1 by omega] at hP hD
            have hP7 := hP; have hD7 := hD; clear hP hD
            have hW7 : (fun w9 : va_W => va_P D classes w9 H_11 ∧ va_D A w9) [(m22, .inl (ax 0, 64, .inl (fun j => nI (st1 j)))), (m0, .inr (11, [.int s_thrown, .int s_taped, .ref m1, .int (nI n), .int s_outSize, .ref m2, .int (nI (u_10 2)), .int (nI (u_10 3)), .int (nI (u_10 0)), .int (nI (u_10 1)), .int 1, .ref m3, .ref m4, .ref m5, .int s_isProgram, .int s_half, .ref m6, .ref m7, .ref m8, .ref m9, .ref m10, .ref m11, .ref m12, .ref m13, .ref m14, .ref m15, .ref m16, .ref m17, .ref m18, .ref m19, .ref m20, .int (nI (u_10 5)), .ref m21, .int (nI s1), .ref m22, .int x_25, .int x_26, .int s_statements, .int s_ifs, .int s_whiles, .int s_variants, .int s_open, .ref m23, .int s_isMade, .int s_conditions, .ref m24, .ref m25, .ref m26, .ref m27, .int s_kept, .ref m28, .int s_tops, .ref m29, .int s_used, .ref m30, .ref m31, .int s_looked, .int s_rows, .int s_firstRow, .ref m32, .ref m33, .ref m34, .ref m35, .ref m36, .ref m37, .ref m38, .ref m39, .ref m40, .int s_isBroken, .ref m41, .int (nI (at1 + 1)), .ref m42])), (m1, .inl (ax 0, 400, .inl (fun j => nI (g j)))), (m21, .inl (ax 0, 1200, .inl x_27))] := ⟨hP7, hD7⟩
            obtain ⟨hP, hD⟩ := hW7
            clear hP7 hD7
            refine lv_aload_n hx hb d_Model_part_121 rfl (lv_at hl1 0 rfl) ?_
            obtain ⟨hPc, hDc, hFc, hCs⟩ := xw_sub3 (wc := [(m0, .inr (11, [.int s_thrown, .int s_taped, .ref m1, .int (nI n), .int s_outSize, .ref m2, .int (nI (u_10 2)), .int (nI (u_10 3)), .int (nI (u_10 0)), .int (nI (u_10 1)), .int 1, .ref m3, .ref m4, .ref m5, .int s_isProgram, .int s_half, .ref m6, .ref m7, .ref m8, .ref m9, .ref m10, .ref m11, .ref m12, .ref m13, .ref m14, .ref m15, .ref m16, .ref m17, .ref m18, .ref m19, .ref m20, .int (nI (u_10 5)), .ref m21, .int (nI s1), .ref m22, .int x_25, .int x_26, .int s_statements, .int s_ifs, .int s_whiles, .int s_variants, .int s_open, .ref m23, .int s_isMade, .int s_conditions, .ref m24, .ref m25, .ref m26, .ref m27, .int s_kept, .ref m28, .int s_tops, .ref m29, .int s_used, .ref m30, .ref m31, .int s_looked, .int s_rows, .int s_firstRow, .ref m32, .ref m33, .ref m34, .ref m35, .ref m36, .ref m37, .ref m38, .ref m39, .ref m40, .int s_isBroken, .ref m41, .int (nI (at1 + 1)), .ref m42])), (m22, .inl (ax 0, 64, .inl (fun j => nI (st1 j)))), (m21, .inl (ax 0, 1200, .inl x_27))]) hP hD hS hA [1, 0, 3] (by decide) rfl
            have hz := xz_of hN hS
            refine va_callv (va_runV (As := []) (rest := []) ⟨hx, hb, hml, hown, hts⟩ (c_M_emitNots l D ax m0 m1 m2 m3 m4 m5 m6 m7 m8 m9 m10 m11 m12 m13 m14 m15 m16 m17 m18 m19 m20 m21 m22 m23 m24 m25 m26 m27 m28 m29 m30 m31 m32 m33 m34 m35 m36 m37 m38 m39 m40 m41 m42 s_thrown s_taped (nI n) s_outSize (nI (u_10 2)) (nI (u_10 3)) (nI (u_10 0)) (nI (u_10 1)) 1 s_isProgram s_half x_25 x_26 s_statements s_ifs s_whiles s_variants s_open s_isMade s_conditions s_kept s_tops s_used s_looked s_rows s_firstRow s_isBroken (nI (at1 + 1)) s1 (u_10 5) st1 x_27 H_11.size (by omega) (by omega) (sto_lt hst1)) (xcV (n := 0) hts wd_1339 wd_15 wd_1336 wd_1338 ps_63 rfl rfl (by decide +kernel) ⟨Nat.le_of_ble_eq_true rfl, Nat.le_of_ble_eq_true rfl⟩) (xpV (ci := 11) (q0 := 0) (As := []) hPc hK hz hDc rfl rfl) rfl rfl hl1.1 rfl (lv_room (Nat.le_of_ble_eq_true rfl)) d_Model_part_122 ⟨Nat.le_of_ble_eq_true rfl, Nat.le_of_ble_eq_true rfl⟩) hS (fun q _ h => hFc q h) hFc (fun u_31 t H_32 locs ht hvm hw hB hz1 hk1 hS1 => ?_)
            try dsimp only at hw
            obtain ⟨hP1, hD1⟩ := hB
            rw [ht] at hP1
            have hjn := xw_join3 (wl := [(m1, .inl (ax 0, 400, .inl (fun j => nI (g j)))), (m0, .inr (11, [.int s_thrown, .int s_taped, .ref m1, .int (nI n), .int s_outSize, .ref m2, .int (nI (u_10 2)), .int (nI (u_10 3)), .int (nI (u_10 0)), .int (nI (u_10 1)), .int 1, .ref m3, .ref m4, .ref m5, .int s_isProgram, .int s_half, .ref m6, .ref m7, .ref m8, .ref m9, .ref m10, .ref m11, .ref m12, .ref m13, .ref m14, .ref m15, .ref m16, .ref m17, .ref m18, .ref m19, .ref m20, .int (nI ((u_10 5) + ntop st1 s1)), .ref m21, .int (nI (s1 - ntop st1 s1)), .ref m22, .int x_25, .int x_26, .int s_statements, .int s_ifs, .int s_whiles, .int s_variants, .int s_open, .ref m23, .int s_isMade, .int s_conditions, .ref m24, .ref m25, .ref m26, .ref m27, .int s_kept, .ref m28, .int s_tops, .ref m29, .int s_used, .ref m30, .ref m31, .int s_looked, .int s_rows, .int s_firstRow, .ref m32, .ref m33, .ref m34, .ref m35, .ref m36, .ref m37, .ref m38, .ref m39, .ref m40, .int s_isBroken, .ref m41, .int (nI (at1 + 1)), .ref m42])), (m22, .inl (ax 0, 64, .inl (fun j => nI (st1 j)))), (m21, .inl (ax 0, 1200, .inl (enF x_27 (u_10 5) (ntop st1 s1))))]) hP hD [1, 0, 3] [2] hCs (by decide) (by decide) hk1 hFc hP1 hD1 rfl
            clear hP1 hD1
            clear hPc hDc hFc hCs hz hz1 hk1 ht hvm
            clear hP hD hS
            have hS := hS1
            obtain ⟨hP, hD⟩ := hjn
            clear hS1
            obtain ⟨hP9, hD9⟩ := xw_sub2 (wc := (fun (u : Nat → Nat) (xst : Nat → Nat) (xnm : Int32) (xsh : Int32) (xF : Nat → Int32) => [(m0, .inr (11, [.int s_thrown, .int s_taped, .ref m1, .int (nI n), .int s_outSize, .ref m2, .int (nI (u 2)), .int (nI (u 3)), .int (nI (u 0)), .int (nI (u 1)), .int (nI (u 4)), .ref m3, .ref m4, .ref m5, .int s_isProgram, .int s_half, .ref m6, .ref m7, .ref m8, .ref m9, .ref m10, .ref m11, .ref m12, .ref m13, .ref m14, .ref m15, .ref m16, .ref m17, .ref m18, .ref m19, .ref m20, .int (nI (u 5)), .ref m21, .int (nI (u 6)), .ref m22, .int xnm, .int xsh, .int s_statements, .int s_ifs, .int s_whiles, .int s_variants, .int s_open, .ref m23, .int s_isMade, .int s_conditions, .ref m24, .ref m25, .ref m26, .ref m27, .int s_kept, .ref m28, .int s_tops, .ref m29, .int s_used, .ref m30, .ref m31, .int s_looked, .int s_rows, .int s_firstRow, .ref m32, .ref m33, .ref m34, .ref m35, .ref m36, .ref m37, .ref m38, .ref m39, .ref m40, .int s_isBroken, .ref m41, .int (nI (u 7)), .ref m42])), (m1, .inl (ax 0, 400, .inl (fun j => nI (g j)))), (m22, .inl (ax 0, 64, .inl (fun j => nI (xst j)))), (m21, .inl (ax 0, 1200, .inl xF))]) (ixn [(u_10 0), (u_10 1), (u_10 2), (u_10 3), 1, ((u_10 5) + ntop st1 s1), (s1 - ntop st1 s1), (at1 + 1)]) st1 x_25 x_26 (enF x_27 (u_10 5) (ntop st1 s1))) hP hD [1, 0, 2, 3] (by decide) rfl
            have hex0 : ∀ j, st1 j < 100 := (sto_lt hst1)
            have hex1 : imp0 (1) ((sto st1 ((s1 - ntop st1 s1)) ∧ cim (6 + 4 * gh) (enF x_27 (u_10 5) (ntop st1 s1)) (((u_10 5) + ntop st1 s1)) st1 ((s1 - ntop st1 s1)) ∧ dpt st1 ((s1 - ntop st1 s1)) ≤ 10 ∧ (s1 - ntop st1 s1) + 1 ≤ dpt st1 ((s1 - ntop st1 s1)) + (at1 + 1))) := (Or.inl rfl)
            have hex2 : imp0 (1) (rdS g n gh b (stkl st sd) at1 ((u_10 0)) st1 ((s1 - ntop st1 s1)) ((at1 + 1))) := (Or.inl rfl)
            have hex3 : imp1 (1) (rdX g n gh b (stkl st sd) at1 ((u_10 0))) := (Or.inr (by first | exact imp1.go hX1 (by omega) | exact rdP_fl (hP1.go (by omega)) g7 (by omega) (by omega) | exact rdP_ab (hP1.go (by omega)) g7 (by omega) (by omega) hs_24 (by omega)))
            have hsp0 : b ≤ (u_10 0) := (by omega)
            have hsp1 : (u_10 0) ≤ (u_10 1) := (by omega)
            have hsp2 : (u_10 1) ≤ n := (by omega)
            have hsp3 : tk0 ((u_10 2)) ((u_10 0)) ((u_10 1)) := (by assumption)
            have hsp4 : (u_10 2) < 10000 := (by omega)
            have hsp5 : (u_10 3) < 20000 := (by omega)
            have hsp6 : tkq g n ((u_10 0)) ((u_10 1)) ((u_10 2)) ((u_10 3)) := (by assumption)
            have hsp7 : 1 ≤ 1 := (by omega)
            have hsp8 : imp0 (1) ((at1 + 1) = at1 + 1) := (Or.inl rfl)
            have hsp9 : imp0 (1) (((u_10 5) + ntop st1 s1) + (s1 - ntop st1 s1) ≤ 12 * (at1 + 1)) := (Or.inl rfl)
            have hsp10 : imp0 (1) (((u_10 5) + ntop st1 s1) + (s1 - ntop st1 s1) + 2 * (at1 + 1) + c0 ≤ (u_10 0)) := (Or.inl rfl)
            have hsp11 : imp0 (1) (b < (u_10 0)) := (Or.inl rfl)
            have hsp12 : at1 ≤ (at1 + 1) := (by omega)
            have hsp13 : (at1 + 1) ≤ 8 := (by omega)
            exact W.vret hx hb hr (fun t ht hW => ⟨⟨ixn [(u_10 0), (u_10 1), (u_10 2), (u_10 3), 1, ((u_10 5) + ntop st1 s1), (s1 - ntop st1 s1), (at1 + 1)], rfl, ⟨hsp0, hsp1, hsp2, hsp3, hsp4, hsp5, hsp6, hsp7, hsp8, hsp9, hsp10, hsp11, hsp12, hsp13⟩, ⟨st1, x_25, x_26, (enF x_27 (u_10 5) (ntop st1 s1)), hex0, hex1, hex2, hex3, by rw [ht]; exact hP9, hD9⟩⟩, hS.F ht⟩) hS.2.2 d_Model_part_125
          · replace hs_21 := imp0.go hs_21 hf_30
            replace hs_23 := imp0.go hs_23 hf_30
            replace hx_29 := imp0.go hx_29 hf_30
            rw [show u_10 4 = 0 by omega] at hP hD
            have hP7 := hP; have hD7 := hD; clear hP hD
            have hW7 : (fun w9 : va_W => va_P D classes w9 H_11 ∧ va_D A w9) [(m22, .inl (ax 0, 64, .inl (fun j => nI (st1 j)))), (m0, .inr (11, [.int s_thrown, .int s_taped, .ref m1, .int (nI n), .int s_outSize, .ref m2, .int (nI (u_10 2)), .int (nI (u_10 3)), .int (nI (u_10 0)), .int (nI (u_10 1)), .int 0, .ref m3, .ref m4, .ref m5, .int s_isProgram, .int s_half, .ref m6, .ref m7, .ref m8, .ref m9, .ref m10, .ref m11, .ref m12, .ref m13, .ref m14, .ref m15, .ref m16, .ref m17, .ref m18, .ref m19, .ref m20, .int (nI (u_10 5)), .ref m21, .int (nI s1), .ref m22, .int x_25, .int x_26, .int s_statements, .int s_ifs, .int s_whiles, .int s_variants, .int s_open, .ref m23, .int s_isMade, .int s_conditions, .ref m24, .ref m25, .ref m26, .ref m27, .int s_kept, .ref m28, .int s_tops, .ref m29, .int s_used, .ref m30, .ref m31, .int s_looked, .int s_rows, .int s_firstRow, .ref m32, .ref m33, .ref m34, .ref m35, .ref m36, .ref m37, .ref m38, .ref m39, .ref m40, .int s_isBroken, .ref m41, .int (nI (at1 + 1)), .ref m42])), (m1, .inl (ax 0, 400, .inl (fun j => nI (g j)))), (m21, .inl (ax 0, 1200, .inl x_27))] := ⟨hP7, hD7⟩
            obtain ⟨hP, hD⟩ := hW7
            clear hP7 hD7
            refine lv_aload_n hx hb d_Model_part_121 rfl (lv_at hl1 0 rfl) ?_
            obtain ⟨hPc, hDc, hFc, hCs⟩ := xw_sub3 (wc := [(m0, .inr (11, [.int s_thrown, .int s_taped, .ref m1, .int (nI n), .int s_outSize, .ref m2, .int (nI (u_10 2)), .int (nI (u_10 3)), .int (nI (u_10 0)), .int (nI (u_10 1)), .int 0, .ref m3, .ref m4, .ref m5, .int s_isProgram, .int s_half, .ref m6, .ref m7, .ref m8, .ref m9, .ref m10, .ref m11, .ref m12, .ref m13, .ref m14, .ref m15, .ref m16, .ref m17, .ref m18, .ref m19, .ref m20, .int (nI (u_10 5)), .ref m21, .int (nI s1), .ref m22, .int x_25, .int x_26, .int s_statements, .int s_ifs, .int s_whiles, .int s_variants, .int s_open, .ref m23, .int s_isMade, .int s_conditions, .ref m24, .ref m25, .ref m26, .ref m27, .int s_kept, .ref m28, .int s_tops, .ref m29, .int s_used, .ref m30, .ref m31, .int s_looked, .int s_rows, .int s_firstRow, .ref m32, .ref m33, .ref m34, .ref m35, .ref m36, .ref m37, .ref m38, .ref m39, .ref m40, .int s_isBroken, .ref m41, .int (nI (at1 + 1)), .ref m42])), (m22, .inl (ax 0, 64, .inl (fun j => nI (st1 j)))), (m21, .inl (ax 0, 1200, .inl x_27))]) hP hD hS hA [1, 0, 3] (by decide) rfl
            have hz := xz_of hN hS
            refine va_callv (va_runV (As := []) (rest := []) ⟨hx, hb, hml, hown, hts⟩ (c_M_emitNots l D ax m0 m1 m2 m3 m4 m5 m6 m7 m8 m9 m10 m11 m12 m13 m14 m15 m16 m17 m18 m19 m20 m21 m22 m23 m24 m25 m26 m27 m28 m29 m30 m31 m32 m33 m34 m35 m36 m37 m38 m39 m40 m41 m42 s_thrown s_taped (nI n) s_outSize (nI (u_10 2)) (nI (u_10 3)) (nI (u_10 0)) (nI (u_10 1)) 0 s_isProgram s_half x_25 x_26 s_statements s_ifs s_whiles s_variants s_open s_isMade s_conditions s_kept s_tops s_used s_looked s_rows s_firstRow s_isBroken (nI (at1 + 1)) s1 (u_10 5) st1 x_27 H_11.size (by omega) (by omega) (sto_lt hst1)) (xcV (n := 0) hts wd_1339 wd_15 wd_1336 wd_1338 ps_63 rfl rfl (by decide +kernel) ⟨Nat.le_of_ble_eq_true rfl, Nat.le_of_ble_eq_true rfl⟩) (xpV (ci := 11) (q0 := 0) (As := []) hPc hK hz hDc rfl rfl) rfl rfl hl1.1 rfl (lv_room (Nat.le_of_ble_eq_true rfl)) d_Model_part_122 ⟨Nat.le_of_ble_eq_true rfl, Nat.le_of_ble_eq_true rfl⟩) hS (fun q _ h => hFc q h) hFc (fun u_34 t H_35 locs ht hvm hw hB hz1 hk1 hS1 => ?_)
            try dsimp only at hw
            obtain ⟨hP1, hD1⟩ := hB
            rw [ht] at hP1
            have hjn := xw_join3 (wl := [(m1, .inl (ax 0, 400, .inl (fun j => nI (g j)))), (m0, .inr (11, [.int s_thrown, .int s_taped, .ref m1, .int (nI n), .int s_outSize, .ref m2, .int (nI (u_10 2)), .int (nI (u_10 3)), .int (nI (u_10 0)), .int (nI (u_10 1)), .int 0, .ref m3, .ref m4, .ref m5, .int s_isProgram, .int s_half, .ref m6, .ref m7, .ref m8, .ref m9, .ref m10, .ref m11, .ref m12, .ref m13, .ref m14, .ref m15, .ref m16, .ref m17, .ref m18, .ref m19, .ref m20, .int (nI ((u_10 5) + ntop st1 s1)), .ref m21, .int (nI (s1 - ntop st1 s1)), .ref m22, .int x_25, .int x_26, .int s_statements, .int s_ifs, .int s_whiles, .int s_variants, .int s_open, .ref m23, .int s_isMade, .int s_conditions, .ref m24, .ref m25, .ref m26, .ref m27, .int s_kept, .ref m28, .int s_tops, .ref m29, .int s_used, .ref m30, .ref m31, .int s_looked, .int s_rows, .int s_firstRow, .ref m32, .ref m33, .ref m34, .ref m35, .ref m36, .ref m37, .ref m38, .ref m39, .ref m40, .int s_isBroken, .ref m41, .int (nI (at1 + 1)), .ref m42])), (m22, .inl (ax 0, 64, .inl (fun j => nI (st1 j)))), (m21, .inl (ax 0, 1200, .inl (enF x_27 (u_10 5) (ntop st1 s1))))]) hP hD [1, 0, 3] [2] hCs (by decide) (by decide) hk1 hFc hP1 hD1 rfl
            clear hP1 hD1
            clear hPc hDc hFc hCs hz hz1 hk1 ht hvm
            clear hP hD hS
            have hS := hS1
            obtain ⟨hP, hD⟩ := hjn
            clear hS1
            have hpo := part_ok (at1 := at1) hci1 hst1 (by omega) (by omega) hs_21 hx_28 hx_29
            obtain ⟨hP9, hD9⟩ := xw_sub2 (wc := (fun (u : Nat → Nat) (xst : Nat → Nat) (xnm : Int32) (xsh : Int32) (xF : Nat → Int32) => [(m0, .inr (11, [.int s_thrown, .int s_taped, .ref m1, .int (nI n), .int s_outSize, .ref m2, .int (nI (u 2)), .int (nI (u 3)), .int (nI (u 0)), .int (nI (u 1)), .int (nI (u 4)), .ref m3, .ref m4, .ref m5, .int s_isProgram, .int s_half, .ref m6, .ref m7, .ref m8, .ref m9, .ref m10, .ref m11, .ref m12, .ref m13, .ref m14, .ref m15, .ref m16, .ref m17, .ref m18, .ref m19, .ref m20, .int (nI (u 5)), .ref m21, .int (nI (u 6)), .ref m22, .int xnm, .int xsh, .int s_statements, .int s_ifs, .int s_whiles, .int s_variants, .int s_open, .ref m23, .int s_isMade, .int s_conditions, .ref m24, .ref m25, .ref m26, .ref m27, .int s_kept, .ref m28, .int s_tops, .ref m29, .int s_used, .ref m30, .ref m31, .int s_looked, .int s_rows, .int s_firstRow, .ref m32, .ref m33, .ref m34, .ref m35, .ref m36, .ref m37, .ref m38, .ref m39, .ref m40, .int s_isBroken, .ref m41, .int (nI (u 7)), .ref m42])), (m1, .inl (ax 0, 400, .inl (fun j => nI (g j)))), (m22, .inl (ax 0, 64, .inl (fun j => nI (xst j)))), (m21, .inl (ax 0, 1200, .inl xF))]) (ixn [(u_10 0), (u_10 1), (u_10 2), (u_10 3), 0, ((u_10 5) + ntop st1 s1), (s1 - ntop st1 s1), (at1 + 1)]) st1 x_25 x_26 (enF x_27 (u_10 5) (ntop st1 s1))) hP hD [1, 0, 2, 3] (by decide) rfl
            have hex0 : ∀ j, st1 j < 100 := (sto_lt hst1)
            have hex1 : imp0 (0) ((sto st1 ((s1 - ntop st1 s1)) ∧ cim (6 + 4 * gh) (enF x_27 (u_10 5) (ntop st1 s1)) (((u_10 5) + ntop st1 s1)) st1 ((s1 - ntop st1 s1)) ∧ dpt st1 ((s1 - ntop st1 s1)) ≤ 10 ∧ (s1 - ntop st1 s1) + 1 ≤ dpt st1 ((s1 - ntop st1 s1)) + (at1 + 1))) := (Or.inr hpo)
            have hex2 : imp0 (0) (rdS g n gh b (stkl st sd) at1 ((u_10 0)) st1 ((s1 - ntop st1 s1)) ((at1 + 1))) := (Or.inr (rdP_at (hP1.go (by omega)) g7 (by omega) (by omega) hs_24 (by omega) (by omega)))
            have hex3 : imp1 (0) (rdX g n gh b (stkl st sd) at1 ((u_10 0))) := (Or.inl rfl)
            have hsp0 : b ≤ (u_10 0) := (by omega)
            have hsp1 : (u_10 0) ≤ (u_10 1) := (by omega)
            have hsp2 : (u_10 1) ≤ n := (by omega)
            have hsp3 : tk0 ((u_10 2)) ((u_10 0)) ((u_10 1)) := (by assumption)
            have hsp4 : (u_10 2) < 10000 := (by omega)
            have hsp5 : (u_10 3) < 20000 := (by omega)
            have hsp6 : tkq g n ((u_10 0)) ((u_10 1)) ((u_10 2)) ((u_10 3)) := (by assumption)
            have hsp7 : 0 ≤ 1 := (by omega)
            have hsp8 : imp0 (0) ((at1 + 1) = at1 + 1) := (Or.inr (by omega))
            have hsp9 : imp0 (0) (((u_10 5) + ntop st1 s1) + (s1 - ntop st1 s1) ≤ 12 * (at1 + 1)) := (Or.inr (by omega))
            have hsp10 : imp0 (0) (((u_10 5) + ntop st1 s1) + (s1 - ntop st1 s1) + 2 * (at1 + 1) + c0 ≤ (u_10 0)) := (Or.inr (by omega))
            have hsp11 : imp0 (0) (b < (u_10 0)) := (Or.inr (by omega))
            have hsp12 : at1 ≤ (at1 + 1) := (by omega)
            have hsp13 : (at1 + 1) ≤ 8 := (by omega)
            exact W.vret hx hb hr (fun t ht hW => ⟨⟨ixn [(u_10 0), (u_10 1), (u_10 2), (u_10 3), 0, ((u_10 5) + ntop st1 s1), (s1 - ntop st1 s1), (at1 + 1)], rfl, ⟨hsp0, hsp1, hsp2, hsp3, hsp4, hsp5, hsp6, hsp7, hsp8, hsp9, hsp10, hsp11, hsp12, hsp13⟩, ⟨st1, x_25, x_26, (enF x_27 (u_10 5) (ntop st1 s1)), hex0, hex1, hex2, hex3, by rw [ht]; exact hP9, hD9⟩⟩, hS.F ht⟩) hS.2.2 d_Model_part_125
        · replace c_7 : at1 = 8 := (nI_eq (a := at1) (b := 8) (by omega) (by omega)).mp c_7
          refine lv_aload_n hx hb d_Model_part_100 rfl (lv_at hl1 0 rfl) ?_
          refine lv_iconst (v := 1) hx hb d_Model_part_101 (by decide) ?_
          refine va_put (D := D) (ci := 11) (v := .int 1) (ty := .boolean) (C := R_Model) (T := F_Model) (N := 72) hx hb hts i_Model t_Model t_Model_ok n_Model hown hK.1 hP hD hS 0 rfl rfl 10 (by decide) (hts _ wd_1046) (fun _ h9 => h9) rfl (by decide +kernel) rfl rfl (Nat.le_of_ble_eq_true rfl) d_Model_part_102 (fun H_37 locs hP1 hD1 hS1 => ?_)
          clear hP hD hS
          have hS := hS1
          have hW7 : (fun w9 : va_W => va_P D classes w9 H_37 ∧ va_D A w9) [(m0, .inr (11, [.int s_thrown, .int s_taped, .ref m1, .int (nI n), .int s_outSize, .ref m2, .int (nI k1), .int (nI v1), .int (nI b1), .int (nI e1), .int 1, .ref m3, .ref m4, .ref m5, .int s_isProgram, .int s_half, .ref m6, .ref m7, .ref m8, .ref m9, .ref m10, .ref m11, .ref m12, .ref m13, .ref m14, .ref m15, .ref m16, .ref m17, .ref m18, .ref m19, .ref m20, .int (nI q), .ref m21, .int (nI s1), .ref m22, .int s_name, .int s_shift, .int s_statements, .int s_ifs, .int s_whiles, .int s_variants, .int s_open, .ref m23, .int s_isMade, .int s_conditions, .ref m24, .ref m25, .ref m26, .ref m27, .int s_kept, .ref m28, .int s_tops, .ref m29, .int s_used, .ref m30, .ref m31, .int s_looked, .int s_rows, .int s_firstRow, .ref m32, .ref m33, .ref m34, .ref m35, .ref m36, .ref m37, .ref m38, .ref m39, .ref m40, .int s_isBroken, .ref m41, .int (nI at1), .ref m42])), (m1, .inl (ax 0, 400, .inl (fun j => nI (g j)))), (m22, .inl (ax 0, 64, .inl (fun j => nI (st1 j)))), (m21, .inl (ax 0, 1200, .inl f))] := ⟨hP1, hD1⟩
          obtain ⟨hP, hD⟩ := hW7
          clear hP1 hD1 hS1
          obtain ⟨hP9, hD9⟩ := xw_sub2 (wc := (fun (u : Nat → Nat) (xst : Nat → Nat) (xnm : Int32) (xsh : Int32) (xF : Nat → Int32) => [(m0, .inr (11, [.int s_thrown, .int s_taped, .ref m1, .int (nI n), .int s_outSize, .ref m2, .int (nI (u 2)), .int (nI (u 3)), .int (nI (u 0)), .int (nI (u 1)), .int (nI (u 4)), .ref m3, .ref m4, .ref m5, .int s_isProgram, .int s_half, .ref m6, .ref m7, .ref m8, .ref m9, .ref m10, .ref m11, .ref m12, .ref m13, .ref m14, .ref m15, .ref m16, .ref m17, .ref m18, .ref m19, .ref m20, .int (nI (u 5)), .ref m21, .int (nI (u 6)), .ref m22, .int xnm, .int xsh, .int s_statements, .int s_ifs, .int s_whiles, .int s_variants, .int s_open, .ref m23, .int s_isMade, .int s_conditions, .ref m24, .ref m25, .ref m26, .ref m27, .int s_kept, .ref m28, .int s_tops, .ref m29, .int s_used, .ref m30, .ref m31, .int s_looked, .int s_rows, .int s_firstRow, .ref m32, .ref m33, .ref m34, .ref m35, .ref m36, .ref m37, .ref m38, .ref m39, .ref m40, .int s_isBroken, .ref m41, .int (nI (u 7)), .ref m42])), (m1, .inl (ax 0, 400, .inl (fun j => nI (g j)))), (m22, .inl (ax 0, 64, .inl (fun j => nI (xst j)))), (m21, .inl (ax 0, 1200, .inl xF))]) (ixn [b1, e1, k1, v1, 1, q, s1, at1]) st1 s_name s_shift f) hP hD [0, 1, 2, 3] (by decide) rfl
          have hex0 : ∀ j, st1 j < 100 := (sto_lt hst1)
          have hex1 : imp0 (1) ((sto st1 (s1) ∧ cim (6 + 4 * gh) f (q) st1 (s1) ∧ dpt st1 (s1) ≤ 10 ∧ s1 + 1 ≤ dpt st1 (s1) + at1)) := (Or.inl rfl)
          have hex2 : imp0 (1) (rdS g n gh b (stkl st sd) at1 (b1) st1 (s1) (at1)) := (Or.inl rfl)
          have hex3 : imp1 (1) (rdX g n gh b (stkl st sd) at1 (b1)) := (Or.inr (by first | exact imp1.go hX1 (by omega) | exact rdP_fl (hP1.go (by omega)) g7 (by omega) (by omega)))
          have hsp0 : b ≤ b1 := (by omega)
          have hsp1 : b1 ≤ e1 := (by omega)
          have hsp2 : e1 ≤ n := (by omega)
          have hsp3 : tk0 (k1) (b1) (e1) := (by assumption)
          have hsp4 : k1 < 10000 := (by omega)
          have hsp5 : v1 < 20000 := (by omega)
          have hsp6 : tkq g n (b1) (e1) (k1) (v1) := (by assumption)
          have hsp7 : 1 ≤ 1 := (by omega)
          have hsp8 : imp0 (1) (at1 = at1 + 1) := (Or.inl rfl)
          have hsp9 : imp0 (1) (q + s1 ≤ 12 * at1) := (Or.inl rfl)
          have hsp10 : imp0 (1) (q + s1 + 2 * at1 + c0 ≤ b1) := (Or.inl rfl)
          have hsp11 : imp0 (1) (b < b1) := (Or.inl rfl)
          have hsp12 : at1 ≤ at1 := (by omega)
          have hsp13 : at1 ≤ 8 := (by omega)
          exact W.vret hx hb hr (fun t ht hW => ⟨⟨ixn [b1, e1, k1, v1, 1, q, s1, at1], rfl, ⟨hsp0, hsp1, hsp2, hsp3, hsp4, hsp5, hsp6, hsp7, hsp8, hsp9, hsp10, hsp11, hsp12, hsp13⟩, ⟨st1, s_name, s_shift, f, hex0, hex1, hex2, hex3, by rw [ht]; exact hP9, hD9⟩⟩, hS.F ht⟩) hS.2.2 d_Model_part_105
      · replace c_6 : ¬ f1 = 0 := fun hq9 => c_6 ((nI_eq (a := f1) (b := 0) (by omega) (by omega)).mpr hq9)
        rw [show f1 = 1 by omega] at hP hD
        have hP7 := hP; have hD7 := hD; clear hP hD
        have hW7 : (fun w9 : va_W => va_P D classes w9 H ∧ va_D A w9) [(m0, .inr (11, [.int s_thrown, .int s_taped, .ref m1, .int (nI n), .int s_outSize, .ref m2, .int (nI k1), .int (nI v1), .int (nI b1), .int (nI e1), .int 1, .ref m3, .ref m4, .ref m5, .int s_isProgram, .int s_half, .ref m6, .ref m7, .ref m8, .ref m9, .ref m10, .ref m11, .ref m12, .ref m13, .ref m14, .ref m15, .ref m16, .ref m17, .ref m18, .ref m19, .ref m20, .int (nI q), .ref m21, .int (nI s1), .ref m22, .int s_name, .int s_shift, .int s_statements, .int s_ifs, .int s_whiles, .int s_variants, .int s_open, .ref m23, .int s_isMade, .int s_conditions, .ref m24, .ref m25, .ref m26, .ref m27, .int s_kept, .ref m28, .int s_tops, .ref m29, .int s_used, .ref m30, .ref m31, .int s_looked, .int s_rows, .int s_firstRow, .ref m32, .ref m33, .ref m34, .ref m35, .ref m36, .ref m37, .ref m38, .ref m39, .ref m40, .int s_isBroken, .ref m41, .int (nI at1), .ref m42])), (m1, .inl (ax 0, 400, .inl (fun j => nI (g j)))), (m22, .inl (ax 0, 64, .inl (fun j => nI (st1 j)))), (m21, .inl (ax 0, 1200, .inl f))] := ⟨hP7, hD7⟩
        obtain ⟨hP, hD⟩ := hW7
        clear hP7 hD7
        obtain ⟨hP9, hD9⟩ := xw_sub2 (wc := (fun (u : Nat → Nat) (xst : Nat → Nat) (xnm : Int32) (xsh : Int32) (xF : Nat → Int32) => [(m0, .inr (11, [.int s_thrown, .int s_taped, .ref m1, .int (nI n), .int s_outSize, .ref m2, .int (nI (u 2)), .int (nI (u 3)), .int (nI (u 0)), .int (nI (u 1)), .int (nI (u 4)), .ref m3, .ref m4, .ref m5, .int s_isProgram, .int s_half, .ref m6, .ref m7, .ref m8, .ref m9, .ref m10, .ref m11, .ref m12, .ref m13, .ref m14, .ref m15, .ref m16, .ref m17, .ref m18, .ref m19, .ref m20, .int (nI (u 5)), .ref m21, .int (nI (u 6)), .ref m22, .int xnm, .int xsh, .int s_statements, .int s_ifs, .int s_whiles, .int s_variants, .int s_open, .ref m23, .int s_isMade, .int s_conditions, .ref m24, .ref m25, .ref m26, .ref m27, .int s_kept, .ref m28, .int s_tops, .ref m29, .int s_used, .ref m30, .ref m31, .int s_looked, .int s_rows, .int s_firstRow, .ref m32, .ref m33, .ref m34, .ref m35, .ref m36, .ref m37, .ref m38, .ref m39, .ref m40, .int s_isBroken, .ref m41, .int (nI (u 7)), .ref m42])), (m1, .inl (ax 0, 400, .inl (fun j => nI (g j)))), (m22, .inl (ax 0, 64, .inl (fun j => nI (xst j)))), (m21, .inl (ax 0, 1200, .inl xF))]) (ixn [b1, e1, k1, v1, 1, q, s1, at1]) st1 s_name s_shift f) hP hD [0, 1, 2, 3] (by decide) rfl
        have hex0 : ∀ j, st1 j < 100 := (sto_lt hst1)
        have hex1 : imp0 (1) ((sto st1 (s1) ∧ cim (6 + 4 * gh) f (q) st1 (s1) ∧ dpt st1 (s1) ≤ 10 ∧ s1 + 1 ≤ dpt st1 (s1) + at1)) := (Or.inl rfl)
        have hex2 : imp0 (1) (rdS g n gh b (stkl st sd) at1 (b1) st1 (s1) (at1)) := (Or.inl rfl)
        have hex3 : imp1 (1) (rdX g n gh b (stkl st sd) at1 (b1)) := (Or.inr (by first | exact imp1.go hX1 (by omega) | exact rdP_fl (hP1.go (by omega)) g7 (by omega) (by omega)))
        have hsp0 : b ≤ b1 := (by omega)
        have hsp1 : b1 ≤ e1 := (by omega)
        have hsp2 : e1 ≤ n := (by omega)
        have hsp3 : tk0 (k1) (b1) (e1) := (by assumption)
        have hsp4 : k1 < 10000 := (by omega)
        have hsp5 : v1 < 20000 := (by omega)
        have hsp6 : tkq g n (b1) (e1) (k1) (v1) := (by assumption)
        have hsp7 : 1 ≤ 1 := (by omega)
        have hsp8 : imp0 (1) (at1 = at1 + 1) := (Or.inl rfl)
        have hsp9 : imp0 (1) (q + s1 ≤ 12 * at1) := (Or.inl rfl)
        have hsp10 : imp0 (1) (q + s1 + 2 * at1 + c0 ≤ b1) := (Or.inl rfl)
        have hsp11 : imp0 (1) (b < b1) := (Or.inl rfl)
        have hsp12 : at1 ≤ at1 := (by omega)
        have hsp13 : at1 ≤ 8 := (by omega)
        exact W.vret hx hb hr (fun t ht hW => ⟨⟨ixn [b1, e1, k1, v1, 1, q, s1, at1], rfl, ⟨hsp0, hsp1, hsp2, hsp3, hsp4, hsp5, hsp6, hsp7, hsp8, hsp9, hsp10, hsp11, hsp12, hsp13⟩, ⟨st1, s_name, s_shift, f, hex0, hex1, hex2, hex3, by rw [ht]; exact hP9, hD9⟩⟩, hS.F ht⟩) hS.2.2 d_Model_part_90
    · replace c_5 : f1 = 0 := (nI_eq (a := f1) (b := 0) (by omega) (by omega)).mp c_5
      refine lv_aload_n hx hb d_Model_part_7 rfl (lv_at hl1 0 rfl) ?_
      refine lv_bipush (v := 33) hx hb d_Model_part_8 (by decide) ?_
      obtain ⟨hPc, hDc, hFc, hCs⟩ := xw_sub3 (wc := [(m0, .inr (11, [.int s_thrown, .int s_taped, .ref m1, .int (nI n), .int s_outSize, .ref m2, .int (nI k1), .int (nI v1), .int (nI b1), .int (nI e1), .int (nI f1), .ref m3, .ref m4, .ref m5, .int s_isProgram, .int s_half, .ref m6, .ref m7, .ref m8, .ref m9, .ref m10, .ref m11, .ref m12, .ref m13, .ref m14, .ref m15, .ref m16, .ref m17, .ref m18, .ref m19, .ref m20, .int (nI q), .ref m21, .int (nI s1), .ref m22, .int s_name, .int s_shift, .int s_statements, .int s_ifs, .int s_whiles, .int s_variants, .int s_open, .ref m23, .int s_isMade, .int s_conditions, .ref m24, .ref m25, .ref m26, .ref m27, .int s_kept, .ref m28, .int s_tops, .ref m29, .int s_used, .ref m30, .ref m31, .int s_looked, .int s_rows, .int s_firstRow, .ref m32, .ref m33, .ref m34, .ref m35, .ref m36, .ref m37, .ref m38, .ref m39, .ref m40, .int s_isBroken, .ref m41, .int (nI at1), .ref m42]))]) hP hD hS hA [0] (by decide) rfl
      have hz := xz_of hN hS
      refine va_calli (va_runV (As := [.int 33]) (rest := []) ⟨hx, hb, hml, hown, hts⟩ (c_M_is l D ax m0 m1 m2 m3 m4 m5 m6 m7 m8 m9 m10 m11 m12 m13 m14 m15 m16 m17 m18 m19 m20 m21 m22 m23 m24 m25 m26 m27 m28 m29 m30 m31 m32 m33 m34 m35 m36 m37 m38 m39 m40 m41 m42 s_thrown s_taped (nI n) s_outSize (nI v1) (nI b1) (nI e1) (nI f1) s_isProgram s_half (nI q) (nI s1) s_name s_shift s_statements s_ifs s_whiles s_variants s_open s_isMade s_conditions s_kept s_tops s_used s_looked s_rows s_firstRow s_isBroken (nI at1) k1 33 H.size (by omega) (by omega)) (xcV (n := 1) hts wd_1315 wd_15 wd_1312 wd_1314 ps_57 rfl rfl (by decide +kernel) ⟨Nat.le_of_ble_eq_true rfl, Nat.le_of_ble_eq_true rfl⟩) (xpV (ci := 11) (q0 := 0) (As := [.int 33]) hPc hK hz hDc rfl rfl) rfl rfl hl1.1 rfl (lv_room (Nat.le_of_ble_eq_true rfl)) d_Model_part_10 ⟨Nat.le_of_ble_eq_true rfl, Nat.le_of_ble_eq_true rfl⟩) hS (fun q _ h => hFc q h) hFc (fun r_40 u_38 t H_39 locs ht hvm hw hB hz1 hk1 hS1 => ?_)
      try dsimp only at hw
      subst hw
      obtain ⟨hP1, hD1⟩ := hB
      rw [ht] at hP1
      have hjn := xw_join3 (wl := [(m1, .inl (ax 0, 400, .inl (fun j => nI (g j)))), (m22, .inl (ax 0, 64, .inl (fun j => nI (st1 j)))), (m21, .inl (ax 0, 1200, .inl f)), (m0, .inr (11, [.int s_thrown, .int s_taped, .ref m1, .int (nI n), .int s_outSize, .ref m2, .int (nI k1), .int (nI v1), .int (nI b1), .int (nI e1), .int (nI f1), .ref m3, .ref m4, .ref m5, .int s_isProgram, .int s_half, .ref m6, .ref m7, .ref m8, .ref m9, .ref m10, .ref m11, .ref m12, .ref m13, .ref m14, .ref m15, .ref m16, .ref m17, .ref m18, .ref m19, .ref m20, .int (nI q), .ref m21, .int (nI s1), .ref m22, .int s_name, .int s_shift, .int s_statements, .int s_ifs, .int s_whiles, .int s_variants, .int s_open, .ref m23, .int s_isMade, .int s_conditions, .ref m24, .ref m25, .ref m26, .ref m27, .int s_kept, .ref m28, .int s_tops, .ref m29, .int s_used, .ref m30, .ref m31, .int s_looked, .int s_rows, .int s_firstRow, .ref m32, .ref m33, .ref m34, .ref m35, .ref m36, .ref m37, .ref m38, .ref m39, .ref m40, .int s_isBroken, .ref m41, .int (nI at1), .ref m42]))]) hP hD [0] [1, 2, 3] hCs (by decide) (by decide) hk1 hFc hP1 hD1 rfl
      clear hP1 hD1
      clear hPc hDc hFc hCs hz hz1 hk1 ht hvm
      clear hP hD hS
      have hS := hS1
      obtain ⟨hP, hD⟩ := hjn
      clear hS1
      refine lv_if_ne (tgt := 25) hx hb d_Model_part_13 (by decide) (fun c_41 => ?_) (fun c_41 => ?_)
      · replace c_41 : (k1 = 200 + 33) := zb_y c_41
        refine lv_aload_n hx hb d_Model_part_25 rfl (lv_at hl1 0 rfl) ?_
        obtain ⟨hPc, hDc, hFc, hCs⟩ := xw_sub3 (wc := [(m0, .inr (11, [.int s_thrown, .int s_taped, .ref m1, .int (nI n), .int s_outSize, .ref m2, .int (nI k1), .int (nI v1), .int (nI b1), .int (nI e1), .int (nI f1), .ref m3, .ref m4, .ref m5, .int s_isProgram, .int s_half, .ref m6, .ref m7, .ref m8, .ref m9, .ref m10, .ref m11, .ref m12, .ref m13, .ref m14, .ref m15, .ref m16, .ref m17, .ref m18, .ref m19, .ref m20, .int (nI q), .ref m21, .int (nI s1), .ref m22, .int s_name, .int s_shift, .int s_statements, .int s_ifs, .int s_whiles, .int s_variants, .int s_open, .ref m23, .int s_isMade, .int s_conditions, .ref m24, .ref m25, .ref m26, .ref m27, .int s_kept, .ref m28, .int s_tops, .ref m29, .int s_used, .ref m30, .ref m31, .int s_looked, .int s_rows, .int s_firstRow, .ref m32, .ref m33, .ref m34, .ref m35, .ref m36, .ref m37, .ref m38, .ref m39, .ref m40, .int s_isBroken, .ref m41, .int (nI at1), .ref m42])), (m22, .inl (ax 0, 64, .inl (fun j => nI (st1 j))))]) hP hD hS hA [3, 1] (by decide) rfl
        have hz := xz_of hN hS
        refine va_calli (va_runV (As := []) (rest := []) ⟨hx, hb, hml, hown, hts⟩ (c_M_depth l D ax m0 m1 m2 m3 m4 m5 m6 m7 m8 m9 m10 m11 m12 m13 m14 m15 m16 m17 m18 m19 m20 m21 m22 m23 m24 m25 m26 m27 m28 m29 m30 m31 m32 m33 m34 m35 m36 m37 m38 m39 m40 m41 m42 s_thrown s_taped (nI n) s_outSize (nI k1) (nI v1) (nI b1) (nI e1) (nI f1) s_isProgram s_half (nI q) s_name s_shift s_statements s_ifs s_whiles s_variants s_open s_isMade s_conditions s_kept s_tops s_used s_looked s_rows s_firstRow s_isBroken (nI at1) s1 st1 H_39.size (by omega) (sto_lt hst1)) (xcV (n := 0) hts wd_1319 wd_15 wd_1316 wd_1318 ps_58 rfl rfl (by decide +kernel) ⟨Nat.le_of_ble_eq_true rfl, Nat.le_of_ble_eq_true rfl⟩) (xpV (ci := 11) (q0 := 0) (As := []) hPc hK hz hDc rfl rfl) rfl rfl hl1.1 rfl (lv_room (Nat.le_of_ble_eq_true rfl)) d_Model_part_26 ⟨Nat.le_of_ble_eq_true rfl, Nat.le_of_ble_eq_true rfl⟩) hS (fun q _ h => hFc q h) hFc (fun r_44 u_42 t H_43 locs ht hvm hw hB hz1 hk1 hS1 => ?_)
        try dsimp only at hw
        subst hw
        obtain ⟨hP1, hD1⟩ := hB
        rw [ht] at hP1
        have hjn := xw_join3 (wl := [(m1, .inl (ax 0, 400, .inl (fun j => nI (g j)))), (m21, .inl (ax 0, 1200, .inl f)), (m0, .inr (11, [.int s_thrown, .int s_taped, .ref m1, .int (nI n), .int s_outSize, .ref m2, .int (nI k1), .int (nI v1), .int (nI b1), .int (nI e1), .int (nI f1), .ref m3, .ref m4, .ref m5, .int s_isProgram, .int s_half, .ref m6, .ref m7, .ref m8, .ref m9, .ref m10, .ref m11, .ref m12, .ref m13, .ref m14, .ref m15, .ref m16, .ref m17, .ref m18, .ref m19, .ref m20, .int (nI q), .ref m21, .int (nI s1), .ref m22, .int s_name, .int s_shift, .int s_statements, .int s_ifs, .int s_whiles, .int s_variants, .int s_open, .ref m23, .int s_isMade, .int s_conditions, .ref m24, .ref m25, .ref m26, .ref m27, .int s_kept, .ref m28, .int s_tops, .ref m29, .int s_used, .ref m30, .ref m31, .int s_looked, .int s_rows, .int s_firstRow, .ref m32, .ref m33, .ref m34, .ref m35, .ref m36, .ref m37, .ref m38, .ref m39, .ref m40, .int s_isBroken, .ref m41, .int (nI at1), .ref m42])), (m22, .inl (ax 0, 64, .inl (fun j => nI (st1 j))))]) hP hD [3, 1] [0, 2] hCs (by decide) (by decide) hk1 hFc hP1 hD1 rfl
        clear hP1 hD1
        clear hPc hDc hFc hCs hz hz1 hk1 ht hvm
        clear hP hD hS
        have hS := hS1
        obtain ⟨hP, hD⟩ := hjn
        clear hS1
        refine lv_bipush (v := 10) hx hb d_Model_part_29 (by decide) ?_
        refine lv_icmp_ne (tgt := 42) hx hb d_Model_part_31 (by decide) (fun c_45 => ?_) (fun c_45 => ?_)
        · replace c_45 : ¬ dpt st1 s1 = 10 := fun hq9 => c_45 ((nI_eq (a := dpt st1 s1) (b := 10) (by omega) (by omega)).mpr hq9)
          have hd1 := dpt_p1 (st := st1) (sd := s1)
          have hd9 := dpt_p9 (st := st1) (sd := s1)
          have hlt_46 : b1 < e1 := tk0.lt (by assumption) (by omega)
          refine lv_aload_n hx hb d_Model_part_42 rfl (lv_at hl1 0 rfl) ?_
          refine va_get (D := D) (ci := 11) (v := .ref m22) (C := R_Model) (T := F_Model) (N := 72) hx hb hts i_Model hown hK.1 hP 2 rfl rfl 34 (by decide) (hts _ wd_1070) (fun _ h9 => h9) rfl d_Model_part_43 ?_
          refine lv_aload_n hx hb d_Model_part_46 rfl (lv_at hl1 0 rfl) ?_
          refine va_get (D := D) (ci := 11) (v := .int (nI s1)) (C := R_Model) (T := F_Model) (N := 72) hx hb hts i_Model hown hK.1 hP 2 rfl rfl 33 (by decide) (hts _ wd_1069) (fun _ h9 => h9) rfl d_Model_part_47 ?_
          refine lv_aload_n hx hb d_Model_part_50 rfl (lv_at hl1 0 rfl) ?_
          refine lv_bipush (v := 33) hx hb d_Model_part_51 (by decide) ?_
          obtain ⟨hPc, hDc, hFc, hCs⟩ := xw_sub3 (wc := [(m0, .inr (11, [.int s_thrown, .int s_taped, .ref m1, .int (nI n), .int s_outSize, .ref m2, .int (nI k1), .int (nI v1), .int (nI b1), .int (nI e1), .int (nI f1), .ref m3, .ref m4, .ref m5, .int s_isProgram, .int s_half, .ref m6, .ref m7, .ref m8, .ref m9, .ref m10, .ref m11, .ref m12, .ref m13, .ref m14, .ref m15, .ref m16, .ref m17, .ref m18, .ref m19, .ref m20, .int (nI q), .ref m21, .int (nI s1), .ref m22, .int s_name, .int s_shift, .int s_statements, .int s_ifs, .int s_whiles, .int s_variants, .int s_open, .ref m23, .int s_isMade, .int s_conditions, .ref m24, .ref m25, .ref m26, .ref m27, .int s_kept, .ref m28, .int s_tops, .ref m29, .int s_used, .ref m30, .ref m31, .int s_looked, .int s_rows, .int s_firstRow, .ref m32, .ref m33, .ref m34, .ref m35, .ref m36, .ref m37, .ref m38, .ref m39, .ref m40, .int s_isBroken, .ref m41, .int (nI at1), .ref m42]))]) hP hD hS hA [2] (by decide) rfl
          have hz := xz_of hN hS
          refine va_calli (va_runV (As := [.int 33]) (rest := [.int (nI s1), .ref m22]) ⟨hx, hb, hml, hown, hts⟩ (c_M_is l D ax m0 m1 m2 m3 m4 m5 m6 m7 m8 m9 m10 m11 m12 m13 m14 m15 m16 m17 m18 m19 m20 m21 m22 m23 m24 m25 m26 m27 m28 m29 m30 m31 m32 m33 m34 m35 m36 m37 m38 m39 m40 m41 m42 s_thrown s_taped (nI n) s_outSize (nI v1) (nI b1) (nI e1) (nI f1) s_isProgram s_half (nI q) (nI s1) s_name s_shift s_statements s_ifs s_whiles s_variants s_open s_isMade s_conditions s_kept s_tops s_used s_looked s_rows s_firstRow s_isBroken (nI at1) k1 33 H_43.size (by omega) (by omega)) (xcV (n := 1) hts wd_1315 wd_15 wd_1312 wd_1314 ps_57 rfl rfl (by decide +kernel) ⟨Nat.le_of_ble_eq_true rfl, Nat.le_of_ble_eq_true rfl⟩) (xpV (ci := 11) (q0 := 0) (As := [.int 33]) hPc hK hz hDc rfl rfl) rfl rfl hl1.1 rfl (lv_room (Nat.le_of_ble_eq_true rfl)) d_Model_part_53 ⟨Nat.le_of_ble_eq_true rfl, Nat.le_of_ble_eq_true rfl⟩) hS (fun q _ h => hFc q h) hFc (fun r_49 u_47 t H_48 locs ht hvm hw hB hz1 hk1 hS1 => ?_)
          try dsimp only at hw
          subst hw
          obtain ⟨hP1, hD1⟩ := hB
          rw [ht] at hP1
          have hjn := xw_join3 (wl := [(m1, .inl (ax 0, 400, .inl (fun j => nI (g j)))), (m21, .inl (ax 0, 1200, .inl f)), (m22, .inl (ax 0, 64, .inl (fun j => nI (st1 j)))), (m0, .inr (11, [.int s_thrown, .int s_taped, .ref m1, .int (nI n), .int s_outSize, .ref m2, .int (nI k1), .int (nI v1), .int (nI b1), .int (nI e1), .int (nI f1), .ref m3, .ref m4, .ref m5, .int s_isProgram, .int s_half, .ref m6, .ref m7, .ref m8, .ref m9, .ref m10, .ref m11, .ref m12, .ref m13, .ref m14, .ref m15, .ref m16, .ref m17, .ref m18, .ref m19, .ref m20, .int (nI q), .ref m21, .int (nI s1), .ref m22, .int s_name, .int s_shift, .int s_statements, .int s_ifs, .int s_whiles, .int s_variants, .int s_open, .ref m23, .int s_isMade, .int s_conditions, .ref m24, .ref m25, .ref m26, .ref m27, .int s_kept, .ref m28, .int s_tops, .ref m29, .int s_used, .ref m30, .ref m31, .int s_looked, .int s_rows, .int s_firstRow, .ref m32, .ref m33, .ref m34, .ref m35, .ref m36, .ref m37, .ref m38, .ref m39, .ref m40, .int s_isBroken, .ref m41, .int (nI at1), .ref m42]))]) hP hD [2] [0, 1, 3] hCs (by decide) (by decide) hk1 hFc hP1 hD1 rfl
          clear hP1 hD1
          clear hPc hDc hFc hCs hz hz1 hk1 ht hvm
          clear hP hD hS
          have hS := hS1
          obtain ⟨hP, hD⟩ := hjn
          clear hS1
          refine lv_if_eq (tgt := 63) hx hb d_Model_part_56 (by decide) (fun c_50 => ?_) (fun c_50 => ?_)
          · replace c_50 : ¬ (k1 = 200 + 33) := zb_n c_50
            refine lv_bipush (v := 9) hx hb d_Model_part_63 (by decide) ?_
            refine va_iast hx hb hK.1 hP hD hS 2 0 rfl rfl (vp_in_nI (by omega) (by omega)) d_Model_part_65 (fun H_51 locs hP1 hD1 hS1 => ?_)
            rw [nI_clamp (by omega)] at hP1 hD1
            clear hP hD hS
            have hS := hS1
            have hW7 : (fun w9 : va_W => va_P D classes w9 H_51 ∧ va_D A w9) [(m1, .inl (ax 0, 400, .inl (fun j => nI (g j)))), (m21, .inl (ax 0, 1200, .inl f)), (m22, .inl (ax 0, 64, .inl (upd (fun j => nI (st1 j)) s1 9))), (m0, .inr (11, [.int s_thrown, .int s_taped, .ref m1, .int (nI n), .int s_outSize, .ref m2, .int (nI k1), .int (nI v1), .int (nI b1), .int (nI e1), .int (nI f1), .ref m3, .ref m4, .ref m5, .int s_isProgram, .int s_half, .ref m6, .ref m7, .ref m8, .ref m9, .ref m10, .ref m11, .ref m12, .ref m13, .ref m14, .ref m15, .ref m16, .ref m17, .ref m18, .ref m19, .ref m20, .int (nI q), .ref m21, .int (nI s1), .ref m22, .int s_name, .int s_shift, .int s_statements, .int s_ifs, .int s_whiles, .int s_variants, .int s_open, .ref m23, .int s_isMade, .int s_conditions, .ref m24, .ref m25, .ref m26, .ref m27, .int s_kept, .ref m28, .int s_tops, .ref m29, .int s_used, .ref m30, .ref m31, .int s_looked, .int s_rows, .int s_firstRow, .ref m32, .ref m33, .ref m34, .ref m35, .ref m36, .ref m37, .ref m38, .ref m39, .ref m40, .int s_isBroken, .ref m41, .int (nI at1), .ref m42]))] := ⟨hP1, hD1⟩
            obtain ⟨hP, hD⟩ := hW7
            clear hP1 hD1 hS1
            refine lv_aload_n hx hb d_Model_part_66 rfl (lv_at hl1 0 rfl) ?_
            refine lv_dup hx hb d_Model_part_67 rfl ?_
            refine va_get (D := D) (ci := 11) (v := .int (nI s1)) (C := R_Model) (T := F_Model) (N := 72) hx hb hts i_Model hown hK.1 hP 3 rfl rfl 33 (by decide) (hts _ wd_1069) (fun _ h9 => h9) rfl d_Model_part_68 ?_
            refine lv_iconst (v := 1) hx hb d_Model_part_71 (by decide) ?_
            refine lv_iadd hx hb d_Model_part_72 ?_
            refine lv_topi (fun z_52 ez_52 => ?_)
            have ez_52 : z_52 = nI (s1 + 1) := ez_52.trans (nI_add s1 1)
            subst ez_52
            refine va_put (D := D) (ci := 11) (v := .int (nI (s1 + 1))) (ty := .int) (C := R_Model) (T := F_Model) (N := 72) hx hb hts i_Model t_Model t_Model_ok n_Model hown hK.1 hP hD hS 3 rfl rfl 33 (by decide) (hts _ wd_1069) (fun _ h9 => h9) rfl (by decide +kernel) rfl rfl (Nat.le_of_ble_eq_true rfl) d_Model_part_73 (fun H_53 locs hP1 hD1 hS1 => ?_)
            clear hP hD hS
            have hS := hS1
            have hW7 : (fun w9 : va_W => va_P D classes w9 H_53 ∧ va_D A w9) [(m1, .inl (ax 0, 400, .inl (fun j => nI (g j)))), (m21, .inl (ax 0, 1200, .inl f)), (m22, .inl (ax 0, 64, .inl (upd (fun j => nI (st1 j)) s1 9))), (m0, .inr (11, [.int s_thrown, .int s_taped, .ref m1, .int (nI n), .int s_outSize, .ref m2, .int (nI k1), .int (nI v1), .int (nI b1), .int (nI e1), .int (nI f1), .ref m3, .ref m4, .ref m5, .int s_isProgram, .int s_half, .ref m6, .ref m7, .ref m8, .ref m9, .ref m10, .ref m11, .ref m12, .ref m13, .ref m14, .ref m15, .ref m16, .ref m17, .ref m18, .ref m19, .ref m20, .int (nI q), .ref m21, .int (nI (s1 + 1)), .ref m22, .int s_name, .int s_shift, .int s_statements, .int s_ifs, .int s_whiles, .int s_variants, .int s_open, .ref m23, .int s_isMade, .int s_conditions, .ref m24, .ref m25, .ref m26, .ref m27, .int s_kept, .ref m28, .int s_tops, .ref m29, .int s_used, .ref m30, .ref m31, .int s_looked, .int s_rows, .int s_firstRow, .ref m32, .ref m33, .ref m34, .ref m35, .ref m36, .ref m37, .ref m38, .ref m39, .ref m40, .int s_isBroken, .ref m41, .int (nI at1), .ref m42]))] := ⟨hP1, hD1⟩
            obtain ⟨hP, hD⟩ := hW7
            clear hP1 hD1 hS1
            refine lv_aload_n hx hb d_Model_part_76 rfl (lv_at hl1 0 rfl) ?_
            obtain ⟨hPc, hDc, hFc, hCs⟩ := xw_sub3 (wc := [(m0, .inr (11, [.int s_thrown, .int s_taped, .ref m1, .int (nI n), .int s_outSize, .ref m2, .int (nI k1), .int (nI v1), .int (nI b1), .int (nI e1), .int (nI f1), .ref m3, .ref m4, .ref m5, .int s_isProgram, .int s_half, .ref m6, .ref m7, .ref m8, .ref m9, .ref m10, .ref m11, .ref m12, .ref m13, .ref m14, .ref m15, .ref m16, .ref m17, .ref m18, .ref m19, .ref m20, .int (nI q), .ref m21, .int (nI (s1 + 1)), .ref m22, .int s_name, .int s_shift, .int s_statements, .int s_ifs, .int s_whiles, .int s_variants, .int s_open, .ref m23, .int s_isMade, .int s_conditions, .ref m24, .ref m25, .ref m26, .ref m27, .int s_kept, .ref m28, .int s_tops, .ref m29, .int s_used, .ref m30, .ref m31, .int s_looked, .int s_rows, .int s_firstRow, .ref m32, .ref m33, .ref m34, .ref m35, .ref m36, .ref m37, .ref m38, .ref m39, .ref m40, .int s_isBroken, .ref m41, .int (nI at1), .ref m42])), (m1, .inl (ax 0, 400, .inl (fun j => nI (g j))))]) hP hD hS hA [3, 0] (by decide) rfl
            have hz := xz_of hN hS
            refine va_callv (va_runV (As := []) (rest := []) ⟨hx, hb, hml, hown, hts⟩ (c_M_next l D ax m0 m1 m2 m3 m4 m5 m6 m7 m8 m9 m10 m11 m12 m13 m14 m15 m16 m17 m18 m19 m20 m21 m22 m23 m24 m25 m26 m27 m28 m29 m30 m31 m32 m33 m34 m35 m36 m37 m38 m39 m40 m41 m42 s_thrown s_taped s_outSize (nI k1) (nI b1) (nI f1) s_isProgram s_half (nI q) (nI (s1 + 1)) s_name s_shift s_statements s_ifs s_whiles s_variants s_open s_isMade s_conditions s_kept s_tops s_used s_looked s_rows s_firstRow s_isBroken (nI at1) n e1 v1 g H_53.size hn (by omega) hg (by omega)) (xcV (n := 0) hts wd_1274 wd_15 wd_1271 wd_1273 ps_51 rfl rfl (by decide +kernel) ⟨Nat.le_of_ble_eq_true rfl, Nat.le_of_ble_eq_true rfl⟩) (xpV (ci := 11) (q0 := 0) (As := []) hPc hK hz hDc rfl rfl) rfl rfl hl1.1 rfl (lv_room (Nat.le_of_ble_eq_true rfl)) d_Model_part_77 ⟨Nat.le_of_ble_eq_true rfl, Nat.le_of_ble_eq_true rfl⟩) hS (fun q _ h => hFc q h) hFc (fun u_54 t H_55 locs ht hvm hw hB hz1 hk1 hS1 => ?_)
            try dsimp only at hw
            obtain ⟨-, -, -, hs_60, hs_61, hs_62, hs_63, hs_64, hs_65, hs_66, hs_67⟩ := hw
            obtain ⟨hP1, hD1⟩ := hB
            rw [ht] at hP1
            have hjn := xw_join3 (wl := [(m21, .inl (ax 0, 1200, .inl f)), (m22, .inl (ax 0, 64, .inl (upd (fun j => nI (st1 j)) s1 9))), (m0, .inr (11, [.int s_thrown, .int s_taped, .ref m1, .int (nI n), .int s_outSize, .ref m2, .int (nI (u_54 2)), .int (nI (u_54 3)), .int (nI (u_54 0)), .int (nI (u_54 1)), .int (nI f1), .ref m3, .ref m4, .ref m5, .int s_isProgram, .int s_half, .ref m6, .ref m7, .ref m8, .ref m9, .ref m10, .ref m11, .ref m12, .ref m13, .ref m14, .ref m15, .ref m16, .ref m17, .ref m18, .ref m19, .ref m20, .int (nI q), .ref m21, .int (nI (s1 + 1)), .ref m22, .int s_name, .int s_shift, .int s_statements, .int s_ifs, .int s_whiles, .int s_variants, .int s_open, .ref m23, .int s_isMade, .int s_conditions, .ref m24, .ref m25, .ref m26, .ref m27, .int s_kept, .ref m28, .int s_tops, .ref m29, .int s_used, .ref m30, .ref m31, .int s_looked, .int s_rows, .int s_firstRow, .ref m32, .ref m33, .ref m34, .ref m35, .ref m36, .ref m37, .ref m38, .ref m39, .ref m40, .int s_isBroken, .ref m41, .int (nI at1), .ref m42])), (m1, .inl (ax 0, 400, .inl (fun j => nI (g j))))]) hP hD [3, 0] [1, 2] hCs (by decide) (by decide) hk1 hFc hP1 hD1 rfl
            clear hP1 hD1
            clear hPc hDc hFc hCs hz hz1 hk1 ht hvm
            clear hP hD hS
            have hS := hS1
            obtain ⟨hP, hD⟩ := hjn
            clear hS1
            refine lv_goto (tgt := 0) hx hb d_Model_part_80 (by decide) ?_
            rw [xf_supc st1 s1 9 9 rfl] at hP hD
            have hP7 := hP; have hD7 := hD; clear hP hD
            have hW7 : (fun w9 : va_W => va_P D classes w9 H_55 ∧ va_D A w9) [(m21, .inl (ax 0, 1200, .inl f)), (m22, .inl (ax 0, 64, .inl (fun j => nI (sup st1 s1 9 j)))), (m0, .inr (11, [.int s_thrown, .int s_taped, .ref m1, .int (nI n), .int s_outSize, .ref m2, .int (nI (u_54 2)), .int (nI (u_54 3)), .int (nI (u_54 0)), .int (nI (u_54 1)), .int (nI f1), .ref m3, .ref m4, .ref m5, .int s_isProgram, .int s_half, .ref m6, .ref m7, .ref m8, .ref m9, .ref m10, .ref m11, .ref m12, .ref m13, .ref m14, .ref m15, .ref m16, .ref m17, .ref m18, .ref m19, .ref m20, .int (nI q), .ref m21, .int (nI (s1 + 1)), .ref m22, .int s_name, .int s_shift, .int s_statements, .int s_ifs, .int s_whiles, .int s_variants, .int s_open, .ref m23, .int s_isMade, .int s_conditions, .ref m24, .ref m25, .ref m26, .ref m27, .int s_kept, .ref m28, .int s_tops, .ref m29, .int s_used, .ref m30, .ref m31, .int s_looked, .int s_rows, .int s_firstRow, .ref m32, .ref m33, .ref m34, .ref m35, .ref m36, .ref m37, .ref m38, .ref m39, .ref m40, .int s_isBroken, .ref m41, .int (nI at1), .ref m42])), (m1, .inl (ax 0, 400, .inl (fun j => nI (g j))))] := ⟨hP7, hD7⟩
            obtain ⟨hP, hD⟩ := hW7
            clear hP7 hD7
            exact ih_3 (u_54 0) (u_54 1) (u_54 2) (u_54 3) f1 (s1 + 1) (sup st1 s1 9) (by omega) (by omega) (by omega) (by omega) (by assumption) (by omega) (by omega) (by assumption) (by omega) (by omega) (by omega) (by omega) (by first | assumption | exact sto_push hst1 (by omega)) (by first | assumption | exact cib_push hci1 (by omega)) (Or.inr (by first | exact rdP_nt (hP1.go (by omega)) g7 (by omega) (by omega) hs_60 | exact rdP_pa (hP1.go (by omega)) g7 (by omega) (by omega) hs_60)) (Or.inl (by omega)) _ _ _ (hP.sub [2, 3, 1, 0] rfl) (hD.sub [2, 3, 1, 0] (by decide) rfl) hS (lv_sub hl1 [0, 1] rfl)
          · replace c_50 : (k1 = 200 + 33) := zb_y c_50
            refine lv_iconst (v := 1) hx hb d_Model_part_59 (by decide) ?_
            refine lv_goto (tgt := 65) hx hb d_Model_part_60 (by decide) ?_
            refine va_iast hx hb hK.1 hP hD hS 2 0 rfl rfl (vp_in_nI (by omega) (by omega)) d_Model_part_65 (fun H_68 locs hP1 hD1 hS1 => ?_)
            rw [nI_clamp (by omega)] at hP1 hD1
            clear hP hD hS
            have hS := hS1
            have hW7 : (fun w9 : va_W => va_P D classes w9 H_68 ∧ va_D A w9) [(m1, .inl (ax 0, 400, .inl (fun j => nI (g j)))), (m21, .inl (ax 0, 1200, .inl f)), (m22, .inl (ax 0, 64, .inl (upd (fun j => nI (st1 j)) s1 1))), (m0, .inr (11, [.int s_thrown, .int s_taped, .ref m1, .int (nI n), .int s_outSize, .ref m2, .int (nI k1), .int (nI v1), .int (nI b1), .int (nI e1), .int (nI f1), .ref m3, .ref m4, .ref m5, .int s_isProgram, .int s_half, .ref m6, .ref m7, .ref m8, .ref m9, .ref m10, .ref m11, .ref m12, .ref m13, .ref m14, .ref m15, .ref m16, .ref m17, .ref m18, .ref m19, .ref m20, .int (nI q), .ref m21, .int (nI s1), .ref m22, .int s_name, .int s_shift, .int s_statements, .int s_ifs, .int s_whiles, .int s_variants, .int s_open, .ref m23, .int s_isMade, .int s_conditions, .ref m24, .ref m25, .ref m26, .ref m27, .int s_kept, .ref m28, .int s_tops, .ref m29, .int s_used, .ref m30, .ref m31, .int s_looked, .int s_rows, .int s_firstRow, .ref m32, .ref m33, .ref m34, .ref m35, .ref m36, .ref m37, .ref m38, .ref m39, .ref m40, .int s_isBroken, .ref m41, .int (nI at1), .ref m42]))] := ⟨hP1, hD1⟩
            obtain ⟨hP, hD⟩ := hW7
            clear hP1 hD1 hS1
            refine lv_aload_n hx hb d_Model_part_66 rfl (lv_at hl1 0 rfl) ?_
            refine lv_dup hx hb d_Model_part_67 rfl ?_
            refine va_get (D := D) (ci := 11) (v := .int (nI s1)) (C := R_Model) (T := F_Model) (N := 72) hx hb hts i_Model hown hK.1 hP 3 rfl rfl 33 (by decide) (hts _ wd_1069) (fun _ h9 => h9) rfl d_Model_part_68 ?_
            refine lv_iconst (v := 1) hx hb d_Model_part_71 (by decide) ?_
            refine lv_iadd hx hb d_Model_part_72 ?_
            refine lv_topi (fun z_69 ez_69 => ?_)
            have ez_69 : z_69 = nI (s1 + 1) := ez_69.trans (nI_add s1 1)
            subst ez_69
            refine va_put (D := D) (ci := 11) (v := .int (nI (s1 + 1))) (ty := .int) (C := R_Model) (T := F_Model) (N := 72) hx hb hts i_Model t_Model t_Model_ok n_Model hown hK.1 hP hD hS 3 rfl rfl 33 (by decide) (hts _ wd_1069) (fun _ h9 => h9) rfl (by decide +kernel) rfl rfl (Nat.le_of_ble_eq_true rfl) d_Model_part_73 (fun H_70 locs hP1 hD1 hS1 => ?_)
            clear hP hD hS
            have hS := hS1
            have hW7 : (fun w9 : va_W => va_P D classes w9 H_70 ∧ va_D A w9) [(m1, .inl (ax 0, 400, .inl (fun j => nI (g j)))), (m21, .inl (ax 0, 1200, .inl f)), (m22, .inl (ax 0, 64, .inl (upd (fun j => nI (st1 j)) s1 1))), (m0, .inr (11, [.int s_thrown, .int s_taped, .ref m1, .int (nI n), .int s_outSize, .ref m2, .int (nI k1), .int (nI v1), .int (nI b1), .int (nI e1), .int (nI f1), .ref m3, .ref m4, .ref m5, .int s_isProgram, .int s_half, .ref m6, .ref m7, .ref m8, .ref m9, .ref m10, .ref m11, .ref m12, .ref m13, .ref m14, .ref m15, .ref m16, .ref m17, .ref m18, .ref m19, .ref m20, .int (nI q), .ref m21, .int (nI (s1 + 1)), .ref m22, .int s_name, .int s_shift, .int s_statements, .int s_ifs, .int s_whiles, .int s_variants, .int s_open, .ref m23, .int s_isMade, .int s_conditions, .ref m24, .ref m25, .ref m26, .ref m27, .int s_kept, .ref m28, .int s_tops, .ref m29, .int s_used, .ref m30, .ref m31, .int s_looked, .int s_rows, .int s_firstRow, .ref m32, .ref m33, .ref m34, .ref m35, .ref m36, .ref m37, .ref m38, .ref m39, .ref m40, .int s_isBroken, .ref m41, .int (nI at1), .ref m42]))] := ⟨hP1, hD1⟩
            obtain ⟨hP, hD⟩ := hW7
            clear hP1 hD1 hS1
            refine lv_aload_n hx hb d_Model_part_76 rfl (lv_at hl1 0 rfl) ?_
            obtain ⟨hPc, hDc, hFc, hCs⟩ := xw_sub3 (wc := [(m0, .inr (11, [.int s_thrown, .int s_taped, .ref m1, .int (nI n), .int s_outSize, .ref m2, .int (nI k1), .int (nI v1), .int (nI b1), .int (nI e1), .int (nI f1), .ref m3, .ref m4, .ref m5, .int s_isProgram, .int s_half, .ref m6, .ref m7, .ref m8, .ref m9, .ref m10, .ref m11, .ref m12, .ref m13, .ref m14, .ref m15, .ref m16, .ref m17, .ref m18, .ref m19, .ref m20, .int (nI q), .ref m21, .int (nI (s1 + 1)), .ref m22, .int s_name, .int s_shift, .int s_statements, .int s_ifs, .int s_whiles, .int s_variants, .int s_open, .ref m23, .int s_isMade, .int s_conditions, .ref m24, .ref m25, .ref m26, .ref m27, .int s_kept, .ref m28, .int s_tops, .ref m29, .int s_used, .ref m30, .ref m31, .int s_looked, .int s_rows, .int s_firstRow, .ref m32, .ref m33, .ref m34, .ref m35, .ref m36, .ref m37, .ref m38, .ref m39, .ref m40, .int s_isBroken, .ref m41, .int (nI at1), .ref m42])), (m1, .inl (ax 0, 400, .inl (fun j => nI (g j))))]) hP hD hS hA [3, 0] (by decide) rfl
            have hz := xz_of hN hS
            refine va_callv (va_runV (As := []) (rest := []) ⟨hx, hb, hml, hown, hts⟩ (c_M_next l D ax m0 m1 m2 m3 m4 m5 m6 m7 m8 m9 m10 m11 m12 m13 m14 m15 m16 m17 m18 m19 m20 m21 m22 m23 m24 m25 m26 m27 m28 m29 m30 m31 m32 m33 m34 m35 m36 m37 m38 m39 m40 m41 m42 s_thrown s_taped s_outSize (nI k1) (nI b1) (nI f1) s_isProgram s_half (nI q) (nI (s1 + 1)) s_name s_shift s_statements s_ifs s_whiles s_variants s_open s_isMade s_conditions s_kept s_tops s_used s_looked s_rows s_firstRow s_isBroken (nI at1) n e1 v1 g H_70.size hn (by omega) hg (by omega)) (xcV (n := 0) hts wd_1274 wd_15 wd_1271 wd_1273 ps_51 rfl rfl (by decide +kernel) ⟨Nat.le_of_ble_eq_true rfl, Nat.le_of_ble_eq_true rfl⟩) (xpV (ci := 11) (q0 := 0) (As := []) hPc hK hz hDc rfl rfl) rfl rfl hl1.1 rfl (lv_room (Nat.le_of_ble_eq_true rfl)) d_Model_part_77 ⟨Nat.le_of_ble_eq_true rfl, Nat.le_of_ble_eq_true rfl⟩) hS (fun q _ h => hFc q h) hFc (fun u_71 t H_72 locs ht hvm hw hB hz1 hk1 hS1 => ?_)
            try dsimp only at hw
            obtain ⟨-, -, -, hs_77, hs_78, hs_79, hs_80, hs_81, hs_82, hs_83, hs_84⟩ := hw
            obtain ⟨hP1, hD1⟩ := hB
            rw [ht] at hP1
            have hjn := xw_join3 (wl := [(m21, .inl (ax 0, 1200, .inl f)), (m22, .inl (ax 0, 64, .inl (upd (fun j => nI (st1 j)) s1 1))), (m0, .inr (11, [.int s_thrown, .int s_taped, .ref m1, .int (nI n), .int s_outSize, .ref m2, .int (nI (u_71 2)), .int (nI (u_71 3)), .int (nI (u_71 0)), .int (nI (u_71 1)), .int (nI f1), .ref m3, .ref m4, .ref m5, .int s_isProgram, .int s_half, .ref m6, .ref m7, .ref m8, .ref m9, .ref m10, .ref m11, .ref m12, .ref m13, .ref m14, .ref m15, .ref m16, .ref m17, .ref m18, .ref m19, .ref m20, .int (nI q), .ref m21, .int (nI (s1 + 1)), .ref m22, .int s_name, .int s_shift, .int s_statements, .int s_ifs, .int s_whiles, .int s_variants, .int s_open, .ref m23, .int s_isMade, .int s_conditions, .ref m24, .ref m25, .ref m26, .ref m27, .int s_kept, .ref m28, .int s_tops, .ref m29, .int s_used, .ref m30, .ref m31, .int s_looked, .int s_rows, .int s_firstRow, .ref m32, .ref m33, .ref m34, .ref m35, .ref m36, .ref m37, .ref m38, .ref m39, .ref m40, .int s_isBroken, .ref m41, .int (nI at1), .ref m42])), (m1, .inl (ax 0, 400, .inl (fun j => nI (g j))))]) hP hD [3, 0] [1, 2] hCs (by decide) (by decide) hk1 hFc hP1 hD1 rfl
            clear hP1 hD1
            clear hPc hDc hFc hCs hz hz1 hk1 ht hvm
            clear hP hD hS
            have hS := hS1
            obtain ⟨hP, hD⟩ := hjn
            clear hS1
            refine lv_goto (tgt := 0) hx hb d_Model_part_80 (by decide) ?_
            rw [xf_supc st1 s1 1 1 rfl] at hP hD
            have hP7 := hP; have hD7 := hD; clear hP hD
            have hW7 : (fun w9 : va_W => va_P D classes w9 H_72 ∧ va_D A w9) [(m21, .inl (ax 0, 1200, .inl f)), (m22, .inl (ax 0, 64, .inl (fun j => nI (sup st1 s1 1 j)))), (m0, .inr (11, [.int s_thrown, .int s_taped, .ref m1, .int (nI n), .int s_outSize, .ref m2, .int (nI (u_71 2)), .int (nI (u_71 3)), .int (nI (u_71 0)), .int (nI (u_71 1)), .int (nI f1), .ref m3, .ref m4, .ref m5, .int s_isProgram, .int s_half, .ref m6, .ref m7, .ref m8, .ref m9, .ref m10, .ref m11, .ref m12, .ref m13, .ref m14, .ref m15, .ref m16, .ref m17, .ref m18, .ref m19, .ref m20, .int (nI q), .ref m21, .int (nI (s1 + 1)), .ref m22, .int s_name, .int s_shift, .int s_statements, .int s_ifs, .int s_whiles, .int s_variants, .int s_open, .ref m23, .int s_isMade, .int s_conditions, .ref m24, .ref m25, .ref m26, .ref m27, .int s_kept, .ref m28, .int s_tops, .ref m29, .int s_used, .ref m30, .ref m31, .int s_looked, .int s_rows, .int s_firstRow, .ref m32, .ref m33, .ref m34, .ref m35, .ref m36, .ref m37, .ref m38, .ref m39, .ref m40, .int s_isBroken, .ref m41, .int (nI at1), .ref m42])), (m1, .inl (ax 0, 400, .inl (fun j => nI (g j))))] := ⟨hP7, hD7⟩
            obtain ⟨hP, hD⟩ := hW7
            clear hP7 hD7
            exact ih_3 (u_71 0) (u_71 1) (u_71 2) (u_71 3) f1 (s1 + 1) (sup st1 s1 1) (by omega) (by omega) (by omega) (by omega) (by assumption) (by omega) (by omega) (by assumption) (by omega) (by omega) (by omega) (by omega) (by first | assumption | exact sto_push hst1 (by omega)) (by first | assumption | exact cib_push hci1 (by omega)) (Or.inr (by first | exact rdP_nt (hP1.go (by omega)) g7 (by omega) (by omega) hs_77 | exact rdP_pa (hP1.go (by omega)) g7 (by omega) (by omega) hs_77)) (Or.inl (by omega)) _ _ _ (hP.sub [2, 3, 1, 0] rfl) (hD.sub [2, 3, 1, 0] (by decide) rfl) hS (lv_sub hl1 [0, 1] rfl)
        · replace c_45 : dpt st1 s1 = 10 := (nI_eq (a := dpt st1 s1) (b := 10) (by omega) (by omega)).mp c_45
          refine lv_aload_n hx hb d_Model_part_34 rfl (lv_at hl1 0 rfl) ?_
          refine lv_iconst (v := 1) hx hb d_Model_part_35 (by decide) ?_
          refine va_put (D := D) (ci := 11) (v := .int 1) (ty := .boolean) (C := R_Model) (T := F_Model) (N := 72) hx hb hts i_Model t_Model t_Model_ok n_Model hown hK.1 hP hD hS 2 rfl rfl 10 (by decide) (hts _ wd_1046) (fun _ h9 => h9) rfl (by decide +kernel) rfl rfl (Nat.le_of_ble_eq_true rfl) d_Model_part_36 (fun H_85 locs hP1 hD1 hS1 => ?_)
          clear hP hD hS
          have hS := hS1
          have hW7 : (fun w9 : va_W => va_P D classes w9 H_85 ∧ va_D A w9) [(m1, .inl (ax 0, 400, .inl (fun j => nI (g j)))), (m21, .inl (ax 0, 1200, .inl f)), (m0, .inr (11, [.int s_thrown, .int s_taped, .ref m1, .int (nI n), .int s_outSize, .ref m2, .int (nI k1), .int (nI v1), .int (nI b1), .int (nI e1), .int 1, .ref m3, .ref m4, .ref m5, .int s_isProgram, .int s_half, .ref m6, .ref m7, .ref m8, .ref m9, .ref m10, .ref m11, .ref m12, .ref m13, .ref m14, .ref m15, .ref m16, .ref m17, .ref m18, .ref m19, .ref m20, .int (nI q), .ref m21, .int (nI s1), .ref m22, .int s_name, .int s_shift, .int s_statements, .int s_ifs, .int s_whiles, .int s_variants, .int s_open, .ref m23, .int s_isMade, .int s_conditions, .ref m24, .ref m25, .ref m26, .ref m27, .int s_kept, .ref m28, .int s_tops, .ref m29, .int s_used, .ref m30, .ref m31, .int s_looked, .int s_rows, .int s_firstRow, .ref m32, .ref m33, .ref m34, .ref m35, .ref m36, .ref m37, .ref m38, .ref m39, .ref m40, .int s_isBroken, .ref m41, .int (nI at1), .ref m42])), (m22, .inl (ax 0, 64, .inl (fun j => nI (st1 j))))] := ⟨hP1, hD1⟩
          obtain ⟨hP, hD⟩ := hW7
          clear hP1 hD1 hS1
          refine lv_goto (tgt := 0) hx hb d_Model_part_39 (by decide) ?_
          exact ih_3 b1 e1 k1 v1 1 s1 st1 (by omega) (by omega) (by omega) (by omega) (by assumption) (by omega) (by omega) (by assumption) (by omega) (by omega) (by omega) (by omega) (by first | assumption | exact sto_push hst1 (by omega)) (by first | assumption | exact cib_push hci1 (by omega)) (Or.inl rfl) (Or.inr (rdP_dp (hP1.go (by omega)) g7 (by omega) (by omega))) _ _ _ (hP.sub [2, 0, 3, 1] rfl) (hD.sub [2, 0, 3, 1] (by decide) rfl) hS (lv_sub hl1 [0, 1] rfl)
      · replace c_41 : ¬ (k1 = 200 + 33) := zb_n c_41
        refine lv_aload_n hx hb d_Model_part_16 rfl (lv_at hl1 0 rfl) ?_
        refine lv_bipush (v := 40) hx hb d_Model_part_17 (by decide) ?_
        obtain ⟨hPc, hDc, hFc, hCs⟩ := xw_sub3 (wc := [(m0, .inr (11, [.int s_thrown, .int s_taped, .ref m1, .int (nI n), .int s_outSize, .ref m2, .int (nI k1), .int (nI v1), .int (nI b1), .int (nI e1), .int (nI f1), .ref m3, .ref m4, .ref m5, .int s_isProgram, .int s_half, .ref m6, .ref m7, .ref m8, .ref m9, .ref m10, .ref m11, .ref m12, .ref m13, .ref m14, .ref m15, .ref m16, .ref m17, .ref m18, .ref m19, .ref m20, .int (nI q), .ref m21, .int (nI s1), .ref m22, .int s_name, .int s_shift, .int s_statements, .int s_ifs, .int s_whiles, .int s_variants, .int s_open, .ref m23, .int s_isMade, .int s_conditions, .ref m24, .ref m25, .ref m26, .ref m27, .int s_kept, .ref m28, .int s_tops, .ref m29, .int s_used, .ref m30, .ref m31, .int s_looked, .int s_rows, .int s_firstRow, .ref m32, .ref m33, .ref m34, .ref m35, .ref m36, .ref m37, .ref m38, .ref m39, .ref m40, .int s_isBroken, .ref m41, .int (nI at1), .ref m42]))]) hP hD hS hA [3] (by decide) rfl
        have hz := xz_of hN hS
        refine va_calli (va_runV (As := [.int 40]) (rest := []) ⟨hx, hb, hml, hown, hts⟩ (c_M_is l D ax m0 m1 m2 m3 m4 m5 m6 m7 m8 m9 m10 m11 m12 m13 m14 m15 m16 m17 m18 m19 m20 m21 m22 m23 m24 m25 m26 m27 m28 m29 m30 m31 m32 m33 m34 m35 m36 m37 m38 m39 m40 m41 m42 s_thrown s_taped (nI n) s_outSize (nI v1) (nI b1) (nI e1) (nI f1) s_isProgram s_half (nI q) (nI s1) s_name s_shift s_statements s_ifs s_whiles s_variants s_open s_isMade s_conditions s_kept s_tops s_used s_looked s_rows s_firstRow s_isBroken (nI at1) k1 40 H_39.size (by omega) (by omega)) (xcV (n := 1) hts wd_1315 wd_15 wd_1312 wd_1314 ps_57 rfl rfl (by decide +kernel) ⟨Nat.le_of_ble_eq_true rfl, Nat.le_of_ble_eq_true rfl⟩) (xpV (ci := 11) (q0 := 0) (As := [.int 40]) hPc hK hz hDc rfl rfl) rfl rfl hl1.1 rfl (lv_room (Nat.le_of_ble_eq_true rfl)) d_Model_part_19 ⟨Nat.le_of_ble_eq_true rfl, Nat.le_of_ble_eq_true rfl⟩) hS (fun q _ h => hFc q h) hFc (fun r_88 u_86 t H_87 locs ht hvm hw hB hz1 hk1 hS1 => ?_)
        try dsimp only at hw
        subst hw
        obtain ⟨hP1, hD1⟩ := hB
        rw [ht] at hP1
        have hjn := xw_join3 (wl := [(m1, .inl (ax 0, 400, .inl (fun j => nI (g j)))), (m22, .inl (ax 0, 64, .inl (fun j => nI (st1 j)))), (m21, .inl (ax 0, 1200, .inl f)), (m0, .inr (11, [.int s_thrown, .int s_taped, .ref m1, .int (nI n), .int s_outSize, .ref m2, .int (nI k1), .int (nI v1), .int (nI b1), .int (nI e1), .int (nI f1), .ref m3, .ref m4, .ref m5, .int s_isProgram, .int s_half, .ref m6, .ref m7, .ref m8, .ref m9, .ref m10, .ref m11, .ref m12, .ref m13, .ref m14, .ref m15, .ref m16, .ref m17, .ref m18, .ref m19, .ref m20, .int (nI q), .ref m21, .int (nI s1), .ref m22, .int s_name, .int s_shift, .int s_statements, .int s_ifs, .int s_whiles, .int s_variants, .int s_open, .ref m23, .int s_isMade, .int s_conditions, .ref m24, .ref m25, .ref m26, .ref m27, .int s_kept, .ref m28, .int s_tops, .ref m29, .int s_used, .ref m30, .ref m31, .int s_looked, .int s_rows, .int s_firstRow, .ref m32, .ref m33, .ref m34, .ref m35, .ref m36, .ref m37, .ref m38, .ref m39, .ref m40, .int s_isBroken, .ref m41, .int (nI at1), .ref m42]))]) hP hD [3] [0, 1, 2] hCs (by decide) (by decide) hk1 hFc hP1 hD1 rfl
        clear hP1 hD1
        clear hPc hDc hFc hCs hz hz1 hk1 ht hvm
        clear hP hD hS
        have hS := hS1
        obtain ⟨hP, hD⟩ := hjn
        clear hS1
        refine lv_if_eq (tgt := 83) hx hb d_Model_part_22 (by decide) (fun c_89 => ?_) (fun c_89 => ?_)
        · replace c_89 : ¬ (k1 = 200 + 40) := zb_n c_89
          refine lv_aload_n hx hb d_Model_part_83 rfl (lv_at hl1 0 rfl) ?_
          refine va_get (D := D) (ci := 11) (v := .int (nI f1)) (C := R_Model) (T := F_Model) (N := 72) hx hb hts i_Model hown hK.1 hP 3 rfl rfl 10 (by decide) (hts _ wd_1046) (fun _ h9 => h9) rfl d_Model_part_84 ?_
          refine lv_if_eq (tgt := 91) hx hb d_Model_part_87 (by decide) (fun c_90 => ?_) (fun c_90 => ?_)
          · replace c_90 : f1 = 0 := (nI_eq (a := f1) (b := 0) (by omega) (by omega)).mp c_90
            rw [show f1 = 0 by omega] at hP hD
            have hP7 := hP; have hD7 := hD; clear hP hD
            have hW7 : (fun w9 : va_W => va_P D classes w9 H_87 ∧ va_D A w9) [(m1, .inl (ax 0, 400, .inl (fun j => nI (g j)))), (m22, .inl (ax 0, 64, .inl (fun j => nI (st1 j)))), (m21, .inl (ax 0, 1200, .inl f)), (m0, .inr (11, [.int s_thrown, .int s_taped, .ref m1, .int (nI n), .int s_outSize, .ref m2, .int (nI k1), .int (nI v1), .int (nI b1), .int (nI e1), .int 0, .ref m3, .ref m4, .ref m5, .int s_isProgram, .int s_half, .ref m6, .ref m7, .ref m8, .ref m9, .ref m10, .ref m11, .ref m12, .ref m13, .ref m14, .ref m15, .ref m16, .ref m17, .ref m18, .ref m19, .ref m20, .int (nI q), .ref m21, .int (nI s1), .ref m22, .int s_name, .int s_shift, .int s_statements, .int s_ifs, .int s_whiles, .int s_variants, .int s_open, .ref m23, .int s_isMade, .int s_conditions, .ref m24, .ref m25, .ref m26, .ref m27, .int s_kept, .ref m28, .int s_tops, .ref m29, .int s_used, .ref m30, .ref m31, .int s_looked, .int s_rows, .int s_firstRow, .ref m32, .ref m33, .ref m34, .ref m35, .ref m36, .ref m37, .ref m38, .ref m39, .ref m40, .int s_isBroken, .ref m41, .int (nI at1), .ref m42]))] := ⟨hP7, hD7⟩
            obtain ⟨hP, hD⟩ := hW7
            clear hP7 hD7
            refine lv_aload_n hx hb d_Model_part_91 rfl (lv_at hl1 0 rfl) ?_
            refine va_get (D := D) (ci := 11) (v := .int (nI at1)) (C := R_Model) (T := F_Model) (N := 72) hx hb hts i_Model hown hK.1 hP 3 rfl rfl 70 (by decide) (hts _ wd_1106) (fun _ h9 => h9) rfl d_Model_part_92 ?_
            refine lv_bipush (v := 8) hx hb d_Model_part_95 (by decide) ?_
            refine lv_icmp_ne (tgt := 106) hx hb d_Model_part_97 (by decide) (fun c_91 => ?_) (fun c_91 => ?_)
            · replace c_91 : ¬ at1 = 8 := fun hq9 => c_91 ((nI_eq (a := at1) (b := 8) (by omega) (by omega)).mpr hq9)
              refine lv_aload_n hx hb d_Model_part_106 rfl (lv_at hl1 0 rfl) ?_
              refine lv_dup hx hb d_Model_part_107 rfl ?_
              refine va_get (D := D) (ci := 11) (v := .int (nI at1)) (C := R_Model) (T := F_Model) (N := 72) hx hb hts i_Model hown hK.1 hP 3 rfl rfl 70 (by decide) (hts _ wd_1106) (fun _ h9 => h9) rfl d_Model_part_108 ?_
              refine lv_iconst (v := 1) hx hb d_Model_part_111 (by decide) ?_
              refine lv_iadd hx hb d_Model_part_112 ?_
              refine lv_topi (fun z_92 ez_92 => ?_)
              have ez_92 : z_92 = nI (at1 + 1) := ez_92.trans (nI_add at1 1)
              subst ez_92
              refine va_put (D := D) (ci := 11) (v := .int (nI (at1 + 1))) (ty := .int) (C := R_Model) (T := F_Model) (N := 72) hx hb hts i_Model t_Model t_Model_ok n_Model hown hK.1 hP hD hS 3 rfl rfl 70 (by decide) (hts _ wd_1106) (fun _ h9 => h9) rfl (by decide +kernel) rfl rfl (Nat.le_of_ble_eq_true rfl) d_Model_part_113 (fun H_93 locs hP1 hD1 hS1 => ?_)
              clear hP hD hS
              have hS := hS1
              have hW7 : (fun w9 : va_W => va_P D classes w9 H_93 ∧ va_D A w9) [(m1, .inl (ax 0, 400, .inl (fun j => nI (g j)))), (m22, .inl (ax 0, 64, .inl (fun j => nI (st1 j)))), (m21, .inl (ax 0, 1200, .inl f)), (m0, .inr (11, [.int s_thrown, .int s_taped, .ref m1, .int (nI n), .int s_outSize, .ref m2, .int (nI k1), .int (nI v1), .int (nI b1), .int (nI e1), .int 0, .ref m3, .ref m4, .ref m5, .int s_isProgram, .int s_half, .ref m6, .ref m7, .ref m8, .ref m9, .ref m10, .ref m11, .ref m12, .ref m13, .ref m14, .ref m15, .ref m16, .ref m17, .ref m18, .ref m19, .ref m20, .int (nI q), .ref m21, .int (nI s1), .ref m22, .int s_name, .int s_shift, .int s_statements, .int s_ifs, .int s_whiles, .int s_variants, .int s_open, .ref m23, .int s_isMade, .int s_conditions, .ref m24, .ref m25, .ref m26, .ref m27, .int s_kept, .ref m28, .int s_tops, .ref m29, .int s_used, .ref m30, .ref m31, .int s_looked, .int s_rows, .int s_firstRow, .ref m32, .ref m33, .ref m34, .ref m35, .ref m36, .ref m37, .ref m38, .ref m39, .ref m40, .int s_isBroken, .ref m41, .int (nI (at1 + 1)), .ref m42]))] := ⟨hP1, hD1⟩
              obtain ⟨hP, hD⟩ := hW7
              clear hP1 hD1 hS1
              refine lv_aload_n hx hb d_Model_part_116 rfl (lv_at hl1 0 rfl) ?_
              refine lv_iload_n hx hb d_Model_part_117 rfl (lv_at hl1 1 rfl) ?_
              obtain ⟨hPc, hDc, hFc, hCs⟩ := xw_sub3 (wc := [(m0, .inr (11, [.int s_thrown, .int s_taped, .ref m1, .int (nI n), .int s_outSize, .ref m2, .int (nI k1), .int (nI v1), .int (nI b1), .int (nI e1), .int 0, .ref m3, .ref m4, .ref m5, .int s_isProgram, .int s_half, .ref m6, .ref m7, .ref m8, .ref m9, .ref m10, .ref m11, .ref m12, .ref m13, .ref m14, .ref m15, .ref m16, .ref m17, .ref m18, .ref m19, .ref m20, .int (nI q), .ref m21, .int (nI s1), .ref m22, .int s_name, .int s_shift, .int s_statements, .int s_ifs, .int s_whiles, .int s_variants, .int s_open, .ref m23, .int s_isMade, .int s_conditions, .ref m24, .ref m25, .ref m26, .ref m27, .int s_kept, .ref m28, .int s_tops, .ref m29, .int s_used, .ref m30, .ref m31, .int s_looked, .int s_rows, .int s_firstRow, .ref m32, .ref m33, .ref m34, .ref m35, .ref m36, .ref m37, .ref m38, .ref m39, .ref m40, .int s_isBroken, .ref m41, .int (nI (at1 + 1)), .ref m42])), (m1, .inl (ax 0, 400, .inl (fun j => nI (g j)))), (m21, .inl (ax 0, 1200, .inl f))]) hP hD hS hA [3, 0, 2] (by decide) rfl
              have hz := xz_of hN hS
              refine va_callv (va_runV (As := [.int (nI gh)]) (rest := []) ⟨hx, hb, hml, hown, hts⟩ (c_M_atom l D ax m0 m1 m2 m3 m4 m5 m6 m7 m8 m9 m10 m11 m12 m13 m14 m15 m16 m17 m18 m19 m20 m21 m22 m23 m24 m25 m26 m27 m28 m29 m30 m31 m32 m33 m34 m35 m36 m37 m38 m39 m40 m41 m42 s_thrown s_taped s_outSize s_isProgram s_half (nI s1) s_name s_shift s_statements s_ifs s_whiles s_variants s_open s_isMade s_conditions s_kept s_tops s_used s_looked s_rows s_firstRow s_isBroken (nI (at1 + 1)) n b1 e1 k1 v1 g gh q f H_93.size hn hg (by omega) (by omega) (by assumption) (by omega) (by omega) (by assumption) hgh (by omega)) (xcV (n := 1) hts wd_1323 wd_15 wd_1320 wd_1322 ps_59 rfl rfl (by decide +kernel) ⟨Nat.le_of_ble_eq_true rfl, Nat.le_of_ble_eq_true rfl⟩) (xpV (ci := 11) (q0 := 0) (As := [.int (nI gh)]) hPc hK hz hDc rfl rfl) rfl rfl hl1.1 rfl (lv_room (Nat.le_of_ble_eq_true rfl)) d_Model_part_118 ⟨Nat.le_of_ble_eq_true rfl, Nat.le_of_ble_eq_true rfl⟩) hS (fun q _ h => hFc q h) hFc (fun u_94 t H_95 locs ht hvm hw hB hz1 hk1 hS1 => ?_)
              try dsimp only at hw
              obtain ⟨hs_97, hs_98, hs_99, hs_100, hs_101, hs_102, hs_103, hs_104, hs_105, hs_106, hs_107, hs_108⟩ := hw
              obtain ⟨x_109, x_110, x_111, hx_112, hx_113, hP1, hD1⟩ := hB
              rw [ht] at hP1
              have hjn := xw_join3 (wl := [(m22, .inl (ax 0, 64, .inl (fun j => nI (st1 j)))), (m0, .inr (11, [.int s_thrown, .int s_taped, .ref m1, .int (nI n), .int s_outSize, .ref m2, .int (nI (u_94 2)), .int (nI (u_94 3)), .int (nI (u_94 0)), .int (nI (u_94 1)), .int (nI (u_94 4)), .ref m3, .ref m4, .ref m5, .int s_isProgram, .int s_half, .ref m6, .ref m7, .ref m8, .ref m9, .ref m10, .ref m11, .ref m12, .ref m13, .ref m14, .ref m15, .ref m16, .ref m17, .ref m18, .ref m19, .ref m20, .int (nI (u_94 5)), .ref m21, .int (nI s1), .ref m22, .int x_109, .int x_110, .int s_statements, .int s_ifs, .int s_whiles, .int s_variants, .int s_open, .ref m23, .int s_isMade, .int s_conditions, .ref m24, .ref m25, .ref m26, .ref m27, .int s_kept, .ref m28, .int s_tops, .ref m29, .int s_used, .ref m30, .ref m31, .int s_looked, .int s_rows, .int s_firstRow, .ref m32, .ref m33, .ref m34, .ref m35, .ref m36, .ref m37, .ref m38, .ref m39, .ref m40, .int s_isBroken, .ref m41, .int (nI (at1 + 1)), .ref m42])), (m1, .inl (ax 0, 400, .inl (fun j => nI (g j)))), (m21, .inl (ax 0, 1200, .inl x_111))]) hP hD [3, 0, 2] [1] hCs (by decide) (by decide) hk1 hFc hP1 hD1 rfl
              clear hP1 hD1
              clear hPc hDc hFc hCs hz hz1 hk1 ht hvm
              clear hP hD hS
              have hS := hS1
              obtain ⟨hP, hD⟩ := hjn
              clear hS1
              have hnt2 := ntop_le (st := st1) s1
              by_cases hf_114 : u_94 4 = 1
              · clear hs_105 hs_107 hx_113
                rw [show u_94 4 = 1 by omega] at hP hD
                have hP7 := hP; have hD7 := hD; clear hP hD
                have hW7 : (fun w9 : va_W => va_P D classes w9 H_95 ∧ va_D A w9) [(m22, .inl (ax 0, 64, .inl (fun j => nI (st1 j)))), (m0, .inr (11, [.int s_thrown, .int s_taped, .ref m1, .int (nI n), .int s_outSize, .ref m2, .int (nI (u_94 2)), .int (nI (u_94 3)), .int (nI (u_94 0)), .int (nI (u_94 1)), .int 1, .ref m3, .ref m4, .ref m5, .int s_isProgram, .int s_half, .ref m6, .ref m7, .ref m8, .ref m9, .ref m10, .ref m11, .ref m12, .ref m13, .ref m14, .ref m15, .ref m16, .ref m17, .ref m18, .ref m19, .ref m20, .int (nI (u_94 5)), .ref m21, .int (nI s1), .ref m22, .int x_109, .int x_110, .int s_statements, .int s_ifs, .int s_whiles, .int s_variants, .int s_open, .ref m23, .int s_isMade, .int s_conditions, .ref m24, .ref m25, .ref m26, .ref m27, .int s_kept, .ref m28, .int s_tops, .ref m29, .int s_used, .ref m30, .ref m31, .int s_looked, .int s_rows, .int s_firstRow, .ref m32, .ref m33, .ref m34, .ref m35, .ref m36, .ref m37, .ref m38, .ref m39, .ref m40, .int s_isBroken, .ref m41, .int (nI (at1 + 1)), .ref m42])), (m1, .inl (ax 0, 400, .inl (fun j => nI (g j)))), (m21, .inl (ax 0, 1200, .inl x_111))] := ⟨hP7, hD7⟩
                obtain ⟨hP, hD⟩ := hW7
                clear hP7 hD7
                refine lv_aload_n hx hb d_Model_part_121 rfl (lv_at hl1 0 rfl) ?_
                obtain ⟨hPc, hDc, hFc, hCs⟩ := xw_sub3 (wc := [(m0, .inr (11, [.int s_thrown, .int s_taped, .ref m1, .int (nI n), .int s_outSize, .ref m2, .int (nI (u_94 2)), .int (nI (u_94 3)), .int (nI (u_94 0)), .int (nI (u_94 1)), .int 1, .ref m3, .ref m4, .ref m5, .int s_isProgram, .int s_half, .ref m6, .ref m7, .ref m8, .ref m9, .ref m10, .ref m11, .ref m12, .ref m13, .ref m14, .ref m15, .ref m16, .ref m17, .ref m18, .ref m19, .ref m20, .int (nI (u_94 5)), .ref m21, .int (nI s1), .ref m22, .int x_109, .int x_110, .int s_statements, .int s_ifs, .int s_whiles, .int s_variants, .int s_open, .ref m23, .int s_isMade, .int s_conditions, .ref m24, .ref m25, .ref m26, .ref m27, .int s_kept, .ref m28, .int s_tops, .ref m29, .int s_used, .ref m30, .ref m31, .int s_looked, .int s_rows, .int s_firstRow, .ref m32, .ref m33, .ref m34, .ref m35, .ref m36, .ref m37, .ref m38, .ref m39, .ref m40, .int s_isBroken, .ref m41, .int (nI (at1 + 1)), .ref m42])), (m22, .inl (ax 0, 64, .inl (fun j => nI (st1 j)))), (m21, .inl (ax 0, 1200, .inl x_111))]) hP hD hS hA [1, 0, 3] (by decide) rfl
                have hz := xz_of hN hS
                refine va_callv (va_runV (As := []) (rest := []) ⟨hx, hb, hml, hown, hts⟩ (c_M_emitNots l D ax m0 m1 m2 m3 m4 m5 m6 m7 m8 m9 m10 m11 m12 m13 m14 m15 m16 m17 m18 m19 m20 m21 m22 m23 m24 m25 m26 m27 m28 m29 m30 m31 m32 m33 m34 m35 m36 m37 m38 m39 m40 m41 m42 s_thrown s_taped (nI n) s_outSize (nI (u_94 2)) (nI (u_94 3)) (nI (u_94 0)) (nI (u_94 1)) 1 s_isProgram s_half x_109 x_110 s_statements s_ifs s_whiles s_variants s_open s_isMade s_conditions s_kept s_tops s_used s_looked s_rows s_firstRow s_isBroken (nI (at1 + 1)) s1 (u_94 5) st1 x_111 H_95.size (by omega) (by omega) (sto_lt hst1)) (xcV (n := 0) hts wd_1339 wd_15 wd_1336 wd_1338 ps_63 rfl rfl (by decide +kernel) ⟨Nat.le_of_ble_eq_true rfl, Nat.le_of_ble_eq_true rfl⟩) (xpV (ci := 11) (q0 := 0) (As := []) hPc hK hz hDc rfl rfl) rfl rfl hl1.1 rfl (lv_room (Nat.le_of_ble_eq_true rfl)) d_Model_part_122 ⟨Nat.le_of_ble_eq_true rfl, Nat.le_of_ble_eq_true rfl⟩) hS (fun q _ h => hFc q h) hFc (fun u_115 t H_116 locs ht hvm hw hB hz1 hk1 hS1 => ?_)
                try dsimp only at hw
                obtain ⟨hP1, hD1⟩ := hB
                rw [ht] at hP1
                have hjn := xw_join3 (wl := [(m1, .inl (ax 0, 400, .inl (fun j => nI (g j)))), (m0, .inr (11, [.int s_thrown, .int s_taped, .ref m1, .int (nI n), .int s_outSize, .ref m2, .int (nI (u_94 2)), .int (nI (u_94 3)), .int (nI (u_94 0)), .int (nI (u_94 1)), .int 1, .ref m3, .ref m4, .ref m5, .int s_isProgram, .int s_half, .ref m6, .ref m7, .ref m8, .ref m9, .ref m10, .ref m11, .ref m12, .ref m13, .ref m14, .ref m15, .ref m16, .ref m17, .ref m18, .ref m19, .ref m20, .int (nI ((u_94 5) + ntop st1 s1)), .ref m21, .int (nI (s1 - ntop st1 s1)), .ref m22, .int x_109, .int x_110, .int s_statements, .int s_ifs, .int s_whiles, .int s_variants, .int s_open, .ref m23, .int s_isMade, .int s_conditions, .ref m24, .ref m25, .ref m26, .ref m27, .int s_kept, .ref m28, .int s_tops, .ref m29, .int s_used, .ref m30, .ref m31, .int s_looked, .int s_rows, .int s_firstRow, .ref m32, .ref m33, .ref m34, .ref m35, .ref m36, .ref m37, .ref m38, .ref m39, .ref m40, .int s_isBroken, .ref m41, .int (nI (at1 + 1)), .ref m42])), (m22, .inl (ax 0, 64, .inl (fun j => nI (st1 j)))), (m21, .inl (ax 0, 1200, .inl (enF x_111 (u_94 5) (ntop st1 s1))))]) hP hD [1, 0, 3] [2] hCs (by decide) (by decide) hk1 hFc hP1 hD1 rfl
                clear hP1 hD1
                clear hPc hDc hFc hCs hz hz1 hk1 ht hvm
                clear hP hD hS
                have hS := hS1
                obtain ⟨hP, hD⟩ := hjn
                clear hS1
                obtain ⟨hP9, hD9⟩ := xw_sub2 (wc := (fun (u : Nat → Nat) (xst : Nat → Nat) (xnm : Int32) (xsh : Int32) (xF : Nat → Int32) => [(m0, .inr (11, [.int s_thrown, .int s_taped, .ref m1, .int (nI n), .int s_outSize, .ref m2, .int (nI (u 2)), .int (nI (u 3)), .int (nI (u 0)), .int (nI (u 1)), .int (nI (u 4)), .ref m3, .ref m4, .ref m5, .int s_isProgram, .int s_half, .ref m6, .ref m7, .ref m8, .ref m9, .ref m10, .ref m11, .ref m12, .ref m13, .ref m14, .ref m15, .ref m16, .ref m17, .ref m18, .ref m19, .ref m20, .int (nI (u 5)), .ref m21, .int (nI (u 6)), .ref m22, .int xnm, .int xsh, .int s_statements, .int s_ifs, .int s_whiles, .int s_variants, .int s_open, .ref m23, .int s_isMade, .int s_conditions, .ref m24, .ref m25, .ref m26, .ref m27, .int s_kept, .ref m28, .int s_tops, .ref m29, .int s_used, .ref m30, .ref m31, .int s_looked, .int s_rows, .int s_firstRow, .ref m32, .ref m33, .ref m34, .ref m35, .ref m36, .ref m37, .ref m38, .ref m39, .ref m40, .int s_isBroken, .ref m41, .int (nI (u 7)), .ref m42])), (m1, .inl (ax 0, 400, .inl (fun j => nI (g j)))), (m22, .inl (ax 0, 64, .inl (fun j => nI (xst j)))), (m21, .inl (ax 0, 1200, .inl xF))]) (ixn [(u_94 0), (u_94 1), (u_94 2), (u_94 3), 1, ((u_94 5) + ntop st1 s1), (s1 - ntop st1 s1), (at1 + 1)]) st1 x_109 x_110 (enF x_111 (u_94 5) (ntop st1 s1))) hP hD [1, 0, 2, 3] (by decide) rfl
                have hex0 : ∀ j, st1 j < 100 := (sto_lt hst1)
                have hex1 : imp0 (1) ((sto st1 ((s1 - ntop st1 s1)) ∧ cim (6 + 4 * gh) (enF x_111 (u_94 5) (ntop st1 s1)) (((u_94 5) + ntop st1 s1)) st1 ((s1 - ntop st1 s1)) ∧ dpt st1 ((s1 - ntop st1 s1)) ≤ 10 ∧ (s1 - ntop st1 s1) + 1 ≤ dpt st1 ((s1 - ntop st1 s1)) + (at1 + 1))) := (Or.inl rfl)
                have hex2 : imp0 (1) (rdS g n gh b (stkl st sd) at1 ((u_94 0)) st1 ((s1 - ntop st1 s1)) ((at1 + 1))) := (Or.inl rfl)
                have hex3 : imp1 (1) (rdX g n gh b (stkl st sd) at1 ((u_94 0))) := (Or.inr (by first | exact imp1.go hX1 (by omega) | exact rdP_fl (hP1.go (by omega)) g7 (by omega) (by omega) | exact rdP_ab (hP1.go (by omega)) g7 (by omega) (by omega) hs_108 (by omega)))
                have hsp0 : b ≤ (u_94 0) := (by omega)
                have hsp1 : (u_94 0) ≤ (u_94 1) := (by omega)
                have hsp2 : (u_94 1) ≤ n := (by omega)
                have hsp3 : tk0 ((u_94 2)) ((u_94 0)) ((u_94 1)) := (by assumption)
                have hsp4 : (u_94 2) < 10000 := (by omega)
                have hsp5 : (u_94 3) < 20000 := (by omega)
                have hsp6 : tkq g n ((u_94 0)) ((u_94 1)) ((u_94 2)) ((u_94 3)) := (by assumption)
                have hsp7 : 1 ≤ 1 := (by omega)
                have hsp8 : imp0 (1) ((at1 + 1) = at1 + 1) := (Or.inl rfl)
                have hsp9 : imp0 (1) (((u_94 5) + ntop st1 s1) + (s1 - ntop st1 s1) ≤ 12 * (at1 + 1)) := (Or.inl rfl)
                have hsp10 : imp0 (1) (((u_94 5) + ntop st1 s1) + (s1 - ntop st1 s1) + 2 * (at1 + 1) + c0 ≤ (u_94 0)) := (Or.inl rfl)
                have hsp11 : imp0 (1) (b < (u_94 0)) := (Or.inl rfl)
                have hsp12 : at1 ≤ (at1 + 1) := (by omega)
                have hsp13 : (at1 + 1) ≤ 8 := (by omega)
                exact W.vret hx hb hr (fun t ht hW => ⟨⟨ixn [(u_94 0), (u_94 1), (u_94 2), (u_94 3), 1, ((u_94 5) + ntop st1 s1), (s1 - ntop st1 s1), (at1 + 1)], rfl, ⟨hsp0, hsp1, hsp2, hsp3, hsp4, hsp5, hsp6, hsp7, hsp8, hsp9, hsp10, hsp11, hsp12, hsp13⟩, ⟨st1, x_109, x_110, (enF x_111 (u_94 5) (ntop st1 s1)), hex0, hex1, hex2, hex3, by rw [ht]; exact hP9, hD9⟩⟩, hS.F ht⟩) hS.2.2 d_Model_part_125
              · replace hs_105 := imp0.go hs_105 hf_114
                replace hs_107 := imp0.go hs_107 hf_114
                replace hx_113 := imp0.go hx_113 hf_114
                rw [show u_94 4 = 0 by omega] at hP hD
                have hP7 := hP; have hD7 := hD; clear hP hD
                have hW7 : (fun w9 : va_W => va_P D classes w9 H_95 ∧ va_D A w9) [(m22, .inl (ax 0, 64, .inl (fun j => nI (st1 j)))), (m0, .inr (11, [.int s_thrown, .int s_taped, .ref m1, .int (nI n), .int s_outSize, .ref m2, .int (nI (u_94 2)), .int (nI (u_94 3)), .int (nI (u_94 0)), .int (nI (u_94 1)), .int 0, .ref m3, .ref m4, .ref m5, .int s_isProgram, .int s_half, .ref m6, .ref m7, .ref m8, .ref m9, .ref m10, .ref m11, .ref m12, .ref m13, .ref m14, .ref m15, .ref m16, .ref m17, .ref m18, .ref m19, .ref m20, .int (nI (u_94 5)), .ref m21, .int (nI s1), .ref m22, .int x_109, .int x_110, .int s_statements, .int s_ifs, .int s_whiles, .int s_variants, .int s_open, .ref m23, .int s_isMade, .int s_conditions, .ref m24, .ref m25, .ref m26, .ref m27, .int s_kept, .ref m28, .int s_tops, .ref m29, .int s_used, .ref m30, .ref m31, .int s_looked, .int s_rows, .int s_firstRow, .ref m32, .ref m33, .ref m34, .ref m35, .ref m36, .ref m37, .ref m38, .ref m39, .ref m40, .int s_isBroken, .ref m41, .int (nI (at1 + 1)), .ref m42])), (m1, .inl (ax 0, 400, .inl (fun j => nI (g j)))), (m21, .inl (ax 0, 1200, .inl x_111))] := ⟨hP7, hD7⟩
                obtain ⟨hP, hD⟩ := hW7
                clear hP7 hD7
                refine lv_aload_n hx hb d_Model_part_121 rfl (lv_at hl1 0 rfl) ?_
                obtain ⟨hPc, hDc, hFc, hCs⟩ := xw_sub3 (wc := [(m0, .inr (11, [.int s_thrown, .int s_taped, .ref m1, .int (nI n), .int s_outSize, .ref m2, .int (nI (u_94 2)), .int (nI (u_94 3)), .int (nI (u_94 0)), .int (nI (u_94 1)), .int 0, .ref m3, .ref m4, .ref m5, .int s_isProgram, .int s_half, .ref m6, .ref m7, .ref m8, .ref m9, .ref m10, .ref m11, .ref m12, .ref m13, .ref m14, .ref m15, .ref m16, .ref m17, .ref m18, .ref m19, .ref m20, .int (nI (u_94 5)), .ref m21, .int (nI s1), .ref m22, .int x_109, .int x_110, .int s_statements, .int s_ifs, .int s_whiles, .int s_variants, .int s_open, .ref m23, .int s_isMade, .int s_conditions, .ref m24, .ref m25, .ref m26, .ref m27, .int s_kept, .ref m28, .int s_tops, .ref m29, .int s_used, .ref m30, .ref m31, .int s_looked, .int s_rows, .int s_firstRow, .ref m32, .ref m33, .ref m34, .ref m35, .ref m36, .ref m37, .ref m38, .ref m39, .ref m40, .int s_isBroken, .ref m41, .int (nI (at1 + 1)), .ref m42])), (m22, .inl (ax 0, 64, .inl (fun j => nI (st1 j)))), (m21, .inl (ax 0, 1200, .inl x_111))]) hP hD hS hA [1, 0, 3] (by decide) rfl
                have hz := xz_of hN hS
                refine va_callv (va_runV (As := []) (rest := []) ⟨hx, hb, hml, hown, hts⟩ (c_M_emitNots l D ax m0 m1 m2 m3 m4 m5 m6 m7 m8 m9 m10 m11 m12 m13 m14 m15 m16 m17 m18 m19 m20 m21 m22 m23 m24 m25 m26 m27 m28 m29 m30 m31 m32 m33 m34 m35 m36 m37 m38 m39 m40 m41 m42 s_thrown s_taped (nI n) s_outSize (nI (u_94 2)) (nI (u_94 3)) (nI (u_94 0)) (nI (u_94 1)) 0 s_isProgram s_half x_109 x_110 s_statements s_ifs s_whiles s_variants s_open s_isMade s_conditions s_kept s_tops s_used s_looked s_rows s_firstRow s_isBroken (nI (at1 + 1)) s1 (u_94 5) st1 x_111 H_95.size (by omega) (by omega) (sto_lt hst1)) (xcV (n := 0) hts wd_1339 wd_15 wd_1336 wd_1338 ps_63 rfl rfl (by decide +kernel) ⟨Nat.le_of_ble_eq_true rfl, Nat.le_of_ble_eq_true rfl⟩) (xpV (ci := 11) (q0 := 0) (As := []) hPc hK hz hDc rfl rfl) rfl rfl hl1.1 rfl (lv_room (Nat.le_of_ble_eq_true rfl)) d_Model_part_122 ⟨Nat.le_of_ble_eq_true rfl, Nat.le_of_ble_eq_true rfl⟩) hS (fun q _ h => hFc q h) hFc (fun u_118 t H_119 locs ht hvm hw hB hz1 hk1 hS1 => ?_)
                try dsimp only at hw
                obtain ⟨hP1, hD1⟩ := hB
                rw [ht] at hP1
                have hjn := xw_join3 (wl := [(m1, .inl (ax 0, 400, .inl (fun j => nI (g j)))), (m0, .inr (11, [.int s_thrown, .int s_taped, .ref m1, .int (nI n), .int s_outSize, .ref m2, .int (nI (u_94 2)), .int (nI (u_94 3)), .int (nI (u_94 0)), .int (nI (u_94 1)), .int 0, .ref m3, .ref m4, .ref m5, .int s_isProgram, .int s_half, .ref m6, .ref m7, .ref m8, .ref m9, .ref m10, .ref m11, .ref m12, .ref m13, .ref m14, .ref m15, .ref m16, .ref m17, .ref m18, .ref m19, .ref m20, .int (nI ((u_94 5) + ntop st1 s1)), .ref m21, .int (nI (s1 - ntop st1 s1)), .ref m22, .int x_109, .int x_110, .int s_statements, .int s_ifs, .int s_whiles, .int s_variants, .int s_open, .ref m23, .int s_isMade, .int s_conditions, .ref m24, .ref m25, .ref m26, .ref m27, .int s_kept, .ref m28, .int s_tops, .ref m29, .int s_used, .ref m30, .ref m31, .int s_looked, .int s_rows, .int s_firstRow, .ref m32, .ref m33, .ref m34, .ref m35, .ref m36, .ref m37, .ref m38, .ref m39, .ref m40, .int s_isBroken, .ref m41, .int (nI (at1 + 1)), .ref m42])), (m22, .inl (ax 0, 64, .inl (fun j => nI (st1 j)))), (m21, .inl (ax 0, 1200, .inl (enF x_111 (u_94 5) (ntop st1 s1))))]) hP hD [1, 0, 3] [2] hCs (by decide) (by decide) hk1 hFc hP1 hD1 rfl
                clear hP1 hD1
                clear hPc hDc hFc hCs hz hz1 hk1 ht hvm
                clear hP hD hS
                have hS := hS1
                obtain ⟨hP, hD⟩ := hjn
                clear hS1
                have hpo := part_ok (at1 := at1) hci1 hst1 (by omega) (by omega) hs_105 hx_112 hx_113
                obtain ⟨hP9, hD9⟩ := xw_sub2 (wc := (fun (u : Nat → Nat) (xst : Nat → Nat) (xnm : Int32) (xsh : Int32) (xF : Nat → Int32) => [(m0, .inr (11, [.int s_thrown, .int s_taped, .ref m1, .int (nI n), .int s_outSize, .ref m2, .int (nI (u 2)), .int (nI (u 3)), .int (nI (u 0)), .int (nI (u 1)), .int (nI (u 4)), .ref m3, .ref m4, .ref m5, .int s_isProgram, .int s_half, .ref m6, .ref m7, .ref m8, .ref m9, .ref m10, .ref m11, .ref m12, .ref m13, .ref m14, .ref m15, .ref m16, .ref m17, .ref m18, .ref m19, .ref m20, .int (nI (u 5)), .ref m21, .int (nI (u 6)), .ref m22, .int xnm, .int xsh, .int s_statements, .int s_ifs, .int s_whiles, .int s_variants, .int s_open, .ref m23, .int s_isMade, .int s_conditions, .ref m24, .ref m25, .ref m26, .ref m27, .int s_kept, .ref m28, .int s_tops, .ref m29, .int s_used, .ref m30, .ref m31, .int s_looked, .int s_rows, .int s_firstRow, .ref m32, .ref m33, .ref m34, .ref m35, .ref m36, .ref m37, .ref m38, .ref m39, .ref m40, .int s_isBroken, .ref m41, .int (nI (u 7)), .ref m42])), (m1, .inl (ax 0, 400, .inl (fun j => nI (g j)))), (m22, .inl (ax 0, 64, .inl (fun j => nI (xst j)))), (m21, .inl (ax 0, 1200, .inl xF))]) (ixn [(u_94 0), (u_94 1), (u_94 2), (u_94 3), 0, ((u_94 5) + ntop st1 s1), (s1 - ntop st1 s1), (at1 + 1)]) st1 x_109 x_110 (enF x_111 (u_94 5) (ntop st1 s1))) hP hD [1, 0, 2, 3] (by decide) rfl
                have hex0 : ∀ j, st1 j < 100 := (sto_lt hst1)
                have hex1 : imp0 (0) ((sto st1 ((s1 - ntop st1 s1)) ∧ cim (6 + 4 * gh) (enF x_111 (u_94 5) (ntop st1 s1)) (((u_94 5) + ntop st1 s1)) st1 ((s1 - ntop st1 s1)) ∧ dpt st1 ((s1 - ntop st1 s1)) ≤ 10 ∧ (s1 - ntop st1 s1) + 1 ≤ dpt st1 ((s1 - ntop st1 s1)) + (at1 + 1))) := (Or.inr hpo)
                have hex2 : imp0 (0) (rdS g n gh b (stkl st sd) at1 ((u_94 0)) st1 ((s1 - ntop st1 s1)) ((at1 + 1))) := (Or.inr (rdP_at (hP1.go (by omega)) g7 (by omega) (by omega) hs_108 (by omega) (by omega)))
                have hex3 : imp1 (0) (rdX g n gh b (stkl st sd) at1 ((u_94 0))) := (Or.inl rfl)
                have hsp0 : b ≤ (u_94 0) := (by omega)
                have hsp1 : (u_94 0) ≤ (u_94 1) := (by omega)
                have hsp2 : (u_94 1) ≤ n := (by omega)
                have hsp3 : tk0 ((u_94 2)) ((u_94 0)) ((u_94 1)) := (by assumption)
                have hsp4 : (u_94 2) < 10000 := (by omega)
                have hsp5 : (u_94 3) < 20000 := (by omega)
                have hsp6 : tkq g n ((u_94 0)) ((u_94 1)) ((u_94 2)) ((u_94 3)) := (by assumption)
                have hsp7 : 0 ≤ 1 := (by omega)
                have hsp8 : imp0 (0) ((at1 + 1) = at1 + 1) := (Or.inr (by omega))
                have hsp9 : imp0 (0) (((u_94 5) + ntop st1 s1) + (s1 - ntop st1 s1) ≤ 12 * (at1 + 1)) := (Or.inr (by omega))
                have hsp10 : imp0 (0) (((u_94 5) + ntop st1 s1) + (s1 - ntop st1 s1) + 2 * (at1 + 1) + c0 ≤ (u_94 0)) := (Or.inr (by omega))
                have hsp11 : imp0 (0) (b < (u_94 0)) := (Or.inr (by omega))
                have hsp12 : at1 ≤ (at1 + 1) := (by omega)
                have hsp13 : (at1 + 1) ≤ 8 := (by omega)
                exact W.vret hx hb hr (fun t ht hW => ⟨⟨ixn [(u_94 0), (u_94 1), (u_94 2), (u_94 3), 0, ((u_94 5) + ntop st1 s1), (s1 - ntop st1 s1), (at1 + 1)], rfl, ⟨hsp0, hsp1, hsp2, hsp3, hsp4, hsp5, hsp6, hsp7, hsp8, hsp9, hsp10, hsp11, hsp12, hsp13⟩, ⟨st1, x_109, x_110, (enF x_111 (u_94 5) (ntop st1 s1)), hex0, hex1, hex2, hex3, by rw [ht]; exact hP9, hD9⟩⟩, hS.F ht⟩) hS.2.2 d_Model_part_125
            · replace c_91 : at1 = 8 := (nI_eq (a := at1) (b := 8) (by omega) (by omega)).mp c_91
              refine lv_aload_n hx hb d_Model_part_100 rfl (lv_at hl1 0 rfl) ?_
              refine lv_iconst (v := 1) hx hb d_Model_part_101 (by decide) ?_
              refine va_put (D := D) (ci := 11) (v := .int 1) (ty := .boolean) (C := R_Model) (T := F_Model) (N := 72) hx hb hts i_Model t_Model t_Model_ok n_Model hown hK.1 hP hD hS 3 rfl rfl 10 (by decide) (hts _ wd_1046) (fun _ h9 => h9) rfl (by decide +kernel) rfl rfl (Nat.le_of_ble_eq_true rfl) d_Model_part_102 (fun H_121 locs hP1 hD1 hS1 => ?_)
              clear hP hD hS
              have hS := hS1
              have hW7 : (fun w9 : va_W => va_P D classes w9 H_121 ∧ va_D A w9) [(m1, .inl (ax 0, 400, .inl (fun j => nI (g j)))), (m22, .inl (ax 0, 64, .inl (fun j => nI (st1 j)))), (m21, .inl (ax 0, 1200, .inl f)), (m0, .inr (11, [.int s_thrown, .int s_taped, .ref m1, .int (nI n), .int s_outSize, .ref m2, .int (nI k1), .int (nI v1), .int (nI b1), .int (nI e1), .int 1, .ref m3, .ref m4, .ref m5, .int s_isProgram, .int s_half, .ref m6, .ref m7, .ref m8, .ref m9, .ref m10, .ref m11, .ref m12, .ref m13, .ref m14, .ref m15, .ref m16, .ref m17, .ref m18, .ref m19, .ref m20, .int (nI q), .ref m21, .int (nI s1), .ref m22, .int s_name, .int s_shift, .int s_statements, .int s_ifs, .int s_whiles, .int s_variants, .int s_open, .ref m23, .int s_isMade, .int s_conditions, .ref m24, .ref m25, .ref m26, .ref m27, .int s_kept, .ref m28, .int s_tops, .ref m29, .int s_used, .ref m30, .ref m31, .int s_looked, .int s_rows, .int s_firstRow, .ref m32, .ref m33, .ref m34, .ref m35, .ref m36, .ref m37, .ref m38, .ref m39, .ref m40, .int s_isBroken, .ref m41, .int (nI at1), .ref m42]))] := ⟨hP1, hD1⟩
              obtain ⟨hP, hD⟩ := hW7
              clear hP1 hD1 hS1
              obtain ⟨hP9, hD9⟩ := xw_sub2 (wc := (fun (u : Nat → Nat) (xst : Nat → Nat) (xnm : Int32) (xsh : Int32) (xF : Nat → Int32) => [(m0, .inr (11, [.int s_thrown, .int s_taped, .ref m1, .int (nI n), .int s_outSize, .ref m2, .int (nI (u 2)), .int (nI (u 3)), .int (nI (u 0)), .int (nI (u 1)), .int (nI (u 4)), .ref m3, .ref m4, .ref m5, .int s_isProgram, .int s_half, .ref m6, .ref m7, .ref m8, .ref m9, .ref m10, .ref m11, .ref m12, .ref m13, .ref m14, .ref m15, .ref m16, .ref m17, .ref m18, .ref m19, .ref m20, .int (nI (u 5)), .ref m21, .int (nI (u 6)), .ref m22, .int xnm, .int xsh, .int s_statements, .int s_ifs, .int s_whiles, .int s_variants, .int s_open, .ref m23, .int s_isMade, .int s_conditions, .ref m24, .ref m25, .ref m26, .ref m27, .int s_kept, .ref m28, .int s_tops, .ref m29, .int s_used, .ref m30, .ref m31, .int s_looked, .int s_rows, .int s_firstRow, .ref m32, .ref m33, .ref m34, .ref m35, .ref m36, .ref m37, .ref m38, .ref m39, .ref m40, .int s_isBroken, .ref m41, .int (nI (u 7)), .ref m42])), (m1, .inl (ax 0, 400, .inl (fun j => nI (g j)))), (m22, .inl (ax 0, 64, .inl (fun j => nI (xst j)))), (m21, .inl (ax 0, 1200, .inl xF))]) (ixn [b1, e1, k1, v1, 1, q, s1, at1]) st1 s_name s_shift f) hP hD [3, 0, 1, 2] (by decide) rfl
              have hex0 : ∀ j, st1 j < 100 := (sto_lt hst1)
              have hex1 : imp0 (1) ((sto st1 (s1) ∧ cim (6 + 4 * gh) f (q) st1 (s1) ∧ dpt st1 (s1) ≤ 10 ∧ s1 + 1 ≤ dpt st1 (s1) + at1)) := (Or.inl rfl)
              have hex2 : imp0 (1) (rdS g n gh b (stkl st sd) at1 (b1) st1 (s1) (at1)) := (Or.inl rfl)
              have hex3 : imp1 (1) (rdX g n gh b (stkl st sd) at1 (b1)) := (Or.inr (by first | exact imp1.go hX1 (by omega) | exact rdP_fl (hP1.go (by omega)) g7 (by omega) (by omega)))
              have hsp0 : b ≤ b1 := (by omega)
              have hsp1 : b1 ≤ e1 := (by omega)
              have hsp2 : e1 ≤ n := (by omega)
              have hsp3 : tk0 (k1) (b1) (e1) := (by assumption)
              have hsp4 : k1 < 10000 := (by omega)
              have hsp5 : v1 < 20000 := (by omega)
              have hsp6 : tkq g n (b1) (e1) (k1) (v1) := (by assumption)
              have hsp7 : 1 ≤ 1 := (by omega)
              have hsp8 : imp0 (1) (at1 = at1 + 1) := (Or.inl rfl)
              have hsp9 : imp0 (1) (q + s1 ≤ 12 * at1) := (Or.inl rfl)
              have hsp10 : imp0 (1) (q + s1 + 2 * at1 + c0 ≤ b1) := (Or.inl rfl)
              have hsp11 : imp0 (1) (b < b1) := (Or.inl rfl)
              have hsp12 : at1 ≤ at1 := (by omega)
              have hsp13 : at1 ≤ 8 := (by omega)
              exact W.vret hx hb hr (fun t ht hW => ⟨⟨ixn [b1, e1, k1, v1, 1, q, s1, at1], rfl, ⟨hsp0, hsp1, hsp2, hsp3, hsp4, hsp5, hsp6, hsp7, hsp8, hsp9, hsp10, hsp11, hsp12, hsp13⟩, ⟨st1, s_name, s_shift, f, hex0, hex1, hex2, hex3, by rw [ht]; exact hP9, hD9⟩⟩, hS.F ht⟩) hS.2.2 d_Model_part_105
          · replace c_90 : ¬ f1 = 0 := fun hq9 => c_90 ((nI_eq (a := f1) (b := 0) (by omega) (by omega)).mpr hq9)
            rw [show f1 = 1 by omega] at hP hD
            have hP7 := hP; have hD7 := hD; clear hP hD
            have hW7 : (fun w9 : va_W => va_P D classes w9 H_87 ∧ va_D A w9) [(m1, .inl (ax 0, 400, .inl (fun j => nI (g j)))), (m22, .inl (ax 0, 64, .inl (fun j => nI (st1 j)))), (m21, .inl (ax 0, 1200, .inl f)), (m0, .inr (11, [.int s_thrown, .int s_taped, .ref m1, .int (nI n), .int s_outSize, .ref m2, .int (nI k1), .int (nI v1), .int (nI b1), .int (nI e1), .int 1, .ref m3, .ref m4, .ref m5, .int s_isProgram, .int s_half, .ref m6, .ref m7, .ref m8, .ref m9, .ref m10, .ref m11, .ref m12, .ref m13, .ref m14, .ref m15, .ref m16, .ref m17, .ref m18, .ref m19, .ref m20, .int (nI q), .ref m21, .int (nI s1), .ref m22, .int s_name, .int s_shift, .int s_statements, .int s_ifs, .int s_whiles, .int s_variants, .int s_open, .ref m23, .int s_isMade, .int s_conditions, .ref m24, .ref m25, .ref m26, .ref m27, .int s_kept, .ref m28, .int s_tops, .ref m29, .int s_used, .ref m30, .ref m31, .int s_looked, .int s_rows, .int s_firstRow, .ref m32, .ref m33, .ref m34, .ref m35, .ref m36, .ref m37, .ref m38, .ref m39, .ref m40, .int s_isBroken, .ref m41, .int (nI at1), .ref m42]))] := ⟨hP7, hD7⟩
            obtain ⟨hP, hD⟩ := hW7
            clear hP7 hD7
            obtain ⟨hP9, hD9⟩ := xw_sub2 (wc := (fun (u : Nat → Nat) (xst : Nat → Nat) (xnm : Int32) (xsh : Int32) (xF : Nat → Int32) => [(m0, .inr (11, [.int s_thrown, .int s_taped, .ref m1, .int (nI n), .int s_outSize, .ref m2, .int (nI (u 2)), .int (nI (u 3)), .int (nI (u 0)), .int (nI (u 1)), .int (nI (u 4)), .ref m3, .ref m4, .ref m5, .int s_isProgram, .int s_half, .ref m6, .ref m7, .ref m8, .ref m9, .ref m10, .ref m11, .ref m12, .ref m13, .ref m14, .ref m15, .ref m16, .ref m17, .ref m18, .ref m19, .ref m20, .int (nI (u 5)), .ref m21, .int (nI (u 6)), .ref m22, .int xnm, .int xsh, .int s_statements, .int s_ifs, .int s_whiles, .int s_variants, .int s_open, .ref m23, .int s_isMade, .int s_conditions, .ref m24, .ref m25, .ref m26, .ref m27, .int s_kept, .ref m28, .int s_tops, .ref m29, .int s_used, .ref m30, .ref m31, .int s_looked, .int s_rows, .int s_firstRow, .ref m32, .ref m33, .ref m34, .ref m35, .ref m36, .ref m37, .ref m38, .ref m39, .ref m40, .int s_isBroken, .ref m41, .int (nI (u 7)), .ref m42])), (m1, .inl (ax 0, 400, .inl (fun j => nI (g j)))), (m22, .inl (ax 0, 64, .inl (fun j => nI (xst j)))), (m21, .inl (ax 0, 1200, .inl xF))]) (ixn [b1, e1, k1, v1, 1, q, s1, at1]) st1 s_name s_shift f) hP hD [3, 0, 1, 2] (by decide) rfl
            have hex0 : ∀ j, st1 j < 100 := (sto_lt hst1)
            have hex1 : imp0 (1) ((sto st1 (s1) ∧ cim (6 + 4 * gh) f (q) st1 (s1) ∧ dpt st1 (s1) ≤ 10 ∧ s1 + 1 ≤ dpt st1 (s1) + at1)) := (Or.inl rfl)
            have hex2 : imp0 (1) (rdS g n gh b (stkl st sd) at1 (b1) st1 (s1) (at1)) := (Or.inl rfl)
            have hex3 : imp1 (1) (rdX g n gh b (stkl st sd) at1 (b1)) := (Or.inr (by first | exact imp1.go hX1 (by omega) | exact rdP_fl (hP1.go (by omega)) g7 (by omega) (by omega)))
            have hsp0 : b ≤ b1 := (by omega)
            have hsp1 : b1 ≤ e1 := (by omega)
            have hsp2 : e1 ≤ n := (by omega)
            have hsp3 : tk0 (k1) (b1) (e1) := (by assumption)
            have hsp4 : k1 < 10000 := (by omega)
            have hsp5 : v1 < 20000 := (by omega)
            have hsp6 : tkq g n (b1) (e1) (k1) (v1) := (by assumption)
            have hsp7 : 1 ≤ 1 := (by omega)
            have hsp8 : imp0 (1) (at1 = at1 + 1) := (Or.inl rfl)
            have hsp9 : imp0 (1) (q + s1 ≤ 12 * at1) := (Or.inl rfl)
            have hsp10 : imp0 (1) (q + s1 + 2 * at1 + c0 ≤ b1) := (Or.inl rfl)
            have hsp11 : imp0 (1) (b < b1) := (Or.inl rfl)
            have hsp12 : at1 ≤ at1 := (by omega)
            have hsp13 : at1 ≤ 8 := (by omega)
            exact W.vret hx hb hr (fun t ht hW => ⟨⟨ixn [b1, e1, k1, v1, 1, q, s1, at1], rfl, ⟨hsp0, hsp1, hsp2, hsp3, hsp4, hsp5, hsp6, hsp7, hsp8, hsp9, hsp10, hsp11, hsp12, hsp13⟩, ⟨st1, s_name, s_shift, f, hex0, hex1, hex2, hex3, by rw [ht]; exact hP9, hD9⟩⟩, hS.F ht⟩) hS.2.2 d_Model_part_90
        · replace c_89 : (k1 = 200 + 40) := zb_y c_89
          refine lv_aload_n hx hb d_Model_part_25 rfl (lv_at hl1 0 rfl) ?_
          obtain ⟨hPc, hDc, hFc, hCs⟩ := xw_sub3 (wc := [(m0, .inr (11, [.int s_thrown, .int s_taped, .ref m1, .int (nI n), .int s_outSize, .ref m2, .int (nI k1), .int (nI v1), .int (nI b1), .int (nI e1), .int (nI f1), .ref m3, .ref m4, .ref m5, .int s_isProgram, .int s_half, .ref m6, .ref m7, .ref m8, .ref m9, .ref m10, .ref m11, .ref m12, .ref m13, .ref m14, .ref m15, .ref m16, .ref m17, .ref m18, .ref m19, .ref m20, .int (nI q), .ref m21, .int (nI s1), .ref m22, .int s_name, .int s_shift, .int s_statements, .int s_ifs, .int s_whiles, .int s_variants, .int s_open, .ref m23, .int s_isMade, .int s_conditions, .ref m24, .ref m25, .ref m26, .ref m27, .int s_kept, .ref m28, .int s_tops, .ref m29, .int s_used, .ref m30, .ref m31, .int s_looked, .int s_rows, .int s_firstRow, .ref m32, .ref m33, .ref m34, .ref m35, .ref m36, .ref m37, .ref m38, .ref m39, .ref m40, .int s_isBroken, .ref m41, .int (nI at1), .ref m42])), (m22, .inl (ax 0, 64, .inl (fun j => nI (st1 j))))]) hP hD hS hA [3, 1] (by decide) rfl
          have hz := xz_of hN hS
          refine va_calli (va_runV (As := []) (rest := []) ⟨hx, hb, hml, hown, hts⟩ (c_M_depth l D ax m0 m1 m2 m3 m4 m5 m6 m7 m8 m9 m10 m11 m12 m13 m14 m15 m16 m17 m18 m19 m20 m21 m22 m23 m24 m25 m26 m27 m28 m29 m30 m31 m32 m33 m34 m35 m36 m37 m38 m39 m40 m41 m42 s_thrown s_taped (nI n) s_outSize (nI k1) (nI v1) (nI b1) (nI e1) (nI f1) s_isProgram s_half (nI q) s_name s_shift s_statements s_ifs s_whiles s_variants s_open s_isMade s_conditions s_kept s_tops s_used s_looked s_rows s_firstRow s_isBroken (nI at1) s1 st1 H_87.size (by omega) (sto_lt hst1)) (xcV (n := 0) hts wd_1319 wd_15 wd_1316 wd_1318 ps_58 rfl rfl (by decide +kernel) ⟨Nat.le_of_ble_eq_true rfl, Nat.le_of_ble_eq_true rfl⟩) (xpV (ci := 11) (q0 := 0) (As := []) hPc hK hz hDc rfl rfl) rfl rfl hl1.1 rfl (lv_room (Nat.le_of_ble_eq_true rfl)) d_Model_part_26 ⟨Nat.le_of_ble_eq_true rfl, Nat.le_of_ble_eq_true rfl⟩) hS (fun q _ h => hFc q h) hFc (fun r_124 u_122 t H_123 locs ht hvm hw hB hz1 hk1 hS1 => ?_)
          try dsimp only at hw
          subst hw
          obtain ⟨hP1, hD1⟩ := hB
          rw [ht] at hP1
          have hjn := xw_join3 (wl := [(m1, .inl (ax 0, 400, .inl (fun j => nI (g j)))), (m21, .inl (ax 0, 1200, .inl f)), (m0, .inr (11, [.int s_thrown, .int s_taped, .ref m1, .int (nI n), .int s_outSize, .ref m2, .int (nI k1), .int (nI v1), .int (nI b1), .int (nI e1), .int (nI f1), .ref m3, .ref m4, .ref m5, .int s_isProgram, .int s_half, .ref m6, .ref m7, .ref m8, .ref m9, .ref m10, .ref m11, .ref m12, .ref m13, .ref m14, .ref m15, .ref m16, .ref m17, .ref m18, .ref m19, .ref m20, .int (nI q), .ref m21, .int (nI s1), .ref m22, .int s_name, .int s_shift, .int s_statements, .int s_ifs, .int s_whiles, .int s_variants, .int s_open, .ref m23, .int s_isMade, .int s_conditions, .ref m24, .ref m25, .ref m26, .ref m27, .int s_kept, .ref m28, .int s_tops, .ref m29, .int s_used, .ref m30, .ref m31, .int s_looked, .int s_rows, .int s_firstRow, .ref m32, .ref m33, .ref m34, .ref m35, .ref m36, .ref m37, .ref m38, .ref m39, .ref m40, .int s_isBroken, .ref m41, .int (nI at1), .ref m42])), (m22, .inl (ax 0, 64, .inl (fun j => nI (st1 j))))]) hP hD [3, 1] [0, 2] hCs (by decide) (by decide) hk1 hFc hP1 hD1 rfl
          clear hP1 hD1
          clear hPc hDc hFc hCs hz hz1 hk1 ht hvm
          clear hP hD hS
          have hS := hS1
          obtain ⟨hP, hD⟩ := hjn
          clear hS1
          refine lv_bipush (v := 10) hx hb d_Model_part_29 (by decide) ?_
          refine lv_icmp_ne (tgt := 42) hx hb d_Model_part_31 (by decide) (fun c_125 => ?_) (fun c_125 => ?_)
          · replace c_125 : ¬ dpt st1 s1 = 10 := fun hq9 => c_125 ((nI_eq (a := dpt st1 s1) (b := 10) (by omega) (by omega)).mpr hq9)
            have hd1 := dpt_p1 (st := st1) (sd := s1)
            have hd9 := dpt_p9 (st := st1) (sd := s1)
            have hlt_126 : b1 < e1 := tk0.lt (by assumption) (by omega)
            refine lv_aload_n hx hb d_Model_part_42 rfl (lv_at hl1 0 rfl) ?_
            refine va_get (D := D) (ci := 11) (v := .ref m22) (C := R_Model) (T := F_Model) (N := 72) hx hb hts i_Model hown hK.1 hP 2 rfl rfl 34 (by decide) (hts _ wd_1070) (fun _ h9 => h9) rfl d_Model_part_43 ?_
            refine lv_aload_n hx hb d_Model_part_46 rfl (lv_at hl1 0 rfl) ?_
            refine va_get (D := D) (ci := 11) (v := .int (nI s1)) (C := R_Model) (T := F_Model) (N := 72) hx hb hts i_Model hown hK.1 hP 2 rfl rfl 33 (by decide) (hts _ wd_1069) (fun _ h9 => h9) rfl d_Model_part_47 ?_
            refine lv_aload_n hx hb d_Model_part_50 rfl (lv_at hl1 0 rfl) ?_
            refine lv_bipush (v := 33) hx hb d_Model_part_51 (by decide) ?_
            obtain ⟨hPc, hDc, hFc, hCs⟩ := xw_sub3 (wc := [(m0, .inr (11, [.int s_thrown, .int s_taped, .ref m1, .int (nI n), .int s_outSize, .ref m2, .int (nI k1), .int (nI v1), .int (nI b1), .int (nI e1), .int (nI f1), .ref m3, .ref m4, .ref m5, .int s_isProgram, .int s_half, .ref m6, .ref m7, .ref m8, .ref m9, .ref m10, .ref m11, .ref m12, .ref m13, .ref m14, .ref m15, .ref m16, .ref m17, .ref m18, .ref m19, .ref m20, .int (nI q), .ref m21, .int (nI s1), .ref m22, .int s_name, .int s_shift, .int s_statements, .int s_ifs, .int s_whiles, .int s_variants, .int s_open, .ref m23, .int s_isMade, .int s_conditions, .ref m24, .ref m25, .ref m26, .ref m27, .int s_kept, .ref m28, .int s_tops, .ref m29, .int s_used, .ref m30, .ref m31, .int s_looked, .int s_rows, .int s_firstRow, .ref m32, .ref m33, .ref m34, .ref m35, .ref m36, .ref m37, .ref m38, .ref m39, .ref m40, .int s_isBroken, .ref m41, .int (nI at1), .ref m42]))]) hP hD hS hA [2] (by decide) rfl
            have hz := xz_of hN hS
            refine va_calli (va_runV (As := [.int 33]) (rest := [.int (nI s1), .ref m22]) ⟨hx, hb, hml, hown, hts⟩ (c_M_is l D ax m0 m1 m2 m3 m4 m5 m6 m7 m8 m9 m10 m11 m12 m13 m14 m15 m16 m17 m18 m19 m20 m21 m22 m23 m24 m25 m26 m27 m28 m29 m30 m31 m32 m33 m34 m35 m36 m37 m38 m39 m40 m41 m42 s_thrown s_taped (nI n) s_outSize (nI v1) (nI b1) (nI e1) (nI f1) s_isProgram s_half (nI q) (nI s1) s_name s_shift s_statements s_ifs s_whiles s_variants s_open s_isMade s_conditions s_kept s_tops s_used s_looked s_rows s_firstRow s_isBroken (nI at1) k1 33 H_123.size (by omega) (by omega)) (xcV (n := 1) hts wd_1315 wd_15 wd_1312 wd_1314 ps_57 rfl rfl (by decide +kernel) ⟨Nat.le_of_ble_eq_true rfl, Nat.le_of_ble_eq_true rfl⟩) (xpV (ci := 11) (q0 := 0) (As := [.int 33]) hPc hK hz hDc rfl rfl) rfl rfl hl1.1 rfl (lv_room (Nat.le_of_ble_eq_true rfl)) d_Model_part_53 ⟨Nat.le_of_ble_eq_true rfl, Nat.le_of_ble_eq_true rfl⟩) hS (fun q _ h => hFc q h) hFc (fun r_129 u_127 t H_128 locs ht hvm hw hB hz1 hk1 hS1 => ?_)
            try dsimp only at hw
            subst hw
            obtain ⟨hP1, hD1⟩ := hB
            rw [ht] at hP1
            have hjn := xw_join3 (wl := [(m1, .inl (ax 0, 400, .inl (fun j => nI (g j)))), (m21, .inl (ax 0, 1200, .inl f)), (m22, .inl (ax 0, 64, .inl (fun j => nI (st1 j)))), (m0, .inr (11, [.int s_thrown, .int s_taped, .ref m1, .int (nI n), .int s_outSize, .ref m2, .int (nI k1), .int (nI v1), .int (nI b1), .int (nI e1), .int (nI f1), .ref m3, .ref m4, .ref m5, .int s_isProgram, .int s_half, .ref m6, .ref m7, .ref m8, .ref m9, .ref m10, .ref m11, .ref m12, .ref m13, .ref m14, .ref m15, .ref m16, .ref m17, .ref m18, .ref m19, .ref m20, .int (nI q), .ref m21, .int (nI s1), .ref m22, .int s_name, .int s_shift, .int s_statements, .int s_ifs, .int s_whiles, .int s_variants, .int s_open, .ref m23, .int s_isMade, .int s_conditions, .ref m24, .ref m25, .ref m26, .ref m27, .int s_kept, .ref m28, .int s_tops, .ref m29, .int s_used, .ref m30, .ref m31, .int s_looked, .int s_rows, .int s_firstRow, .ref m32, .ref m33, .ref m34, .ref m35, .ref m36, .ref m37, .ref m38, .ref m39, .ref m40, .int s_isBroken, .ref m41, .int (nI at1), .ref m42]))]) hP hD [2] [0, 1, 3] hCs (by decide) (by decide) hk1 hFc hP1 hD1 rfl
            clear hP1 hD1
            clear hPc hDc hFc hCs hz hz1 hk1 ht hvm
            clear hP hD hS
            have hS := hS1
            obtain ⟨hP, hD⟩ := hjn
            clear hS1
            refine lv_if_eq (tgt := 63) hx hb d_Model_part_56 (by decide) (fun c_130 => ?_) (fun c_130 => ?_)
            · replace c_130 : ¬ (k1 = 200 + 33) := zb_n c_130
              refine lv_bipush (v := 9) hx hb d_Model_part_63 (by decide) ?_
              refine va_iast hx hb hK.1 hP hD hS 2 0 rfl rfl (vp_in_nI (by omega) (by omega)) d_Model_part_65 (fun H_131 locs hP1 hD1 hS1 => ?_)
              rw [nI_clamp (by omega)] at hP1 hD1
              clear hP hD hS
              have hS := hS1
              have hW7 : (fun w9 : va_W => va_P D classes w9 H_131 ∧ va_D A w9) [(m1, .inl (ax 0, 400, .inl (fun j => nI (g j)))), (m21, .inl (ax 0, 1200, .inl f)), (m22, .inl (ax 0, 64, .inl (upd (fun j => nI (st1 j)) s1 9))), (m0, .inr (11, [.int s_thrown, .int s_taped, .ref m1, .int (nI n), .int s_outSize, .ref m2, .int (nI k1), .int (nI v1), .int (nI b1), .int (nI e1), .int (nI f1), .ref m3, .ref m4, .ref m5, .int s_isProgram, .int s_half, .ref m6, .ref m7, .ref m8, .ref m9, .ref m10, .ref m11, .ref m12, .ref m13, .ref m14, .ref m15, .ref m16, .ref m17, .ref m18, .ref m19, .ref m20, .int (nI q), .ref m21, .int (nI s1), .ref m22, .int s_name, .int s_shift, .int s_statements, .int s_ifs, .int s_whiles, .int s_variants, .int s_open, .ref m23, .int s_isMade, .int s_conditions, .ref m24, .ref m25, .ref m26, .ref m27, .int s_kept, .ref m28, .int s_tops, .ref m29, .int s_used, .ref m30, .ref m31, .int s_looked, .int s_rows, .int s_firstRow, .ref m32, .ref m33, .ref m34, .ref m35, .ref m36, .ref m37, .ref m38, .ref m39, .ref m40, .int s_isBroken, .ref m41, .int (nI at1), .ref m42]))] := ⟨hP1, hD1⟩
              obtain ⟨hP, hD⟩ := hW7
              clear hP1 hD1 hS1
              refine lv_aload_n hx hb d_Model_part_66 rfl (lv_at hl1 0 rfl) ?_
              refine lv_dup hx hb d_Model_part_67 rfl ?_
              refine va_get (D := D) (ci := 11) (v := .int (nI s1)) (C := R_Model) (T := F_Model) (N := 72) hx hb hts i_Model hown hK.1 hP 3 rfl rfl 33 (by decide) (hts _ wd_1069) (fun _ h9 => h9) rfl d_Model_part_68 ?_
              refine lv_iconst (v := 1) hx hb d_Model_part_71 (by decide) ?_
              refine lv_iadd hx hb d_Model_part_72 ?_
              refine lv_topi (fun z_132 ez_132 => ?_)
              have ez_132 : z_132 = nI (s1 + 1) := ez_132.trans (nI_add s1 1)
              subst ez_132
              refine va_put (D := D) (ci := 11) (v := .int (nI (s1 + 1))) (ty := .int) (C := R_Model) (T := F_Model) (N := 72) hx hb hts i_Model t_Model t_Model_ok n_Model hown hK.1 hP hD hS 3 rfl rfl 33 (by decide) (hts _ wd_1069) (fun _ h9 => h9) rfl (by decide +kernel) rfl rfl (Nat.le_of_ble_eq_true rfl) d_Model_part_73 (fun H_133 locs hP1 hD1 hS1 => ?_)
              clear hP hD hS
              have hS := hS1
              have hW7 : (fun w9 : va_W => va_P D classes w9 H_133 ∧ va_D A w9) [(m1, .inl (ax 0, 400, .inl (fun j => nI (g j)))), (m21, .inl (ax 0, 1200, .inl f)), (m22, .inl (ax 0, 64, .inl (upd (fun j => nI (st1 j)) s1 9))), (m0, .inr (11, [.int s_thrown, .int s_taped, .ref m1, .int (nI n), .int s_outSize, .ref m2, .int (nI k1), .int (nI v1), .int (nI b1), .int (nI e1), .int (nI f1), .ref m3, .ref m4, .ref m5, .int s_isProgram, .int s_half, .ref m6, .ref m7, .ref m8, .ref m9, .ref m10, .ref m11, .ref m12, .ref m13, .ref m14, .ref m15, .ref m16, .ref m17, .ref m18, .ref m19, .ref m20, .int (nI q), .ref m21, .int (nI (s1 + 1)), .ref m22, .int s_name, .int s_shift, .int s_statements, .int s_ifs, .int s_whiles, .int s_variants, .int s_open, .ref m23, .int s_isMade, .int s_conditions, .ref m24, .ref m25, .ref m26, .ref m27, .int s_kept, .ref m28, .int s_tops, .ref m29, .int s_used, .ref m30, .ref m31, .int s_looked, .int s_rows, .int s_firstRow, .ref m32, .ref m33, .ref m34, .ref m35, .ref m36, .ref m37, .ref m38, .ref m39, .ref m40, .int s_isBroken, .ref m41, .int (nI at1), .ref m42]))] := ⟨hP1, hD1⟩
              obtain ⟨hP, hD⟩ := hW7
              clear hP1 hD1 hS1
              refine lv_aload_n hx hb d_Model_part_76 rfl (lv_at hl1 0 rfl) ?_
              obtain ⟨hPc, hDc, hFc, hCs⟩ := xw_sub3 (wc := [(m0, .inr (11, [.int s_thrown, .int s_taped, .ref m1, .int (nI n), .int s_outSize, .ref m2, .int (nI k1), .int (nI v1), .int (nI b1), .int (nI e1), .int (nI f1), .ref m3, .ref m4, .ref m5, .int s_isProgram, .int s_half, .ref m6, .ref m7, .ref m8, .ref m9, .ref m10, .ref m11, .ref m12, .ref m13, .ref m14, .ref m15, .ref m16, .ref m17, .ref m18, .ref m19, .ref m20, .int (nI q), .ref m21, .int (nI (s1 + 1)), .ref m22, .int s_name, .int s_shift, .int s_statements, .int s_ifs, .int s_whiles, .int s_variants, .int s_open, .ref m23, .int s_isMade, .int s_conditions, .ref m24, .ref m25, .ref m26, .ref m27, .int s_kept, .ref m28, .int s_tops, .ref m29, .int s_used, .ref m30, .ref m31, .int s_looked, .int s_rows, .int s_firstRow, .ref m32, .ref m33, .ref m34, .ref m35, .ref m36, .ref m37, .ref m38, .ref m39, .ref m40, .int s_isBroken, .ref m41, .int (nI at1), .ref m42])), (m1, .inl (ax 0, 400, .inl (fun j => nI (g j))))]) hP hD hS hA [3, 0] (by decide) rfl
              have hz := xz_of hN hS
              refine va_callv (va_runV (As := []) (rest := []) ⟨hx, hb, hml, hown, hts⟩ (c_M_next l D ax m0 m1 m2 m3 m4 m5 m6 m7 m8 m9 m10 m11 m12 m13 m14 m15 m16 m17 m18 m19 m20 m21 m22 m23 m24 m25 m26 m27 m28 m29 m30 m31 m32 m33 m34 m35 m36 m37 m38 m39 m40 m41 m42 s_thrown s_taped s_outSize (nI k1) (nI b1) (nI f1) s_isProgram s_half (nI q) (nI (s1 + 1)) s_name s_shift s_statements s_ifs s_whiles s_variants s_open s_isMade s_conditions s_kept s_tops s_used s_looked s_rows s_firstRow s_isBroken (nI at1) n e1 v1 g H_133.size hn (by omega) hg (by omega)) (xcV (n := 0) hts wd_1274 wd_15 wd_1271 wd_1273 ps_51 rfl rfl (by decide +kernel) ⟨Nat.le_of_ble_eq_true rfl, Nat.le_of_ble_eq_true rfl⟩) (xpV (ci := 11) (q0 := 0) (As := []) hPc hK hz hDc rfl rfl) rfl rfl hl1.1 rfl (lv_room (Nat.le_of_ble_eq_true rfl)) d_Model_part_77 ⟨Nat.le_of_ble_eq_true rfl, Nat.le_of_ble_eq_true rfl⟩) hS (fun q _ h => hFc q h) hFc (fun u_134 t H_135 locs ht hvm hw hB hz1 hk1 hS1 => ?_)
              try dsimp only at hw
              obtain ⟨-, -, -, hs_140, hs_141, hs_142, hs_143, hs_144, hs_145, hs_146, hs_147⟩ := hw
              obtain ⟨hP1, hD1⟩ := hB
              rw [ht] at hP1
              have hjn := xw_join3 (wl := [(m21, .inl (ax 0, 1200, .inl f)), (m22, .inl (ax 0, 64, .inl (upd (fun j => nI (st1 j)) s1 9))), (m0, .inr (11, [.int s_thrown, .int s_taped, .ref m1, .int (nI n), .int s_outSize, .ref m2, .int (nI (u_134 2)), .int (nI (u_134 3)), .int (nI (u_134 0)), .int (nI (u_134 1)), .int (nI f1), .ref m3, .ref m4, .ref m5, .int s_isProgram, .int s_half, .ref m6, .ref m7, .ref m8, .ref m9, .ref m10, .ref m11, .ref m12, .ref m13, .ref m14, .ref m15, .ref m16, .ref m17, .ref m18, .ref m19, .ref m20, .int (nI q), .ref m21, .int (nI (s1 + 1)), .ref m22, .int s_name, .int s_shift, .int s_statements, .int s_ifs, .int s_whiles, .int s_variants, .int s_open, .ref m23, .int s_isMade, .int s_conditions, .ref m24, .ref m25, .ref m26, .ref m27, .int s_kept, .ref m28, .int s_tops, .ref m29, .int s_used, .ref m30, .ref m31, .int s_looked, .int s_rows, .int s_firstRow, .ref m32, .ref m33, .ref m34, .ref m35, .ref m36, .ref m37, .ref m38, .ref m39, .ref m40, .int s_isBroken, .ref m41, .int (nI at1), .ref m42])), (m1, .inl (ax 0, 400, .inl (fun j => nI (g j))))]) hP hD [3, 0] [1, 2] hCs (by decide) (by decide) hk1 hFc hP1 hD1 rfl
              clear hP1 hD1
              clear hPc hDc hFc hCs hz hz1 hk1 ht hvm
              clear hP hD hS
              have hS := hS1
              obtain ⟨hP, hD⟩ := hjn
              clear hS1
              refine lv_goto (tgt := 0) hx hb d_Model_part_80 (by decide) ?_
              rw [xf_supc st1 s1 9 9 rfl] at hP hD
              have hP7 := hP; have hD7 := hD; clear hP hD
              have hW7 : (fun w9 : va_W => va_P D classes w9 H_135 ∧ va_D A w9) [(m21, .inl (ax 0, 1200, .inl f)), (m22, .inl (ax 0, 64, .inl (fun j => nI (sup st1 s1 9 j)))), (m0, .inr (11, [.int s_thrown, .int s_taped, .ref m1, .int (nI n), .int s_outSize, .ref m2, .int (nI (u_134 2)), .int (nI (u_134 3)), .int (nI (u_134 0)), .int (nI (u_134 1)), .int (nI f1), .ref m3, .ref m4, .ref m5, .int s_isProgram, .int s_half, .ref m6, .ref m7, .ref m8, .ref m9, .ref m10, .ref m11, .ref m12, .ref m13, .ref m14, .ref m15, .ref m16, .ref m17, .ref m18, .ref m19, .ref m20, .int (nI q), .ref m21, .int (nI (s1 + 1)), .ref m22, .int s_name, .int s_shift, .int s_statements, .int s_ifs, .int s_whiles, .int s_variants, .int s_open, .ref m23, .int s_isMade, .int s_conditions, .ref m24, .ref m25, .ref m26, .ref m27, .int s_kept, .ref m28, .int s_tops, .ref m29, .int s_used, .ref m30, .ref m31, .int s_looked, .int s_rows, .int s_firstRow, .ref m32, .ref m33, .ref m34, .ref m35, .ref m36, .ref m37, .ref m38, .ref m39, .ref m40, .int s_isBroken, .ref m41, .int (nI at1), .ref m42])), (m1, .inl (ax 0, 400, .inl (fun j => nI (g j))))] := ⟨hP7, hD7⟩
              obtain ⟨hP, hD⟩ := hW7
              clear hP7 hD7
              exact ih_3 (u_134 0) (u_134 1) (u_134 2) (u_134 3) f1 (s1 + 1) (sup st1 s1 9) (by omega) (by omega) (by omega) (by omega) (by assumption) (by omega) (by omega) (by assumption) (by omega) (by omega) (by omega) (by omega) (by first | assumption | exact sto_push hst1 (by omega)) (by first | assumption | exact cib_push hci1 (by omega)) (Or.inr (by first | exact rdP_nt (hP1.go (by omega)) g7 (by omega) (by omega) hs_140 | exact rdP_pa (hP1.go (by omega)) g7 (by omega) (by omega) hs_140)) (Or.inl (by omega)) _ _ _ (hP.sub [2, 3, 1, 0] rfl) (hD.sub [2, 3, 1, 0] (by decide) rfl) hS (lv_sub hl1 [0, 1] rfl)
            · replace c_130 : (k1 = 200 + 33) := zb_y c_130
              refine lv_iconst (v := 1) hx hb d_Model_part_59 (by decide) ?_
              refine lv_goto (tgt := 65) hx hb d_Model_part_60 (by decide) ?_
              refine va_iast hx hb hK.1 hP hD hS 2 0 rfl rfl (vp_in_nI (by omega) (by omega)) d_Model_part_65 (fun H_148 locs hP1 hD1 hS1 => ?_)
              rw [nI_clamp (by omega)] at hP1 hD1
              clear hP hD hS
              have hS := hS1
              have hW7 : (fun w9 : va_W => va_P D classes w9 H_148 ∧ va_D A w9) [(m1, .inl (ax 0, 400, .inl (fun j => nI (g j)))), (m21, .inl (ax 0, 1200, .inl f)), (m22, .inl (ax 0, 64, .inl (upd (fun j => nI (st1 j)) s1 1))), (m0, .inr (11, [.int s_thrown, .int s_taped, .ref m1, .int (nI n), .int s_outSize, .ref m2, .int (nI k1), .int (nI v1), .int (nI b1), .int (nI e1), .int (nI f1), .ref m3, .ref m4, .ref m5, .int s_isProgram, .int s_half, .ref m6, .ref m7, .ref m8, .ref m9, .ref m10, .ref m11, .ref m12, .ref m13, .ref m14, .ref m15, .ref m16, .ref m17, .ref m18, .ref m19, .ref m20, .int (nI q), .ref m21, .int (nI s1), .ref m22, .int s_name, .int s_shift, .int s_statements, .int s_ifs, .int s_whiles, .int s_variants, .int s_open, .ref m23, .int s_isMade, .int s_conditions, .ref m24, .ref m25, .ref m26, .ref m27, .int s_kept, .ref m28, .int s_tops, .ref m29, .int s_used, .ref m30, .ref m31, .int s_looked, .int s_rows, .int s_firstRow, .ref m32, .ref m33, .ref m34, .ref m35, .ref m36, .ref m37, .ref m38, .ref m39, .ref m40, .int s_isBroken, .ref m41, .int (nI at1), .ref m42]))] := ⟨hP1, hD1⟩
              obtain ⟨hP, hD⟩ := hW7
              clear hP1 hD1 hS1
              refine lv_aload_n hx hb d_Model_part_66 rfl (lv_at hl1 0 rfl) ?_
              refine lv_dup hx hb d_Model_part_67 rfl ?_
              refine va_get (D := D) (ci := 11) (v := .int (nI s1)) (C := R_Model) (T := F_Model) (N := 72) hx hb hts i_Model hown hK.1 hP 3 rfl rfl 33 (by decide) (hts _ wd_1069) (fun _ h9 => h9) rfl d_Model_part_68 ?_
              refine lv_iconst (v := 1) hx hb d_Model_part_71 (by decide) ?_
              refine lv_iadd hx hb d_Model_part_72 ?_
              refine lv_topi (fun z_149 ez_149 => ?_)
              have ez_149 : z_149 = nI (s1 + 1) := ez_149.trans (nI_add s1 1)
              subst ez_149
              refine va_put (D := D) (ci := 11) (v := .int (nI (s1 + 1))) (ty := .int) (C := R_Model) (T := F_Model) (N := 72) hx hb hts i_Model t_Model t_Model_ok n_Model hown hK.1 hP hD hS 3 rfl rfl 33 (by decide) (hts _ wd_1069) (fun _ h9 => h9) rfl (by decide +kernel) rfl rfl (Nat.le_of_ble_eq_true rfl) d_Model_part_73 (fun H_150 locs hP1 hD1 hS1 => ?_)
              clear hP hD hS
              have hS := hS1
              have hW7 : (fun w9 : va_W => va_P D classes w9 H_150 ∧ va_D A w9) [(m1, .inl (ax 0, 400, .inl (fun j => nI (g j)))), (m21, .inl (ax 0, 1200, .inl f)), (m22, .inl (ax 0, 64, .inl (upd (fun j => nI (st1 j)) s1 1))), (m0, .inr (11, [.int s_thrown, .int s_taped, .ref m1, .int (nI n), .int s_outSize, .ref m2, .int (nI k1), .int (nI v1), .int (nI b1), .int (nI e1), .int (nI f1), .ref m3, .ref m4, .ref m5, .int s_isProgram, .int s_half, .ref m6, .ref m7, .ref m8, .ref m9, .ref m10, .ref m11, .ref m12, .ref m13, .ref m14, .ref m15, .ref m16, .ref m17, .ref m18, .ref m19, .ref m20, .int (nI q), .ref m21, .int (nI (s1 + 1)), .ref m22, .int s_name, .int s_shift, .int s_statements, .int s_ifs, .int s_whiles, .int s_variants, .int s_open, .ref m23, .int s_isMade, .int s_conditions, .ref m24, .ref m25, .ref m26, .ref m27, .int s_kept, .ref m28, .int s_tops, .ref m29, .int s_used, .ref m30, .ref m31, .int s_looked, .int s_rows, .int s_firstRow, .ref m32, .ref m33, .ref m34, .ref m35, .ref m36, .ref m37, .ref m38, .ref m39, .ref m40, .int s_isBroken, .ref m41, .int (nI at1), .ref m42]))] := ⟨hP1, hD1⟩
              obtain ⟨hP, hD⟩ := hW7
              clear hP1 hD1 hS1
              refine lv_aload_n hx hb d_Model_part_76 rfl (lv_at hl1 0 rfl) ?_
              obtain ⟨hPc, hDc, hFc, hCs⟩ := xw_sub3 (wc := [(m0, .inr (11, [.int s_thrown, .int s_taped, .ref m1, .int (nI n), .int s_outSize, .ref m2, .int (nI k1), .int (nI v1), .int (nI b1), .int (nI e1), .int (nI f1), .ref m3, .ref m4, .ref m5, .int s_isProgram, .int s_half, .ref m6, .ref m7, .ref m8, .ref m9, .ref m10, .ref m11, .ref m12, .ref m13, .ref m14, .ref m15, .ref m16, .ref m17, .ref m18, .ref m19, .ref m20, .int (nI q), .ref m21, .int (nI (s1 + 1)), .ref m22, .int s_name, .int s_shift, .int s_statements, .int s_ifs, .int s_whiles, .int s_variants, .int s_open, .ref m23, .int s_isMade, .int s_conditions, .ref m24, .ref m25, .ref m26, .ref m27, .int s_kept, .ref m28, .int s_tops, .ref m29, .int s_used, .ref m30, .ref m31, .int s_looked, .int s_rows, .int s_firstRow, .ref m32, .ref m33, .ref m34, .ref m35, .ref m36, .ref m37, .ref m38, .ref m39, .ref m40, .int s_isBroken, .ref m41, .int (nI at1), .ref m42])), (m1, .inl (ax 0, 400, .inl (fun j => nI (g j))))]) hP hD hS hA [3, 0] (by decide) rfl
              have hz := xz_of hN hS
              refine va_callv (va_runV (As := []) (rest := []) ⟨hx, hb, hml, hown, hts⟩ (c_M_next l D ax m0 m1 m2 m3 m4 m5 m6 m7 m8 m9 m10 m11 m12 m13 m14 m15 m16 m17 m18 m19 m20 m21 m22 m23 m24 m25 m26 m27 m28 m29 m30 m31 m32 m33 m34 m35 m36 m37 m38 m39 m40 m41 m42 s_thrown s_taped s_outSize (nI k1) (nI b1) (nI f1) s_isProgram s_half (nI q) (nI (s1 + 1)) s_name s_shift s_statements s_ifs s_whiles s_variants s_open s_isMade s_conditions s_kept s_tops s_used s_looked s_rows s_firstRow s_isBroken (nI at1) n e1 v1 g H_150.size hn (by omega) hg (by omega)) (xcV (n := 0) hts wd_1274 wd_15 wd_1271 wd_1273 ps_51 rfl rfl (by decide +kernel) ⟨Nat.le_of_ble_eq_true rfl, Nat.le_of_ble_eq_true rfl⟩) (xpV (ci := 11) (q0 := 0) (As := []) hPc hK hz hDc rfl rfl) rfl rfl hl1.1 rfl (lv_room (Nat.le_of_ble_eq_true rfl)) d_Model_part_77 ⟨Nat.le_of_ble_eq_true rfl, Nat.le_of_ble_eq_true rfl⟩) hS (fun q _ h => hFc q h) hFc (fun u_151 t H_152 locs ht hvm hw hB hz1 hk1 hS1 => ?_)
              try dsimp only at hw
              obtain ⟨-, -, -, hs_157, hs_158, hs_159, hs_160, hs_161, hs_162, hs_163, hs_164⟩ := hw
              obtain ⟨hP1, hD1⟩ := hB
              rw [ht] at hP1
              have hjn := xw_join3 (wl := [(m21, .inl (ax 0, 1200, .inl f)), (m22, .inl (ax 0, 64, .inl (upd (fun j => nI (st1 j)) s1 1))), (m0, .inr (11, [.int s_thrown, .int s_taped, .ref m1, .int (nI n), .int s_outSize, .ref m2, .int (nI (u_151 2)), .int (nI (u_151 3)), .int (nI (u_151 0)), .int (nI (u_151 1)), .int (nI f1), .ref m3, .ref m4, .ref m5, .int s_isProgram, .int s_half, .ref m6, .ref m7, .ref m8, .ref m9, .ref m10, .ref m11, .ref m12, .ref m13, .ref m14, .ref m15, .ref m16, .ref m17, .ref m18, .ref m19, .ref m20, .int (nI q), .ref m21, .int (nI (s1 + 1)), .ref m22, .int s_name, .int s_shift, .int s_statements, .int s_ifs, .int s_whiles, .int s_variants, .int s_open, .ref m23, .int s_isMade, .int s_conditions, .ref m24, .ref m25, .ref m26, .ref m27, .int s_kept, .ref m28, .int s_tops, .ref m29, .int s_used, .ref m30, .ref m31, .int s_looked, .int s_rows, .int s_firstRow, .ref m32, .ref m33, .ref m34, .ref m35, .ref m36, .ref m37, .ref m38, .ref m39, .ref m40, .int s_isBroken, .ref m41, .int (nI at1), .ref m42])), (m1, .inl (ax 0, 400, .inl (fun j => nI (g j))))]) hP hD [3, 0] [1, 2] hCs (by decide) (by decide) hk1 hFc hP1 hD1 rfl
              clear hP1 hD1
              clear hPc hDc hFc hCs hz hz1 hk1 ht hvm
              clear hP hD hS
              have hS := hS1
              obtain ⟨hP, hD⟩ := hjn
              clear hS1
              refine lv_goto (tgt := 0) hx hb d_Model_part_80 (by decide) ?_
              rw [xf_supc st1 s1 1 1 rfl] at hP hD
              have hP7 := hP; have hD7 := hD; clear hP hD
              have hW7 : (fun w9 : va_W => va_P D classes w9 H_152 ∧ va_D A w9) [(m21, .inl (ax 0, 1200, .inl f)), (m22, .inl (ax 0, 64, .inl (fun j => nI (sup st1 s1 1 j)))), (m0, .inr (11, [.int s_thrown, .int s_taped, .ref m1, .int (nI n), .int s_outSize, .ref m2, .int (nI (u_151 2)), .int (nI (u_151 3)), .int (nI (u_151 0)), .int (nI (u_151 1)), .int (nI f1), .ref m3, .ref m4, .ref m5, .int s_isProgram, .int s_half, .ref m6, .ref m7, .ref m8, .ref m9, .ref m10, .ref m11, .ref m12, .ref m13, .ref m14, .ref m15, .ref m16, .ref m17, .ref m18, .ref m19, .ref m20, .int (nI q), .ref m21, .int (nI (s1 + 1)), .ref m22, .int s_name, .int s_shift, .int s_statements, .int s_ifs, .int s_whiles, .int s_variants, .int s_open, .ref m23, .int s_isMade, .int s_conditions, .ref m24, .ref m25, .ref m26, .ref m27, .int s_kept, .ref m28, .int s_tops, .ref m29, .int s_used, .ref m30, .ref m31, .int s_looked, .int s_rows, .int s_firstRow, .ref m32, .ref m33, .ref m34, .ref m35, .ref m36, .ref m37, .ref m38, .ref m39, .ref m40, .int s_isBroken, .ref m41, .int (nI at1), .ref m42])), (m1, .inl (ax 0, 400, .inl (fun j => nI (g j))))] := ⟨hP7, hD7⟩
              obtain ⟨hP, hD⟩ := hW7
              clear hP7 hD7
              exact ih_3 (u_151 0) (u_151 1) (u_151 2) (u_151 3) f1 (s1 + 1) (sup st1 s1 1) (by omega) (by omega) (by omega) (by omega) (by assumption) (by omega) (by omega) (by assumption) (by omega) (by omega) (by omega) (by omega) (by first | assumption | exact sto_push hst1 (by omega)) (by first | assumption | exact cib_push hci1 (by omega)) (Or.inr (by first | exact rdP_nt (hP1.go (by omega)) g7 (by omega) (by omega) hs_157 | exact rdP_pa (hP1.go (by omega)) g7 (by omega) (by omega) hs_157)) (Or.inl (by omega)) _ _ _ (hP.sub [2, 3, 1, 0] rfl) (hD.sub [2, 3, 1, 0] (by decide) rfl) hS (lv_sub hl1 [0, 1] rfl)
          · replace c_125 : dpt st1 s1 = 10 := (nI_eq (a := dpt st1 s1) (b := 10) (by omega) (by omega)).mp c_125
            refine lv_aload_n hx hb d_Model_part_34 rfl (lv_at hl1 0 rfl) ?_
            refine lv_iconst (v := 1) hx hb d_Model_part_35 (by decide) ?_
            refine va_put (D := D) (ci := 11) (v := .int 1) (ty := .boolean) (C := R_Model) (T := F_Model) (N := 72) hx hb hts i_Model t_Model t_Model_ok n_Model hown hK.1 hP hD hS 2 rfl rfl 10 (by decide) (hts _ wd_1046) (fun _ h9 => h9) rfl (by decide +kernel) rfl rfl (Nat.le_of_ble_eq_true rfl) d_Model_part_36 (fun H_165 locs hP1 hD1 hS1 => ?_)
            clear hP hD hS
            have hS := hS1
            have hW7 : (fun w9 : va_W => va_P D classes w9 H_165 ∧ va_D A w9) [(m1, .inl (ax 0, 400, .inl (fun j => nI (g j)))), (m21, .inl (ax 0, 1200, .inl f)), (m0, .inr (11, [.int s_thrown, .int s_taped, .ref m1, .int (nI n), .int s_outSize, .ref m2, .int (nI k1), .int (nI v1), .int (nI b1), .int (nI e1), .int 1, .ref m3, .ref m4, .ref m5, .int s_isProgram, .int s_half, .ref m6, .ref m7, .ref m8, .ref m9, .ref m10, .ref m11, .ref m12, .ref m13, .ref m14, .ref m15, .ref m16, .ref m17, .ref m18, .ref m19, .ref m20, .int (nI q), .ref m21, .int (nI s1), .ref m22, .int s_name, .int s_shift, .int s_statements, .int s_ifs, .int s_whiles, .int s_variants, .int s_open, .ref m23, .int s_isMade, .int s_conditions, .ref m24, .ref m25, .ref m26, .ref m27, .int s_kept, .ref m28, .int s_tops, .ref m29, .int s_used, .ref m30, .ref m31, .int s_looked, .int s_rows, .int s_firstRow, .ref m32, .ref m33, .ref m34, .ref m35, .ref m36, .ref m37, .ref m38, .ref m39, .ref m40, .int s_isBroken, .ref m41, .int (nI at1), .ref m42])), (m22, .inl (ax 0, 64, .inl (fun j => nI (st1 j))))] := ⟨hP1, hD1⟩
            obtain ⟨hP, hD⟩ := hW7
            clear hP1 hD1 hS1
            refine lv_goto (tgt := 0) hx hb d_Model_part_39 (by decide) ?_
            exact ih_3 b1 e1 k1 v1 1 s1 st1 (by omega) (by omega) (by omega) (by omega) (by assumption) (by omega) (by omega) (by assumption) (by omega) (by omega) (by omega) (by omega) (by first | assumption | exact sto_push hst1 (by omega)) (by first | assumption | exact cib_push hci1 (by omega)) (Or.inl rfl) (Or.inr (rdP_dp (hP1.go (by omega)) g7 (by omega) (by omega))) _ _ _ (hP.sub [2, 0, 3, 1] rfl) (hD.sub [2, 0, 3, 1] (by decide) rfl) hS (lv_sub hl1 [0, 1] rfl)
