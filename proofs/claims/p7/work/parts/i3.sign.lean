theorem ps_6 : Cond.selects "TripleDesk$Tokens" ⟨"TripleDesk$Tokens", "comparison", "(IZ)I"⟩ ⟨"TripleDesk$Tokens", "comparison", "(IZ)I"⟩ ∈ lw_gd := ps_in (q := (⟨"TripleDesk$Tokens", "comparison", "(IZ)I"⟩, 8)) (i := 6) (by decide +kernel)
theorem wd_524 : ((Jvm.Cond.methodLink "TripleDesk$Tokens" (103 : Nat) ({ cls := "TripleDesk$Tokens", name := "comparison", desc := "(IZ)I" } : Jvm.MethodName))) ∈ lw_gd := lw_gd_in (i := 524) (by decide +kernel) rfl
theorem wd_526 : ((Jvm.Cond.instanceMethod ({ cls := "TripleDesk$Tokens", name := "comparison", desc := "(IZ)I" } : Jvm.MethodName))) ∈ lw_gd := lw_gd_in (i := 526) (by decide +kernel) rfl
theorem wd_527 : ((Jvm.Cond.code ({ cls := "TripleDesk$Tokens", name := "comparison", desc := "(IZ)I" } : Jvm.MethodName) prog_11_method_14_code (3 : Nat) (Option.some Jvm.ClassFile.FieldType.int))) ∈ lw_gd := lw_gd_in (i := 527) (by decide +kernel) rfl
abbrev b_Tokens_sign : ByteArray := prog_11_method_13_code
def y_Tokens_sign : MethodName := ⟨R_Tokens, "sign", "(I)I"⟩
theorem d_Tokens_sign_0 : decode b_Tokens_sign 0 = .ok (.aload_n 0, 1) := by decide +kernel
theorem d_Tokens_sign_1 : decode b_Tokens_sign 1 = .ok (.dup, 1) := by decide +kernel
theorem d_Tokens_sign_2 : decode b_Tokens_sign 2 = .ok (.getfield 26, 3) := by decide +kernel
theorem d_Tokens_sign_5 : decode b_Tokens_sign 5 = .ok (.iconst 1, 1) := by decide +kernel
theorem d_Tokens_sign_6 : decode b_Tokens_sign 6 = .ok (.iadd, 1) := by decide +kernel
theorem d_Tokens_sign_7 : decode b_Tokens_sign 7 = .ok (.putfield 26, 3) := by decide +kernel
theorem d_Tokens_sign_10 : decode b_Tokens_sign 10 = .ok (.aload_n 0, 1) := by decide +kernel
theorem d_Tokens_sign_11 : decode b_Tokens_sign 11 = .ok (.getfield 26, 3) := by decide +kernel
theorem d_Tokens_sign_14 : decode b_Tokens_sign 14 = .ok (.aload_n 0, 1) := by decide +kernel
theorem d_Tokens_sign_15 : decode b_Tokens_sign 15 = .ok (.getfield 23, 3) := by decide +kernel
theorem d_Tokens_sign_18 : decode b_Tokens_sign 18 = .ok (.if_icmp .ge 21, 3) := by decide +kernel
theorem d_Tokens_sign_21 : decode b_Tokens_sign 21 = .ok (.aload_n 0, 1) := by decide +kernel
theorem d_Tokens_sign_22 : decode b_Tokens_sign 22 = .ok (.getfield 9, 3) := by decide +kernel
theorem d_Tokens_sign_25 : decode b_Tokens_sign 25 = .ok (.aload_n 0, 1) := by decide +kernel
theorem d_Tokens_sign_26 : decode b_Tokens_sign 26 = .ok (.getfield 26, 3) := by decide +kernel
theorem d_Tokens_sign_29 : decode b_Tokens_sign 29 = .ok (.baload, 1) := by decide +kernel
theorem d_Tokens_sign_30 : decode b_Tokens_sign 30 = .ok (.bipush 61, 2) := by decide +kernel
theorem d_Tokens_sign_32 : decode b_Tokens_sign 32 = .ok (.if_icmp .ne 7, 3) := by decide +kernel
theorem d_Tokens_sign_35 : decode b_Tokens_sign 35 = .ok (.iconst 1, 1) := by decide +kernel
theorem d_Tokens_sign_36 : decode b_Tokens_sign 36 = .ok (.goto 4, 3) := by decide +kernel
theorem d_Tokens_sign_39 : decode b_Tokens_sign 39 = .ok (.iconst 0, 1) := by decide +kernel
theorem d_Tokens_sign_40 : decode b_Tokens_sign 40 = .ok (.istore_n 2, 1) := by decide +kernel
theorem d_Tokens_sign_41 : decode b_Tokens_sign 41 = .ok (.iload_n 1, 1) := by decide +kernel
theorem d_Tokens_sign_42 : decode b_Tokens_sign 42 = .ok (.lookupswitch 213 #[(32, 211), (33, 211), (35, 145), (38, 211), (40, 211), (41, 211), (43, 211), (45, 211), (58, 182), (59, 211), (60, 152), (61, 138), (62, 167), (123, 211), (124, 211), (125, 211)], 138) := by decide +kernel
theorem d_Tokens_sign_180 : decode b_Tokens_sign 180 = .ok (.aload_n 0, 1) := by decide +kernel
theorem d_Tokens_sign_181 : decode b_Tokens_sign 181 = .ok (.iconst 4, 1) := by decide +kernel
theorem d_Tokens_sign_182 : decode b_Tokens_sign 182 = .ok (.iconst 0, 1) := by decide +kernel
theorem d_Tokens_sign_183 : decode b_Tokens_sign 183 = .ok (.invokevirtual 103, 3) := by decide +kernel
theorem d_Tokens_sign_186 : decode b_Tokens_sign 186 = .ok (.ireturn, 1) := by decide +kernel
theorem d_Tokens_sign_187 : decode b_Tokens_sign 187 = .ok (.aload_n 0, 1) := by decide +kernel
theorem d_Tokens_sign_188 : decode b_Tokens_sign 188 = .ok (.iconst 5, 1) := by decide +kernel
theorem d_Tokens_sign_189 : decode b_Tokens_sign 189 = .ok (.iconst 0, 1) := by decide +kernel
theorem d_Tokens_sign_190 : decode b_Tokens_sign 190 = .ok (.invokevirtual 103, 3) := by decide +kernel
theorem d_Tokens_sign_193 : decode b_Tokens_sign 193 = .ok (.ireturn, 1) := by decide +kernel
theorem d_Tokens_sign_194 : decode b_Tokens_sign 194 = .ok (.aload_n 0, 1) := by decide +kernel
theorem d_Tokens_sign_195 : decode b_Tokens_sign 195 = .ok (.iload_n 2, 1) := by decide +kernel
theorem d_Tokens_sign_196 : decode b_Tokens_sign 196 = .ok (.ifCond .eq 7, 3) := by decide +kernel
theorem d_Tokens_sign_199 : decode b_Tokens_sign 199 = .ok (.iconst 2, 1) := by decide +kernel
theorem d_Tokens_sign_200 : decode b_Tokens_sign 200 = .ok (.goto 4, 3) := by decide +kernel
theorem d_Tokens_sign_203 : decode b_Tokens_sign 203 = .ok (.iconst 0, 1) := by decide +kernel
theorem d_Tokens_sign_204 : decode b_Tokens_sign 204 = .ok (.iload_n 2, 1) := by decide +kernel
theorem d_Tokens_sign_205 : decode b_Tokens_sign 205 = .ok (.invokevirtual 103, 3) := by decide +kernel
theorem d_Tokens_sign_208 : decode b_Tokens_sign 208 = .ok (.ireturn, 1) := by decide +kernel
theorem d_Tokens_sign_209 : decode b_Tokens_sign 209 = .ok (.aload_n 0, 1) := by decide +kernel
theorem d_Tokens_sign_210 : decode b_Tokens_sign 210 = .ok (.iload_n 2, 1) := by decide +kernel
theorem d_Tokens_sign_211 : decode b_Tokens_sign 211 = .ok (.ifCond .eq 7, 3) := by decide +kernel
theorem d_Tokens_sign_214 : decode b_Tokens_sign 214 = .ok (.iconst 1, 1) := by decide +kernel
theorem d_Tokens_sign_215 : decode b_Tokens_sign 215 = .ok (.goto 4, 3) := by decide +kernel
theorem d_Tokens_sign_218 : decode b_Tokens_sign 218 = .ok (.iconst 3, 1) := by decide +kernel
theorem d_Tokens_sign_219 : decode b_Tokens_sign 219 = .ok (.iload_n 2, 1) := by decide +kernel
theorem d_Tokens_sign_220 : decode b_Tokens_sign 220 = .ok (.invokevirtual 103, 3) := by decide +kernel
theorem d_Tokens_sign_223 : decode b_Tokens_sign 223 = .ok (.ireturn, 1) := by decide +kernel
theorem d_Tokens_sign_224 : decode b_Tokens_sign 224 = .ok (.aload_n 0, 1) := by decide +kernel
theorem d_Tokens_sign_225 : decode b_Tokens_sign 225 = .ok (.dup, 1) := by decide +kernel
theorem d_Tokens_sign_226 : decode b_Tokens_sign 226 = .ok (.getfield 26, 3) := by decide +kernel
theorem d_Tokens_sign_229 : decode b_Tokens_sign 229 = .ok (.iload_n 2, 1) := by decide +kernel
theorem d_Tokens_sign_230 : decode b_Tokens_sign 230 = .ok (.ifCond .eq 7, 3) := by decide +kernel
theorem d_Tokens_sign_233 : decode b_Tokens_sign 233 = .ok (.iconst 1, 1) := by decide +kernel
theorem d_Tokens_sign_234 : decode b_Tokens_sign 234 = .ok (.goto 4, 3) := by decide +kernel
theorem d_Tokens_sign_237 : decode b_Tokens_sign 237 = .ok (.iconst 0, 1) := by decide +kernel
theorem d_Tokens_sign_238 : decode b_Tokens_sign 238 = .ok (.iadd, 1) := by decide +kernel
theorem d_Tokens_sign_239 : decode b_Tokens_sign 239 = .ok (.putfield 26, 3) := by decide +kernel
theorem d_Tokens_sign_242 : decode b_Tokens_sign 242 = .ok (.iload_n 2, 1) := by decide +kernel
theorem d_Tokens_sign_243 : decode b_Tokens_sign 243 = .ok (.ifCond .eq 8, 3) := by decide +kernel
theorem d_Tokens_sign_246 : decode b_Tokens_sign 246 = .ok (.bipush 6, 2) := by decide +kernel
theorem d_Tokens_sign_248 : decode b_Tokens_sign 248 = .ok (.goto 4, 3) := by decide +kernel
theorem d_Tokens_sign_251 : decode b_Tokens_sign 251 = .ok (.iconst 1, 1) := by decide +kernel
theorem d_Tokens_sign_252 : decode b_Tokens_sign 252 = .ok (.ireturn, 1) := by decide +kernel
theorem d_Tokens_sign_253 : decode b_Tokens_sign 253 = .ok (.iload_n 1, 1) := by decide +kernel
theorem d_Tokens_sign_254 : decode b_Tokens_sign 254 = .ok (.ireturn, 1) := by decide +kernel
theorem d_Tokens_sign_255 : decode b_Tokens_sign 255 = .ok (.iconst 1, 1) := by decide +kernel
theorem d_Tokens_sign_256 : decode b_Tokens_sign 256 = .ok (.ireturn, 1) := by decide +kernel
set_option maxHeartbeats 40000000 in
set_option maxRecDepth 100000 in
theorem c_T_sign (l : Launch) (D : va_G) (ax : Nat → ClassId) (k0 k1 k2 ts th : Nat) (s_at s_fault s_next s_amount : Int32) (tb : Nat → Int32) (tk : Nat → Nat) (x1 : Int32) (sz : Nat) (hts : ts ≤ 400) (hth : th < ts) (hbt : bts tb 400) (hx1 : x1 = tb th) (hnl : ¬ (97 ≤ gtb tb th ∧ gtb tb th ≤ 122)) (hnd9 : ¬ (48 ≤ gtb tb th ∧ gtb tb th ≤ 57)) : Met l y_Tokens_sign (xws (.code y_Tokens_sign b_Tokens_sign 3 (some .int))) ({ frames := 20, cells := 0, slots := 0, locals := 800 }) (va_Pc [.ref k0, .int x1] (xo D ax [(k0, .inr (9, [.ref k1, .ref k2, .int (nI ts), .int (nI th), .int s_at, .int s_fault, .int s_next, .int s_amount])), (k1, .inl (ax 1, 400, .inl tb)), (k2, .inl (ax 0, 401, .inl (fun j => nI (tk j))))] sz)) ((va_Qi (fun (r : Int32) (u : Nat → Nat) => r = nI (u 1) ∧ (th ≤ u 0 ∧ u 0 ≤ ts ∧ u 1 < 128 ∧ scE (gtb tb) ts th (u 0) ∧ scK (gtb tb) ts th (u 1))) (fun (u : Nat → Nat) (t9 : State) => ∃ xam : Int32, (sco (u 1) xam) ∧ (scV (gtb tb) ts th xam) ∧ va_P D classes [(k0, .inr (9, [.ref k1, .ref k2, .int (nI ts), .int (nI (u 0)), .int s_at, .int s_fault, .int s_next, .int xam])), (k1, .inl (ax 1, 400, .inl tb)), (k2, .inl (ax 0, 401, .inl (fun j => nI (tk j))))] t9.heap ∧ va_D (va_A [(k0, .inr (9, [.ref k1, .ref k2, .int (nI ts), .int (nI th), .int s_at, .int s_fault, .int s_next, .int s_amount])), (k1, .inl (ax 1, 400, .inl tb)), (k2, .inl (ax 0, 401, .inl (fun j => nI (tk j))))] sz) [(k0, .inr (9, [.ref k1, .ref k2, .int (nI ts), .int (nI (u 0)), .int s_at, .int s_fault, .int s_next, .int xam])), (k1, .inl (ax 1, 400, .inl tb)), (k2, .inl (ax 0, 401, .inl (fun j => nI (tk j))))]) (va_A [(k0, .inr (9, [.ref k1, .ref k2, .int (nI ts), .int (nI th), .int s_at, .int s_fault, .int s_next, .int s_amount])), (k1, .inl (ax 1, 400, .inl tb)), (k2, .inl (ax 0, 401, .inl (fun j => nI (tk j))))] sz))) 0 0 (va_A [(k0, .inr (9, [.ref k1, .ref k2, .int (nI ts), .int (nI th), .int s_at, .int s_fault, .int s_next, .int s_amount])), (k1, .inl (ax 1, 400, .inl tb)), (k2, .inl (ax 0, 401, .inl (fun j => nI (tk j))))] sz) := by
  refine Met.ofW (cc := b_Tokens_sign) (maxL := 3) (ret := (some .int)) (by decide) rfl ?_
  intro p e s m args below meth c s₁ B hml hv
  obtain ⟨rfl, hsz, hP, hK, hD0⟩ := hv
  have hx := B.exec
  have hb := B.bytes
  have hr := B.returns
  have hts := xw_hts B.pre
  have hown : s.vm.findClass R_Tokens = some m.cls := findClass_of_methodNamed B.named
  have hlocks := B.notSynchronized
  subst hsz
  have hD := hD0.self (sz := s.heap.size)
  have hN := xz_entry hP
  generalize hAe : va_A [(k0, .inr (9, [.ref k1, .ref k2, .int (nI ts), .int (nI th), .int s_at, .int s_fault, .int s_next, .int s_amount])), (k1, .inl (ax 1, 400, .inl tb)), (k2, .inl (ax 0, 401, .inl (fun j => nI (tk j))))] s.heap.size = A at hD hN ⊢
  have hA : ∀ q : Nat, s.heap.size ≤ q → A q := fun q h => by rw [← hAe]; exact Or.inr h
  have hS : va_S A s.heap s.heap [] := va_S.rf
  have hl0 := lv_entry ([.ref k0, .int x1]) (n := 3) (Nat.le_of_ble_eq_true rfl)
  rw [lg_entry_eq]
  generalize (lg_sl ([.ref k0, .int x1]) ++ List.replicate (3 - (lg_sl ([.ref k0, .int x1])).length) Slot.unset).toArray = ls at hl0 ⊢
  have hl1 : lv_has ls 3 [(0, .ref k0), (1, .int x1)] := hl0
  refine xw_gen (fun Z9 hQe => ?_)
  refine lv_aload_n hx hb d_Tokens_sign_0 rfl (lv_at hl1 0 rfl) ?_
  refine lv_dup hx hb d_Tokens_sign_1 rfl ?_
  refine va_get (D := D) (ci := 9) (v := .int (nI th)) (C := R_Tokens) (T := F_Tokens) (N := 8) hx hb hts i_Tokens hown hK.1 hP 0 rfl rfl 3 (by decide) (hts _ wd_43) (fun _ h9 => h9) rfl d_Tokens_sign_2 ?_
  refine lv_iconst (v := 1) hx hb d_Tokens_sign_5 (by decide) ?_
  refine lv_iadd hx hb d_Tokens_sign_6 ?_
  refine lv_topi (fun z_1 ez_1 => ?_)
  have ez_1 : z_1 = nI (th + 1) := ez_1.trans (nI_add th 1)
  subst ez_1
  refine va_put (D := D) (ci := 9) (v := .int (nI (th + 1))) (ty := .int) (C := R_Tokens) (T := F_Tokens) (N := 8) hx hb hts i_Tokens t_Tokens t_Tokens_ok n_Tokens hown hK.1 hP hD hS 0 rfl rfl 3 (by decide) (hts _ wd_43) (fun _ h9 => h9) rfl (by decide +kernel) rfl rfl (Nat.le_of_ble_eq_true rfl) d_Tokens_sign_7 (fun H_2 locs hP1 hD1 hS1 => ?_)
  clear hP hD hS
  have hS := hS1
  have hW7 : (fun w9 : va_W => va_P D classes w9 H_2 ∧ va_D A w9) [(k0, .inr (9, [.ref k1, .ref k2, .int (nI ts), .int (nI (th + 1)), .int s_at, .int s_fault, .int s_next, .int s_amount])), (k1, .inl (ax 1, 400, .inl tb)), (k2, .inl (ax 0, 401, .inl (fun j => nI (tk j))))] := ⟨hP1, hD1⟩
  obtain ⟨hP, hD⟩ := hW7
  clear hP1 hD1 hS1
  refine lv_aload_n hx hb d_Tokens_sign_10 rfl (lv_at hl1 0 rfl) ?_
  refine va_get (D := D) (ci := 9) (v := .int (nI (th + 1))) (C := R_Tokens) (T := F_Tokens) (N := 8) hx hb hts i_Tokens hown hK.1 hP 0 rfl rfl 3 (by decide) (hts _ wd_43) (fun _ h9 => h9) rfl d_Tokens_sign_11 ?_
  refine lv_aload_n hx hb d_Tokens_sign_14 rfl (lv_at hl1 0 rfl) ?_
  refine va_get (D := D) (ci := 9) (v := .int (nI ts)) (C := R_Tokens) (T := F_Tokens) (N := 8) hx hb hts i_Tokens hown hK.1 hP 0 rfl rfl 2 (by decide) (hts _ wd_42) (fun _ h9 => h9) rfl d_Tokens_sign_15 ?_
  refine lv_icmp_ge (tgt := 39) hx hb d_Tokens_sign_18 (by decide) (fun c_3 => ?_) (fun c_3 => ?_)
  · replace c_3 : ts ≤ th + 1 := (nI_leI (a := ts) (b := th + 1) (by first | exact Nat.lt_of_lt_of_le (by assumption) (by decide) | exact Nat.lt_of_le_of_lt (by assumption) (by decide) | omega) (by first | exact Nat.lt_of_lt_of_le (by assumption) (by decide) | exact Nat.lt_of_le_of_lt (by assumption) (by decide) | omega)).mp c_3
    refine lv_iconst (v := 0) hx hb d_Tokens_sign_39 (by decide) ?_
    refine lv_istore_n (lv' := [(2, .int 0), (0, .ref k0), (1, .int x1)]) hx hb d_Tokens_sign_40 rfl hl1 (by decide) rfl (fun ls hl2 => ?_)
    clear hl1; have hl1 := hl2; clear hl2
    refine lv_iload_n hx hb d_Tokens_sign_41 rfl (lv_at hl1 2 rfl) ?_
    by_cases hw_4 : x1 = 32
    · refine W.eq (g2 := F0 m 42 ls [.int 32]) (by rw [hw_4]) ?_
      refine lv_lookup (off := 211) (tgt := 253) hx hb d_Tokens_sign_42 (by decide) (by decide) (by decide) ?_
      refine lv_iload_n hx hb d_Tokens_sign_253 rfl (lv_at hl1 2 rfl) ?_
      refine W.eq (g2 := F0 m 254 ls [.int 32]) (by rw [hw_4]) ?_
      rw [← hQe]
      obtain ⟨hP9, hD9⟩ := xw_sub2 (wc := (fun (u : Nat → Nat) (xam : Int32) => [(k0, .inr (9, [.ref k1, .ref k2, .int (nI ts), .int (nI (u 0)), .int s_at, .int s_fault, .int s_next, .int xam])), (k1, .inl (ax 1, 400, .inl tb)), (k2, .inl (ax 0, 401, .inl (fun j => nI (tk j))))]) (ixn [(th + 1), 32]) s_amount) hP hD [0, 1, 2] (by decide) rfl
      have hex0 : sco (32) s_amount := (sco_o (by first | assumption | omega) (by first | assumption | omega) (by first | assumption | omega) (by first | assumption | omega))
      have hex1 : scV (gtb tb) ts th s_amount := (scV_32 (gb_nI (q := 32) (hx1.symm.trans hw_4) (by decide)))
      have hsp0 : th ≤ (th + 1) := (by first | assumption | omega)
      have hsp1 : (th + 1) ≤ ts := (by first | assumption | omega)
      have hsp2 : 32 < 128 := (by first | assumption | omega)
      have hsp3 : scE (gtb tb) ts th ((th + 1)) := (by rw [show th + 1 = th + 1 by omega]; exact (sg_32 (gb_nI (q := 32) (hx1.symm.trans hw_4) (by decide))).1)
      have hsp4 : scK (gtb tb) ts th (32) := (sg_32 (gb_nI (q := 32) (hx1.symm.trans hw_4) (by decide))).2
      exact W.iret (v := 32) hx hb hr (fun t ht hW => ⟨⟨32, ixn [(th + 1), 32], rfl, ⟨rfl, ⟨hsp0, hsp1, hsp2, hsp3, hsp4⟩⟩, ⟨s_amount, hex0, hex1, by rw [ht]; exact hP9, hD9⟩⟩, hS.F ht⟩) hS.2.2 d_Tokens_sign_254
    by_cases hw_5 : x1 = 33
    · refine W.eq (g2 := F0 m 42 ls [.int 33]) (by rw [hw_5]) ?_
      refine lv_lookup (off := 211) (tgt := 253) hx hb d_Tokens_sign_42 (by decide) (by decide) (by decide) ?_
      refine lv_iload_n hx hb d_Tokens_sign_253 rfl (lv_at hl1 2 rfl) ?_
      refine W.eq (g2 := F0 m 254 ls [.int 33]) (by rw [hw_5]) ?_
      rw [← hQe]
      obtain ⟨hP9, hD9⟩ := xw_sub2 (wc := (fun (u : Nat → Nat) (xam : Int32) => [(k0, .inr (9, [.ref k1, .ref k2, .int (nI ts), .int (nI (u 0)), .int s_at, .int s_fault, .int s_next, .int xam])), (k1, .inl (ax 1, 400, .inl tb)), (k2, .inl (ax 0, 401, .inl (fun j => nI (tk j))))]) (ixn [(th + 1), 33]) s_amount) hP hD [0, 1, 2] (by decide) rfl
      have hex0 : sco (33) s_amount := (sco_o (by first | assumption | omega) (by first | assumption | omega) (by first | assumption | omega) (by first | assumption | omega))
      have hex1 : scV (gtb tb) ts th s_amount := (scV_o (sg_1 hth hnl hnd9 (gb_nI (q := 33) (hx1.symm.trans hw_5) (by decide)) (by decide) (fun q9 => absurd q9.1 (by decide)) rfl).2 (by decide))
      have hsp0 : th ≤ (th + 1) := (by first | assumption | omega)
      have hsp1 : (th + 1) ≤ ts := (by first | assumption | omega)
      have hsp2 : 33 < 128 := (by first | assumption | omega)
      have hsp3 : scE (gtb tb) ts th ((th + 1)) := (by rw [show th + 1 = th + 1 by omega]; exact (sg_1 hth hnl hnd9 (gb_nI (q := 33) (hx1.symm.trans hw_5) (by decide)) (by decide) (fun q9 => absurd q9.1 (by decide)) rfl).1)
      have hsp4 : scK (gtb tb) ts th (33) := (sg_1 hth hnl hnd9 (gb_nI (q := 33) (hx1.symm.trans hw_5) (by decide)) (by decide) (fun q9 => absurd q9.1 (by decide)) rfl).2
      exact W.iret (v := 33) hx hb hr (fun t ht hW => ⟨⟨33, ixn [(th + 1), 33], rfl, ⟨rfl, ⟨hsp0, hsp1, hsp2, hsp3, hsp4⟩⟩, ⟨s_amount, hex0, hex1, by rw [ht]; exact hP9, hD9⟩⟩, hS.F ht⟩) hS.2.2 d_Tokens_sign_254
    by_cases hw_6 : x1 = 35
    · refine W.eq (g2 := F0 m 42 ls [.int 35]) (by rw [hw_6]) ?_
      refine lv_lookup (off := 145) (tgt := 187) hx hb d_Tokens_sign_42 (by decide) (by decide) (by decide) ?_
      refine lv_aload_n hx hb d_Tokens_sign_187 rfl (lv_at hl1 1 rfl) ?_
      refine lv_iconst (v := 5) hx hb d_Tokens_sign_188 (by decide) ?_
      refine lv_iconst (v := 0) hx hb d_Tokens_sign_189 (by decide) ?_
      obtain ⟨hPc, hDc, hFc, hCs⟩ := xw_sub3 (wc := [(k0, .inr (9, [.ref k1, .ref k2, .int (nI ts), .int (nI (th + 1)), .int s_at, .int s_fault, .int s_next, .int s_amount])), (k1, .inl (ax 1, 400, .inl tb)), (k2, .inl (ax 0, 401, .inl (fun j => nI (tk j))))]) hP hD hS hA [0, 1, 2] (by decide) rfl
      have hz := xz_of hN hS
      refine va_calli (va_runV (As := [.int 5, .int 0]) (rest := []) ⟨hx, hb, hml, hown, hts⟩ (c_T_comparison l D ax k0 k1 k2 ts (th + 1) s_at s_fault s_next s_amount tb tk 5 0 H_2.size (by first | assumption | omega) (by first | assumption | omega) (by first | assumption | omega)) (xcV (n := 2) hts wd_527 wd_2 wd_524 wd_526 ps_6 rfl rfl (by decide +kernel) ⟨Nat.le_of_ble_eq_true rfl, Nat.le_of_ble_eq_true rfl⟩) (xpV (ci := 9) (q0 := 0) (As := [.int 5, .int 0]) hPc hK hz hDc rfl rfl) rfl rfl hl1.1 rfl (lv_room (Nat.le_of_ble_eq_true rfl)) d_Tokens_sign_190 ⟨Nat.le_of_ble_eq_true rfl, Nat.le_of_ble_eq_true rfl⟩) hS (fun q _ h => hFc q h) hFc (fun r_9 u_7 t H_8 locs ht hvm hw hB hz1 hk1 hS1 => ?_)
      try dsimp only at hw
      obtain ⟨hw, hs_10⟩ := hw
      subst hw
      obtain ⟨hP1, hD1⟩ := hB
      rw [ht] at hP1
      have hjn := xw_join3 (wl := [(k0, .inr (9, [.ref k1, .ref k2, .int (nI ts), .int (nI (u_7 0)), .int s_at, .int s_fault, .int s_next, .int (nI 5)])), (k1, .inl (ax 1, 400, .inl tb)), (k2, .inl (ax 0, 401, .inl (fun j => nI (tk j))))]) hP hD [0, 1, 2] [] hCs (by decide) (by decide) hk1 hFc hP1 hD1 rfl
      clear hP1 hD1
      clear hPc hDc hFc hCs hz hz1 hk1 ht hvm
      clear hP hD hS
      have hS := hS1
      obtain ⟨hP, hD⟩ := hjn
      clear hS1
      rw [← hQe]
      obtain ⟨hP9, hD9⟩ := xw_sub2 (wc := (fun (u : Nat → Nat) (xam : Int32) => [(k0, .inr (9, [.ref k1, .ref k2, .int (nI ts), .int (nI (u 0)), .int s_at, .int s_fault, .int s_next, .int xam])), (k1, .inl (ax 1, 400, .inl tb)), (k2, .inl (ax 0, 401, .inl (fun j => nI (tk j))))]) (ixn [(u_7 0), 5]) (nI 5)) hP hD [0, 1, 2] (by decide) rfl
      have hex0 : sco (5) (nI 5) := (sco_c (q := 5) (by decide))
      have hex1 : scV (gtb tb) ts th (nI 5) := (sgv_1 hth hnl hnd9 (gb_nI (q := 35) (hx1.symm.trans hw_6) (by decide)) (by decide) (fun q9 => absurd q9.1 (by decide)) (fun _ => by first | exact (show i2n (nI 0) % 1024 = 0 by decide) | exact (show i2n (nI 1) % 1024 = 1 by decide) | exact (show i2n (nI 2) % 1024 = 2 by decide) | exact (show i2n (nI 3) % 1024 = 3 by decide) | exact (show i2n (nI 4) % 1024 = 4 by decide) | exact (show i2n (nI 5) % 1024 = 5 by decide)))
      have hsp0 : th ≤ (u_7 0) := (by first | assumption | omega)
      have hsp1 : (u_7 0) ≤ ts := (by first | assumption | omega)
      have hsp2 : 5 < 128 := (by first | assumption | omega)
      have hsp3 : scE (gtb tb) ts th ((u_7 0)) := (by rw [show u_7 0 = th + 1 by omega]; exact (sg_1 hth hnl hnd9 (gb_nI (q := 35) (hx1.symm.trans hw_6) (by decide)) (by decide) (fun q9 => absurd q9.1 (by decide)) rfl).1)
      have hsp4 : scK (gtb tb) ts th (5) := (sg_1 hth hnl hnd9 (gb_nI (q := 35) (hx1.symm.trans hw_6) (by decide)) (by decide) (fun q9 => absurd q9.1 (by decide)) rfl).2
      exact W.iret (v := 5) hx hb hr (fun t ht hW => ⟨⟨5, ixn [(u_7 0), 5], rfl, ⟨rfl, ⟨hsp0, hsp1, hsp2, hsp3, hsp4⟩⟩, ⟨nI 5, hex0, hex1, by rw [ht]; exact hP9, hD9⟩⟩, hS.F ht⟩) hS.2.2 d_Tokens_sign_193
    by_cases hw_11 : x1 = 38
    · refine W.eq (g2 := F0 m 42 ls [.int 38]) (by rw [hw_11]) ?_
      refine lv_lookup (off := 211) (tgt := 253) hx hb d_Tokens_sign_42 (by decide) (by decide) (by decide) ?_
      refine lv_iload_n hx hb d_Tokens_sign_253 rfl (lv_at hl1 2 rfl) ?_
      refine W.eq (g2 := F0 m 254 ls [.int 38]) (by rw [hw_11]) ?_
      rw [← hQe]
      obtain ⟨hP9, hD9⟩ := xw_sub2 (wc := (fun (u : Nat → Nat) (xam : Int32) => [(k0, .inr (9, [.ref k1, .ref k2, .int (nI ts), .int (nI (u 0)), .int s_at, .int s_fault, .int s_next, .int xam])), (k1, .inl (ax 1, 400, .inl tb)), (k2, .inl (ax 0, 401, .inl (fun j => nI (tk j))))]) (ixn [(th + 1), 38]) s_amount) hP hD [0, 1, 2] (by decide) rfl
      have hex0 : sco (38) s_amount := (sco_o (by first | assumption | omega) (by first | assumption | omega) (by first | assumption | omega) (by first | assumption | omega))
      have hex1 : scV (gtb tb) ts th s_amount := (scV_o (sg_1 hth hnl hnd9 (gb_nI (q := 38) (hx1.symm.trans hw_11) (by decide)) (by decide) (fun q9 => absurd q9.1 (by decide)) rfl).2 (by decide))
      have hsp0 : th ≤ (th + 1) := (by first | assumption | omega)
      have hsp1 : (th + 1) ≤ ts := (by first | assumption | omega)
      have hsp2 : 38 < 128 := (by first | assumption | omega)
      have hsp3 : scE (gtb tb) ts th ((th + 1)) := (by rw [show th + 1 = th + 1 by omega]; exact (sg_1 hth hnl hnd9 (gb_nI (q := 38) (hx1.symm.trans hw_11) (by decide)) (by decide) (fun q9 => absurd q9.1 (by decide)) rfl).1)
      have hsp4 : scK (gtb tb) ts th (38) := (sg_1 hth hnl hnd9 (gb_nI (q := 38) (hx1.symm.trans hw_11) (by decide)) (by decide) (fun q9 => absurd q9.1 (by decide)) rfl).2
      exact W.iret (v := 38) hx hb hr (fun t ht hW => ⟨⟨38, ixn [(th + 1), 38], rfl, ⟨rfl, ⟨hsp0, hsp1, hsp2, hsp3, hsp4⟩⟩, ⟨s_amount, hex0, hex1, by rw [ht]; exact hP9, hD9⟩⟩, hS.F ht⟩) hS.2.2 d_Tokens_sign_254
    by_cases hw_12 : x1 = 40
    · refine W.eq (g2 := F0 m 42 ls [.int 40]) (by rw [hw_12]) ?_
      refine lv_lookup (off := 211) (tgt := 253) hx hb d_Tokens_sign_42 (by decide) (by decide) (by decide) ?_
      refine lv_iload_n hx hb d_Tokens_sign_253 rfl (lv_at hl1 2 rfl) ?_
      refine W.eq (g2 := F0 m 254 ls [.int 40]) (by rw [hw_12]) ?_
      rw [← hQe]
      obtain ⟨hP9, hD9⟩ := xw_sub2 (wc := (fun (u : Nat → Nat) (xam : Int32) => [(k0, .inr (9, [.ref k1, .ref k2, .int (nI ts), .int (nI (u 0)), .int s_at, .int s_fault, .int s_next, .int xam])), (k1, .inl (ax 1, 400, .inl tb)), (k2, .inl (ax 0, 401, .inl (fun j => nI (tk j))))]) (ixn [(th + 1), 40]) s_amount) hP hD [0, 1, 2] (by decide) rfl
      have hex0 : sco (40) s_amount := (sco_o (by first | assumption | omega) (by first | assumption | omega) (by first | assumption | omega) (by first | assumption | omega))
      have hex1 : scV (gtb tb) ts th s_amount := (scV_o (sg_1 hth hnl hnd9 (gb_nI (q := 40) (hx1.symm.trans hw_12) (by decide)) (by decide) (fun q9 => absurd q9.1 (by decide)) rfl).2 (by decide))
      have hsp0 : th ≤ (th + 1) := (by first | assumption | omega)
      have hsp1 : (th + 1) ≤ ts := (by first | assumption | omega)
      have hsp2 : 40 < 128 := (by first | assumption | omega)
      have hsp3 : scE (gtb tb) ts th ((th + 1)) := (by rw [show th + 1 = th + 1 by omega]; exact (sg_1 hth hnl hnd9 (gb_nI (q := 40) (hx1.symm.trans hw_12) (by decide)) (by decide) (fun q9 => absurd q9.1 (by decide)) rfl).1)
      have hsp4 : scK (gtb tb) ts th (40) := (sg_1 hth hnl hnd9 (gb_nI (q := 40) (hx1.symm.trans hw_12) (by decide)) (by decide) (fun q9 => absurd q9.1 (by decide)) rfl).2
      exact W.iret (v := 40) hx hb hr (fun t ht hW => ⟨⟨40, ixn [(th + 1), 40], rfl, ⟨rfl, ⟨hsp0, hsp1, hsp2, hsp3, hsp4⟩⟩, ⟨s_amount, hex0, hex1, by rw [ht]; exact hP9, hD9⟩⟩, hS.F ht⟩) hS.2.2 d_Tokens_sign_254
    by_cases hw_13 : x1 = 41
    · refine W.eq (g2 := F0 m 42 ls [.int 41]) (by rw [hw_13]) ?_
      refine lv_lookup (off := 211) (tgt := 253) hx hb d_Tokens_sign_42 (by decide) (by decide) (by decide) ?_
      refine lv_iload_n hx hb d_Tokens_sign_253 rfl (lv_at hl1 2 rfl) ?_
      refine W.eq (g2 := F0 m 254 ls [.int 41]) (by rw [hw_13]) ?_
      rw [← hQe]
      obtain ⟨hP9, hD9⟩ := xw_sub2 (wc := (fun (u : Nat → Nat) (xam : Int32) => [(k0, .inr (9, [.ref k1, .ref k2, .int (nI ts), .int (nI (u 0)), .int s_at, .int s_fault, .int s_next, .int xam])), (k1, .inl (ax 1, 400, .inl tb)), (k2, .inl (ax 0, 401, .inl (fun j => nI (tk j))))]) (ixn [(th + 1), 41]) s_amount) hP hD [0, 1, 2] (by decide) rfl
      have hex0 : sco (41) s_amount := (sco_o (by first | assumption | omega) (by first | assumption | omega) (by first | assumption | omega) (by first | assumption | omega))
      have hex1 : scV (gtb tb) ts th s_amount := (scV_o (sg_1 hth hnl hnd9 (gb_nI (q := 41) (hx1.symm.trans hw_13) (by decide)) (by decide) (fun q9 => absurd q9.1 (by decide)) rfl).2 (by decide))
      have hsp0 : th ≤ (th + 1) := (by first | assumption | omega)
      have hsp1 : (th + 1) ≤ ts := (by first | assumption | omega)
      have hsp2 : 41 < 128 := (by first | assumption | omega)
      have hsp3 : scE (gtb tb) ts th ((th + 1)) := (by rw [show th + 1 = th + 1 by omega]; exact (sg_1 hth hnl hnd9 (gb_nI (q := 41) (hx1.symm.trans hw_13) (by decide)) (by decide) (fun q9 => absurd q9.1 (by decide)) rfl).1)
      have hsp4 : scK (gtb tb) ts th (41) := (sg_1 hth hnl hnd9 (gb_nI (q := 41) (hx1.symm.trans hw_13) (by decide)) (by decide) (fun q9 => absurd q9.1 (by decide)) rfl).2
      exact W.iret (v := 41) hx hb hr (fun t ht hW => ⟨⟨41, ixn [(th + 1), 41], rfl, ⟨rfl, ⟨hsp0, hsp1, hsp2, hsp3, hsp4⟩⟩, ⟨s_amount, hex0, hex1, by rw [ht]; exact hP9, hD9⟩⟩, hS.F ht⟩) hS.2.2 d_Tokens_sign_254
    by_cases hw_14 : x1 = 43
    · refine W.eq (g2 := F0 m 42 ls [.int 43]) (by rw [hw_14]) ?_
      refine lv_lookup (off := 211) (tgt := 253) hx hb d_Tokens_sign_42 (by decide) (by decide) (by decide) ?_
      refine lv_iload_n hx hb d_Tokens_sign_253 rfl (lv_at hl1 2 rfl) ?_
      refine W.eq (g2 := F0 m 254 ls [.int 43]) (by rw [hw_14]) ?_
      rw [← hQe]
      obtain ⟨hP9, hD9⟩ := xw_sub2 (wc := (fun (u : Nat → Nat) (xam : Int32) => [(k0, .inr (9, [.ref k1, .ref k2, .int (nI ts), .int (nI (u 0)), .int s_at, .int s_fault, .int s_next, .int xam])), (k1, .inl (ax 1, 400, .inl tb)), (k2, .inl (ax 0, 401, .inl (fun j => nI (tk j))))]) (ixn [(th + 1), 43]) s_amount) hP hD [0, 1, 2] (by decide) rfl
      have hex0 : sco (43) s_amount := (sco_o (by first | assumption | omega) (by first | assumption | omega) (by first | assumption | omega) (by first | assumption | omega))
      have hex1 : scV (gtb tb) ts th s_amount := (scV_o (sg_1 hth hnl hnd9 (gb_nI (q := 43) (hx1.symm.trans hw_14) (by decide)) (by decide) (fun q9 => absurd q9.1 (by decide)) rfl).2 (by decide))
      have hsp0 : th ≤ (th + 1) := (by first | assumption | omega)
      have hsp1 : (th + 1) ≤ ts := (by first | assumption | omega)
      have hsp2 : 43 < 128 := (by first | assumption | omega)
      have hsp3 : scE (gtb tb) ts th ((th + 1)) := (by rw [show th + 1 = th + 1 by omega]; exact (sg_1 hth hnl hnd9 (gb_nI (q := 43) (hx1.symm.trans hw_14) (by decide)) (by decide) (fun q9 => absurd q9.1 (by decide)) rfl).1)
      have hsp4 : scK (gtb tb) ts th (43) := (sg_1 hth hnl hnd9 (gb_nI (q := 43) (hx1.symm.trans hw_14) (by decide)) (by decide) (fun q9 => absurd q9.1 (by decide)) rfl).2
      exact W.iret (v := 43) hx hb hr (fun t ht hW => ⟨⟨43, ixn [(th + 1), 43], rfl, ⟨rfl, ⟨hsp0, hsp1, hsp2, hsp3, hsp4⟩⟩, ⟨s_amount, hex0, hex1, by rw [ht]; exact hP9, hD9⟩⟩, hS.F ht⟩) hS.2.2 d_Tokens_sign_254
    by_cases hw_15 : x1 = 45
    · refine W.eq (g2 := F0 m 42 ls [.int 45]) (by rw [hw_15]) ?_
      refine lv_lookup (off := 211) (tgt := 253) hx hb d_Tokens_sign_42 (by decide) (by decide) (by decide) ?_
      refine lv_iload_n hx hb d_Tokens_sign_253 rfl (lv_at hl1 2 rfl) ?_
      refine W.eq (g2 := F0 m 254 ls [.int 45]) (by rw [hw_15]) ?_
      rw [← hQe]
      obtain ⟨hP9, hD9⟩ := xw_sub2 (wc := (fun (u : Nat → Nat) (xam : Int32) => [(k0, .inr (9, [.ref k1, .ref k2, .int (nI ts), .int (nI (u 0)), .int s_at, .int s_fault, .int s_next, .int xam])), (k1, .inl (ax 1, 400, .inl tb)), (k2, .inl (ax 0, 401, .inl (fun j => nI (tk j))))]) (ixn [(th + 1), 45]) s_amount) hP hD [0, 1, 2] (by decide) rfl
      have hex0 : sco (45) s_amount := (sco_o (by first | assumption | omega) (by first | assumption | omega) (by first | assumption | omega) (by first | assumption | omega))
      have hex1 : scV (gtb tb) ts th s_amount := (scV_o (sg_1 hth hnl hnd9 (gb_nI (q := 45) (hx1.symm.trans hw_15) (by decide)) (by decide) (fun q9 => absurd q9.1 (by decide)) rfl).2 (by decide))
      have hsp0 : th ≤ (th + 1) := (by first | assumption | omega)
      have hsp1 : (th + 1) ≤ ts := (by first | assumption | omega)
      have hsp2 : 45 < 128 := (by first | assumption | omega)
      have hsp3 : scE (gtb tb) ts th ((th + 1)) := (by rw [show th + 1 = th + 1 by omega]; exact (sg_1 hth hnl hnd9 (gb_nI (q := 45) (hx1.symm.trans hw_15) (by decide)) (by decide) (fun q9 => absurd q9.1 (by decide)) rfl).1)
      have hsp4 : scK (gtb tb) ts th (45) := (sg_1 hth hnl hnd9 (gb_nI (q := 45) (hx1.symm.trans hw_15) (by decide)) (by decide) (fun q9 => absurd q9.1 (by decide)) rfl).2
      exact W.iret (v := 45) hx hb hr (fun t ht hW => ⟨⟨45, ixn [(th + 1), 45], rfl, ⟨rfl, ⟨hsp0, hsp1, hsp2, hsp3, hsp4⟩⟩, ⟨s_amount, hex0, hex1, by rw [ht]; exact hP9, hD9⟩⟩, hS.F ht⟩) hS.2.2 d_Tokens_sign_254
    by_cases hw_16 : x1 = 58
    · refine W.eq (g2 := F0 m 42 ls [.int 58]) (by rw [hw_16]) ?_
      refine lv_lookup (off := 182) (tgt := 224) hx hb d_Tokens_sign_42 (by decide) (by decide) (by decide) ?_
      refine lv_aload_n hx hb d_Tokens_sign_224 rfl (lv_at hl1 1 rfl) ?_
      refine lv_dup hx hb d_Tokens_sign_225 rfl ?_
      refine va_get (D := D) (ci := 9) (v := .int (nI (th + 1))) (C := R_Tokens) (T := F_Tokens) (N := 8) hx hb hts i_Tokens hown hK.1 hP 0 rfl rfl 3 (by decide) (hts _ wd_43) (fun _ h9 => h9) rfl d_Tokens_sign_226 ?_
      refine lv_iload_n hx hb d_Tokens_sign_229 rfl (lv_at hl1 0 rfl) ?_
      refine lv_if_eq (tgt := 237) hx hb d_Tokens_sign_230 (by decide) (fun c_17 => ?_) (fun c_17 => ?_)
      rotate_left
      · first | exact absurd c_17 (by decide) | exact absurd (by decide) c_17
      refine lv_iconst (v := 0) hx hb d_Tokens_sign_237 (by decide) ?_
      refine lv_iadd hx hb d_Tokens_sign_238 ?_
      refine lv_topi (fun z_18 ez_18 => ?_)
      have ez_18 : z_18 = nI (th + 1) := ez_18.trans (nI_add (th + 1) 0)
      subst ez_18
      refine va_put (D := D) (ci := 9) (v := .int (nI (th + 1))) (ty := .int) (C := R_Tokens) (T := F_Tokens) (N := 8) hx hb hts i_Tokens t_Tokens t_Tokens_ok n_Tokens hown hK.1 hP hD hS 0 rfl rfl 3 (by decide) (hts _ wd_43) (fun _ h9 => h9) rfl (by decide +kernel) rfl rfl (Nat.le_of_ble_eq_true rfl) d_Tokens_sign_239 (fun H_19 locs hP1 hD1 hS1 => ?_)
      clear hP hD hS
      have hS := hS1
      have hW7 : (fun w9 : va_W => va_P D classes w9 H_19 ∧ va_D A w9) [(k0, .inr (9, [.ref k1, .ref k2, .int (nI ts), .int (nI (th + 1)), .int s_at, .int s_fault, .int s_next, .int s_amount])), (k1, .inl (ax 1, 400, .inl tb)), (k2, .inl (ax 0, 401, .inl (fun j => nI (tk j))))] := ⟨hP1, hD1⟩
      obtain ⟨hP, hD⟩ := hW7
      clear hP1 hD1 hS1
      refine lv_iload_n hx hb d_Tokens_sign_242 rfl (lv_at hl1 0 rfl) ?_
      refine lv_if_eq (tgt := 251) hx hb d_Tokens_sign_243 (by decide) (fun c_20 => ?_) (fun c_20 => ?_)
      rotate_left
      · first | exact absurd c_20 (by decide) | exact absurd (by decide) c_20
      refine lv_iconst (v := 1) hx hb d_Tokens_sign_251 (by decide) ?_
      rw [← hQe]
      obtain ⟨hP9, hD9⟩ := xw_sub2 (wc := (fun (u : Nat → Nat) (xam : Int32) => [(k0, .inr (9, [.ref k1, .ref k2, .int (nI ts), .int (nI (u 0)), .int s_at, .int s_fault, .int s_next, .int xam])), (k1, .inl (ax 1, 400, .inl tb)), (k2, .inl (ax 0, 401, .inl (fun j => nI (tk j))))]) (ixn [(th + 1), 1]) s_amount) hP hD [0, 1, 2] (by decide) rfl
      have hex0 : sco (1) s_amount := (sco_o (by first | assumption | omega) (by first | assumption | omega) (by first | assumption | omega) (by first | assumption | omega))
      have hex1 : scV (gtb tb) ts th s_amount := (scV_o (sg_b hth hnl hnd9 (by rw [(gb_nI (q := 58) (hx1.symm.trans hw_16) (by decide))]; decide) (by rw [(gb_nI (q := 58) (hx1.symm.trans hw_16) (by decide))]; decide) (fun q9 => (gb_61n hbt (by first | assumption | omega) (by first | exact Or.inl (by first | assumption | omega) | exact Or.inr (by assumption))) q9.2)).2 (by decide))
      have hsp0 : th ≤ (th + 1) := (by first | assumption | omega)
      have hsp1 : (th + 1) ≤ ts := (by first | assumption | omega)
      have hsp2 : 1 < 128 := (by first | assumption | omega)
      have hsp3 : scE (gtb tb) ts th ((th + 1)) := (by rw [show th + 1 = th + 1 by omega]; exact (sg_b hth hnl hnd9 (by rw [(gb_nI (q := 58) (hx1.symm.trans hw_16) (by decide))]; decide) (by rw [(gb_nI (q := 58) (hx1.symm.trans hw_16) (by decide))]; decide) (fun q9 => (gb_61n hbt (by first | assumption | omega) (by first | exact Or.inl (by first | assumption | omega) | exact Or.inr (by assumption))) q9.2)).1)
      have hsp4 : scK (gtb tb) ts th (1) := (sg_b hth hnl hnd9 (by rw [(gb_nI (q := 58) (hx1.symm.trans hw_16) (by decide))]; decide) (by rw [(gb_nI (q := 58) (hx1.symm.trans hw_16) (by decide))]; decide) (fun q9 => (gb_61n hbt (by first | assumption | omega) (by first | exact Or.inl (by first | assumption | omega) | exact Or.inr (by assumption))) q9.2)).2
      exact W.iret (v := 1) hx hb hr (fun t ht hW => ⟨⟨1, ixn [(th + 1), 1], rfl, ⟨rfl, ⟨hsp0, hsp1, hsp2, hsp3, hsp4⟩⟩, ⟨s_amount, hex0, hex1, by rw [ht]; exact hP9, hD9⟩⟩, hS.F ht⟩) hS.2.2 d_Tokens_sign_252
    by_cases hw_21 : x1 = 59
    · refine W.eq (g2 := F0 m 42 ls [.int 59]) (by rw [hw_21]) ?_
      refine lv_lookup (off := 211) (tgt := 253) hx hb d_Tokens_sign_42 (by decide) (by decide) (by decide) ?_
      refine lv_iload_n hx hb d_Tokens_sign_253 rfl (lv_at hl1 2 rfl) ?_
      refine W.eq (g2 := F0 m 254 ls [.int 59]) (by rw [hw_21]) ?_
      rw [← hQe]
      obtain ⟨hP9, hD9⟩ := xw_sub2 (wc := (fun (u : Nat → Nat) (xam : Int32) => [(k0, .inr (9, [.ref k1, .ref k2, .int (nI ts), .int (nI (u 0)), .int s_at, .int s_fault, .int s_next, .int xam])), (k1, .inl (ax 1, 400, .inl tb)), (k2, .inl (ax 0, 401, .inl (fun j => nI (tk j))))]) (ixn [(th + 1), 59]) s_amount) hP hD [0, 1, 2] (by decide) rfl
      have hex0 : sco (59) s_amount := (sco_o (by first | assumption | omega) (by first | assumption | omega) (by first | assumption | omega) (by first | assumption | omega))
      have hex1 : scV (gtb tb) ts th s_amount := (scV_o (sg_1 hth hnl hnd9 (gb_nI (q := 59) (hx1.symm.trans hw_21) (by decide)) (by decide) (fun q9 => absurd q9.1 (by decide)) rfl).2 (by decide))
      have hsp0 : th ≤ (th + 1) := (by first | assumption | omega)
      have hsp1 : (th + 1) ≤ ts := (by first | assumption | omega)
      have hsp2 : 59 < 128 := (by first | assumption | omega)
      have hsp3 : scE (gtb tb) ts th ((th + 1)) := (by rw [show th + 1 = th + 1 by omega]; exact (sg_1 hth hnl hnd9 (gb_nI (q := 59) (hx1.symm.trans hw_21) (by decide)) (by decide) (fun q9 => absurd q9.1 (by decide)) rfl).1)
      have hsp4 : scK (gtb tb) ts th (59) := (sg_1 hth hnl hnd9 (gb_nI (q := 59) (hx1.symm.trans hw_21) (by decide)) (by decide) (fun q9 => absurd q9.1 (by decide)) rfl).2
      exact W.iret (v := 59) hx hb hr (fun t ht hW => ⟨⟨59, ixn [(th + 1), 59], rfl, ⟨rfl, ⟨hsp0, hsp1, hsp2, hsp3, hsp4⟩⟩, ⟨s_amount, hex0, hex1, by rw [ht]; exact hP9, hD9⟩⟩, hS.F ht⟩) hS.2.2 d_Tokens_sign_254
    by_cases hw_22 : x1 = 60
    · refine W.eq (g2 := F0 m 42 ls [.int 60]) (by rw [hw_22]) ?_
      refine lv_lookup (off := 152) (tgt := 194) hx hb d_Tokens_sign_42 (by decide) (by decide) (by decide) ?_
      refine lv_aload_n hx hb d_Tokens_sign_194 rfl (lv_at hl1 1 rfl) ?_
      refine lv_iload_n hx hb d_Tokens_sign_195 rfl (lv_at hl1 0 rfl) ?_
      refine lv_if_eq (tgt := 203) hx hb d_Tokens_sign_196 (by decide) (fun c_23 => ?_) (fun c_23 => ?_)
      rotate_left
      · first | exact absurd c_23 (by decide) | exact absurd (by decide) c_23
      refine lv_iconst (v := 0) hx hb d_Tokens_sign_203 (by decide) ?_
      refine lv_iload_n hx hb d_Tokens_sign_204 rfl (lv_at hl1 0 rfl) ?_
      obtain ⟨hPc, hDc, hFc, hCs⟩ := xw_sub3 (wc := [(k0, .inr (9, [.ref k1, .ref k2, .int (nI ts), .int (nI (th + 1)), .int s_at, .int s_fault, .int s_next, .int s_amount])), (k1, .inl (ax 1, 400, .inl tb)), (k2, .inl (ax 0, 401, .inl (fun j => nI (tk j))))]) hP hD hS hA [0, 1, 2] (by decide) rfl
      have hz := xz_of hN hS
      refine va_calli (va_runV (As := [.int 0, .int 0]) (rest := []) ⟨hx, hb, hml, hown, hts⟩ (c_T_comparison l D ax k0 k1 k2 ts (th + 1) s_at s_fault s_next s_amount tb tk 0 0 H_2.size (by first | assumption | omega) (by first | assumption | omega) (by first | assumption | omega)) (xcV (n := 2) hts wd_527 wd_2 wd_524 wd_526 ps_6 rfl rfl (by decide +kernel) ⟨Nat.le_of_ble_eq_true rfl, Nat.le_of_ble_eq_true rfl⟩) (xpV (ci := 9) (q0 := 0) (As := [.int 0, .int 0]) hPc hK hz hDc rfl rfl) rfl rfl hl1.1 rfl (lv_room (Nat.le_of_ble_eq_true rfl)) d_Tokens_sign_205 ⟨Nat.le_of_ble_eq_true rfl, Nat.le_of_ble_eq_true rfl⟩) hS (fun q _ h => hFc q h) hFc (fun r_26 u_24 t H_25 locs ht hvm hw hB hz1 hk1 hS1 => ?_)
      try dsimp only at hw
      obtain ⟨hw, hs_27⟩ := hw
      subst hw
      obtain ⟨hP1, hD1⟩ := hB
      rw [ht] at hP1
      have hjn := xw_join3 (wl := [(k0, .inr (9, [.ref k1, .ref k2, .int (nI ts), .int (nI (u_24 0)), .int s_at, .int s_fault, .int s_next, .int (nI 0)])), (k1, .inl (ax 1, 400, .inl tb)), (k2, .inl (ax 0, 401, .inl (fun j => nI (tk j))))]) hP hD [0, 1, 2] [] hCs (by decide) (by decide) hk1 hFc hP1 hD1 rfl
      clear hP1 hD1
      clear hPc hDc hFc hCs hz hz1 hk1 ht hvm
      clear hP hD hS
      have hS := hS1
      obtain ⟨hP, hD⟩ := hjn
      clear hS1
      rw [← hQe]
      obtain ⟨hP9, hD9⟩ := xw_sub2 (wc := (fun (u : Nat → Nat) (xam : Int32) => [(k0, .inr (9, [.ref k1, .ref k2, .int (nI ts), .int (nI (u 0)), .int s_at, .int s_fault, .int s_next, .int xam])), (k1, .inl (ax 1, 400, .inl tb)), (k2, .inl (ax 0, 401, .inl (fun j => nI (tk j))))]) (ixn [(u_24 0), 5]) (nI 0)) hP hD [0, 1, 2] (by decide) rfl
      have hex0 : sco (5) (nI 0) := (sco_c (q := 0) (by decide))
      have hex1 : scV (gtb tb) ts th (nI 0) := (sgv_1 hth hnl hnd9 (gb_nI (q := 60) (hx1.symm.trans hw_22) (by decide)) (by decide) (fun q9 => (gb_61n hbt (by first | assumption | omega) (by first | exact Or.inl (by first | assumption | omega) | exact Or.inr (by assumption))) q9.2) (fun _ => by first | exact (show i2n (nI 0) % 1024 = 0 by decide) | exact (show i2n (nI 1) % 1024 = 1 by decide) | exact (show i2n (nI 2) % 1024 = 2 by decide) | exact (show i2n (nI 3) % 1024 = 3 by decide) | exact (show i2n (nI 4) % 1024 = 4 by decide) | exact (show i2n (nI 5) % 1024 = 5 by decide)))
      have hsp0 : th ≤ (u_24 0) := (by first | assumption | omega)
      have hsp1 : (u_24 0) ≤ ts := (by first | assumption | omega)
      have hsp2 : 5 < 128 := (by first | assumption | omega)
      have hsp3 : scE (gtb tb) ts th ((u_24 0)) := (by rw [show u_24 0 = th + 1 by omega]; exact (sg_1 hth hnl hnd9 (gb_nI (q := 60) (hx1.symm.trans hw_22) (by decide)) (by decide) (fun q9 => (gb_61n hbt (by first | assumption | omega) (by first | exact Or.inl (by first | assumption | omega) | exact Or.inr (by assumption))) q9.2) rfl).1)
      have hsp4 : scK (gtb tb) ts th (5) := (sg_1 hth hnl hnd9 (gb_nI (q := 60) (hx1.symm.trans hw_22) (by decide)) (by decide) (fun q9 => (gb_61n hbt (by first | assumption | omega) (by first | exact Or.inl (by first | assumption | omega) | exact Or.inr (by assumption))) q9.2) rfl).2
      exact W.iret (v := 5) hx hb hr (fun t ht hW => ⟨⟨5, ixn [(u_24 0), 5], rfl, ⟨rfl, ⟨hsp0, hsp1, hsp2, hsp3, hsp4⟩⟩, ⟨nI 0, hex0, hex1, by rw [ht]; exact hP9, hD9⟩⟩, hS.F ht⟩) hS.2.2 d_Tokens_sign_208
    by_cases hw_28 : x1 = 61
    · refine W.eq (g2 := F0 m 42 ls [.int 61]) (by rw [hw_28]) ?_
      refine lv_lookup (off := 138) (tgt := 180) hx hb d_Tokens_sign_42 (by decide) (by decide) (by decide) ?_
      refine lv_aload_n hx hb d_Tokens_sign_180 rfl (lv_at hl1 1 rfl) ?_
      refine lv_iconst (v := 4) hx hb d_Tokens_sign_181 (by decide) ?_
      refine lv_iconst (v := 0) hx hb d_Tokens_sign_182 (by decide) ?_
      obtain ⟨hPc, hDc, hFc, hCs⟩ := xw_sub3 (wc := [(k0, .inr (9, [.ref k1, .ref k2, .int (nI ts), .int (nI (th + 1)), .int s_at, .int s_fault, .int s_next, .int s_amount])), (k1, .inl (ax 1, 400, .inl tb)), (k2, .inl (ax 0, 401, .inl (fun j => nI (tk j))))]) hP hD hS hA [0, 1, 2] (by decide) rfl
      have hz := xz_of hN hS
      refine va_calli (va_runV (As := [.int 4, .int 0]) (rest := []) ⟨hx, hb, hml, hown, hts⟩ (c_T_comparison l D ax k0 k1 k2 ts (th + 1) s_at s_fault s_next s_amount tb tk 4 0 H_2.size (by first | assumption | omega) (by first | assumption | omega) (by first | assumption | omega)) (xcV (n := 2) hts wd_527 wd_2 wd_524 wd_526 ps_6 rfl rfl (by decide +kernel) ⟨Nat.le_of_ble_eq_true rfl, Nat.le_of_ble_eq_true rfl⟩) (xpV (ci := 9) (q0 := 0) (As := [.int 4, .int 0]) hPc hK hz hDc rfl rfl) rfl rfl hl1.1 rfl (lv_room (Nat.le_of_ble_eq_true rfl)) d_Tokens_sign_183 ⟨Nat.le_of_ble_eq_true rfl, Nat.le_of_ble_eq_true rfl⟩) hS (fun q _ h => hFc q h) hFc (fun r_31 u_29 t H_30 locs ht hvm hw hB hz1 hk1 hS1 => ?_)
      try dsimp only at hw
      obtain ⟨hw, hs_32⟩ := hw
      subst hw
      obtain ⟨hP1, hD1⟩ := hB
      rw [ht] at hP1
      have hjn := xw_join3 (wl := [(k0, .inr (9, [.ref k1, .ref k2, .int (nI ts), .int (nI (u_29 0)), .int s_at, .int s_fault, .int s_next, .int (nI 4)])), (k1, .inl (ax 1, 400, .inl tb)), (k2, .inl (ax 0, 401, .inl (fun j => nI (tk j))))]) hP hD [0, 1, 2] [] hCs (by decide) (by decide) hk1 hFc hP1 hD1 rfl
      clear hP1 hD1
      clear hPc hDc hFc hCs hz hz1 hk1 ht hvm
      clear hP hD hS
      have hS := hS1
      obtain ⟨hP, hD⟩ := hjn
      clear hS1
      rw [← hQe]
      obtain ⟨hP9, hD9⟩ := xw_sub2 (wc := (fun (u : Nat → Nat) (xam : Int32) => [(k0, .inr (9, [.ref k1, .ref k2, .int (nI ts), .int (nI (u 0)), .int s_at, .int s_fault, .int s_next, .int xam])), (k1, .inl (ax 1, 400, .inl tb)), (k2, .inl (ax 0, 401, .inl (fun j => nI (tk j))))]) (ixn [(u_29 0), 5]) (nI 4)) hP hD [0, 1, 2] (by decide) rfl
      have hex0 : sco (5) (nI 4) := (sco_c (q := 4) (by decide))
      have hex1 : scV (gtb tb) ts th (nI 4) := (sgv_1 hth hnl hnd9 (gb_nI (q := 61) (hx1.symm.trans hw_28) (by decide)) (by decide) (fun q9 => absurd q9.1 (by decide)) (fun _ => by first | exact (show i2n (nI 0) % 1024 = 0 by decide) | exact (show i2n (nI 1) % 1024 = 1 by decide) | exact (show i2n (nI 2) % 1024 = 2 by decide) | exact (show i2n (nI 3) % 1024 = 3 by decide) | exact (show i2n (nI 4) % 1024 = 4 by decide) | exact (show i2n (nI 5) % 1024 = 5 by decide)))
      have hsp0 : th ≤ (u_29 0) := (by first | assumption | omega)
      have hsp1 : (u_29 0) ≤ ts := (by first | assumption | omega)
      have hsp2 : 5 < 128 := (by first | assumption | omega)
      have hsp3 : scE (gtb tb) ts th ((u_29 0)) := (by rw [show u_29 0 = th + 1 by omega]; exact (sg_1 hth hnl hnd9 (gb_nI (q := 61) (hx1.symm.trans hw_28) (by decide)) (by decide) (fun q9 => absurd q9.1 (by decide)) rfl).1)
      have hsp4 : scK (gtb tb) ts th (5) := (sg_1 hth hnl hnd9 (gb_nI (q := 61) (hx1.symm.trans hw_28) (by decide)) (by decide) (fun q9 => absurd q9.1 (by decide)) rfl).2
      exact W.iret (v := 5) hx hb hr (fun t ht hW => ⟨⟨5, ixn [(u_29 0), 5], rfl, ⟨rfl, ⟨hsp0, hsp1, hsp2, hsp3, hsp4⟩⟩, ⟨nI 4, hex0, hex1, by rw [ht]; exact hP9, hD9⟩⟩, hS.F ht⟩) hS.2.2 d_Tokens_sign_186
    by_cases hw_33 : x1 = 62
    · refine W.eq (g2 := F0 m 42 ls [.int 62]) (by rw [hw_33]) ?_
      refine lv_lookup (off := 167) (tgt := 209) hx hb d_Tokens_sign_42 (by decide) (by decide) (by decide) ?_
      refine lv_aload_n hx hb d_Tokens_sign_209 rfl (lv_at hl1 1 rfl) ?_
      refine lv_iload_n hx hb d_Tokens_sign_210 rfl (lv_at hl1 0 rfl) ?_
      refine lv_if_eq (tgt := 218) hx hb d_Tokens_sign_211 (by decide) (fun c_34 => ?_) (fun c_34 => ?_)
      rotate_left
      · first | exact absurd c_34 (by decide) | exact absurd (by decide) c_34
      refine lv_iconst (v := 3) hx hb d_Tokens_sign_218 (by decide) ?_
      refine lv_iload_n hx hb d_Tokens_sign_219 rfl (lv_at hl1 0 rfl) ?_
      obtain ⟨hPc, hDc, hFc, hCs⟩ := xw_sub3 (wc := [(k0, .inr (9, [.ref k1, .ref k2, .int (nI ts), .int (nI (th + 1)), .int s_at, .int s_fault, .int s_next, .int s_amount])), (k1, .inl (ax 1, 400, .inl tb)), (k2, .inl (ax 0, 401, .inl (fun j => nI (tk j))))]) hP hD hS hA [0, 1, 2] (by decide) rfl
      have hz := xz_of hN hS
      refine va_calli (va_runV (As := [.int 3, .int 0]) (rest := []) ⟨hx, hb, hml, hown, hts⟩ (c_T_comparison l D ax k0 k1 k2 ts (th + 1) s_at s_fault s_next s_amount tb tk 3 0 H_2.size (by first | assumption | omega) (by first | assumption | omega) (by first | assumption | omega)) (xcV (n := 2) hts wd_527 wd_2 wd_524 wd_526 ps_6 rfl rfl (by decide +kernel) ⟨Nat.le_of_ble_eq_true rfl, Nat.le_of_ble_eq_true rfl⟩) (xpV (ci := 9) (q0 := 0) (As := [.int 3, .int 0]) hPc hK hz hDc rfl rfl) rfl rfl hl1.1 rfl (lv_room (Nat.le_of_ble_eq_true rfl)) d_Tokens_sign_220 ⟨Nat.le_of_ble_eq_true rfl, Nat.le_of_ble_eq_true rfl⟩) hS (fun q _ h => hFc q h) hFc (fun r_37 u_35 t H_36 locs ht hvm hw hB hz1 hk1 hS1 => ?_)
      try dsimp only at hw
      obtain ⟨hw, hs_38⟩ := hw
      subst hw
      obtain ⟨hP1, hD1⟩ := hB
      rw [ht] at hP1
      have hjn := xw_join3 (wl := [(k0, .inr (9, [.ref k1, .ref k2, .int (nI ts), .int (nI (u_35 0)), .int s_at, .int s_fault, .int s_next, .int (nI 3)])), (k1, .inl (ax 1, 400, .inl tb)), (k2, .inl (ax 0, 401, .inl (fun j => nI (tk j))))]) hP hD [0, 1, 2] [] hCs (by decide) (by decide) hk1 hFc hP1 hD1 rfl
      clear hP1 hD1
      clear hPc hDc hFc hCs hz hz1 hk1 ht hvm
      clear hP hD hS
      have hS := hS1
      obtain ⟨hP, hD⟩ := hjn
      clear hS1
      rw [← hQe]
      obtain ⟨hP9, hD9⟩ := xw_sub2 (wc := (fun (u : Nat → Nat) (xam : Int32) => [(k0, .inr (9, [.ref k1, .ref k2, .int (nI ts), .int (nI (u 0)), .int s_at, .int s_fault, .int s_next, .int xam])), (k1, .inl (ax 1, 400, .inl tb)), (k2, .inl (ax 0, 401, .inl (fun j => nI (tk j))))]) (ixn [(u_35 0), 5]) (nI 3)) hP hD [0, 1, 2] (by decide) rfl
      have hex0 : sco (5) (nI 3) := (sco_c (q := 3) (by decide))
      have hex1 : scV (gtb tb) ts th (nI 3) := (sgv_1 hth hnl hnd9 (gb_nI (q := 62) (hx1.symm.trans hw_33) (by decide)) (by decide) (fun q9 => (gb_61n hbt (by first | assumption | omega) (by first | exact Or.inl (by first | assumption | omega) | exact Or.inr (by assumption))) q9.2) (fun _ => by first | exact (show i2n (nI 0) % 1024 = 0 by decide) | exact (show i2n (nI 1) % 1024 = 1 by decide) | exact (show i2n (nI 2) % 1024 = 2 by decide) | exact (show i2n (nI 3) % 1024 = 3 by decide) | exact (show i2n (nI 4) % 1024 = 4 by decide) | exact (show i2n (nI 5) % 1024 = 5 by decide)))
      have hsp0 : th ≤ (u_35 0) := (by first | assumption | omega)
      have hsp1 : (u_35 0) ≤ ts := (by first | assumption | omega)
      have hsp2 : 5 < 128 := (by first | assumption | omega)
      have hsp3 : scE (gtb tb) ts th ((u_35 0)) := (by rw [show u_35 0 = th + 1 by omega]; exact (sg_1 hth hnl hnd9 (gb_nI (q := 62) (hx1.symm.trans hw_33) (by decide)) (by decide) (fun q9 => (gb_61n hbt (by first | assumption | omega) (by first | exact Or.inl (by first | assumption | omega) | exact Or.inr (by assumption))) q9.2) rfl).1)
      have hsp4 : scK (gtb tb) ts th (5) := (sg_1 hth hnl hnd9 (gb_nI (q := 62) (hx1.symm.trans hw_33) (by decide)) (by decide) (fun q9 => (gb_61n hbt (by first | assumption | omega) (by first | exact Or.inl (by first | assumption | omega) | exact Or.inr (by assumption))) q9.2) rfl).2
      exact W.iret (v := 5) hx hb hr (fun t ht hW => ⟨⟨5, ixn [(u_35 0), 5], rfl, ⟨rfl, ⟨hsp0, hsp1, hsp2, hsp3, hsp4⟩⟩, ⟨nI 3, hex0, hex1, by rw [ht]; exact hP9, hD9⟩⟩, hS.F ht⟩) hS.2.2 d_Tokens_sign_223
    by_cases hw_39 : x1 = 123
    · refine W.eq (g2 := F0 m 42 ls [.int 123]) (by rw [hw_39]) ?_
      refine lv_lookup (off := 211) (tgt := 253) hx hb d_Tokens_sign_42 (by decide) (by decide) (by decide) ?_
      refine lv_iload_n hx hb d_Tokens_sign_253 rfl (lv_at hl1 2 rfl) ?_
      refine W.eq (g2 := F0 m 254 ls [.int 123]) (by rw [hw_39]) ?_
      rw [← hQe]
      obtain ⟨hP9, hD9⟩ := xw_sub2 (wc := (fun (u : Nat → Nat) (xam : Int32) => [(k0, .inr (9, [.ref k1, .ref k2, .int (nI ts), .int (nI (u 0)), .int s_at, .int s_fault, .int s_next, .int xam])), (k1, .inl (ax 1, 400, .inl tb)), (k2, .inl (ax 0, 401, .inl (fun j => nI (tk j))))]) (ixn [(th + 1), 123]) s_amount) hP hD [0, 1, 2] (by decide) rfl
      have hex0 : sco (123) s_amount := (sco_o (by first | assumption | omega) (by first | assumption | omega) (by first | assumption | omega) (by first | assumption | omega))
      have hex1 : scV (gtb tb) ts th s_amount := (scV_o (sg_1 hth hnl hnd9 (gb_nI (q := 123) (hx1.symm.trans hw_39) (by decide)) (by decide) (fun q9 => absurd q9.1 (by decide)) rfl).2 (by decide))
      have hsp0 : th ≤ (th + 1) := (by first | assumption | omega)
      have hsp1 : (th + 1) ≤ ts := (by first | assumption | omega)
      have hsp2 : 123 < 128 := (by first | assumption | omega)
      have hsp3 : scE (gtb tb) ts th ((th + 1)) := (by rw [show th + 1 = th + 1 by omega]; exact (sg_1 hth hnl hnd9 (gb_nI (q := 123) (hx1.symm.trans hw_39) (by decide)) (by decide) (fun q9 => absurd q9.1 (by decide)) rfl).1)
      have hsp4 : scK (gtb tb) ts th (123) := (sg_1 hth hnl hnd9 (gb_nI (q := 123) (hx1.symm.trans hw_39) (by decide)) (by decide) (fun q9 => absurd q9.1 (by decide)) rfl).2
      exact W.iret (v := 123) hx hb hr (fun t ht hW => ⟨⟨123, ixn [(th + 1), 123], rfl, ⟨rfl, ⟨hsp0, hsp1, hsp2, hsp3, hsp4⟩⟩, ⟨s_amount, hex0, hex1, by rw [ht]; exact hP9, hD9⟩⟩, hS.F ht⟩) hS.2.2 d_Tokens_sign_254
    by_cases hw_40 : x1 = 124
    · refine W.eq (g2 := F0 m 42 ls [.int 124]) (by rw [hw_40]) ?_
      refine lv_lookup (off := 211) (tgt := 253) hx hb d_Tokens_sign_42 (by decide) (by decide) (by decide) ?_
      refine lv_iload_n hx hb d_Tokens_sign_253 rfl (lv_at hl1 2 rfl) ?_
      refine W.eq (g2 := F0 m 254 ls [.int 124]) (by rw [hw_40]) ?_
      rw [← hQe]
      obtain ⟨hP9, hD9⟩ := xw_sub2 (wc := (fun (u : Nat → Nat) (xam : Int32) => [(k0, .inr (9, [.ref k1, .ref k2, .int (nI ts), .int (nI (u 0)), .int s_at, .int s_fault, .int s_next, .int xam])), (k1, .inl (ax 1, 400, .inl tb)), (k2, .inl (ax 0, 401, .inl (fun j => nI (tk j))))]) (ixn [(th + 1), 124]) s_amount) hP hD [0, 1, 2] (by decide) rfl
      have hex0 : sco (124) s_amount := (sco_o (by first | assumption | omega) (by first | assumption | omega) (by first | assumption | omega) (by first | assumption | omega))
      have hex1 : scV (gtb tb) ts th s_amount := (scV_o (sg_1 hth hnl hnd9 (gb_nI (q := 124) (hx1.symm.trans hw_40) (by decide)) (by decide) (fun q9 => absurd q9.1 (by decide)) rfl).2 (by decide))
      have hsp0 : th ≤ (th + 1) := (by first | assumption | omega)
      have hsp1 : (th + 1) ≤ ts := (by first | assumption | omega)
      have hsp2 : 124 < 128 := (by first | assumption | omega)
      have hsp3 : scE (gtb tb) ts th ((th + 1)) := (by rw [show th + 1 = th + 1 by omega]; exact (sg_1 hth hnl hnd9 (gb_nI (q := 124) (hx1.symm.trans hw_40) (by decide)) (by decide) (fun q9 => absurd q9.1 (by decide)) rfl).1)
      have hsp4 : scK (gtb tb) ts th (124) := (sg_1 hth hnl hnd9 (gb_nI (q := 124) (hx1.symm.trans hw_40) (by decide)) (by decide) (fun q9 => absurd q9.1 (by decide)) rfl).2
      exact W.iret (v := 124) hx hb hr (fun t ht hW => ⟨⟨124, ixn [(th + 1), 124], rfl, ⟨rfl, ⟨hsp0, hsp1, hsp2, hsp3, hsp4⟩⟩, ⟨s_amount, hex0, hex1, by rw [ht]; exact hP9, hD9⟩⟩, hS.F ht⟩) hS.2.2 d_Tokens_sign_254
    by_cases hw_41 : x1 = 125
    · refine W.eq (g2 := F0 m 42 ls [.int 125]) (by rw [hw_41]) ?_
      refine lv_lookup (off := 211) (tgt := 253) hx hb d_Tokens_sign_42 (by decide) (by decide) (by decide) ?_
      refine lv_iload_n hx hb d_Tokens_sign_253 rfl (lv_at hl1 2 rfl) ?_
      refine W.eq (g2 := F0 m 254 ls [.int 125]) (by rw [hw_41]) ?_
      rw [← hQe]
      obtain ⟨hP9, hD9⟩ := xw_sub2 (wc := (fun (u : Nat → Nat) (xam : Int32) => [(k0, .inr (9, [.ref k1, .ref k2, .int (nI ts), .int (nI (u 0)), .int s_at, .int s_fault, .int s_next, .int xam])), (k1, .inl (ax 1, 400, .inl tb)), (k2, .inl (ax 0, 401, .inl (fun j => nI (tk j))))]) (ixn [(th + 1), 125]) s_amount) hP hD [0, 1, 2] (by decide) rfl
      have hex0 : sco (125) s_amount := (sco_o (by first | assumption | omega) (by first | assumption | omega) (by first | assumption | omega) (by first | assumption | omega))
      have hex1 : scV (gtb tb) ts th s_amount := (scV_o (sg_1 hth hnl hnd9 (gb_nI (q := 125) (hx1.symm.trans hw_41) (by decide)) (by decide) (fun q9 => absurd q9.1 (by decide)) rfl).2 (by decide))
      have hsp0 : th ≤ (th + 1) := (by first | assumption | omega)
      have hsp1 : (th + 1) ≤ ts := (by first | assumption | omega)
      have hsp2 : 125 < 128 := (by first | assumption | omega)
      have hsp3 : scE (gtb tb) ts th ((th + 1)) := (by rw [show th + 1 = th + 1 by omega]; exact (sg_1 hth hnl hnd9 (gb_nI (q := 125) (hx1.symm.trans hw_41) (by decide)) (by decide) (fun q9 => absurd q9.1 (by decide)) rfl).1)
      have hsp4 : scK (gtb tb) ts th (125) := (sg_1 hth hnl hnd9 (gb_nI (q := 125) (hx1.symm.trans hw_41) (by decide)) (by decide) (fun q9 => absurd q9.1 (by decide)) rfl).2
      exact W.iret (v := 125) hx hb hr (fun t ht hW => ⟨⟨125, ixn [(th + 1), 125], rfl, ⟨rfl, ⟨hsp0, hsp1, hsp2, hsp3, hsp4⟩⟩, ⟨s_amount, hex0, hex1, by rw [ht]; exact hP9, hD9⟩⟩, hS.F ht⟩) hS.2.2 d_Tokens_sign_254
    replace hw_4 : ¬ Int32.toInt x1 = 32 := fun q9 => hw_4 (Int32.toInt_inj.mp (q9.trans (by decide)))
    replace hw_5 : ¬ Int32.toInt x1 = 33 := fun q9 => hw_5 (Int32.toInt_inj.mp (q9.trans (by decide)))
    replace hw_6 : ¬ Int32.toInt x1 = 35 := fun q9 => hw_6 (Int32.toInt_inj.mp (q9.trans (by decide)))
    replace hw_11 : ¬ Int32.toInt x1 = 38 := fun q9 => hw_11 (Int32.toInt_inj.mp (q9.trans (by decide)))
    replace hw_12 : ¬ Int32.toInt x1 = 40 := fun q9 => hw_12 (Int32.toInt_inj.mp (q9.trans (by decide)))
    replace hw_13 : ¬ Int32.toInt x1 = 41 := fun q9 => hw_13 (Int32.toInt_inj.mp (q9.trans (by decide)))
    replace hw_14 : ¬ Int32.toInt x1 = 43 := fun q9 => hw_14 (Int32.toInt_inj.mp (q9.trans (by decide)))
    replace hw_15 : ¬ Int32.toInt x1 = 45 := fun q9 => hw_15 (Int32.toInt_inj.mp (q9.trans (by decide)))
    replace hw_16 : ¬ Int32.toInt x1 = 58 := fun q9 => hw_16 (Int32.toInt_inj.mp (q9.trans (by decide)))
    replace hw_21 : ¬ Int32.toInt x1 = 59 := fun q9 => hw_21 (Int32.toInt_inj.mp (q9.trans (by decide)))
    replace hw_22 : ¬ Int32.toInt x1 = 60 := fun q9 => hw_22 (Int32.toInt_inj.mp (q9.trans (by decide)))
    replace hw_28 : ¬ Int32.toInt x1 = 61 := fun q9 => hw_28 (Int32.toInt_inj.mp (q9.trans (by decide)))
    replace hw_33 : ¬ Int32.toInt x1 = 62 := fun q9 => hw_33 (Int32.toInt_inj.mp (q9.trans (by decide)))
    replace hw_39 : ¬ Int32.toInt x1 = 123 := fun q9 => hw_39 (Int32.toInt_inj.mp (q9.trans (by decide)))
    replace hw_40 : ¬ Int32.toInt x1 = 124 := fun q9 => hw_40 (Int32.toInt_inj.mp (q9.trans (by decide)))
    replace hw_41 : ¬ Int32.toInt x1 = 125 := fun q9 => hw_41 (Int32.toInt_inj.mp (q9.trans (by decide)))
    refine lv_lookup (off := 213) (tgt := 255) hx hb d_Tokens_sign_42 (by decide) (by exact sw_no (by simp; omega)) (by decide) ?_
    refine lv_iconst (v := 1) hx hb d_Tokens_sign_255 (by decide) ?_
    rw [← hQe]
    obtain ⟨hP9, hD9⟩ := xw_sub2 (wc := (fun (u : Nat → Nat) (xam : Int32) => [(k0, .inr (9, [.ref k1, .ref k2, .int (nI ts), .int (nI (u 0)), .int s_at, .int s_fault, .int s_next, .int xam])), (k1, .inl (ax 1, 400, .inl tb)), (k2, .inl (ax 0, 401, .inl (fun j => nI (tk j))))]) (ixn [(th + 1), 1]) s_amount) hP hD [0, 1, 2] (by decide) rfl
    have hex0 : sco (1) s_amount := (sco_o (by first | assumption | omega) (by first | assumption | omega) (by first | assumption | omega) (by first | assumption | omega))
    have hex1 : scV (gtb tb) ts th s_amount := (scV_o (sg_b hth hnl hnd9 (gb_ne (q := 32) hbt (by first | assumption | omega) hx1 (by decide) hw_4) (fun q9 => by have n60 := (gb_ne (q := 60) hbt (by first | assumption | omega) hx1 (by decide) hw_22); have n62 := (gb_ne (q := 62) hbt (by first | assumption | omega) hx1 (by decide) hw_33); have n61 := (gb_ne (q := 61) hbt (by first | assumption | omega) hx1 (by decide) hw_28); have n35 := (gb_ne (q := 35) hbt (by first | assumption | omega) hx1 (by decide) hw_6); have n38 := (gb_ne (q := 38) hbt (by first | assumption | omega) hx1 (by decide) hw_11); have n124 := (gb_ne (q := 124) hbt (by first | assumption | omega) hx1 (by decide) hw_40); have n33 := (gb_ne (q := 33) hbt (by first | assumption | omega) hx1 (by decide) hw_5); have n40 := (gb_ne (q := 40) hbt (by first | assumption | omega) hx1 (by decide) hw_12); have n41 := (gb_ne (q := 41) hbt (by first | assumption | omega) hx1 (by decide) hw_13); have n123 := (gb_ne (q := 123) hbt (by first | assumption | omega) hx1 (by decide) hw_39); have n125 := (gb_ne (q := 125) hbt (by first | assumption | omega) hx1 (by decide) hw_41); have n59 := (gb_ne (q := 59) hbt (by first | assumption | omega) hx1 (by decide) hw_21); have n43 := (gb_ne (q := 43) hbt (by first | assumption | omega) hx1 (by decide) hw_14); have n45 := (gb_ne (q := 45) hbt (by first | assumption | omega) hx1 (by decide) hw_15); omega) (fun q9 => (gb_ne (q := 58) hbt (by first | assumption | omega) hx1 (by decide) hw_16) q9.1)).2 (by decide))
    have hsp0 : th ≤ (th + 1) := (by first | assumption | omega)
    have hsp1 : (th + 1) ≤ ts := (by first | assumption | omega)
    have hsp2 : 1 < 128 := (by first | assumption | omega)
    have hsp3 : scE (gtb tb) ts th ((th + 1)) := (by rw [show th + 1 = th + 1 by omega]; exact (sg_b hth hnl hnd9 (gb_ne (q := 32) hbt (by first | assumption | omega) hx1 (by decide) hw_4) (fun q9 => by have n60 := (gb_ne (q := 60) hbt (by first | assumption | omega) hx1 (by decide) hw_22); have n62 := (gb_ne (q := 62) hbt (by first | assumption | omega) hx1 (by decide) hw_33); have n61 := (gb_ne (q := 61) hbt (by first | assumption | omega) hx1 (by decide) hw_28); have n35 := (gb_ne (q := 35) hbt (by first | assumption | omega) hx1 (by decide) hw_6); have n38 := (gb_ne (q := 38) hbt (by first | assumption | omega) hx1 (by decide) hw_11); have n124 := (gb_ne (q := 124) hbt (by first | assumption | omega) hx1 (by decide) hw_40); have n33 := (gb_ne (q := 33) hbt (by first | assumption | omega) hx1 (by decide) hw_5); have n40 := (gb_ne (q := 40) hbt (by first | assumption | omega) hx1 (by decide) hw_12); have n41 := (gb_ne (q := 41) hbt (by first | assumption | omega) hx1 (by decide) hw_13); have n123 := (gb_ne (q := 123) hbt (by first | assumption | omega) hx1 (by decide) hw_39); have n125 := (gb_ne (q := 125) hbt (by first | assumption | omega) hx1 (by decide) hw_41); have n59 := (gb_ne (q := 59) hbt (by first | assumption | omega) hx1 (by decide) hw_21); have n43 := (gb_ne (q := 43) hbt (by first | assumption | omega) hx1 (by decide) hw_14); have n45 := (gb_ne (q := 45) hbt (by first | assumption | omega) hx1 (by decide) hw_15); omega) (fun q9 => (gb_ne (q := 58) hbt (by first | assumption | omega) hx1 (by decide) hw_16) q9.1)).1)
    have hsp4 : scK (gtb tb) ts th (1) := (sg_b hth hnl hnd9 (gb_ne (q := 32) hbt (by first | assumption | omega) hx1 (by decide) hw_4) (fun q9 => by have n60 := (gb_ne (q := 60) hbt (by first | assumption | omega) hx1 (by decide) hw_22); have n62 := (gb_ne (q := 62) hbt (by first | assumption | omega) hx1 (by decide) hw_33); have n61 := (gb_ne (q := 61) hbt (by first | assumption | omega) hx1 (by decide) hw_28); have n35 := (gb_ne (q := 35) hbt (by first | assumption | omega) hx1 (by decide) hw_6); have n38 := (gb_ne (q := 38) hbt (by first | assumption | omega) hx1 (by decide) hw_11); have n124 := (gb_ne (q := 124) hbt (by first | assumption | omega) hx1 (by decide) hw_40); have n33 := (gb_ne (q := 33) hbt (by first | assumption | omega) hx1 (by decide) hw_5); have n40 := (gb_ne (q := 40) hbt (by first | assumption | omega) hx1 (by decide) hw_12); have n41 := (gb_ne (q := 41) hbt (by first | assumption | omega) hx1 (by decide) hw_13); have n123 := (gb_ne (q := 123) hbt (by first | assumption | omega) hx1 (by decide) hw_39); have n125 := (gb_ne (q := 125) hbt (by first | assumption | omega) hx1 (by decide) hw_41); have n59 := (gb_ne (q := 59) hbt (by first | assumption | omega) hx1 (by decide) hw_21); have n43 := (gb_ne (q := 43) hbt (by first | assumption | omega) hx1 (by decide) hw_14); have n45 := (gb_ne (q := 45) hbt (by first | assumption | omega) hx1 (by decide) hw_15); omega) (fun q9 => (gb_ne (q := 58) hbt (by first | assumption | omega) hx1 (by decide) hw_16) q9.1)).2
    exact W.iret (v := 1) hx hb hr (fun t ht hW => ⟨⟨1, ixn [(th + 1), 1], rfl, ⟨rfl, ⟨hsp0, hsp1, hsp2, hsp3, hsp4⟩⟩, ⟨s_amount, hex0, hex1, by rw [ht]; exact hP9, hD9⟩⟩, hS.F ht⟩) hS.2.2 d_Tokens_sign_256
  · replace c_3 : ¬ ts ≤ th + 1 := fun hq9 => c_3 ((nI_leI (a := ts) (b := th + 1) (by first | exact Nat.lt_of_lt_of_le (by assumption) (by decide) | exact Nat.lt_of_le_of_lt (by assumption) (by decide) | omega) (by first | exact Nat.lt_of_lt_of_le (by assumption) (by decide) | exact Nat.lt_of_le_of_lt (by assumption) (by decide) | omega)).mpr hq9)
    refine lv_aload_n hx hb d_Tokens_sign_21 rfl (lv_at hl1 0 rfl) ?_
    refine va_get (D := D) (ci := 9) (v := .ref k1) (C := R_Tokens) (T := F_Tokens) (N := 8) hx hb hts i_Tokens hown hK.1 hP 0 rfl rfl 0 (by decide) (hts _ wd_40) (fun _ h9 => h9) rfl d_Tokens_sign_22 ?_
    refine lv_aload_n hx hb d_Tokens_sign_25 rfl (lv_at hl1 0 rfl) ?_
    refine va_get (D := D) (ci := 9) (v := .int (nI (th + 1))) (C := R_Tokens) (T := F_Tokens) (N := 8) hx hb hts i_Tokens hown hK.1 hP 0 rfl rfl 3 (by decide) (hts _ wd_43) (fun _ h9 => h9) rfl d_Tokens_sign_26 ?_
    refine va_bald hx hb hK.1 hP 1 1 rfl rfl (vp_in_nI (by first | assumption | omega) (by decide)) d_Tokens_sign_29 ?_
    refine W.eq (g2 := F0 m 30 ls [.int (tb (th + 1))]) (by rw [nI_clamp (by first | exact Nat.lt_of_lt_of_le (by assumption) (by decide) | exact Nat.lt_of_le_of_lt (by assumption) (by decide) | omega)]) ?_
    refine lv_bipush (v := 61) hx hb d_Tokens_sign_30 (by decide) ?_
    refine lv_icmp_ne (tgt := 39) hx hb d_Tokens_sign_32 (by decide) (fun c_42 => ?_) (fun c_42 => ?_)
    · refine lv_iconst (v := 0) hx hb d_Tokens_sign_39 (by decide) ?_
      refine lv_istore_n (lv' := [(2, .int 0), (0, .ref k0), (1, .int x1)]) hx hb d_Tokens_sign_40 rfl hl1 (by decide) rfl (fun ls hl2 => ?_)
      clear hl1; have hl1 := hl2; clear hl2
      refine lv_iload_n hx hb d_Tokens_sign_41 rfl (lv_at hl1 2 rfl) ?_
      by_cases hw_43 : x1 = 32
      · refine W.eq (g2 := F0 m 42 ls [.int 32]) (by rw [hw_43]) ?_
        refine lv_lookup (off := 211) (tgt := 253) hx hb d_Tokens_sign_42 (by decide) (by decide) (by decide) ?_
        refine lv_iload_n hx hb d_Tokens_sign_253 rfl (lv_at hl1 2 rfl) ?_
        refine W.eq (g2 := F0 m 254 ls [.int 32]) (by rw [hw_43]) ?_
        rw [← hQe]
        obtain ⟨hP9, hD9⟩ := xw_sub2 (wc := (fun (u : Nat → Nat) (xam : Int32) => [(k0, .inr (9, [.ref k1, .ref k2, .int (nI ts), .int (nI (u 0)), .int s_at, .int s_fault, .int s_next, .int xam])), (k1, .inl (ax 1, 400, .inl tb)), (k2, .inl (ax 0, 401, .inl (fun j => nI (tk j))))]) (ixn [(th + 1), 32]) s_amount) hP hD [0, 1, 2] (by decide) rfl
        have hex0 : sco (32) s_amount := (sco_o (by first | assumption | omega) (by first | assumption | omega) (by first | assumption | omega) (by first | assumption | omega))
        have hex1 : scV (gtb tb) ts th s_amount := (scV_32 (gb_nI (q := 32) (hx1.symm.trans hw_43) (by decide)))
        have hsp0 : th ≤ (th + 1) := (by first | assumption | omega)
        have hsp1 : (th + 1) ≤ ts := (by first | assumption | omega)
        have hsp2 : 32 < 128 := (by first | assumption | omega)
        have hsp3 : scE (gtb tb) ts th ((th + 1)) := (by rw [show th + 1 = th + 1 by omega]; exact (sg_32 (gb_nI (q := 32) (hx1.symm.trans hw_43) (by decide))).1)
        have hsp4 : scK (gtb tb) ts th (32) := (sg_32 (gb_nI (q := 32) (hx1.symm.trans hw_43) (by decide))).2
        exact W.iret (v := 32) hx hb hr (fun t ht hW => ⟨⟨32, ixn [(th + 1), 32], rfl, ⟨rfl, ⟨hsp0, hsp1, hsp2, hsp3, hsp4⟩⟩, ⟨s_amount, hex0, hex1, by rw [ht]; exact hP9, hD9⟩⟩, hS.F ht⟩) hS.2.2 d_Tokens_sign_254
      by_cases hw_44 : x1 = 33
      · refine W.eq (g2 := F0 m 42 ls [.int 33]) (by rw [hw_44]) ?_
        refine lv_lookup (off := 211) (tgt := 253) hx hb d_Tokens_sign_42 (by decide) (by decide) (by decide) ?_
        refine lv_iload_n hx hb d_Tokens_sign_253 rfl (lv_at hl1 2 rfl) ?_
        refine W.eq (g2 := F0 m 254 ls [.int 33]) (by rw [hw_44]) ?_
        rw [← hQe]
        obtain ⟨hP9, hD9⟩ := xw_sub2 (wc := (fun (u : Nat → Nat) (xam : Int32) => [(k0, .inr (9, [.ref k1, .ref k2, .int (nI ts), .int (nI (u 0)), .int s_at, .int s_fault, .int s_next, .int xam])), (k1, .inl (ax 1, 400, .inl tb)), (k2, .inl (ax 0, 401, .inl (fun j => nI (tk j))))]) (ixn [(th + 1), 33]) s_amount) hP hD [0, 1, 2] (by decide) rfl
        have hex0 : sco (33) s_amount := (sco_o (by first | assumption | omega) (by first | assumption | omega) (by first | assumption | omega) (by first | assumption | omega))
        have hex1 : scV (gtb tb) ts th s_amount := (scV_o (sg_1 hth hnl hnd9 (gb_nI (q := 33) (hx1.symm.trans hw_44) (by decide)) (by decide) (fun q9 => absurd q9.1 (by decide)) rfl).2 (by decide))
        have hsp0 : th ≤ (th + 1) := (by first | assumption | omega)
        have hsp1 : (th + 1) ≤ ts := (by first | assumption | omega)
        have hsp2 : 33 < 128 := (by first | assumption | omega)
        have hsp3 : scE (gtb tb) ts th ((th + 1)) := (by rw [show th + 1 = th + 1 by omega]; exact (sg_1 hth hnl hnd9 (gb_nI (q := 33) (hx1.symm.trans hw_44) (by decide)) (by decide) (fun q9 => absurd q9.1 (by decide)) rfl).1)
        have hsp4 : scK (gtb tb) ts th (33) := (sg_1 hth hnl hnd9 (gb_nI (q := 33) (hx1.symm.trans hw_44) (by decide)) (by decide) (fun q9 => absurd q9.1 (by decide)) rfl).2
        exact W.iret (v := 33) hx hb hr (fun t ht hW => ⟨⟨33, ixn [(th + 1), 33], rfl, ⟨rfl, ⟨hsp0, hsp1, hsp2, hsp3, hsp4⟩⟩, ⟨s_amount, hex0, hex1, by rw [ht]; exact hP9, hD9⟩⟩, hS.F ht⟩) hS.2.2 d_Tokens_sign_254
      by_cases hw_45 : x1 = 35
      · refine W.eq (g2 := F0 m 42 ls [.int 35]) (by rw [hw_45]) ?_
        refine lv_lookup (off := 145) (tgt := 187) hx hb d_Tokens_sign_42 (by decide) (by decide) (by decide) ?_
        refine lv_aload_n hx hb d_Tokens_sign_187 rfl (lv_at hl1 1 rfl) ?_
        refine lv_iconst (v := 5) hx hb d_Tokens_sign_188 (by decide) ?_
        refine lv_iconst (v := 0) hx hb d_Tokens_sign_189 (by decide) ?_
        obtain ⟨hPc, hDc, hFc, hCs⟩ := xw_sub3 (wc := [(k0, .inr (9, [.ref k1, .ref k2, .int (nI ts), .int (nI (th + 1)), .int s_at, .int s_fault, .int s_next, .int s_amount])), (k1, .inl (ax 1, 400, .inl tb)), (k2, .inl (ax 0, 401, .inl (fun j => nI (tk j))))]) hP hD hS hA [0, 1, 2] (by decide) rfl
        have hz := xz_of hN hS
        refine va_calli (va_runV (As := [.int 5, .int 0]) (rest := []) ⟨hx, hb, hml, hown, hts⟩ (c_T_comparison l D ax k0 k1 k2 ts (th + 1) s_at s_fault s_next s_amount tb tk 5 0 H_2.size (by first | assumption | omega) (by first | assumption | omega) (by first | assumption | omega)) (xcV (n := 2) hts wd_527 wd_2 wd_524 wd_526 ps_6 rfl rfl (by decide +kernel) ⟨Nat.le_of_ble_eq_true rfl, Nat.le_of_ble_eq_true rfl⟩) (xpV (ci := 9) (q0 := 0) (As := [.int 5, .int 0]) hPc hK hz hDc rfl rfl) rfl rfl hl1.1 rfl (lv_room (Nat.le_of_ble_eq_true rfl)) d_Tokens_sign_190 ⟨Nat.le_of_ble_eq_true rfl, Nat.le_of_ble_eq_true rfl⟩) hS (fun q _ h => hFc q h) hFc (fun r_48 u_46 t H_47 locs ht hvm hw hB hz1 hk1 hS1 => ?_)
        try dsimp only at hw
        obtain ⟨hw, hs_49⟩ := hw
        subst hw
        obtain ⟨hP1, hD1⟩ := hB
        rw [ht] at hP1
        have hjn := xw_join3 (wl := [(k0, .inr (9, [.ref k1, .ref k2, .int (nI ts), .int (nI (u_46 0)), .int s_at, .int s_fault, .int s_next, .int (nI 5)])), (k1, .inl (ax 1, 400, .inl tb)), (k2, .inl (ax 0, 401, .inl (fun j => nI (tk j))))]) hP hD [0, 1, 2] [] hCs (by decide) (by decide) hk1 hFc hP1 hD1 rfl
        clear hP1 hD1
        clear hPc hDc hFc hCs hz hz1 hk1 ht hvm
        clear hP hD hS
        have hS := hS1
        obtain ⟨hP, hD⟩ := hjn
        clear hS1
        rw [← hQe]
        obtain ⟨hP9, hD9⟩ := xw_sub2 (wc := (fun (u : Nat → Nat) (xam : Int32) => [(k0, .inr (9, [.ref k1, .ref k2, .int (nI ts), .int (nI (u 0)), .int s_at, .int s_fault, .int s_next, .int xam])), (k1, .inl (ax 1, 400, .inl tb)), (k2, .inl (ax 0, 401, .inl (fun j => nI (tk j))))]) (ixn [(u_46 0), 5]) (nI 5)) hP hD [0, 1, 2] (by decide) rfl
        have hex0 : sco (5) (nI 5) := (sco_c (q := 5) (by decide))
        have hex1 : scV (gtb tb) ts th (nI 5) := (sgv_1 hth hnl hnd9 (gb_nI (q := 35) (hx1.symm.trans hw_45) (by decide)) (by decide) (fun q9 => absurd q9.1 (by decide)) (fun _ => by first | exact (show i2n (nI 0) % 1024 = 0 by decide) | exact (show i2n (nI 1) % 1024 = 1 by decide) | exact (show i2n (nI 2) % 1024 = 2 by decide) | exact (show i2n (nI 3) % 1024 = 3 by decide) | exact (show i2n (nI 4) % 1024 = 4 by decide) | exact (show i2n (nI 5) % 1024 = 5 by decide)))
        have hsp0 : th ≤ (u_46 0) := (by first | assumption | omega)
        have hsp1 : (u_46 0) ≤ ts := (by first | assumption | omega)
        have hsp2 : 5 < 128 := (by first | assumption | omega)
        have hsp3 : scE (gtb tb) ts th ((u_46 0)) := (by rw [show u_46 0 = th + 1 by omega]; exact (sg_1 hth hnl hnd9 (gb_nI (q := 35) (hx1.symm.trans hw_45) (by decide)) (by decide) (fun q9 => absurd q9.1 (by decide)) rfl).1)
        have hsp4 : scK (gtb tb) ts th (5) := (sg_1 hth hnl hnd9 (gb_nI (q := 35) (hx1.symm.trans hw_45) (by decide)) (by decide) (fun q9 => absurd q9.1 (by decide)) rfl).2
        exact W.iret (v := 5) hx hb hr (fun t ht hW => ⟨⟨5, ixn [(u_46 0), 5], rfl, ⟨rfl, ⟨hsp0, hsp1, hsp2, hsp3, hsp4⟩⟩, ⟨nI 5, hex0, hex1, by rw [ht]; exact hP9, hD9⟩⟩, hS.F ht⟩) hS.2.2 d_Tokens_sign_193
      by_cases hw_50 : x1 = 38
      · refine W.eq (g2 := F0 m 42 ls [.int 38]) (by rw [hw_50]) ?_
        refine lv_lookup (off := 211) (tgt := 253) hx hb d_Tokens_sign_42 (by decide) (by decide) (by decide) ?_
        refine lv_iload_n hx hb d_Tokens_sign_253 rfl (lv_at hl1 2 rfl) ?_
        refine W.eq (g2 := F0 m 254 ls [.int 38]) (by rw [hw_50]) ?_
        rw [← hQe]
        obtain ⟨hP9, hD9⟩ := xw_sub2 (wc := (fun (u : Nat → Nat) (xam : Int32) => [(k0, .inr (9, [.ref k1, .ref k2, .int (nI ts), .int (nI (u 0)), .int s_at, .int s_fault, .int s_next, .int xam])), (k1, .inl (ax 1, 400, .inl tb)), (k2, .inl (ax 0, 401, .inl (fun j => nI (tk j))))]) (ixn [(th + 1), 38]) s_amount) hP hD [0, 1, 2] (by decide) rfl
        have hex0 : sco (38) s_amount := (sco_o (by first | assumption | omega) (by first | assumption | omega) (by first | assumption | omega) (by first | assumption | omega))
        have hex1 : scV (gtb tb) ts th s_amount := (scV_o (sg_1 hth hnl hnd9 (gb_nI (q := 38) (hx1.symm.trans hw_50) (by decide)) (by decide) (fun q9 => absurd q9.1 (by decide)) rfl).2 (by decide))
        have hsp0 : th ≤ (th + 1) := (by first | assumption | omega)
        have hsp1 : (th + 1) ≤ ts := (by first | assumption | omega)
        have hsp2 : 38 < 128 := (by first | assumption | omega)
        have hsp3 : scE (gtb tb) ts th ((th + 1)) := (by rw [show th + 1 = th + 1 by omega]; exact (sg_1 hth hnl hnd9 (gb_nI (q := 38) (hx1.symm.trans hw_50) (by decide)) (by decide) (fun q9 => absurd q9.1 (by decide)) rfl).1)
        have hsp4 : scK (gtb tb) ts th (38) := (sg_1 hth hnl hnd9 (gb_nI (q := 38) (hx1.symm.trans hw_50) (by decide)) (by decide) (fun q9 => absurd q9.1 (by decide)) rfl).2
        exact W.iret (v := 38) hx hb hr (fun t ht hW => ⟨⟨38, ixn [(th + 1), 38], rfl, ⟨rfl, ⟨hsp0, hsp1, hsp2, hsp3, hsp4⟩⟩, ⟨s_amount, hex0, hex1, by rw [ht]; exact hP9, hD9⟩⟩, hS.F ht⟩) hS.2.2 d_Tokens_sign_254
      by_cases hw_51 : x1 = 40
      · refine W.eq (g2 := F0 m 42 ls [.int 40]) (by rw [hw_51]) ?_
        refine lv_lookup (off := 211) (tgt := 253) hx hb d_Tokens_sign_42 (by decide) (by decide) (by decide) ?_
        refine lv_iload_n hx hb d_Tokens_sign_253 rfl (lv_at hl1 2 rfl) ?_
        refine W.eq (g2 := F0 m 254 ls [.int 40]) (by rw [hw_51]) ?_
        rw [← hQe]
        obtain ⟨hP9, hD9⟩ := xw_sub2 (wc := (fun (u : Nat → Nat) (xam : Int32) => [(k0, .inr (9, [.ref k1, .ref k2, .int (nI ts), .int (nI (u 0)), .int s_at, .int s_fault, .int s_next, .int xam])), (k1, .inl (ax 1, 400, .inl tb)), (k2, .inl (ax 0, 401, .inl (fun j => nI (tk j))))]) (ixn [(th + 1), 40]) s_amount) hP hD [0, 1, 2] (by decide) rfl
        have hex0 : sco (40) s_amount := (sco_o (by first | assumption | omega) (by first | assumption | omega) (by first | assumption | omega) (by first | assumption | omega))
        have hex1 : scV (gtb tb) ts th s_amount := (scV_o (sg_1 hth hnl hnd9 (gb_nI (q := 40) (hx1.symm.trans hw_51) (by decide)) (by decide) (fun q9 => absurd q9.1 (by decide)) rfl).2 (by decide))
        have hsp0 : th ≤ (th + 1) := (by first | assumption | omega)
        have hsp1 : (th + 1) ≤ ts := (by first | assumption | omega)
        have hsp2 : 40 < 128 := (by first | assumption | omega)
        have hsp3 : scE (gtb tb) ts th ((th + 1)) := (by rw [show th + 1 = th + 1 by omega]; exact (sg_1 hth hnl hnd9 (gb_nI (q := 40) (hx1.symm.trans hw_51) (by decide)) (by decide) (fun q9 => absurd q9.1 (by decide)) rfl).1)
        have hsp4 : scK (gtb tb) ts th (40) := (sg_1 hth hnl hnd9 (gb_nI (q := 40) (hx1.symm.trans hw_51) (by decide)) (by decide) (fun q9 => absurd q9.1 (by decide)) rfl).2
        exact W.iret (v := 40) hx hb hr (fun t ht hW => ⟨⟨40, ixn [(th + 1), 40], rfl, ⟨rfl, ⟨hsp0, hsp1, hsp2, hsp3, hsp4⟩⟩, ⟨s_amount, hex0, hex1, by rw [ht]; exact hP9, hD9⟩⟩, hS.F ht⟩) hS.2.2 d_Tokens_sign_254
      by_cases hw_52 : x1 = 41
      · refine W.eq (g2 := F0 m 42 ls [.int 41]) (by rw [hw_52]) ?_
        refine lv_lookup (off := 211) (tgt := 253) hx hb d_Tokens_sign_42 (by decide) (by decide) (by decide) ?_
        refine lv_iload_n hx hb d_Tokens_sign_253 rfl (lv_at hl1 2 rfl) ?_
        refine W.eq (g2 := F0 m 254 ls [.int 41]) (by rw [hw_52]) ?_
        rw [← hQe]
        obtain ⟨hP9, hD9⟩ := xw_sub2 (wc := (fun (u : Nat → Nat) (xam : Int32) => [(k0, .inr (9, [.ref k1, .ref k2, .int (nI ts), .int (nI (u 0)), .int s_at, .int s_fault, .int s_next, .int xam])), (k1, .inl (ax 1, 400, .inl tb)), (k2, .inl (ax 0, 401, .inl (fun j => nI (tk j))))]) (ixn [(th + 1), 41]) s_amount) hP hD [0, 1, 2] (by decide) rfl
        have hex0 : sco (41) s_amount := (sco_o (by first | assumption | omega) (by first | assumption | omega) (by first | assumption | omega) (by first | assumption | omega))
        have hex1 : scV (gtb tb) ts th s_amount := (scV_o (sg_1 hth hnl hnd9 (gb_nI (q := 41) (hx1.symm.trans hw_52) (by decide)) (by decide) (fun q9 => absurd q9.1 (by decide)) rfl).2 (by decide))
        have hsp0 : th ≤ (th + 1) := (by first | assumption | omega)
        have hsp1 : (th + 1) ≤ ts := (by first | assumption | omega)
        have hsp2 : 41 < 128 := (by first | assumption | omega)
        have hsp3 : scE (gtb tb) ts th ((th + 1)) := (by rw [show th + 1 = th + 1 by omega]; exact (sg_1 hth hnl hnd9 (gb_nI (q := 41) (hx1.symm.trans hw_52) (by decide)) (by decide) (fun q9 => absurd q9.1 (by decide)) rfl).1)
        have hsp4 : scK (gtb tb) ts th (41) := (sg_1 hth hnl hnd9 (gb_nI (q := 41) (hx1.symm.trans hw_52) (by decide)) (by decide) (fun q9 => absurd q9.1 (by decide)) rfl).2
        exact W.iret (v := 41) hx hb hr (fun t ht hW => ⟨⟨41, ixn [(th + 1), 41], rfl, ⟨rfl, ⟨hsp0, hsp1, hsp2, hsp3, hsp4⟩⟩, ⟨s_amount, hex0, hex1, by rw [ht]; exact hP9, hD9⟩⟩, hS.F ht⟩) hS.2.2 d_Tokens_sign_254
      by_cases hw_53 : x1 = 43
      · refine W.eq (g2 := F0 m 42 ls [.int 43]) (by rw [hw_53]) ?_
        refine lv_lookup (off := 211) (tgt := 253) hx hb d_Tokens_sign_42 (by decide) (by decide) (by decide) ?_
        refine lv_iload_n hx hb d_Tokens_sign_253 rfl (lv_at hl1 2 rfl) ?_
        refine W.eq (g2 := F0 m 254 ls [.int 43]) (by rw [hw_53]) ?_
        rw [← hQe]
        obtain ⟨hP9, hD9⟩ := xw_sub2 (wc := (fun (u : Nat → Nat) (xam : Int32) => [(k0, .inr (9, [.ref k1, .ref k2, .int (nI ts), .int (nI (u 0)), .int s_at, .int s_fault, .int s_next, .int xam])), (k1, .inl (ax 1, 400, .inl tb)), (k2, .inl (ax 0, 401, .inl (fun j => nI (tk j))))]) (ixn [(th + 1), 43]) s_amount) hP hD [0, 1, 2] (by decide) rfl
        have hex0 : sco (43) s_amount := (sco_o (by first | assumption | omega) (by first | assumption | omega) (by first | assumption | omega) (by first | assumption | omega))
        have hex1 : scV (gtb tb) ts th s_amount := (scV_o (sg_1 hth hnl hnd9 (gb_nI (q := 43) (hx1.symm.trans hw_53) (by decide)) (by decide) (fun q9 => absurd q9.1 (by decide)) rfl).2 (by decide))
        have hsp0 : th ≤ (th + 1) := (by first | assumption | omega)
        have hsp1 : (th + 1) ≤ ts := (by first | assumption | omega)
        have hsp2 : 43 < 128 := (by first | assumption | omega)
        have hsp3 : scE (gtb tb) ts th ((th + 1)) := (by rw [show th + 1 = th + 1 by omega]; exact (sg_1 hth hnl hnd9 (gb_nI (q := 43) (hx1.symm.trans hw_53) (by decide)) (by decide) (fun q9 => absurd q9.1 (by decide)) rfl).1)
        have hsp4 : scK (gtb tb) ts th (43) := (sg_1 hth hnl hnd9 (gb_nI (q := 43) (hx1.symm.trans hw_53) (by decide)) (by decide) (fun q9 => absurd q9.1 (by decide)) rfl).2
        exact W.iret (v := 43) hx hb hr (fun t ht hW => ⟨⟨43, ixn [(th + 1), 43], rfl, ⟨rfl, ⟨hsp0, hsp1, hsp2, hsp3, hsp4⟩⟩, ⟨s_amount, hex0, hex1, by rw [ht]; exact hP9, hD9⟩⟩, hS.F ht⟩) hS.2.2 d_Tokens_sign_254
      by_cases hw_54 : x1 = 45
      · refine W.eq (g2 := F0 m 42 ls [.int 45]) (by rw [hw_54]) ?_
        refine lv_lookup (off := 211) (tgt := 253) hx hb d_Tokens_sign_42 (by decide) (by decide) (by decide) ?_
        refine lv_iload_n hx hb d_Tokens_sign_253 rfl (lv_at hl1 2 rfl) ?_
        refine W.eq (g2 := F0 m 254 ls [.int 45]) (by rw [hw_54]) ?_
        rw [← hQe]
        obtain ⟨hP9, hD9⟩ := xw_sub2 (wc := (fun (u : Nat → Nat) (xam : Int32) => [(k0, .inr (9, [.ref k1, .ref k2, .int (nI ts), .int (nI (u 0)), .int s_at, .int s_fault, .int s_next, .int xam])), (k1, .inl (ax 1, 400, .inl tb)), (k2, .inl (ax 0, 401, .inl (fun j => nI (tk j))))]) (ixn [(th + 1), 45]) s_amount) hP hD [0, 1, 2] (by decide) rfl
        have hex0 : sco (45) s_amount := (sco_o (by first | assumption | omega) (by first | assumption | omega) (by first | assumption | omega) (by first | assumption | omega))
        have hex1 : scV (gtb tb) ts th s_amount := (scV_o (sg_1 hth hnl hnd9 (gb_nI (q := 45) (hx1.symm.trans hw_54) (by decide)) (by decide) (fun q9 => absurd q9.1 (by decide)) rfl).2 (by decide))
        have hsp0 : th ≤ (th + 1) := (by first | assumption | omega)
        have hsp1 : (th + 1) ≤ ts := (by first | assumption | omega)
        have hsp2 : 45 < 128 := (by first | assumption | omega)
        have hsp3 : scE (gtb tb) ts th ((th + 1)) := (by rw [show th + 1 = th + 1 by omega]; exact (sg_1 hth hnl hnd9 (gb_nI (q := 45) (hx1.symm.trans hw_54) (by decide)) (by decide) (fun q9 => absurd q9.1 (by decide)) rfl).1)
        have hsp4 : scK (gtb tb) ts th (45) := (sg_1 hth hnl hnd9 (gb_nI (q := 45) (hx1.symm.trans hw_54) (by decide)) (by decide) (fun q9 => absurd q9.1 (by decide)) rfl).2
        exact W.iret (v := 45) hx hb hr (fun t ht hW => ⟨⟨45, ixn [(th + 1), 45], rfl, ⟨rfl, ⟨hsp0, hsp1, hsp2, hsp3, hsp4⟩⟩, ⟨s_amount, hex0, hex1, by rw [ht]; exact hP9, hD9⟩⟩, hS.F ht⟩) hS.2.2 d_Tokens_sign_254
      by_cases hw_55 : x1 = 58
      · refine W.eq (g2 := F0 m 42 ls [.int 58]) (by rw [hw_55]) ?_
        refine lv_lookup (off := 182) (tgt := 224) hx hb d_Tokens_sign_42 (by decide) (by decide) (by decide) ?_
        refine lv_aload_n hx hb d_Tokens_sign_224 rfl (lv_at hl1 1 rfl) ?_
        refine lv_dup hx hb d_Tokens_sign_225 rfl ?_
        refine va_get (D := D) (ci := 9) (v := .int (nI (th + 1))) (C := R_Tokens) (T := F_Tokens) (N := 8) hx hb hts i_Tokens hown hK.1 hP 0 rfl rfl 3 (by decide) (hts _ wd_43) (fun _ h9 => h9) rfl d_Tokens_sign_226 ?_
        refine lv_iload_n hx hb d_Tokens_sign_229 rfl (lv_at hl1 0 rfl) ?_
        refine lv_if_eq (tgt := 237) hx hb d_Tokens_sign_230 (by decide) (fun c_56 => ?_) (fun c_56 => ?_)
        rotate_left
        · first | exact absurd c_56 (by decide) | exact absurd (by decide) c_56
        refine lv_iconst (v := 0) hx hb d_Tokens_sign_237 (by decide) ?_
        refine lv_iadd hx hb d_Tokens_sign_238 ?_
        refine lv_topi (fun z_57 ez_57 => ?_)
        have ez_57 : z_57 = nI (th + 1) := ez_57.trans (nI_add (th + 1) 0)
        subst ez_57
        refine va_put (D := D) (ci := 9) (v := .int (nI (th + 1))) (ty := .int) (C := R_Tokens) (T := F_Tokens) (N := 8) hx hb hts i_Tokens t_Tokens t_Tokens_ok n_Tokens hown hK.1 hP hD hS 0 rfl rfl 3 (by decide) (hts _ wd_43) (fun _ h9 => h9) rfl (by decide +kernel) rfl rfl (Nat.le_of_ble_eq_true rfl) d_Tokens_sign_239 (fun H_58 locs hP1 hD1 hS1 => ?_)
        clear hP hD hS
        have hS := hS1
        have hW7 : (fun w9 : va_W => va_P D classes w9 H_58 ∧ va_D A w9) [(k0, .inr (9, [.ref k1, .ref k2, .int (nI ts), .int (nI (th + 1)), .int s_at, .int s_fault, .int s_next, .int s_amount])), (k1, .inl (ax 1, 400, .inl tb)), (k2, .inl (ax 0, 401, .inl (fun j => nI (tk j))))] := ⟨hP1, hD1⟩
        obtain ⟨hP, hD⟩ := hW7
        clear hP1 hD1 hS1
        refine lv_iload_n hx hb d_Tokens_sign_242 rfl (lv_at hl1 0 rfl) ?_
        refine lv_if_eq (tgt := 251) hx hb d_Tokens_sign_243 (by decide) (fun c_59 => ?_) (fun c_59 => ?_)
        rotate_left
        · first | exact absurd c_59 (by decide) | exact absurd (by decide) c_59
        refine lv_iconst (v := 1) hx hb d_Tokens_sign_251 (by decide) ?_
        rw [← hQe]
        obtain ⟨hP9, hD9⟩ := xw_sub2 (wc := (fun (u : Nat → Nat) (xam : Int32) => [(k0, .inr (9, [.ref k1, .ref k2, .int (nI ts), .int (nI (u 0)), .int s_at, .int s_fault, .int s_next, .int xam])), (k1, .inl (ax 1, 400, .inl tb)), (k2, .inl (ax 0, 401, .inl (fun j => nI (tk j))))]) (ixn [(th + 1), 1]) s_amount) hP hD [0, 1, 2] (by decide) rfl
        have hex0 : sco (1) s_amount := (sco_o (by first | assumption | omega) (by first | assumption | omega) (by first | assumption | omega) (by first | assumption | omega))
        have hex1 : scV (gtb tb) ts th s_amount := (scV_o (sg_b hth hnl hnd9 (by rw [(gb_nI (q := 58) (hx1.symm.trans hw_55) (by decide))]; decide) (by rw [(gb_nI (q := 58) (hx1.symm.trans hw_55) (by decide))]; decide) (fun q9 => (gb_61n hbt (by first | assumption | omega) (by first | exact Or.inl (by first | assumption | omega) | exact Or.inr (by assumption))) q9.2)).2 (by decide))
        have hsp0 : th ≤ (th + 1) := (by first | assumption | omega)
        have hsp1 : (th + 1) ≤ ts := (by first | assumption | omega)
        have hsp2 : 1 < 128 := (by first | assumption | omega)
        have hsp3 : scE (gtb tb) ts th ((th + 1)) := (by rw [show th + 1 = th + 1 by omega]; exact (sg_b hth hnl hnd9 (by rw [(gb_nI (q := 58) (hx1.symm.trans hw_55) (by decide))]; decide) (by rw [(gb_nI (q := 58) (hx1.symm.trans hw_55) (by decide))]; decide) (fun q9 => (gb_61n hbt (by first | assumption | omega) (by first | exact Or.inl (by first | assumption | omega) | exact Or.inr (by assumption))) q9.2)).1)
        have hsp4 : scK (gtb tb) ts th (1) := (sg_b hth hnl hnd9 (by rw [(gb_nI (q := 58) (hx1.symm.trans hw_55) (by decide))]; decide) (by rw [(gb_nI (q := 58) (hx1.symm.trans hw_55) (by decide))]; decide) (fun q9 => (gb_61n hbt (by first | assumption | omega) (by first | exact Or.inl (by first | assumption | omega) | exact Or.inr (by assumption))) q9.2)).2
        exact W.iret (v := 1) hx hb hr (fun t ht hW => ⟨⟨1, ixn [(th + 1), 1], rfl, ⟨rfl, ⟨hsp0, hsp1, hsp2, hsp3, hsp4⟩⟩, ⟨s_amount, hex0, hex1, by rw [ht]; exact hP9, hD9⟩⟩, hS.F ht⟩) hS.2.2 d_Tokens_sign_252
      by_cases hw_60 : x1 = 59
      · refine W.eq (g2 := F0 m 42 ls [.int 59]) (by rw [hw_60]) ?_
        refine lv_lookup (off := 211) (tgt := 253) hx hb d_Tokens_sign_42 (by decide) (by decide) (by decide) ?_
        refine lv_iload_n hx hb d_Tokens_sign_253 rfl (lv_at hl1 2 rfl) ?_
        refine W.eq (g2 := F0 m 254 ls [.int 59]) (by rw [hw_60]) ?_
        rw [← hQe]
        obtain ⟨hP9, hD9⟩ := xw_sub2 (wc := (fun (u : Nat → Nat) (xam : Int32) => [(k0, .inr (9, [.ref k1, .ref k2, .int (nI ts), .int (nI (u 0)), .int s_at, .int s_fault, .int s_next, .int xam])), (k1, .inl (ax 1, 400, .inl tb)), (k2, .inl (ax 0, 401, .inl (fun j => nI (tk j))))]) (ixn [(th + 1), 59]) s_amount) hP hD [0, 1, 2] (by decide) rfl
        have hex0 : sco (59) s_amount := (sco_o (by first | assumption | omega) (by first | assumption | omega) (by first | assumption | omega) (by first | assumption | omega))
        have hex1 : scV (gtb tb) ts th s_amount := (scV_o (sg_1 hth hnl hnd9 (gb_nI (q := 59) (hx1.symm.trans hw_60) (by decide)) (by decide) (fun q9 => absurd q9.1 (by decide)) rfl).2 (by decide))
        have hsp0 : th ≤ (th + 1) := (by first | assumption | omega)
        have hsp1 : (th + 1) ≤ ts := (by first | assumption | omega)
        have hsp2 : 59 < 128 := (by first | assumption | omega)
        have hsp3 : scE (gtb tb) ts th ((th + 1)) := (by rw [show th + 1 = th + 1 by omega]; exact (sg_1 hth hnl hnd9 (gb_nI (q := 59) (hx1.symm.trans hw_60) (by decide)) (by decide) (fun q9 => absurd q9.1 (by decide)) rfl).1)
        have hsp4 : scK (gtb tb) ts th (59) := (sg_1 hth hnl hnd9 (gb_nI (q := 59) (hx1.symm.trans hw_60) (by decide)) (by decide) (fun q9 => absurd q9.1 (by decide)) rfl).2
        exact W.iret (v := 59) hx hb hr (fun t ht hW => ⟨⟨59, ixn [(th + 1), 59], rfl, ⟨rfl, ⟨hsp0, hsp1, hsp2, hsp3, hsp4⟩⟩, ⟨s_amount, hex0, hex1, by rw [ht]; exact hP9, hD9⟩⟩, hS.F ht⟩) hS.2.2 d_Tokens_sign_254
      by_cases hw_61 : x1 = 60
      · refine W.eq (g2 := F0 m 42 ls [.int 60]) (by rw [hw_61]) ?_
        refine lv_lookup (off := 152) (tgt := 194) hx hb d_Tokens_sign_42 (by decide) (by decide) (by decide) ?_
        refine lv_aload_n hx hb d_Tokens_sign_194 rfl (lv_at hl1 1 rfl) ?_
        refine lv_iload_n hx hb d_Tokens_sign_195 rfl (lv_at hl1 0 rfl) ?_
        refine lv_if_eq (tgt := 203) hx hb d_Tokens_sign_196 (by decide) (fun c_62 => ?_) (fun c_62 => ?_)
        rotate_left
        · first | exact absurd c_62 (by decide) | exact absurd (by decide) c_62
        refine lv_iconst (v := 0) hx hb d_Tokens_sign_203 (by decide) ?_
        refine lv_iload_n hx hb d_Tokens_sign_204 rfl (lv_at hl1 0 rfl) ?_
        obtain ⟨hPc, hDc, hFc, hCs⟩ := xw_sub3 (wc := [(k0, .inr (9, [.ref k1, .ref k2, .int (nI ts), .int (nI (th + 1)), .int s_at, .int s_fault, .int s_next, .int s_amount])), (k1, .inl (ax 1, 400, .inl tb)), (k2, .inl (ax 0, 401, .inl (fun j => nI (tk j))))]) hP hD hS hA [0, 1, 2] (by decide) rfl
        have hz := xz_of hN hS
        refine va_calli (va_runV (As := [.int 0, .int 0]) (rest := []) ⟨hx, hb, hml, hown, hts⟩ (c_T_comparison l D ax k0 k1 k2 ts (th + 1) s_at s_fault s_next s_amount tb tk 0 0 H_2.size (by first | assumption | omega) (by first | assumption | omega) (by first | assumption | omega)) (xcV (n := 2) hts wd_527 wd_2 wd_524 wd_526 ps_6 rfl rfl (by decide +kernel) ⟨Nat.le_of_ble_eq_true rfl, Nat.le_of_ble_eq_true rfl⟩) (xpV (ci := 9) (q0 := 0) (As := [.int 0, .int 0]) hPc hK hz hDc rfl rfl) rfl rfl hl1.1 rfl (lv_room (Nat.le_of_ble_eq_true rfl)) d_Tokens_sign_205 ⟨Nat.le_of_ble_eq_true rfl, Nat.le_of_ble_eq_true rfl⟩) hS (fun q _ h => hFc q h) hFc (fun r_65 u_63 t H_64 locs ht hvm hw hB hz1 hk1 hS1 => ?_)
        try dsimp only at hw
        obtain ⟨hw, hs_66⟩ := hw
        subst hw
        obtain ⟨hP1, hD1⟩ := hB
        rw [ht] at hP1
        have hjn := xw_join3 (wl := [(k0, .inr (9, [.ref k1, .ref k2, .int (nI ts), .int (nI (u_63 0)), .int s_at, .int s_fault, .int s_next, .int (nI 0)])), (k1, .inl (ax 1, 400, .inl tb)), (k2, .inl (ax 0, 401, .inl (fun j => nI (tk j))))]) hP hD [0, 1, 2] [] hCs (by decide) (by decide) hk1 hFc hP1 hD1 rfl
        clear hP1 hD1
        clear hPc hDc hFc hCs hz hz1 hk1 ht hvm
        clear hP hD hS
        have hS := hS1
        obtain ⟨hP, hD⟩ := hjn
        clear hS1
        rw [← hQe]
        obtain ⟨hP9, hD9⟩ := xw_sub2 (wc := (fun (u : Nat → Nat) (xam : Int32) => [(k0, .inr (9, [.ref k1, .ref k2, .int (nI ts), .int (nI (u 0)), .int s_at, .int s_fault, .int s_next, .int xam])), (k1, .inl (ax 1, 400, .inl tb)), (k2, .inl (ax 0, 401, .inl (fun j => nI (tk j))))]) (ixn [(u_63 0), 5]) (nI 0)) hP hD [0, 1, 2] (by decide) rfl
        have hex0 : sco (5) (nI 0) := (sco_c (q := 0) (by decide))
        have hex1 : scV (gtb tb) ts th (nI 0) := (sgv_1 hth hnl hnd9 (gb_nI (q := 60) (hx1.symm.trans hw_61) (by decide)) (by decide) (fun q9 => (gb_61n hbt (by first | assumption | omega) (by first | exact Or.inl (by first | assumption | omega) | exact Or.inr (by assumption))) q9.2) (fun _ => by first | exact (show i2n (nI 0) % 1024 = 0 by decide) | exact (show i2n (nI 1) % 1024 = 1 by decide) | exact (show i2n (nI 2) % 1024 = 2 by decide) | exact (show i2n (nI 3) % 1024 = 3 by decide) | exact (show i2n (nI 4) % 1024 = 4 by decide) | exact (show i2n (nI 5) % 1024 = 5 by decide)))
        have hsp0 : th ≤ (u_63 0) := (by first | assumption | omega)
        have hsp1 : (u_63 0) ≤ ts := (by first | assumption | omega)
        have hsp2 : 5 < 128 := (by first | assumption | omega)
        have hsp3 : scE (gtb tb) ts th ((u_63 0)) := (by rw [show u_63 0 = th + 1 by omega]; exact (sg_1 hth hnl hnd9 (gb_nI (q := 60) (hx1.symm.trans hw_61) (by decide)) (by decide) (fun q9 => (gb_61n hbt (by first | assumption | omega) (by first | exact Or.inl (by first | assumption | omega) | exact Or.inr (by assumption))) q9.2) rfl).1)
        have hsp4 : scK (gtb tb) ts th (5) := (sg_1 hth hnl hnd9 (gb_nI (q := 60) (hx1.symm.trans hw_61) (by decide)) (by decide) (fun q9 => (gb_61n hbt (by first | assumption | omega) (by first | exact Or.inl (by first | assumption | omega) | exact Or.inr (by assumption))) q9.2) rfl).2
        exact W.iret (v := 5) hx hb hr (fun t ht hW => ⟨⟨5, ixn [(u_63 0), 5], rfl, ⟨rfl, ⟨hsp0, hsp1, hsp2, hsp3, hsp4⟩⟩, ⟨nI 0, hex0, hex1, by rw [ht]; exact hP9, hD9⟩⟩, hS.F ht⟩) hS.2.2 d_Tokens_sign_208
      by_cases hw_67 : x1 = 61
      · refine W.eq (g2 := F0 m 42 ls [.int 61]) (by rw [hw_67]) ?_
        refine lv_lookup (off := 138) (tgt := 180) hx hb d_Tokens_sign_42 (by decide) (by decide) (by decide) ?_
        refine lv_aload_n hx hb d_Tokens_sign_180 rfl (lv_at hl1 1 rfl) ?_
        refine lv_iconst (v := 4) hx hb d_Tokens_sign_181 (by decide) ?_
        refine lv_iconst (v := 0) hx hb d_Tokens_sign_182 (by decide) ?_
        obtain ⟨hPc, hDc, hFc, hCs⟩ := xw_sub3 (wc := [(k0, .inr (9, [.ref k1, .ref k2, .int (nI ts), .int (nI (th + 1)), .int s_at, .int s_fault, .int s_next, .int s_amount])), (k1, .inl (ax 1, 400, .inl tb)), (k2, .inl (ax 0, 401, .inl (fun j => nI (tk j))))]) hP hD hS hA [0, 1, 2] (by decide) rfl
        have hz := xz_of hN hS
        refine va_calli (va_runV (As := [.int 4, .int 0]) (rest := []) ⟨hx, hb, hml, hown, hts⟩ (c_T_comparison l D ax k0 k1 k2 ts (th + 1) s_at s_fault s_next s_amount tb tk 4 0 H_2.size (by first | assumption | omega) (by first | assumption | omega) (by first | assumption | omega)) (xcV (n := 2) hts wd_527 wd_2 wd_524 wd_526 ps_6 rfl rfl (by decide +kernel) ⟨Nat.le_of_ble_eq_true rfl, Nat.le_of_ble_eq_true rfl⟩) (xpV (ci := 9) (q0 := 0) (As := [.int 4, .int 0]) hPc hK hz hDc rfl rfl) rfl rfl hl1.1 rfl (lv_room (Nat.le_of_ble_eq_true rfl)) d_Tokens_sign_183 ⟨Nat.le_of_ble_eq_true rfl, Nat.le_of_ble_eq_true rfl⟩) hS (fun q _ h => hFc q h) hFc (fun r_70 u_68 t H_69 locs ht hvm hw hB hz1 hk1 hS1 => ?_)
        try dsimp only at hw
        obtain ⟨hw, hs_71⟩ := hw
        subst hw
        obtain ⟨hP1, hD1⟩ := hB
        rw [ht] at hP1
        have hjn := xw_join3 (wl := [(k0, .inr (9, [.ref k1, .ref k2, .int (nI ts), .int (nI (u_68 0)), .int s_at, .int s_fault, .int s_next, .int (nI 4)])), (k1, .inl (ax 1, 400, .inl tb)), (k2, .inl (ax 0, 401, .inl (fun j => nI (tk j))))]) hP hD [0, 1, 2] [] hCs (by decide) (by decide) hk1 hFc hP1 hD1 rfl
        clear hP1 hD1
        clear hPc hDc hFc hCs hz hz1 hk1 ht hvm
        clear hP hD hS
        have hS := hS1
        obtain ⟨hP, hD⟩ := hjn
        clear hS1
        rw [← hQe]
        obtain ⟨hP9, hD9⟩ := xw_sub2 (wc := (fun (u : Nat → Nat) (xam : Int32) => [(k0, .inr (9, [.ref k1, .ref k2, .int (nI ts), .int (nI (u 0)), .int s_at, .int s_fault, .int s_next, .int xam])), (k1, .inl (ax 1, 400, .inl tb)), (k2, .inl (ax 0, 401, .inl (fun j => nI (tk j))))]) (ixn [(u_68 0), 5]) (nI 4)) hP hD [0, 1, 2] (by decide) rfl
        have hex0 : sco (5) (nI 4) := (sco_c (q := 4) (by decide))
        have hex1 : scV (gtb tb) ts th (nI 4) := (sgv_1 hth hnl hnd9 (gb_nI (q := 61) (hx1.symm.trans hw_67) (by decide)) (by decide) (fun q9 => absurd q9.1 (by decide)) (fun _ => by first | exact (show i2n (nI 0) % 1024 = 0 by decide) | exact (show i2n (nI 1) % 1024 = 1 by decide) | exact (show i2n (nI 2) % 1024 = 2 by decide) | exact (show i2n (nI 3) % 1024 = 3 by decide) | exact (show i2n (nI 4) % 1024 = 4 by decide) | exact (show i2n (nI 5) % 1024 = 5 by decide)))
        have hsp0 : th ≤ (u_68 0) := (by first | assumption | omega)
        have hsp1 : (u_68 0) ≤ ts := (by first | assumption | omega)
        have hsp2 : 5 < 128 := (by first | assumption | omega)
        have hsp3 : scE (gtb tb) ts th ((u_68 0)) := (by rw [show u_68 0 = th + 1 by omega]; exact (sg_1 hth hnl hnd9 (gb_nI (q := 61) (hx1.symm.trans hw_67) (by decide)) (by decide) (fun q9 => absurd q9.1 (by decide)) rfl).1)
        have hsp4 : scK (gtb tb) ts th (5) := (sg_1 hth hnl hnd9 (gb_nI (q := 61) (hx1.symm.trans hw_67) (by decide)) (by decide) (fun q9 => absurd q9.1 (by decide)) rfl).2
        exact W.iret (v := 5) hx hb hr (fun t ht hW => ⟨⟨5, ixn [(u_68 0), 5], rfl, ⟨rfl, ⟨hsp0, hsp1, hsp2, hsp3, hsp4⟩⟩, ⟨nI 4, hex0, hex1, by rw [ht]; exact hP9, hD9⟩⟩, hS.F ht⟩) hS.2.2 d_Tokens_sign_186
      by_cases hw_72 : x1 = 62
      · refine W.eq (g2 := F0 m 42 ls [.int 62]) (by rw [hw_72]) ?_
        refine lv_lookup (off := 167) (tgt := 209) hx hb d_Tokens_sign_42 (by decide) (by decide) (by decide) ?_
        refine lv_aload_n hx hb d_Tokens_sign_209 rfl (lv_at hl1 1 rfl) ?_
        refine lv_iload_n hx hb d_Tokens_sign_210 rfl (lv_at hl1 0 rfl) ?_
        refine lv_if_eq (tgt := 218) hx hb d_Tokens_sign_211 (by decide) (fun c_73 => ?_) (fun c_73 => ?_)
        rotate_left
        · first | exact absurd c_73 (by decide) | exact absurd (by decide) c_73
        refine lv_iconst (v := 3) hx hb d_Tokens_sign_218 (by decide) ?_
        refine lv_iload_n hx hb d_Tokens_sign_219 rfl (lv_at hl1 0 rfl) ?_
        obtain ⟨hPc, hDc, hFc, hCs⟩ := xw_sub3 (wc := [(k0, .inr (9, [.ref k1, .ref k2, .int (nI ts), .int (nI (th + 1)), .int s_at, .int s_fault, .int s_next, .int s_amount])), (k1, .inl (ax 1, 400, .inl tb)), (k2, .inl (ax 0, 401, .inl (fun j => nI (tk j))))]) hP hD hS hA [0, 1, 2] (by decide) rfl
        have hz := xz_of hN hS
        refine va_calli (va_runV (As := [.int 3, .int 0]) (rest := []) ⟨hx, hb, hml, hown, hts⟩ (c_T_comparison l D ax k0 k1 k2 ts (th + 1) s_at s_fault s_next s_amount tb tk 3 0 H_2.size (by first | assumption | omega) (by first | assumption | omega) (by first | assumption | omega)) (xcV (n := 2) hts wd_527 wd_2 wd_524 wd_526 ps_6 rfl rfl (by decide +kernel) ⟨Nat.le_of_ble_eq_true rfl, Nat.le_of_ble_eq_true rfl⟩) (xpV (ci := 9) (q0 := 0) (As := [.int 3, .int 0]) hPc hK hz hDc rfl rfl) rfl rfl hl1.1 rfl (lv_room (Nat.le_of_ble_eq_true rfl)) d_Tokens_sign_220 ⟨Nat.le_of_ble_eq_true rfl, Nat.le_of_ble_eq_true rfl⟩) hS (fun q _ h => hFc q h) hFc (fun r_76 u_74 t H_75 locs ht hvm hw hB hz1 hk1 hS1 => ?_)
        try dsimp only at hw
        obtain ⟨hw, hs_77⟩ := hw
        subst hw
        obtain ⟨hP1, hD1⟩ := hB
        rw [ht] at hP1
        have hjn := xw_join3 (wl := [(k0, .inr (9, [.ref k1, .ref k2, .int (nI ts), .int (nI (u_74 0)), .int s_at, .int s_fault, .int s_next, .int (nI 3)])), (k1, .inl (ax 1, 400, .inl tb)), (k2, .inl (ax 0, 401, .inl (fun j => nI (tk j))))]) hP hD [0, 1, 2] [] hCs (by decide) (by decide) hk1 hFc hP1 hD1 rfl
        clear hP1 hD1
        clear hPc hDc hFc hCs hz hz1 hk1 ht hvm
        clear hP hD hS
        have hS := hS1
        obtain ⟨hP, hD⟩ := hjn
        clear hS1
        rw [← hQe]
        obtain ⟨hP9, hD9⟩ := xw_sub2 (wc := (fun (u : Nat → Nat) (xam : Int32) => [(k0, .inr (9, [.ref k1, .ref k2, .int (nI ts), .int (nI (u 0)), .int s_at, .int s_fault, .int s_next, .int xam])), (k1, .inl (ax 1, 400, .inl tb)), (k2, .inl (ax 0, 401, .inl (fun j => nI (tk j))))]) (ixn [(u_74 0), 5]) (nI 3)) hP hD [0, 1, 2] (by decide) rfl
        have hex0 : sco (5) (nI 3) := (sco_c (q := 3) (by decide))
        have hex1 : scV (gtb tb) ts th (nI 3) := (sgv_1 hth hnl hnd9 (gb_nI (q := 62) (hx1.symm.trans hw_72) (by decide)) (by decide) (fun q9 => (gb_61n hbt (by first | assumption | omega) (by first | exact Or.inl (by first | assumption | omega) | exact Or.inr (by assumption))) q9.2) (fun _ => by first | exact (show i2n (nI 0) % 1024 = 0 by decide) | exact (show i2n (nI 1) % 1024 = 1 by decide) | exact (show i2n (nI 2) % 1024 = 2 by decide) | exact (show i2n (nI 3) % 1024 = 3 by decide) | exact (show i2n (nI 4) % 1024 = 4 by decide) | exact (show i2n (nI 5) % 1024 = 5 by decide)))
        have hsp0 : th ≤ (u_74 0) := (by first | assumption | omega)
        have hsp1 : (u_74 0) ≤ ts := (by first | assumption | omega)
        have hsp2 : 5 < 128 := (by first | assumption | omega)
        have hsp3 : scE (gtb tb) ts th ((u_74 0)) := (by rw [show u_74 0 = th + 1 by omega]; exact (sg_1 hth hnl hnd9 (gb_nI (q := 62) (hx1.symm.trans hw_72) (by decide)) (by decide) (fun q9 => (gb_61n hbt (by first | assumption | omega) (by first | exact Or.inl (by first | assumption | omega) | exact Or.inr (by assumption))) q9.2) rfl).1)
        have hsp4 : scK (gtb tb) ts th (5) := (sg_1 hth hnl hnd9 (gb_nI (q := 62) (hx1.symm.trans hw_72) (by decide)) (by decide) (fun q9 => (gb_61n hbt (by first | assumption | omega) (by first | exact Or.inl (by first | assumption | omega) | exact Or.inr (by assumption))) q9.2) rfl).2
        exact W.iret (v := 5) hx hb hr (fun t ht hW => ⟨⟨5, ixn [(u_74 0), 5], rfl, ⟨rfl, ⟨hsp0, hsp1, hsp2, hsp3, hsp4⟩⟩, ⟨nI 3, hex0, hex1, by rw [ht]; exact hP9, hD9⟩⟩, hS.F ht⟩) hS.2.2 d_Tokens_sign_223
      by_cases hw_78 : x1 = 123
      · refine W.eq (g2 := F0 m 42 ls [.int 123]) (by rw [hw_78]) ?_
        refine lv_lookup (off := 211) (tgt := 253) hx hb d_Tokens_sign_42 (by decide) (by decide) (by decide) ?_
        refine lv_iload_n hx hb d_Tokens_sign_253 rfl (lv_at hl1 2 rfl) ?_
        refine W.eq (g2 := F0 m 254 ls [.int 123]) (by rw [hw_78]) ?_
        rw [← hQe]
        obtain ⟨hP9, hD9⟩ := xw_sub2 (wc := (fun (u : Nat → Nat) (xam : Int32) => [(k0, .inr (9, [.ref k1, .ref k2, .int (nI ts), .int (nI (u 0)), .int s_at, .int s_fault, .int s_next, .int xam])), (k1, .inl (ax 1, 400, .inl tb)), (k2, .inl (ax 0, 401, .inl (fun j => nI (tk j))))]) (ixn [(th + 1), 123]) s_amount) hP hD [0, 1, 2] (by decide) rfl
        have hex0 : sco (123) s_amount := (sco_o (by first | assumption | omega) (by first | assumption | omega) (by first | assumption | omega) (by first | assumption | omega))
        have hex1 : scV (gtb tb) ts th s_amount := (scV_o (sg_1 hth hnl hnd9 (gb_nI (q := 123) (hx1.symm.trans hw_78) (by decide)) (by decide) (fun q9 => absurd q9.1 (by decide)) rfl).2 (by decide))
        have hsp0 : th ≤ (th + 1) := (by first | assumption | omega)
        have hsp1 : (th + 1) ≤ ts := (by first | assumption | omega)
        have hsp2 : 123 < 128 := (by first | assumption | omega)
        have hsp3 : scE (gtb tb) ts th ((th + 1)) := (by rw [show th + 1 = th + 1 by omega]; exact (sg_1 hth hnl hnd9 (gb_nI (q := 123) (hx1.symm.trans hw_78) (by decide)) (by decide) (fun q9 => absurd q9.1 (by decide)) rfl).1)
        have hsp4 : scK (gtb tb) ts th (123) := (sg_1 hth hnl hnd9 (gb_nI (q := 123) (hx1.symm.trans hw_78) (by decide)) (by decide) (fun q9 => absurd q9.1 (by decide)) rfl).2
        exact W.iret (v := 123) hx hb hr (fun t ht hW => ⟨⟨123, ixn [(th + 1), 123], rfl, ⟨rfl, ⟨hsp0, hsp1, hsp2, hsp3, hsp4⟩⟩, ⟨s_amount, hex0, hex1, by rw [ht]; exact hP9, hD9⟩⟩, hS.F ht⟩) hS.2.2 d_Tokens_sign_254
      by_cases hw_79 : x1 = 124
      · refine W.eq (g2 := F0 m 42 ls [.int 124]) (by rw [hw_79]) ?_
        refine lv_lookup (off := 211) (tgt := 253) hx hb d_Tokens_sign_42 (by decide) (by decide) (by decide) ?_
        refine lv_iload_n hx hb d_Tokens_sign_253 rfl (lv_at hl1 2 rfl) ?_
        refine W.eq (g2 := F0 m 254 ls [.int 124]) (by rw [hw_79]) ?_
        rw [← hQe]
        obtain ⟨hP9, hD9⟩ := xw_sub2 (wc := (fun (u : Nat → Nat) (xam : Int32) => [(k0, .inr (9, [.ref k1, .ref k2, .int (nI ts), .int (nI (u 0)), .int s_at, .int s_fault, .int s_next, .int xam])), (k1, .inl (ax 1, 400, .inl tb)), (k2, .inl (ax 0, 401, .inl (fun j => nI (tk j))))]) (ixn [(th + 1), 124]) s_amount) hP hD [0, 1, 2] (by decide) rfl
        have hex0 : sco (124) s_amount := (sco_o (by first | assumption | omega) (by first | assumption | omega) (by first | assumption | omega) (by first | assumption | omega))
        have hex1 : scV (gtb tb) ts th s_amount := (scV_o (sg_1 hth hnl hnd9 (gb_nI (q := 124) (hx1.symm.trans hw_79) (by decide)) (by decide) (fun q9 => absurd q9.1 (by decide)) rfl).2 (by decide))
        have hsp0 : th ≤ (th + 1) := (by first | assumption | omega)
        have hsp1 : (th + 1) ≤ ts := (by first | assumption | omega)
        have hsp2 : 124 < 128 := (by first | assumption | omega)
        have hsp3 : scE (gtb tb) ts th ((th + 1)) := (by rw [show th + 1 = th + 1 by omega]; exact (sg_1 hth hnl hnd9 (gb_nI (q := 124) (hx1.symm.trans hw_79) (by decide)) (by decide) (fun q9 => absurd q9.1 (by decide)) rfl).1)
        have hsp4 : scK (gtb tb) ts th (124) := (sg_1 hth hnl hnd9 (gb_nI (q := 124) (hx1.symm.trans hw_79) (by decide)) (by decide) (fun q9 => absurd q9.1 (by decide)) rfl).2
        exact W.iret (v := 124) hx hb hr (fun t ht hW => ⟨⟨124, ixn [(th + 1), 124], rfl, ⟨rfl, ⟨hsp0, hsp1, hsp2, hsp3, hsp4⟩⟩, ⟨s_amount, hex0, hex1, by rw [ht]; exact hP9, hD9⟩⟩, hS.F ht⟩) hS.2.2 d_Tokens_sign_254
      by_cases hw_80 : x1 = 125
      · refine W.eq (g2 := F0 m 42 ls [.int 125]) (by rw [hw_80]) ?_
        refine lv_lookup (off := 211) (tgt := 253) hx hb d_Tokens_sign_42 (by decide) (by decide) (by decide) ?_
        refine lv_iload_n hx hb d_Tokens_sign_253 rfl (lv_at hl1 2 rfl) ?_
        refine W.eq (g2 := F0 m 254 ls [.int 125]) (by rw [hw_80]) ?_
        rw [← hQe]
        obtain ⟨hP9, hD9⟩ := xw_sub2 (wc := (fun (u : Nat → Nat) (xam : Int32) => [(k0, .inr (9, [.ref k1, .ref k2, .int (nI ts), .int (nI (u 0)), .int s_at, .int s_fault, .int s_next, .int xam])), (k1, .inl (ax 1, 400, .inl tb)), (k2, .inl (ax 0, 401, .inl (fun j => nI (tk j))))]) (ixn [(th + 1), 125]) s_amount) hP hD [0, 1, 2] (by decide) rfl
        have hex0 : sco (125) s_amount := (sco_o (by first | assumption | omega) (by first | assumption | omega) (by first | assumption | omega) (by first | assumption | omega))
        have hex1 : scV (gtb tb) ts th s_amount := (scV_o (sg_1 hth hnl hnd9 (gb_nI (q := 125) (hx1.symm.trans hw_80) (by decide)) (by decide) (fun q9 => absurd q9.1 (by decide)) rfl).2 (by decide))
        have hsp0 : th ≤ (th + 1) := (by first | assumption | omega)
        have hsp1 : (th + 1) ≤ ts := (by first | assumption | omega)
        have hsp2 : 125 < 128 := (by first | assumption | omega)
        have hsp3 : scE (gtb tb) ts th ((th + 1)) := (by rw [show th + 1 = th + 1 by omega]; exact (sg_1 hth hnl hnd9 (gb_nI (q := 125) (hx1.symm.trans hw_80) (by decide)) (by decide) (fun q9 => absurd q9.1 (by decide)) rfl).1)
        have hsp4 : scK (gtb tb) ts th (125) := (sg_1 hth hnl hnd9 (gb_nI (q := 125) (hx1.symm.trans hw_80) (by decide)) (by decide) (fun q9 => absurd q9.1 (by decide)) rfl).2
        exact W.iret (v := 125) hx hb hr (fun t ht hW => ⟨⟨125, ixn [(th + 1), 125], rfl, ⟨rfl, ⟨hsp0, hsp1, hsp2, hsp3, hsp4⟩⟩, ⟨s_amount, hex0, hex1, by rw [ht]; exact hP9, hD9⟩⟩, hS.F ht⟩) hS.2.2 d_Tokens_sign_254
      replace hw_43 : ¬ Int32.toInt x1 = 32 := fun q9 => hw_43 (Int32.toInt_inj.mp (q9.trans (by decide)))
      replace hw_44 : ¬ Int32.toInt x1 = 33 := fun q9 => hw_44 (Int32.toInt_inj.mp (q9.trans (by decide)))
      replace hw_45 : ¬ Int32.toInt x1 = 35 := fun q9 => hw_45 (Int32.toInt_inj.mp (q9.trans (by decide)))
      replace hw_50 : ¬ Int32.toInt x1 = 38 := fun q9 => hw_50 (Int32.toInt_inj.mp (q9.trans (by decide)))
      replace hw_51 : ¬ Int32.toInt x1 = 40 := fun q9 => hw_51 (Int32.toInt_inj.mp (q9.trans (by decide)))
      replace hw_52 : ¬ Int32.toInt x1 = 41 := fun q9 => hw_52 (Int32.toInt_inj.mp (q9.trans (by decide)))
      replace hw_53 : ¬ Int32.toInt x1 = 43 := fun q9 => hw_53 (Int32.toInt_inj.mp (q9.trans (by decide)))
      replace hw_54 : ¬ Int32.toInt x1 = 45 := fun q9 => hw_54 (Int32.toInt_inj.mp (q9.trans (by decide)))
      replace hw_55 : ¬ Int32.toInt x1 = 58 := fun q9 => hw_55 (Int32.toInt_inj.mp (q9.trans (by decide)))
      replace hw_60 : ¬ Int32.toInt x1 = 59 := fun q9 => hw_60 (Int32.toInt_inj.mp (q9.trans (by decide)))
      replace hw_61 : ¬ Int32.toInt x1 = 60 := fun q9 => hw_61 (Int32.toInt_inj.mp (q9.trans (by decide)))
      replace hw_67 : ¬ Int32.toInt x1 = 61 := fun q9 => hw_67 (Int32.toInt_inj.mp (q9.trans (by decide)))
      replace hw_72 : ¬ Int32.toInt x1 = 62 := fun q9 => hw_72 (Int32.toInt_inj.mp (q9.trans (by decide)))
      replace hw_78 : ¬ Int32.toInt x1 = 123 := fun q9 => hw_78 (Int32.toInt_inj.mp (q9.trans (by decide)))
      replace hw_79 : ¬ Int32.toInt x1 = 124 := fun q9 => hw_79 (Int32.toInt_inj.mp (q9.trans (by decide)))
      replace hw_80 : ¬ Int32.toInt x1 = 125 := fun q9 => hw_80 (Int32.toInt_inj.mp (q9.trans (by decide)))
      refine lv_lookup (off := 213) (tgt := 255) hx hb d_Tokens_sign_42 (by decide) (by exact sw_no (by simp; omega)) (by decide) ?_
      refine lv_iconst (v := 1) hx hb d_Tokens_sign_255 (by decide) ?_
      rw [← hQe]
      obtain ⟨hP9, hD9⟩ := xw_sub2 (wc := (fun (u : Nat → Nat) (xam : Int32) => [(k0, .inr (9, [.ref k1, .ref k2, .int (nI ts), .int (nI (u 0)), .int s_at, .int s_fault, .int s_next, .int xam])), (k1, .inl (ax 1, 400, .inl tb)), (k2, .inl (ax 0, 401, .inl (fun j => nI (tk j))))]) (ixn [(th + 1), 1]) s_amount) hP hD [0, 1, 2] (by decide) rfl
      have hex0 : sco (1) s_amount := (sco_o (by first | assumption | omega) (by first | assumption | omega) (by first | assumption | omega) (by first | assumption | omega))
      have hex1 : scV (gtb tb) ts th s_amount := (scV_o (sg_b hth hnl hnd9 (gb_ne (q := 32) hbt (by first | assumption | omega) hx1 (by decide) hw_43) (fun q9 => by have n60 := (gb_ne (q := 60) hbt (by first | assumption | omega) hx1 (by decide) hw_61); have n62 := (gb_ne (q := 62) hbt (by first | assumption | omega) hx1 (by decide) hw_72); have n61 := (gb_ne (q := 61) hbt (by first | assumption | omega) hx1 (by decide) hw_67); have n35 := (gb_ne (q := 35) hbt (by first | assumption | omega) hx1 (by decide) hw_45); have n38 := (gb_ne (q := 38) hbt (by first | assumption | omega) hx1 (by decide) hw_50); have n124 := (gb_ne (q := 124) hbt (by first | assumption | omega) hx1 (by decide) hw_79); have n33 := (gb_ne (q := 33) hbt (by first | assumption | omega) hx1 (by decide) hw_44); have n40 := (gb_ne (q := 40) hbt (by first | assumption | omega) hx1 (by decide) hw_51); have n41 := (gb_ne (q := 41) hbt (by first | assumption | omega) hx1 (by decide) hw_52); have n123 := (gb_ne (q := 123) hbt (by first | assumption | omega) hx1 (by decide) hw_78); have n125 := (gb_ne (q := 125) hbt (by first | assumption | omega) hx1 (by decide) hw_80); have n59 := (gb_ne (q := 59) hbt (by first | assumption | omega) hx1 (by decide) hw_60); have n43 := (gb_ne (q := 43) hbt (by first | assumption | omega) hx1 (by decide) hw_53); have n45 := (gb_ne (q := 45) hbt (by first | assumption | omega) hx1 (by decide) hw_54); omega) (fun q9 => (gb_ne (q := 58) hbt (by first | assumption | omega) hx1 (by decide) hw_55) q9.1)).2 (by decide))
      have hsp0 : th ≤ (th + 1) := (by first | assumption | omega)
      have hsp1 : (th + 1) ≤ ts := (by first | assumption | omega)
      have hsp2 : 1 < 128 := (by first | assumption | omega)
      have hsp3 : scE (gtb tb) ts th ((th + 1)) := (by rw [show th + 1 = th + 1 by omega]; exact (sg_b hth hnl hnd9 (gb_ne (q := 32) hbt (by first | assumption | omega) hx1 (by decide) hw_43) (fun q9 => by have n60 := (gb_ne (q := 60) hbt (by first | assumption | omega) hx1 (by decide) hw_61); have n62 := (gb_ne (q := 62) hbt (by first | assumption | omega) hx1 (by decide) hw_72); have n61 := (gb_ne (q := 61) hbt (by first | assumption | omega) hx1 (by decide) hw_67); have n35 := (gb_ne (q := 35) hbt (by first | assumption | omega) hx1 (by decide) hw_45); have n38 := (gb_ne (q := 38) hbt (by first | assumption | omega) hx1 (by decide) hw_50); have n124 := (gb_ne (q := 124) hbt (by first | assumption | omega) hx1 (by decide) hw_79); have n33 := (gb_ne (q := 33) hbt (by first | assumption | omega) hx1 (by decide) hw_44); have n40 := (gb_ne (q := 40) hbt (by first | assumption | omega) hx1 (by decide) hw_51); have n41 := (gb_ne (q := 41) hbt (by first | assumption | omega) hx1 (by decide) hw_52); have n123 := (gb_ne (q := 123) hbt (by first | assumption | omega) hx1 (by decide) hw_78); have n125 := (gb_ne (q := 125) hbt (by first | assumption | omega) hx1 (by decide) hw_80); have n59 := (gb_ne (q := 59) hbt (by first | assumption | omega) hx1 (by decide) hw_60); have n43 := (gb_ne (q := 43) hbt (by first | assumption | omega) hx1 (by decide) hw_53); have n45 := (gb_ne (q := 45) hbt (by first | assumption | omega) hx1 (by decide) hw_54); omega) (fun q9 => (gb_ne (q := 58) hbt (by first | assumption | omega) hx1 (by decide) hw_55) q9.1)).1)
      have hsp4 : scK (gtb tb) ts th (1) := (sg_b hth hnl hnd9 (gb_ne (q := 32) hbt (by first | assumption | omega) hx1 (by decide) hw_43) (fun q9 => by have n60 := (gb_ne (q := 60) hbt (by first | assumption | omega) hx1 (by decide) hw_61); have n62 := (gb_ne (q := 62) hbt (by first | assumption | omega) hx1 (by decide) hw_72); have n61 := (gb_ne (q := 61) hbt (by first | assumption | omega) hx1 (by decide) hw_67); have n35 := (gb_ne (q := 35) hbt (by first | assumption | omega) hx1 (by decide) hw_45); have n38 := (gb_ne (q := 38) hbt (by first | assumption | omega) hx1 (by decide) hw_50); have n124 := (gb_ne (q := 124) hbt (by first | assumption | omega) hx1 (by decide) hw_79); have n33 := (gb_ne (q := 33) hbt (by first | assumption | omega) hx1 (by decide) hw_44); have n40 := (gb_ne (q := 40) hbt (by first | assumption | omega) hx1 (by decide) hw_51); have n41 := (gb_ne (q := 41) hbt (by first | assumption | omega) hx1 (by decide) hw_52); have n123 := (gb_ne (q := 123) hbt (by first | assumption | omega) hx1 (by decide) hw_78); have n125 := (gb_ne (q := 125) hbt (by first | assumption | omega) hx1 (by decide) hw_80); have n59 := (gb_ne (q := 59) hbt (by first | assumption | omega) hx1 (by decide) hw_60); have n43 := (gb_ne (q := 43) hbt (by first | assumption | omega) hx1 (by decide) hw_53); have n45 := (gb_ne (q := 45) hbt (by first | assumption | omega) hx1 (by decide) hw_54); omega) (fun q9 => (gb_ne (q := 58) hbt (by first | assumption | omega) hx1 (by decide) hw_55) q9.1)).2
      exact W.iret (v := 1) hx hb hr (fun t ht hW => ⟨⟨1, ixn [(th + 1), 1], rfl, ⟨rfl, ⟨hsp0, hsp1, hsp2, hsp3, hsp4⟩⟩, ⟨s_amount, hex0, hex1, by rw [ht]; exact hP9, hD9⟩⟩, hS.F ht⟩) hS.2.2 d_Tokens_sign_256
    · refine lv_iconst (v := 1) hx hb d_Tokens_sign_35 (by decide) ?_
      refine lv_goto (tgt := 40) hx hb d_Tokens_sign_36 (by decide) ?_
      refine lv_istore_n (lv' := [(2, .int 1), (0, .ref k0), (1, .int x1)]) hx hb d_Tokens_sign_40 rfl hl1 (by decide) rfl (fun ls hl2 => ?_)
      clear hl1; have hl1 := hl2; clear hl2
      refine lv_iload_n hx hb d_Tokens_sign_41 rfl (lv_at hl1 2 rfl) ?_
      by_cases hw_81 : x1 = 32
      · refine W.eq (g2 := F0 m 42 ls [.int 32]) (by rw [hw_81]) ?_
        refine lv_lookup (off := 211) (tgt := 253) hx hb d_Tokens_sign_42 (by decide) (by decide) (by decide) ?_
        refine lv_iload_n hx hb d_Tokens_sign_253 rfl (lv_at hl1 2 rfl) ?_
        refine W.eq (g2 := F0 m 254 ls [.int 32]) (by rw [hw_81]) ?_
        rw [← hQe]
        obtain ⟨hP9, hD9⟩ := xw_sub2 (wc := (fun (u : Nat → Nat) (xam : Int32) => [(k0, .inr (9, [.ref k1, .ref k2, .int (nI ts), .int (nI (u 0)), .int s_at, .int s_fault, .int s_next, .int xam])), (k1, .inl (ax 1, 400, .inl tb)), (k2, .inl (ax 0, 401, .inl (fun j => nI (tk j))))]) (ixn [(th + 1), 32]) s_amount) hP hD [0, 1, 2] (by decide) rfl
        have hex0 : sco (32) s_amount := (sco_o (by first | assumption | omega) (by first | assumption | omega) (by first | assumption | omega) (by first | assumption | omega))
        have hex1 : scV (gtb tb) ts th s_amount := (scV_32 (gb_nI (q := 32) (hx1.symm.trans hw_81) (by decide)))
        have hsp0 : th ≤ (th + 1) := (by first | assumption | omega)
        have hsp1 : (th + 1) ≤ ts := (by first | assumption | omega)
        have hsp2 : 32 < 128 := (by first | assumption | omega)
        have hsp3 : scE (gtb tb) ts th ((th + 1)) := (by rw [show th + 1 = th + 1 by omega]; exact (sg_32 (gb_nI (q := 32) (hx1.symm.trans hw_81) (by decide))).1)
        have hsp4 : scK (gtb tb) ts th (32) := (sg_32 (gb_nI (q := 32) (hx1.symm.trans hw_81) (by decide))).2
        exact W.iret (v := 32) hx hb hr (fun t ht hW => ⟨⟨32, ixn [(th + 1), 32], rfl, ⟨rfl, ⟨hsp0, hsp1, hsp2, hsp3, hsp4⟩⟩, ⟨s_amount, hex0, hex1, by rw [ht]; exact hP9, hD9⟩⟩, hS.F ht⟩) hS.2.2 d_Tokens_sign_254
      by_cases hw_82 : x1 = 33
      · refine W.eq (g2 := F0 m 42 ls [.int 33]) (by rw [hw_82]) ?_
        refine lv_lookup (off := 211) (tgt := 253) hx hb d_Tokens_sign_42 (by decide) (by decide) (by decide) ?_
        refine lv_iload_n hx hb d_Tokens_sign_253 rfl (lv_at hl1 2 rfl) ?_
        refine W.eq (g2 := F0 m 254 ls [.int 33]) (by rw [hw_82]) ?_
        rw [← hQe]
        obtain ⟨hP9, hD9⟩ := xw_sub2 (wc := (fun (u : Nat → Nat) (xam : Int32) => [(k0, .inr (9, [.ref k1, .ref k2, .int (nI ts), .int (nI (u 0)), .int s_at, .int s_fault, .int s_next, .int xam])), (k1, .inl (ax 1, 400, .inl tb)), (k2, .inl (ax 0, 401, .inl (fun j => nI (tk j))))]) (ixn [(th + 1), 33]) s_amount) hP hD [0, 1, 2] (by decide) rfl
        have hex0 : sco (33) s_amount := (sco_o (by first | assumption | omega) (by first | assumption | omega) (by first | assumption | omega) (by first | assumption | omega))
        have hex1 : scV (gtb tb) ts th s_amount := (scV_o (sg_1 hth hnl hnd9 (gb_nI (q := 33) (hx1.symm.trans hw_82) (by decide)) (by decide) (fun q9 => absurd q9.1 (by decide)) rfl).2 (by decide))
        have hsp0 : th ≤ (th + 1) := (by first | assumption | omega)
        have hsp1 : (th + 1) ≤ ts := (by first | assumption | omega)
        have hsp2 : 33 < 128 := (by first | assumption | omega)
        have hsp3 : scE (gtb tb) ts th ((th + 1)) := (by rw [show th + 1 = th + 1 by omega]; exact (sg_1 hth hnl hnd9 (gb_nI (q := 33) (hx1.symm.trans hw_82) (by decide)) (by decide) (fun q9 => absurd q9.1 (by decide)) rfl).1)
        have hsp4 : scK (gtb tb) ts th (33) := (sg_1 hth hnl hnd9 (gb_nI (q := 33) (hx1.symm.trans hw_82) (by decide)) (by decide) (fun q9 => absurd q9.1 (by decide)) rfl).2
        exact W.iret (v := 33) hx hb hr (fun t ht hW => ⟨⟨33, ixn [(th + 1), 33], rfl, ⟨rfl, ⟨hsp0, hsp1, hsp2, hsp3, hsp4⟩⟩, ⟨s_amount, hex0, hex1, by rw [ht]; exact hP9, hD9⟩⟩, hS.F ht⟩) hS.2.2 d_Tokens_sign_254
      by_cases hw_83 : x1 = 35
      · refine W.eq (g2 := F0 m 42 ls [.int 35]) (by rw [hw_83]) ?_
        refine lv_lookup (off := 145) (tgt := 187) hx hb d_Tokens_sign_42 (by decide) (by decide) (by decide) ?_
        refine lv_aload_n hx hb d_Tokens_sign_187 rfl (lv_at hl1 1 rfl) ?_
        refine lv_iconst (v := 5) hx hb d_Tokens_sign_188 (by decide) ?_
        refine lv_iconst (v := 0) hx hb d_Tokens_sign_189 (by decide) ?_
        obtain ⟨hPc, hDc, hFc, hCs⟩ := xw_sub3 (wc := [(k0, .inr (9, [.ref k1, .ref k2, .int (nI ts), .int (nI (th + 1)), .int s_at, .int s_fault, .int s_next, .int s_amount])), (k1, .inl (ax 1, 400, .inl tb)), (k2, .inl (ax 0, 401, .inl (fun j => nI (tk j))))]) hP hD hS hA [0, 1, 2] (by decide) rfl
        have hz := xz_of hN hS
        refine va_calli (va_runV (As := [.int 5, .int 0]) (rest := []) ⟨hx, hb, hml, hown, hts⟩ (c_T_comparison l D ax k0 k1 k2 ts (th + 1) s_at s_fault s_next s_amount tb tk 5 0 H_2.size (by first | assumption | omega) (by first | assumption | omega) (by first | assumption | omega)) (xcV (n := 2) hts wd_527 wd_2 wd_524 wd_526 ps_6 rfl rfl (by decide +kernel) ⟨Nat.le_of_ble_eq_true rfl, Nat.le_of_ble_eq_true rfl⟩) (xpV (ci := 9) (q0 := 0) (As := [.int 5, .int 0]) hPc hK hz hDc rfl rfl) rfl rfl hl1.1 rfl (lv_room (Nat.le_of_ble_eq_true rfl)) d_Tokens_sign_190 ⟨Nat.le_of_ble_eq_true rfl, Nat.le_of_ble_eq_true rfl⟩) hS (fun q _ h => hFc q h) hFc (fun r_86 u_84 t H_85 locs ht hvm hw hB hz1 hk1 hS1 => ?_)
        try dsimp only at hw
        obtain ⟨hw, hs_87⟩ := hw
        subst hw
        obtain ⟨hP1, hD1⟩ := hB
        rw [ht] at hP1
        have hjn := xw_join3 (wl := [(k0, .inr (9, [.ref k1, .ref k2, .int (nI ts), .int (nI (u_84 0)), .int s_at, .int s_fault, .int s_next, .int (nI 5)])), (k1, .inl (ax 1, 400, .inl tb)), (k2, .inl (ax 0, 401, .inl (fun j => nI (tk j))))]) hP hD [0, 1, 2] [] hCs (by decide) (by decide) hk1 hFc hP1 hD1 rfl
        clear hP1 hD1
        clear hPc hDc hFc hCs hz hz1 hk1 ht hvm
        clear hP hD hS
        have hS := hS1
        obtain ⟨hP, hD⟩ := hjn
        clear hS1
        rw [← hQe]
        obtain ⟨hP9, hD9⟩ := xw_sub2 (wc := (fun (u : Nat → Nat) (xam : Int32) => [(k0, .inr (9, [.ref k1, .ref k2, .int (nI ts), .int (nI (u 0)), .int s_at, .int s_fault, .int s_next, .int xam])), (k1, .inl (ax 1, 400, .inl tb)), (k2, .inl (ax 0, 401, .inl (fun j => nI (tk j))))]) (ixn [(u_84 0), 5]) (nI 5)) hP hD [0, 1, 2] (by decide) rfl
        have hex0 : sco (5) (nI 5) := (sco_c (q := 5) (by decide))
        have hex1 : scV (gtb tb) ts th (nI 5) := (sgv_1 hth hnl hnd9 (gb_nI (q := 35) (hx1.symm.trans hw_83) (by decide)) (by decide) (fun q9 => absurd q9.1 (by decide)) (fun _ => by first | exact (show i2n (nI 0) % 1024 = 0 by decide) | exact (show i2n (nI 1) % 1024 = 1 by decide) | exact (show i2n (nI 2) % 1024 = 2 by decide) | exact (show i2n (nI 3) % 1024 = 3 by decide) | exact (show i2n (nI 4) % 1024 = 4 by decide) | exact (show i2n (nI 5) % 1024 = 5 by decide)))
        have hsp0 : th ≤ (u_84 0) := (by first | assumption | omega)
        have hsp1 : (u_84 0) ≤ ts := (by first | assumption | omega)
        have hsp2 : 5 < 128 := (by first | assumption | omega)
        have hsp3 : scE (gtb tb) ts th ((u_84 0)) := (by rw [show u_84 0 = th + 1 by omega]; exact (sg_1 hth hnl hnd9 (gb_nI (q := 35) (hx1.symm.trans hw_83) (by decide)) (by decide) (fun q9 => absurd q9.1 (by decide)) rfl).1)
        have hsp4 : scK (gtb tb) ts th (5) := (sg_1 hth hnl hnd9 (gb_nI (q := 35) (hx1.symm.trans hw_83) (by decide)) (by decide) (fun q9 => absurd q9.1 (by decide)) rfl).2
        exact W.iret (v := 5) hx hb hr (fun t ht hW => ⟨⟨5, ixn [(u_84 0), 5], rfl, ⟨rfl, ⟨hsp0, hsp1, hsp2, hsp3, hsp4⟩⟩, ⟨nI 5, hex0, hex1, by rw [ht]; exact hP9, hD9⟩⟩, hS.F ht⟩) hS.2.2 d_Tokens_sign_193
      by_cases hw_88 : x1 = 38
      · refine W.eq (g2 := F0 m 42 ls [.int 38]) (by rw [hw_88]) ?_
        refine lv_lookup (off := 211) (tgt := 253) hx hb d_Tokens_sign_42 (by decide) (by decide) (by decide) ?_
        refine lv_iload_n hx hb d_Tokens_sign_253 rfl (lv_at hl1 2 rfl) ?_
        refine W.eq (g2 := F0 m 254 ls [.int 38]) (by rw [hw_88]) ?_
        rw [← hQe]
        obtain ⟨hP9, hD9⟩ := xw_sub2 (wc := (fun (u : Nat → Nat) (xam : Int32) => [(k0, .inr (9, [.ref k1, .ref k2, .int (nI ts), .int (nI (u 0)), .int s_at, .int s_fault, .int s_next, .int xam])), (k1, .inl (ax 1, 400, .inl tb)), (k2, .inl (ax 0, 401, .inl (fun j => nI (tk j))))]) (ixn [(th + 1), 38]) s_amount) hP hD [0, 1, 2] (by decide) rfl
        have hex0 : sco (38) s_amount := (sco_o (by first | assumption | omega) (by first | assumption | omega) (by first | assumption | omega) (by first | assumption | omega))
        have hex1 : scV (gtb tb) ts th s_amount := (scV_o (sg_1 hth hnl hnd9 (gb_nI (q := 38) (hx1.symm.trans hw_88) (by decide)) (by decide) (fun q9 => absurd q9.1 (by decide)) rfl).2 (by decide))
        have hsp0 : th ≤ (th + 1) := (by first | assumption | omega)
        have hsp1 : (th + 1) ≤ ts := (by first | assumption | omega)
        have hsp2 : 38 < 128 := (by first | assumption | omega)
        have hsp3 : scE (gtb tb) ts th ((th + 1)) := (by rw [show th + 1 = th + 1 by omega]; exact (sg_1 hth hnl hnd9 (gb_nI (q := 38) (hx1.symm.trans hw_88) (by decide)) (by decide) (fun q9 => absurd q9.1 (by decide)) rfl).1)
        have hsp4 : scK (gtb tb) ts th (38) := (sg_1 hth hnl hnd9 (gb_nI (q := 38) (hx1.symm.trans hw_88) (by decide)) (by decide) (fun q9 => absurd q9.1 (by decide)) rfl).2
        exact W.iret (v := 38) hx hb hr (fun t ht hW => ⟨⟨38, ixn [(th + 1), 38], rfl, ⟨rfl, ⟨hsp0, hsp1, hsp2, hsp3, hsp4⟩⟩, ⟨s_amount, hex0, hex1, by rw [ht]; exact hP9, hD9⟩⟩, hS.F ht⟩) hS.2.2 d_Tokens_sign_254
      by_cases hw_89 : x1 = 40
      · refine W.eq (g2 := F0 m 42 ls [.int 40]) (by rw [hw_89]) ?_
        refine lv_lookup (off := 211) (tgt := 253) hx hb d_Tokens_sign_42 (by decide) (by decide) (by decide) ?_
        refine lv_iload_n hx hb d_Tokens_sign_253 rfl (lv_at hl1 2 rfl) ?_
        refine W.eq (g2 := F0 m 254 ls [.int 40]) (by rw [hw_89]) ?_
        rw [← hQe]
        obtain ⟨hP9, hD9⟩ := xw_sub2 (wc := (fun (u : Nat → Nat) (xam : Int32) => [(k0, .inr (9, [.ref k1, .ref k2, .int (nI ts), .int (nI (u 0)), .int s_at, .int s_fault, .int s_next, .int xam])), (k1, .inl (ax 1, 400, .inl tb)), (k2, .inl (ax 0, 401, .inl (fun j => nI (tk j))))]) (ixn [(th + 1), 40]) s_amount) hP hD [0, 1, 2] (by decide) rfl
        have hex0 : sco (40) s_amount := (sco_o (by first | assumption | omega) (by first | assumption | omega) (by first | assumption | omega) (by first | assumption | omega))
        have hex1 : scV (gtb tb) ts th s_amount := (scV_o (sg_1 hth hnl hnd9 (gb_nI (q := 40) (hx1.symm.trans hw_89) (by decide)) (by decide) (fun q9 => absurd q9.1 (by decide)) rfl).2 (by decide))
        have hsp0 : th ≤ (th + 1) := (by first | assumption | omega)
        have hsp1 : (th + 1) ≤ ts := (by first | assumption | omega)
        have hsp2 : 40 < 128 := (by first | assumption | omega)
        have hsp3 : scE (gtb tb) ts th ((th + 1)) := (by rw [show th + 1 = th + 1 by omega]; exact (sg_1 hth hnl hnd9 (gb_nI (q := 40) (hx1.symm.trans hw_89) (by decide)) (by decide) (fun q9 => absurd q9.1 (by decide)) rfl).1)
        have hsp4 : scK (gtb tb) ts th (40) := (sg_1 hth hnl hnd9 (gb_nI (q := 40) (hx1.symm.trans hw_89) (by decide)) (by decide) (fun q9 => absurd q9.1 (by decide)) rfl).2
        exact W.iret (v := 40) hx hb hr (fun t ht hW => ⟨⟨40, ixn [(th + 1), 40], rfl, ⟨rfl, ⟨hsp0, hsp1, hsp2, hsp3, hsp4⟩⟩, ⟨s_amount, hex0, hex1, by rw [ht]; exact hP9, hD9⟩⟩, hS.F ht⟩) hS.2.2 d_Tokens_sign_254
      by_cases hw_90 : x1 = 41
      · refine W.eq (g2 := F0 m 42 ls [.int 41]) (by rw [hw_90]) ?_
        refine lv_lookup (off := 211) (tgt := 253) hx hb d_Tokens_sign_42 (by decide) (by decide) (by decide) ?_
        refine lv_iload_n hx hb d_Tokens_sign_253 rfl (lv_at hl1 2 rfl) ?_
        refine W.eq (g2 := F0 m 254 ls [.int 41]) (by rw [hw_90]) ?_
        rw [← hQe]
        obtain ⟨hP9, hD9⟩ := xw_sub2 (wc := (fun (u : Nat → Nat) (xam : Int32) => [(k0, .inr (9, [.ref k1, .ref k2, .int (nI ts), .int (nI (u 0)), .int s_at, .int s_fault, .int s_next, .int xam])), (k1, .inl (ax 1, 400, .inl tb)), (k2, .inl (ax 0, 401, .inl (fun j => nI (tk j))))]) (ixn [(th + 1), 41]) s_amount) hP hD [0, 1, 2] (by decide) rfl
        have hex0 : sco (41) s_amount := (sco_o (by first | assumption | omega) (by first | assumption | omega) (by first | assumption | omega) (by first | assumption | omega))
        have hex1 : scV (gtb tb) ts th s_amount := (scV_o (sg_1 hth hnl hnd9 (gb_nI (q := 41) (hx1.symm.trans hw_90) (by decide)) (by decide) (fun q9 => absurd q9.1 (by decide)) rfl).2 (by decide))
        have hsp0 : th ≤ (th + 1) := (by first | assumption | omega)
        have hsp1 : (th + 1) ≤ ts := (by first | assumption | omega)
        have hsp2 : 41 < 128 := (by first | assumption | omega)
        have hsp3 : scE (gtb tb) ts th ((th + 1)) := (by rw [show th + 1 = th + 1 by omega]; exact (sg_1 hth hnl hnd9 (gb_nI (q := 41) (hx1.symm.trans hw_90) (by decide)) (by decide) (fun q9 => absurd q9.1 (by decide)) rfl).1)
        have hsp4 : scK (gtb tb) ts th (41) := (sg_1 hth hnl hnd9 (gb_nI (q := 41) (hx1.symm.trans hw_90) (by decide)) (by decide) (fun q9 => absurd q9.1 (by decide)) rfl).2
        exact W.iret (v := 41) hx hb hr (fun t ht hW => ⟨⟨41, ixn [(th + 1), 41], rfl, ⟨rfl, ⟨hsp0, hsp1, hsp2, hsp3, hsp4⟩⟩, ⟨s_amount, hex0, hex1, by rw [ht]; exact hP9, hD9⟩⟩, hS.F ht⟩) hS.2.2 d_Tokens_sign_254
      by_cases hw_91 : x1 = 43
      · refine W.eq (g2 := F0 m 42 ls [.int 43]) (by rw [hw_91]) ?_
        refine lv_lookup (off := 211) (tgt := 253) hx hb d_Tokens_sign_42 (by decide) (by decide) (by decide) ?_
        refine lv_iload_n hx hb d_Tokens_sign_253 rfl (lv_at hl1 2 rfl) ?_
        refine W.eq (g2 := F0 m 254 ls [.int 43]) (by rw [hw_91]) ?_
        rw [← hQe]
        obtain ⟨hP9, hD9⟩ := xw_sub2 (wc := (fun (u : Nat → Nat) (xam : Int32) => [(k0, .inr (9, [.ref k1, .ref k2, .int (nI ts), .int (nI (u 0)), .int s_at, .int s_fault, .int s_next, .int xam])), (k1, .inl (ax 1, 400, .inl tb)), (k2, .inl (ax 0, 401, .inl (fun j => nI (tk j))))]) (ixn [(th + 1), 43]) s_amount) hP hD [0, 1, 2] (by decide) rfl
        have hex0 : sco (43) s_amount := (sco_o (by first | assumption | omega) (by first | assumption | omega) (by first | assumption | omega) (by first | assumption | omega))
        have hex1 : scV (gtb tb) ts th s_amount := (scV_o (sg_1 hth hnl hnd9 (gb_nI (q := 43) (hx1.symm.trans hw_91) (by decide)) (by decide) (fun q9 => absurd q9.1 (by decide)) rfl).2 (by decide))
        have hsp0 : th ≤ (th + 1) := (by first | assumption | omega)
        have hsp1 : (th + 1) ≤ ts := (by first | assumption | omega)
        have hsp2 : 43 < 128 := (by first | assumption | omega)
        have hsp3 : scE (gtb tb) ts th ((th + 1)) := (by rw [show th + 1 = th + 1 by omega]; exact (sg_1 hth hnl hnd9 (gb_nI (q := 43) (hx1.symm.trans hw_91) (by decide)) (by decide) (fun q9 => absurd q9.1 (by decide)) rfl).1)
        have hsp4 : scK (gtb tb) ts th (43) := (sg_1 hth hnl hnd9 (gb_nI (q := 43) (hx1.symm.trans hw_91) (by decide)) (by decide) (fun q9 => absurd q9.1 (by decide)) rfl).2
        exact W.iret (v := 43) hx hb hr (fun t ht hW => ⟨⟨43, ixn [(th + 1), 43], rfl, ⟨rfl, ⟨hsp0, hsp1, hsp2, hsp3, hsp4⟩⟩, ⟨s_amount, hex0, hex1, by rw [ht]; exact hP9, hD9⟩⟩, hS.F ht⟩) hS.2.2 d_Tokens_sign_254
      by_cases hw_92 : x1 = 45
      · refine W.eq (g2 := F0 m 42 ls [.int 45]) (by rw [hw_92]) ?_
        refine lv_lookup (off := 211) (tgt := 253) hx hb d_Tokens_sign_42 (by decide) (by decide) (by decide) ?_
        refine lv_iload_n hx hb d_Tokens_sign_253 rfl (lv_at hl1 2 rfl) ?_
        refine W.eq (g2 := F0 m 254 ls [.int 45]) (by rw [hw_92]) ?_
        rw [← hQe]
        obtain ⟨hP9, hD9⟩ := xw_sub2 (wc := (fun (u : Nat → Nat) (xam : Int32) => [(k0, .inr (9, [.ref k1, .ref k2, .int (nI ts), .int (nI (u 0)), .int s_at, .int s_fault, .int s_next, .int xam])), (k1, .inl (ax 1, 400, .inl tb)), (k2, .inl (ax 0, 401, .inl (fun j => nI (tk j))))]) (ixn [(th + 1), 45]) s_amount) hP hD [0, 1, 2] (by decide) rfl
        have hex0 : sco (45) s_amount := (sco_o (by first | assumption | omega) (by first | assumption | omega) (by first | assumption | omega) (by first | assumption | omega))
        have hex1 : scV (gtb tb) ts th s_amount := (scV_o (sg_1 hth hnl hnd9 (gb_nI (q := 45) (hx1.symm.trans hw_92) (by decide)) (by decide) (fun q9 => absurd q9.1 (by decide)) rfl).2 (by decide))
        have hsp0 : th ≤ (th + 1) := (by first | assumption | omega)
        have hsp1 : (th + 1) ≤ ts := (by first | assumption | omega)
        have hsp2 : 45 < 128 := (by first | assumption | omega)
        have hsp3 : scE (gtb tb) ts th ((th + 1)) := (by rw [show th + 1 = th + 1 by omega]; exact (sg_1 hth hnl hnd9 (gb_nI (q := 45) (hx1.symm.trans hw_92) (by decide)) (by decide) (fun q9 => absurd q9.1 (by decide)) rfl).1)
        have hsp4 : scK (gtb tb) ts th (45) := (sg_1 hth hnl hnd9 (gb_nI (q := 45) (hx1.symm.trans hw_92) (by decide)) (by decide) (fun q9 => absurd q9.1 (by decide)) rfl).2
        exact W.iret (v := 45) hx hb hr (fun t ht hW => ⟨⟨45, ixn [(th + 1), 45], rfl, ⟨rfl, ⟨hsp0, hsp1, hsp2, hsp3, hsp4⟩⟩, ⟨s_amount, hex0, hex1, by rw [ht]; exact hP9, hD9⟩⟩, hS.F ht⟩) hS.2.2 d_Tokens_sign_254
      by_cases hw_93 : x1 = 58
      · refine W.eq (g2 := F0 m 42 ls [.int 58]) (by rw [hw_93]) ?_
        refine lv_lookup (off := 182) (tgt := 224) hx hb d_Tokens_sign_42 (by decide) (by decide) (by decide) ?_
        refine lv_aload_n hx hb d_Tokens_sign_224 rfl (lv_at hl1 1 rfl) ?_
        refine lv_dup hx hb d_Tokens_sign_225 rfl ?_
        refine va_get (D := D) (ci := 9) (v := .int (nI (th + 1))) (C := R_Tokens) (T := F_Tokens) (N := 8) hx hb hts i_Tokens hown hK.1 hP 0 rfl rfl 3 (by decide) (hts _ wd_43) (fun _ h9 => h9) rfl d_Tokens_sign_226 ?_
        refine lv_iload_n hx hb d_Tokens_sign_229 rfl (lv_at hl1 0 rfl) ?_
        refine lv_if_eq (tgt := 237) hx hb d_Tokens_sign_230 (by decide) (fun c_94 => ?_) (fun c_94 => ?_)
        · first | exact absurd c_94 (by decide) | exact absurd (by decide) c_94
        refine lv_iconst (v := 1) hx hb d_Tokens_sign_233 (by decide) ?_
        refine lv_goto (tgt := 238) hx hb d_Tokens_sign_234 (by decide) ?_
        refine lv_iadd hx hb d_Tokens_sign_238 ?_
        refine lv_topi (fun z_95 ez_95 => ?_)
        have ez_95 : z_95 = nI (th + 2) := ez_95.trans (nI_add (th + 1) 1)
        subst ez_95
        refine va_put (D := D) (ci := 9) (v := .int (nI (th + 2))) (ty := .int) (C := R_Tokens) (T := F_Tokens) (N := 8) hx hb hts i_Tokens t_Tokens t_Tokens_ok n_Tokens hown hK.1 hP hD hS 0 rfl rfl 3 (by decide) (hts _ wd_43) (fun _ h9 => h9) rfl (by decide +kernel) rfl rfl (Nat.le_of_ble_eq_true rfl) d_Tokens_sign_239 (fun H_96 locs hP1 hD1 hS1 => ?_)
        clear hP hD hS
        have hS := hS1
        have hW7 : (fun w9 : va_W => va_P D classes w9 H_96 ∧ va_D A w9) [(k0, .inr (9, [.ref k1, .ref k2, .int (nI ts), .int (nI (th + 2)), .int s_at, .int s_fault, .int s_next, .int s_amount])), (k1, .inl (ax 1, 400, .inl tb)), (k2, .inl (ax 0, 401, .inl (fun j => nI (tk j))))] := ⟨hP1, hD1⟩
        obtain ⟨hP, hD⟩ := hW7
        clear hP1 hD1 hS1
        refine lv_iload_n hx hb d_Tokens_sign_242 rfl (lv_at hl1 0 rfl) ?_
        refine lv_if_eq (tgt := 251) hx hb d_Tokens_sign_243 (by decide) (fun c_97 => ?_) (fun c_97 => ?_)
        · first | exact absurd c_97 (by decide) | exact absurd (by decide) c_97
        refine lv_bipush (v := 6) hx hb d_Tokens_sign_246 (by decide) ?_
        refine lv_goto (tgt := 252) hx hb d_Tokens_sign_248 (by decide) ?_
        rw [← hQe]
        obtain ⟨hP9, hD9⟩ := xw_sub2 (wc := (fun (u : Nat → Nat) (xam : Int32) => [(k0, .inr (9, [.ref k1, .ref k2, .int (nI ts), .int (nI (u 0)), .int s_at, .int s_fault, .int s_next, .int xam])), (k1, .inl (ax 1, 400, .inl tb)), (k2, .inl (ax 0, 401, .inl (fun j => nI (tk j))))]) (ixn [(th + 2), 6]) s_amount) hP hD [0, 1, 2] (by decide) rfl
        have hex0 : sco (6) s_amount := (sco_o (by first | assumption | omega) (by first | assumption | omega) (by first | assumption | omega) (by first | assumption | omega))
        have hex1 : scV (gtb tb) ts th s_amount := (scV_o (sg_2 hth hnl hnd9 (gb_nI (q := 58) (hx1.symm.trans hw_93) (by decide)) (by decide) (gb_61y (by assumption) (by first | assumption | omega)) rfl).2 (by decide))
        have hsp0 : th ≤ (th + 2) := (by first | assumption | omega)
        have hsp1 : (th + 2) ≤ ts := (by first | assumption | omega)
        have hsp2 : 6 < 128 := (by first | assumption | omega)
        have hsp3 : scE (gtb tb) ts th ((th + 2)) := (by rw [show th + 2 = th + 2 by omega]; exact (sg_2 hth hnl hnd9 (gb_nI (q := 58) (hx1.symm.trans hw_93) (by decide)) (by decide) (gb_61y (by assumption) (by first | assumption | omega)) rfl).1)
        have hsp4 : scK (gtb tb) ts th (6) := (sg_2 hth hnl hnd9 (gb_nI (q := 58) (hx1.symm.trans hw_93) (by decide)) (by decide) (gb_61y (by assumption) (by first | assumption | omega)) rfl).2
        exact W.iret (v := 6) hx hb hr (fun t ht hW => ⟨⟨6, ixn [(th + 2), 6], rfl, ⟨rfl, ⟨hsp0, hsp1, hsp2, hsp3, hsp4⟩⟩, ⟨s_amount, hex0, hex1, by rw [ht]; exact hP9, hD9⟩⟩, hS.F ht⟩) hS.2.2 d_Tokens_sign_252
      by_cases hw_98 : x1 = 59
      · refine W.eq (g2 := F0 m 42 ls [.int 59]) (by rw [hw_98]) ?_
        refine lv_lookup (off := 211) (tgt := 253) hx hb d_Tokens_sign_42 (by decide) (by decide) (by decide) ?_
        refine lv_iload_n hx hb d_Tokens_sign_253 rfl (lv_at hl1 2 rfl) ?_
        refine W.eq (g2 := F0 m 254 ls [.int 59]) (by rw [hw_98]) ?_
        rw [← hQe]
        obtain ⟨hP9, hD9⟩ := xw_sub2 (wc := (fun (u : Nat → Nat) (xam : Int32) => [(k0, .inr (9, [.ref k1, .ref k2, .int (nI ts), .int (nI (u 0)), .int s_at, .int s_fault, .int s_next, .int xam])), (k1, .inl (ax 1, 400, .inl tb)), (k2, .inl (ax 0, 401, .inl (fun j => nI (tk j))))]) (ixn [(th + 1), 59]) s_amount) hP hD [0, 1, 2] (by decide) rfl
        have hex0 : sco (59) s_amount := (sco_o (by first | assumption | omega) (by first | assumption | omega) (by first | assumption | omega) (by first | assumption | omega))
        have hex1 : scV (gtb tb) ts th s_amount := (scV_o (sg_1 hth hnl hnd9 (gb_nI (q := 59) (hx1.symm.trans hw_98) (by decide)) (by decide) (fun q9 => absurd q9.1 (by decide)) rfl).2 (by decide))
        have hsp0 : th ≤ (th + 1) := (by first | assumption | omega)
        have hsp1 : (th + 1) ≤ ts := (by first | assumption | omega)
        have hsp2 : 59 < 128 := (by first | assumption | omega)
        have hsp3 : scE (gtb tb) ts th ((th + 1)) := (by rw [show th + 1 = th + 1 by omega]; exact (sg_1 hth hnl hnd9 (gb_nI (q := 59) (hx1.symm.trans hw_98) (by decide)) (by decide) (fun q9 => absurd q9.1 (by decide)) rfl).1)
        have hsp4 : scK (gtb tb) ts th (59) := (sg_1 hth hnl hnd9 (gb_nI (q := 59) (hx1.symm.trans hw_98) (by decide)) (by decide) (fun q9 => absurd q9.1 (by decide)) rfl).2
        exact W.iret (v := 59) hx hb hr (fun t ht hW => ⟨⟨59, ixn [(th + 1), 59], rfl, ⟨rfl, ⟨hsp0, hsp1, hsp2, hsp3, hsp4⟩⟩, ⟨s_amount, hex0, hex1, by rw [ht]; exact hP9, hD9⟩⟩, hS.F ht⟩) hS.2.2 d_Tokens_sign_254
      by_cases hw_99 : x1 = 60
      · refine W.eq (g2 := F0 m 42 ls [.int 60]) (by rw [hw_99]) ?_
        refine lv_lookup (off := 152) (tgt := 194) hx hb d_Tokens_sign_42 (by decide) (by decide) (by decide) ?_
        refine lv_aload_n hx hb d_Tokens_sign_194 rfl (lv_at hl1 1 rfl) ?_
        refine lv_iload_n hx hb d_Tokens_sign_195 rfl (lv_at hl1 0 rfl) ?_
        refine lv_if_eq (tgt := 203) hx hb d_Tokens_sign_196 (by decide) (fun c_100 => ?_) (fun c_100 => ?_)
        · first | exact absurd c_100 (by decide) | exact absurd (by decide) c_100
        refine lv_iconst (v := 2) hx hb d_Tokens_sign_199 (by decide) ?_
        refine lv_goto (tgt := 204) hx hb d_Tokens_sign_200 (by decide) ?_
        refine lv_iload_n hx hb d_Tokens_sign_204 rfl (lv_at hl1 0 rfl) ?_
        obtain ⟨hPc, hDc, hFc, hCs⟩ := xw_sub3 (wc := [(k0, .inr (9, [.ref k1, .ref k2, .int (nI ts), .int (nI (th + 1)), .int s_at, .int s_fault, .int s_next, .int s_amount])), (k1, .inl (ax 1, 400, .inl tb)), (k2, .inl (ax 0, 401, .inl (fun j => nI (tk j))))]) hP hD hS hA [0, 1, 2] (by decide) rfl
        have hz := xz_of hN hS
        refine va_calli (va_runV (As := [.int 2, .int 1]) (rest := []) ⟨hx, hb, hml, hown, hts⟩ (c_T_comparison l D ax k0 k1 k2 ts (th + 1) s_at s_fault s_next s_amount tb tk 2 1 H_2.size (by first | assumption | omega) (by first | assumption | omega) (by first | assumption | omega)) (xcV (n := 2) hts wd_527 wd_2 wd_524 wd_526 ps_6 rfl rfl (by decide +kernel) ⟨Nat.le_of_ble_eq_true rfl, Nat.le_of_ble_eq_true rfl⟩) (xpV (ci := 9) (q0 := 0) (As := [.int 2, .int 1]) hPc hK hz hDc rfl rfl) rfl rfl hl1.1 rfl (lv_room (Nat.le_of_ble_eq_true rfl)) d_Tokens_sign_205 ⟨Nat.le_of_ble_eq_true rfl, Nat.le_of_ble_eq_true rfl⟩) hS (fun q _ h => hFc q h) hFc (fun r_103 u_101 t H_102 locs ht hvm hw hB hz1 hk1 hS1 => ?_)
        try dsimp only at hw
        obtain ⟨hw, hs_104⟩ := hw
        subst hw
        obtain ⟨hP1, hD1⟩ := hB
        rw [ht] at hP1
        have hjn := xw_join3 (wl := [(k0, .inr (9, [.ref k1, .ref k2, .int (nI ts), .int (nI (u_101 0)), .int s_at, .int s_fault, .int s_next, .int (nI 2)])), (k1, .inl (ax 1, 400, .inl tb)), (k2, .inl (ax 0, 401, .inl (fun j => nI (tk j))))]) hP hD [0, 1, 2] [] hCs (by decide) (by decide) hk1 hFc hP1 hD1 rfl
        clear hP1 hD1
        clear hPc hDc hFc hCs hz hz1 hk1 ht hvm
        clear hP hD hS
        have hS := hS1
        obtain ⟨hP, hD⟩ := hjn
        clear hS1
        rw [← hQe]
        obtain ⟨hP9, hD9⟩ := xw_sub2 (wc := (fun (u : Nat → Nat) (xam : Int32) => [(k0, .inr (9, [.ref k1, .ref k2, .int (nI ts), .int (nI (u 0)), .int s_at, .int s_fault, .int s_next, .int xam])), (k1, .inl (ax 1, 400, .inl tb)), (k2, .inl (ax 0, 401, .inl (fun j => nI (tk j))))]) (ixn [(u_101 0), 5]) (nI 2)) hP hD [0, 1, 2] (by decide) rfl
        have hex0 : sco (5) (nI 2) := (sco_c (q := 2) (by decide))
        have hex1 : scV (gtb tb) ts th (nI 2) := (sgv_2 hth hnl hnd9 (gb_nI (q := 60) (hx1.symm.trans hw_99) (by decide)) (by decide) (gb_61y (by assumption) (by first | assumption | omega)) (fun _ => by first | exact (show i2n (nI 0) % 1024 = 0 by decide) | exact (show i2n (nI 1) % 1024 = 1 by decide) | exact (show i2n (nI 2) % 1024 = 2 by decide) | exact (show i2n (nI 3) % 1024 = 3 by decide) | exact (show i2n (nI 4) % 1024 = 4 by decide) | exact (show i2n (nI 5) % 1024 = 5 by decide)))
        have hsp0 : th ≤ (u_101 0) := (by first | assumption | omega)
        have hsp1 : (u_101 0) ≤ ts := (by first | assumption | omega)
        have hsp2 : 5 < 128 := (by first | assumption | omega)
        have hsp3 : scE (gtb tb) ts th ((u_101 0)) := (by rw [show u_101 0 = th + 2 by omega]; exact (sg_2 hth hnl hnd9 (gb_nI (q := 60) (hx1.symm.trans hw_99) (by decide)) (by decide) (gb_61y (by assumption) (by first | assumption | omega)) rfl).1)
        have hsp4 : scK (gtb tb) ts th (5) := (sg_2 hth hnl hnd9 (gb_nI (q := 60) (hx1.symm.trans hw_99) (by decide)) (by decide) (gb_61y (by assumption) (by first | assumption | omega)) rfl).2
        exact W.iret (v := 5) hx hb hr (fun t ht hW => ⟨⟨5, ixn [(u_101 0), 5], rfl, ⟨rfl, ⟨hsp0, hsp1, hsp2, hsp3, hsp4⟩⟩, ⟨nI 2, hex0, hex1, by rw [ht]; exact hP9, hD9⟩⟩, hS.F ht⟩) hS.2.2 d_Tokens_sign_208
      by_cases hw_105 : x1 = 61
      · refine W.eq (g2 := F0 m 42 ls [.int 61]) (by rw [hw_105]) ?_
        refine lv_lookup (off := 138) (tgt := 180) hx hb d_Tokens_sign_42 (by decide) (by decide) (by decide) ?_
        refine lv_aload_n hx hb d_Tokens_sign_180 rfl (lv_at hl1 1 rfl) ?_
        refine lv_iconst (v := 4) hx hb d_Tokens_sign_181 (by decide) ?_
        refine lv_iconst (v := 0) hx hb d_Tokens_sign_182 (by decide) ?_
        obtain ⟨hPc, hDc, hFc, hCs⟩ := xw_sub3 (wc := [(k0, .inr (9, [.ref k1, .ref k2, .int (nI ts), .int (nI (th + 1)), .int s_at, .int s_fault, .int s_next, .int s_amount])), (k1, .inl (ax 1, 400, .inl tb)), (k2, .inl (ax 0, 401, .inl (fun j => nI (tk j))))]) hP hD hS hA [0, 1, 2] (by decide) rfl
        have hz := xz_of hN hS
        refine va_calli (va_runV (As := [.int 4, .int 0]) (rest := []) ⟨hx, hb, hml, hown, hts⟩ (c_T_comparison l D ax k0 k1 k2 ts (th + 1) s_at s_fault s_next s_amount tb tk 4 0 H_2.size (by first | assumption | omega) (by first | assumption | omega) (by first | assumption | omega)) (xcV (n := 2) hts wd_527 wd_2 wd_524 wd_526 ps_6 rfl rfl (by decide +kernel) ⟨Nat.le_of_ble_eq_true rfl, Nat.le_of_ble_eq_true rfl⟩) (xpV (ci := 9) (q0 := 0) (As := [.int 4, .int 0]) hPc hK hz hDc rfl rfl) rfl rfl hl1.1 rfl (lv_room (Nat.le_of_ble_eq_true rfl)) d_Tokens_sign_183 ⟨Nat.le_of_ble_eq_true rfl, Nat.le_of_ble_eq_true rfl⟩) hS (fun q _ h => hFc q h) hFc (fun r_108 u_106 t H_107 locs ht hvm hw hB hz1 hk1 hS1 => ?_)
        try dsimp only at hw
        obtain ⟨hw, hs_109⟩ := hw
        subst hw
        obtain ⟨hP1, hD1⟩ := hB
        rw [ht] at hP1
        have hjn := xw_join3 (wl := [(k0, .inr (9, [.ref k1, .ref k2, .int (nI ts), .int (nI (u_106 0)), .int s_at, .int s_fault, .int s_next, .int (nI 4)])), (k1, .inl (ax 1, 400, .inl tb)), (k2, .inl (ax 0, 401, .inl (fun j => nI (tk j))))]) hP hD [0, 1, 2] [] hCs (by decide) (by decide) hk1 hFc hP1 hD1 rfl
        clear hP1 hD1
        clear hPc hDc hFc hCs hz hz1 hk1 ht hvm
        clear hP hD hS
        have hS := hS1
        obtain ⟨hP, hD⟩ := hjn
        clear hS1
        rw [← hQe]
        obtain ⟨hP9, hD9⟩ := xw_sub2 (wc := (fun (u : Nat → Nat) (xam : Int32) => [(k0, .inr (9, [.ref k1, .ref k2, .int (nI ts), .int (nI (u 0)), .int s_at, .int s_fault, .int s_next, .int xam])), (k1, .inl (ax 1, 400, .inl tb)), (k2, .inl (ax 0, 401, .inl (fun j => nI (tk j))))]) (ixn [(u_106 0), 5]) (nI 4)) hP hD [0, 1, 2] (by decide) rfl
        have hex0 : sco (5) (nI 4) := (sco_c (q := 4) (by decide))
        have hex1 : scV (gtb tb) ts th (nI 4) := (sgv_1 hth hnl hnd9 (gb_nI (q := 61) (hx1.symm.trans hw_105) (by decide)) (by decide) (fun q9 => absurd q9.1 (by decide)) (fun _ => by first | exact (show i2n (nI 0) % 1024 = 0 by decide) | exact (show i2n (nI 1) % 1024 = 1 by decide) | exact (show i2n (nI 2) % 1024 = 2 by decide) | exact (show i2n (nI 3) % 1024 = 3 by decide) | exact (show i2n (nI 4) % 1024 = 4 by decide) | exact (show i2n (nI 5) % 1024 = 5 by decide)))
        have hsp0 : th ≤ (u_106 0) := (by first | assumption | omega)
        have hsp1 : (u_106 0) ≤ ts := (by first | assumption | omega)
        have hsp2 : 5 < 128 := (by first | assumption | omega)
        have hsp3 : scE (gtb tb) ts th ((u_106 0)) := (by rw [show u_106 0 = th + 1 by omega]; exact (sg_1 hth hnl hnd9 (gb_nI (q := 61) (hx1.symm.trans hw_105) (by decide)) (by decide) (fun q9 => absurd q9.1 (by decide)) rfl).1)
        have hsp4 : scK (gtb tb) ts th (5) := (sg_1 hth hnl hnd9 (gb_nI (q := 61) (hx1.symm.trans hw_105) (by decide)) (by decide) (fun q9 => absurd q9.1 (by decide)) rfl).2
        exact W.iret (v := 5) hx hb hr (fun t ht hW => ⟨⟨5, ixn [(u_106 0), 5], rfl, ⟨rfl, ⟨hsp0, hsp1, hsp2, hsp3, hsp4⟩⟩, ⟨nI 4, hex0, hex1, by rw [ht]; exact hP9, hD9⟩⟩, hS.F ht⟩) hS.2.2 d_Tokens_sign_186
      by_cases hw_110 : x1 = 62
      · refine W.eq (g2 := F0 m 42 ls [.int 62]) (by rw [hw_110]) ?_
        refine lv_lookup (off := 167) (tgt := 209) hx hb d_Tokens_sign_42 (by decide) (by decide) (by decide) ?_
        refine lv_aload_n hx hb d_Tokens_sign_209 rfl (lv_at hl1 1 rfl) ?_
        refine lv_iload_n hx hb d_Tokens_sign_210 rfl (lv_at hl1 0 rfl) ?_
        refine lv_if_eq (tgt := 218) hx hb d_Tokens_sign_211 (by decide) (fun c_111 => ?_) (fun c_111 => ?_)
        · first | exact absurd c_111 (by decide) | exact absurd (by decide) c_111
        refine lv_iconst (v := 1) hx hb d_Tokens_sign_214 (by decide) ?_
        refine lv_goto (tgt := 219) hx hb d_Tokens_sign_215 (by decide) ?_
        refine lv_iload_n hx hb d_Tokens_sign_219 rfl (lv_at hl1 0 rfl) ?_
        obtain ⟨hPc, hDc, hFc, hCs⟩ := xw_sub3 (wc := [(k0, .inr (9, [.ref k1, .ref k2, .int (nI ts), .int (nI (th + 1)), .int s_at, .int s_fault, .int s_next, .int s_amount])), (k1, .inl (ax 1, 400, .inl tb)), (k2, .inl (ax 0, 401, .inl (fun j => nI (tk j))))]) hP hD hS hA [0, 1, 2] (by decide) rfl
        have hz := xz_of hN hS
        refine va_calli (va_runV (As := [.int 1, .int 1]) (rest := []) ⟨hx, hb, hml, hown, hts⟩ (c_T_comparison l D ax k0 k1 k2 ts (th + 1) s_at s_fault s_next s_amount tb tk 1 1 H_2.size (by first | assumption | omega) (by first | assumption | omega) (by first | assumption | omega)) (xcV (n := 2) hts wd_527 wd_2 wd_524 wd_526 ps_6 rfl rfl (by decide +kernel) ⟨Nat.le_of_ble_eq_true rfl, Nat.le_of_ble_eq_true rfl⟩) (xpV (ci := 9) (q0 := 0) (As := [.int 1, .int 1]) hPc hK hz hDc rfl rfl) rfl rfl hl1.1 rfl (lv_room (Nat.le_of_ble_eq_true rfl)) d_Tokens_sign_220 ⟨Nat.le_of_ble_eq_true rfl, Nat.le_of_ble_eq_true rfl⟩) hS (fun q _ h => hFc q h) hFc (fun r_114 u_112 t H_113 locs ht hvm hw hB hz1 hk1 hS1 => ?_)
        try dsimp only at hw
        obtain ⟨hw, hs_115⟩ := hw
        subst hw
        obtain ⟨hP1, hD1⟩ := hB
        rw [ht] at hP1
        have hjn := xw_join3 (wl := [(k0, .inr (9, [.ref k1, .ref k2, .int (nI ts), .int (nI (u_112 0)), .int s_at, .int s_fault, .int s_next, .int (nI 1)])), (k1, .inl (ax 1, 400, .inl tb)), (k2, .inl (ax 0, 401, .inl (fun j => nI (tk j))))]) hP hD [0, 1, 2] [] hCs (by decide) (by decide) hk1 hFc hP1 hD1 rfl
        clear hP1 hD1
        clear hPc hDc hFc hCs hz hz1 hk1 ht hvm
        clear hP hD hS
        have hS := hS1
        obtain ⟨hP, hD⟩ := hjn
        clear hS1
        rw [← hQe]
        obtain ⟨hP9, hD9⟩ := xw_sub2 (wc := (fun (u : Nat → Nat) (xam : Int32) => [(k0, .inr (9, [.ref k1, .ref k2, .int (nI ts), .int (nI (u 0)), .int s_at, .int s_fault, .int s_next, .int xam])), (k1, .inl (ax 1, 400, .inl tb)), (k2, .inl (ax 0, 401, .inl (fun j => nI (tk j))))]) (ixn [(u_112 0), 5]) (nI 1)) hP hD [0, 1, 2] (by decide) rfl
        have hex0 : sco (5) (nI 1) := (sco_c (q := 1) (by decide))
        have hex1 : scV (gtb tb) ts th (nI 1) := (sgv_2 hth hnl hnd9 (gb_nI (q := 62) (hx1.symm.trans hw_110) (by decide)) (by decide) (gb_61y (by assumption) (by first | assumption | omega)) (fun _ => by first | exact (show i2n (nI 0) % 1024 = 0 by decide) | exact (show i2n (nI 1) % 1024 = 1 by decide) | exact (show i2n (nI 2) % 1024 = 2 by decide) | exact (show i2n (nI 3) % 1024 = 3 by decide) | exact (show i2n (nI 4) % 1024 = 4 by decide) | exact (show i2n (nI 5) % 1024 = 5 by decide)))
        have hsp0 : th ≤ (u_112 0) := (by first | assumption | omega)
        have hsp1 : (u_112 0) ≤ ts := (by first | assumption | omega)
        have hsp2 : 5 < 128 := (by first | assumption | omega)
        have hsp3 : scE (gtb tb) ts th ((u_112 0)) := (by rw [show u_112 0 = th + 2 by omega]; exact (sg_2 hth hnl hnd9 (gb_nI (q := 62) (hx1.symm.trans hw_110) (by decide)) (by decide) (gb_61y (by assumption) (by first | assumption | omega)) rfl).1)
        have hsp4 : scK (gtb tb) ts th (5) := (sg_2 hth hnl hnd9 (gb_nI (q := 62) (hx1.symm.trans hw_110) (by decide)) (by decide) (gb_61y (by assumption) (by first | assumption | omega)) rfl).2
        exact W.iret (v := 5) hx hb hr (fun t ht hW => ⟨⟨5, ixn [(u_112 0), 5], rfl, ⟨rfl, ⟨hsp0, hsp1, hsp2, hsp3, hsp4⟩⟩, ⟨nI 1, hex0, hex1, by rw [ht]; exact hP9, hD9⟩⟩, hS.F ht⟩) hS.2.2 d_Tokens_sign_223
      by_cases hw_116 : x1 = 123
      · refine W.eq (g2 := F0 m 42 ls [.int 123]) (by rw [hw_116]) ?_
        refine lv_lookup (off := 211) (tgt := 253) hx hb d_Tokens_sign_42 (by decide) (by decide) (by decide) ?_
        refine lv_iload_n hx hb d_Tokens_sign_253 rfl (lv_at hl1 2 rfl) ?_
        refine W.eq (g2 := F0 m 254 ls [.int 123]) (by rw [hw_116]) ?_
        rw [← hQe]
        obtain ⟨hP9, hD9⟩ := xw_sub2 (wc := (fun (u : Nat → Nat) (xam : Int32) => [(k0, .inr (9, [.ref k1, .ref k2, .int (nI ts), .int (nI (u 0)), .int s_at, .int s_fault, .int s_next, .int xam])), (k1, .inl (ax 1, 400, .inl tb)), (k2, .inl (ax 0, 401, .inl (fun j => nI (tk j))))]) (ixn [(th + 1), 123]) s_amount) hP hD [0, 1, 2] (by decide) rfl
        have hex0 : sco (123) s_amount := (sco_o (by first | assumption | omega) (by first | assumption | omega) (by first | assumption | omega) (by first | assumption | omega))
        have hex1 : scV (gtb tb) ts th s_amount := (scV_o (sg_1 hth hnl hnd9 (gb_nI (q := 123) (hx1.symm.trans hw_116) (by decide)) (by decide) (fun q9 => absurd q9.1 (by decide)) rfl).2 (by decide))
        have hsp0 : th ≤ (th + 1) := (by first | assumption | omega)
        have hsp1 : (th + 1) ≤ ts := (by first | assumption | omega)
        have hsp2 : 123 < 128 := (by first | assumption | omega)
        have hsp3 : scE (gtb tb) ts th ((th + 1)) := (by rw [show th + 1 = th + 1 by omega]; exact (sg_1 hth hnl hnd9 (gb_nI (q := 123) (hx1.symm.trans hw_116) (by decide)) (by decide) (fun q9 => absurd q9.1 (by decide)) rfl).1)
        have hsp4 : scK (gtb tb) ts th (123) := (sg_1 hth hnl hnd9 (gb_nI (q := 123) (hx1.symm.trans hw_116) (by decide)) (by decide) (fun q9 => absurd q9.1 (by decide)) rfl).2
        exact W.iret (v := 123) hx hb hr (fun t ht hW => ⟨⟨123, ixn [(th + 1), 123], rfl, ⟨rfl, ⟨hsp0, hsp1, hsp2, hsp3, hsp4⟩⟩, ⟨s_amount, hex0, hex1, by rw [ht]; exact hP9, hD9⟩⟩, hS.F ht⟩) hS.2.2 d_Tokens_sign_254
      by_cases hw_117 : x1 = 124
      · refine W.eq (g2 := F0 m 42 ls [.int 124]) (by rw [hw_117]) ?_
        refine lv_lookup (off := 211) (tgt := 253) hx hb d_Tokens_sign_42 (by decide) (by decide) (by decide) ?_
        refine lv_iload_n hx hb d_Tokens_sign_253 rfl (lv_at hl1 2 rfl) ?_
        refine W.eq (g2 := F0 m 254 ls [.int 124]) (by rw [hw_117]) ?_
        rw [← hQe]
        obtain ⟨hP9, hD9⟩ := xw_sub2 (wc := (fun (u : Nat → Nat) (xam : Int32) => [(k0, .inr (9, [.ref k1, .ref k2, .int (nI ts), .int (nI (u 0)), .int s_at, .int s_fault, .int s_next, .int xam])), (k1, .inl (ax 1, 400, .inl tb)), (k2, .inl (ax 0, 401, .inl (fun j => nI (tk j))))]) (ixn [(th + 1), 124]) s_amount) hP hD [0, 1, 2] (by decide) rfl
        have hex0 : sco (124) s_amount := (sco_o (by first | assumption | omega) (by first | assumption | omega) (by first | assumption | omega) (by first | assumption | omega))
        have hex1 : scV (gtb tb) ts th s_amount := (scV_o (sg_1 hth hnl hnd9 (gb_nI (q := 124) (hx1.symm.trans hw_117) (by decide)) (by decide) (fun q9 => absurd q9.1 (by decide)) rfl).2 (by decide))
        have hsp0 : th ≤ (th + 1) := (by first | assumption | omega)
        have hsp1 : (th + 1) ≤ ts := (by first | assumption | omega)
        have hsp2 : 124 < 128 := (by first | assumption | omega)
        have hsp3 : scE (gtb tb) ts th ((th + 1)) := (by rw [show th + 1 = th + 1 by omega]; exact (sg_1 hth hnl hnd9 (gb_nI (q := 124) (hx1.symm.trans hw_117) (by decide)) (by decide) (fun q9 => absurd q9.1 (by decide)) rfl).1)
        have hsp4 : scK (gtb tb) ts th (124) := (sg_1 hth hnl hnd9 (gb_nI (q := 124) (hx1.symm.trans hw_117) (by decide)) (by decide) (fun q9 => absurd q9.1 (by decide)) rfl).2
        exact W.iret (v := 124) hx hb hr (fun t ht hW => ⟨⟨124, ixn [(th + 1), 124], rfl, ⟨rfl, ⟨hsp0, hsp1, hsp2, hsp3, hsp4⟩⟩, ⟨s_amount, hex0, hex1, by rw [ht]; exact hP9, hD9⟩⟩, hS.F ht⟩) hS.2.2 d_Tokens_sign_254
      by_cases hw_118 : x1 = 125
      · refine W.eq (g2 := F0 m 42 ls [.int 125]) (by rw [hw_118]) ?_
        refine lv_lookup (off := 211) (tgt := 253) hx hb d_Tokens_sign_42 (by decide) (by decide) (by decide) ?_
        refine lv_iload_n hx hb d_Tokens_sign_253 rfl (lv_at hl1 2 rfl) ?_
        refine W.eq (g2 := F0 m 254 ls [.int 125]) (by rw [hw_118]) ?_
        rw [← hQe]
        obtain ⟨hP9, hD9⟩ := xw_sub2 (wc := (fun (u : Nat → Nat) (xam : Int32) => [(k0, .inr (9, [.ref k1, .ref k2, .int (nI ts), .int (nI (u 0)), .int s_at, .int s_fault, .int s_next, .int xam])), (k1, .inl (ax 1, 400, .inl tb)), (k2, .inl (ax 0, 401, .inl (fun j => nI (tk j))))]) (ixn [(th + 1), 125]) s_amount) hP hD [0, 1, 2] (by decide) rfl
        have hex0 : sco (125) s_amount := (sco_o (by first | assumption | omega) (by first | assumption | omega) (by first | assumption | omega) (by first | assumption | omega))
        have hex1 : scV (gtb tb) ts th s_amount := (scV_o (sg_1 hth hnl hnd9 (gb_nI (q := 125) (hx1.symm.trans hw_118) (by decide)) (by decide) (fun q9 => absurd q9.1 (by decide)) rfl).2 (by decide))
        have hsp0 : th ≤ (th + 1) := (by first | assumption | omega)
        have hsp1 : (th + 1) ≤ ts := (by first | assumption | omega)
        have hsp2 : 125 < 128 := (by first | assumption | omega)
        have hsp3 : scE (gtb tb) ts th ((th + 1)) := (by rw [show th + 1 = th + 1 by omega]; exact (sg_1 hth hnl hnd9 (gb_nI (q := 125) (hx1.symm.trans hw_118) (by decide)) (by decide) (fun q9 => absurd q9.1 (by decide)) rfl).1)
        have hsp4 : scK (gtb tb) ts th (125) := (sg_1 hth hnl hnd9 (gb_nI (q := 125) (hx1.symm.trans hw_118) (by decide)) (by decide) (fun q9 => absurd q9.1 (by decide)) rfl).2
        exact W.iret (v := 125) hx hb hr (fun t ht hW => ⟨⟨125, ixn [(th + 1), 125], rfl, ⟨rfl, ⟨hsp0, hsp1, hsp2, hsp3, hsp4⟩⟩, ⟨s_amount, hex0, hex1, by rw [ht]; exact hP9, hD9⟩⟩, hS.F ht⟩) hS.2.2 d_Tokens_sign_254
      replace hw_81 : ¬ Int32.toInt x1 = 32 := fun q9 => hw_81 (Int32.toInt_inj.mp (q9.trans (by decide)))
      replace hw_82 : ¬ Int32.toInt x1 = 33 := fun q9 => hw_82 (Int32.toInt_inj.mp (q9.trans (by decide)))
      replace hw_83 : ¬ Int32.toInt x1 = 35 := fun q9 => hw_83 (Int32.toInt_inj.mp (q9.trans (by decide)))
      replace hw_88 : ¬ Int32.toInt x1 = 38 := fun q9 => hw_88 (Int32.toInt_inj.mp (q9.trans (by decide)))
      replace hw_89 : ¬ Int32.toInt x1 = 40 := fun q9 => hw_89 (Int32.toInt_inj.mp (q9.trans (by decide)))
      replace hw_90 : ¬ Int32.toInt x1 = 41 := fun q9 => hw_90 (Int32.toInt_inj.mp (q9.trans (by decide)))
      replace hw_91 : ¬ Int32.toInt x1 = 43 := fun q9 => hw_91 (Int32.toInt_inj.mp (q9.trans (by decide)))
      replace hw_92 : ¬ Int32.toInt x1 = 45 := fun q9 => hw_92 (Int32.toInt_inj.mp (q9.trans (by decide)))
      replace hw_93 : ¬ Int32.toInt x1 = 58 := fun q9 => hw_93 (Int32.toInt_inj.mp (q9.trans (by decide)))
      replace hw_98 : ¬ Int32.toInt x1 = 59 := fun q9 => hw_98 (Int32.toInt_inj.mp (q9.trans (by decide)))
      replace hw_99 : ¬ Int32.toInt x1 = 60 := fun q9 => hw_99 (Int32.toInt_inj.mp (q9.trans (by decide)))
      replace hw_105 : ¬ Int32.toInt x1 = 61 := fun q9 => hw_105 (Int32.toInt_inj.mp (q9.trans (by decide)))
      replace hw_110 : ¬ Int32.toInt x1 = 62 := fun q9 => hw_110 (Int32.toInt_inj.mp (q9.trans (by decide)))
      replace hw_116 : ¬ Int32.toInt x1 = 123 := fun q9 => hw_116 (Int32.toInt_inj.mp (q9.trans (by decide)))
      replace hw_117 : ¬ Int32.toInt x1 = 124 := fun q9 => hw_117 (Int32.toInt_inj.mp (q9.trans (by decide)))
      replace hw_118 : ¬ Int32.toInt x1 = 125 := fun q9 => hw_118 (Int32.toInt_inj.mp (q9.trans (by decide)))
      refine lv_lookup (off := 213) (tgt := 255) hx hb d_Tokens_sign_42 (by decide) (by exact sw_no (by simp; omega)) (by decide) ?_
      refine lv_iconst (v := 1) hx hb d_Tokens_sign_255 (by decide) ?_
      rw [← hQe]
      obtain ⟨hP9, hD9⟩ := xw_sub2 (wc := (fun (u : Nat → Nat) (xam : Int32) => [(k0, .inr (9, [.ref k1, .ref k2, .int (nI ts), .int (nI (u 0)), .int s_at, .int s_fault, .int s_next, .int xam])), (k1, .inl (ax 1, 400, .inl tb)), (k2, .inl (ax 0, 401, .inl (fun j => nI (tk j))))]) (ixn [(th + 1), 1]) s_amount) hP hD [0, 1, 2] (by decide) rfl
      have hex0 : sco (1) s_amount := (sco_o (by first | assumption | omega) (by first | assumption | omega) (by first | assumption | omega) (by first | assumption | omega))
      have hex1 : scV (gtb tb) ts th s_amount := (scV_o (sg_b hth hnl hnd9 (gb_ne (q := 32) hbt (by first | assumption | omega) hx1 (by decide) hw_81) (fun q9 => by have n60 := (gb_ne (q := 60) hbt (by first | assumption | omega) hx1 (by decide) hw_99); have n62 := (gb_ne (q := 62) hbt (by first | assumption | omega) hx1 (by decide) hw_110); have n61 := (gb_ne (q := 61) hbt (by first | assumption | omega) hx1 (by decide) hw_105); have n35 := (gb_ne (q := 35) hbt (by first | assumption | omega) hx1 (by decide) hw_83); have n38 := (gb_ne (q := 38) hbt (by first | assumption | omega) hx1 (by decide) hw_88); have n124 := (gb_ne (q := 124) hbt (by first | assumption | omega) hx1 (by decide) hw_117); have n33 := (gb_ne (q := 33) hbt (by first | assumption | omega) hx1 (by decide) hw_82); have n40 := (gb_ne (q := 40) hbt (by first | assumption | omega) hx1 (by decide) hw_89); have n41 := (gb_ne (q := 41) hbt (by first | assumption | omega) hx1 (by decide) hw_90); have n123 := (gb_ne (q := 123) hbt (by first | assumption | omega) hx1 (by decide) hw_116); have n125 := (gb_ne (q := 125) hbt (by first | assumption | omega) hx1 (by decide) hw_118); have n59 := (gb_ne (q := 59) hbt (by first | assumption | omega) hx1 (by decide) hw_98); have n43 := (gb_ne (q := 43) hbt (by first | assumption | omega) hx1 (by decide) hw_91); have n45 := (gb_ne (q := 45) hbt (by first | assumption | omega) hx1 (by decide) hw_92); omega) (fun q9 => (gb_ne (q := 58) hbt (by first | assumption | omega) hx1 (by decide) hw_93) q9.1)).2 (by decide))
      have hsp0 : th ≤ (th + 1) := (by first | assumption | omega)
      have hsp1 : (th + 1) ≤ ts := (by first | assumption | omega)
      have hsp2 : 1 < 128 := (by first | assumption | omega)
      have hsp3 : scE (gtb tb) ts th ((th + 1)) := (by rw [show th + 1 = th + 1 by omega]; exact (sg_b hth hnl hnd9 (gb_ne (q := 32) hbt (by first | assumption | omega) hx1 (by decide) hw_81) (fun q9 => by have n60 := (gb_ne (q := 60) hbt (by first | assumption | omega) hx1 (by decide) hw_99); have n62 := (gb_ne (q := 62) hbt (by first | assumption | omega) hx1 (by decide) hw_110); have n61 := (gb_ne (q := 61) hbt (by first | assumption | omega) hx1 (by decide) hw_105); have n35 := (gb_ne (q := 35) hbt (by first | assumption | omega) hx1 (by decide) hw_83); have n38 := (gb_ne (q := 38) hbt (by first | assumption | omega) hx1 (by decide) hw_88); have n124 := (gb_ne (q := 124) hbt (by first | assumption | omega) hx1 (by decide) hw_117); have n33 := (gb_ne (q := 33) hbt (by first | assumption | omega) hx1 (by decide) hw_82); have n40 := (gb_ne (q := 40) hbt (by first | assumption | omega) hx1 (by decide) hw_89); have n41 := (gb_ne (q := 41) hbt (by first | assumption | omega) hx1 (by decide) hw_90); have n123 := (gb_ne (q := 123) hbt (by first | assumption | omega) hx1 (by decide) hw_116); have n125 := (gb_ne (q := 125) hbt (by first | assumption | omega) hx1 (by decide) hw_118); have n59 := (gb_ne (q := 59) hbt (by first | assumption | omega) hx1 (by decide) hw_98); have n43 := (gb_ne (q := 43) hbt (by first | assumption | omega) hx1 (by decide) hw_91); have n45 := (gb_ne (q := 45) hbt (by first | assumption | omega) hx1 (by decide) hw_92); omega) (fun q9 => (gb_ne (q := 58) hbt (by first | assumption | omega) hx1 (by decide) hw_93) q9.1)).1)
      have hsp4 : scK (gtb tb) ts th (1) := (sg_b hth hnl hnd9 (gb_ne (q := 32) hbt (by first | assumption | omega) hx1 (by decide) hw_81) (fun q9 => by have n60 := (gb_ne (q := 60) hbt (by first | assumption | omega) hx1 (by decide) hw_99); have n62 := (gb_ne (q := 62) hbt (by first | assumption | omega) hx1 (by decide) hw_110); have n61 := (gb_ne (q := 61) hbt (by first | assumption | omega) hx1 (by decide) hw_105); have n35 := (gb_ne (q := 35) hbt (by first | assumption | omega) hx1 (by decide) hw_83); have n38 := (gb_ne (q := 38) hbt (by first | assumption | omega) hx1 (by decide) hw_88); have n124 := (gb_ne (q := 124) hbt (by first | assumption | omega) hx1 (by decide) hw_117); have n33 := (gb_ne (q := 33) hbt (by first | assumption | omega) hx1 (by decide) hw_82); have n40 := (gb_ne (q := 40) hbt (by first | assumption | omega) hx1 (by decide) hw_89); have n41 := (gb_ne (q := 41) hbt (by first | assumption | omega) hx1 (by decide) hw_90); have n123 := (gb_ne (q := 123) hbt (by first | assumption | omega) hx1 (by decide) hw_116); have n125 := (gb_ne (q := 125) hbt (by first | assumption | omega) hx1 (by decide) hw_118); have n59 := (gb_ne (q := 59) hbt (by first | assumption | omega) hx1 (by decide) hw_98); have n43 := (gb_ne (q := 43) hbt (by first | assumption | omega) hx1 (by decide) hw_91); have n45 := (gb_ne (q := 45) hbt (by first | assumption | omega) hx1 (by decide) hw_92); omega) (fun q9 => (gb_ne (q := 58) hbt (by first | assumption | omega) hx1 (by decide) hw_93) q9.1)).2
      exact W.iret (v := 1) hx hb hr (fun t ht hW => ⟨⟨1, ixn [(th + 1), 1], rfl, ⟨rfl, ⟨hsp0, hsp1, hsp2, hsp3, hsp4⟩⟩, ⟨s_amount, hex0, hex1, by rw [ht]; exact hP9, hD9⟩⟩, hS.F ht⟩) hS.2.2 d_Tokens_sign_256
