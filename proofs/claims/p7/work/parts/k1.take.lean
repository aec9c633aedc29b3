theorem wd_268 : ((Jvm.Cond.fieldLink "TripleDesk$Reader" (44 : Nat) "TripleDesk$Listing" "nodes" "LTripleDesk$Nodes;")) ∈ lw_gd := lw_gd_in (i := 268) (by decide +kernel) rfl
theorem wd_431 : ((Jvm.Cond.methodLink "TripleDesk$Reader" (15 : Nat) ({ cls := "TripleDesk$Tokens", name := "takeTape", desc := "()V" } : Jvm.MethodName))) ∈ lw_gd := lw_gd_in (i := 431) (by decide +kernel) rfl
theorem wd_432 : ((Jvm.Cond.instanceMethod ({ cls := "TripleDesk$Tokens", name := "takeTape", desc := "()V" } : Jvm.MethodName))) ∈ lw_gd := lw_gd_in (i := 432) (by decide +kernel) rfl
theorem wd_433 : ((Jvm.Cond.selects "TripleDesk$Tokens" ({ cls := "TripleDesk$Tokens", name := "takeTape", desc := "()V" } : Jvm.MethodName) ({ cls := "TripleDesk$Tokens", name := "takeTape", desc := "()V" } : Jvm.MethodName))) ∈ lw_gd := lw_gd_in (i := 433) (by decide +kernel) rfl
theorem wd_434 : ((Jvm.Cond.code ({ cls := "TripleDesk$Tokens", name := "takeTape", desc := "()V" } : Jvm.MethodName) prog_11_method_3_code (5 : Nat) (Option.none : Option Jvm.ClassFile.FieldType))) ∈ lw_gd := lw_gd_in (i := 434) (by decide +kernel) rfl
theorem wd_532 : ((Jvm.Cond.methodLink "TripleDesk$Reader" (20 : Nat) ({ cls := "TripleDesk$Nodes", name := "clear", desc := "()V" } : Jvm.MethodName))) ∈ lw_gd := lw_gd_in (i := 532) (by decide +kernel) rfl
theorem wd_574 : ((Jvm.Cond.methodLink "TripleDesk$Reader" (33 : Nat) ({ cls := "TripleDesk$Tokens", name := "answer", desc := "()I" } : Jvm.MethodName))) ∈ lw_gd := lw_gd_in (i := 574) (by decide +kernel) rfl
theorem wd_575 : ((Jvm.Cond.instanceMethod ({ cls := "TripleDesk$Tokens", name := "answer", desc := "()I" } : Jvm.MethodName))) ∈ lw_gd := lw_gd_in (i := 575) (by decide +kernel) rfl
theorem wd_576 : ((Jvm.Cond.selects "TripleDesk$Tokens" ({ cls := "TripleDesk$Tokens", name := "answer", desc := "()I" } : Jvm.MethodName) ({ cls := "TripleDesk$Tokens", name := "answer", desc := "()I" } : Jvm.MethodName))) ∈ lw_gd := lw_gd_in (i := 576) (by decide +kernel) rfl
theorem wd_577 : ((Jvm.Cond.code ({ cls := "TripleDesk$Tokens", name := "answer", desc := "()I" } : Jvm.MethodName) prog_11_method_4_code (1 : Nat) (Option.some Jvm.ClassFile.FieldType.int))) ∈ lw_gd := lw_gd_in (i := 577) (by decide +kernel) rfl
theorem wd_605 : ((Jvm.Cond.methodLink "TripleDesk$Reader" (37 : Nat) ({ cls := "TripleDesk$Listing", name := "clear", desc := "()V" } : Jvm.MethodName))) ∈ lw_gd := lw_gd_in (i := 605) (by decide +kernel) rfl
theorem wd_606 : ((Jvm.Cond.instanceMethod ({ cls := "TripleDesk$Listing", name := "clear", desc := "()V" } : Jvm.MethodName))) ∈ lw_gd := lw_gd_in (i := 606) (by decide +kernel) rfl
theorem wd_607 : ((Jvm.Cond.selects "TripleDesk$Listing" ({ cls := "TripleDesk$Listing", name := "clear", desc := "()V" } : Jvm.MethodName) ({ cls := "TripleDesk$Listing", name := "clear", desc := "()V" } : Jvm.MethodName))) ∈ lw_gd := lw_gd_in (i := 607) (by decide +kernel) rfl
theorem wd_608 : ((Jvm.Cond.code ({ cls := "TripleDesk$Listing", name := "clear", desc := "()V" } : Jvm.MethodName) prog_4_method_2_code (1 : Nat) (Option.none : Option Jvm.ClassFile.FieldType))) ∈ lw_gd := lw_gd_in (i := 608) (by decide +kernel) rfl
theorem rst_0 {tk : Nat → Nat} {cn : Nat} (h : tkz tk cn) : rst tk 4294967295 (tk 0 % 128) (tk 0 / 128 % 1024) 0 cn := Or.inl ⟨rfl, tst_of h (Nat.zero_le _), rfl, rfl⟩
theorem nI1_0 {t : Nat} (h : nI (t + 1) = 0) (ht : t < 2 ^ 32) : t = 4294967295 := by
  by_cases e : t = 4294967295
  · exact e
  · exact absurd (nI_inj32 (a := t + 1) (b := 0) h (by omega) (by omega)) (by omega)
theorem rst.lt32 {tk : Nat → Nat} {tf nx am a cn : Nat} (h : rst tk tf nx am a cn) : tf < 2 ^ 32 := by
  rcases h with h | h
  · rw [h.1]; decide
  · have := h.1; omega
abbrev b_Reader_takeCondition : ByteArray := prog_9_method_2_code
def y_Reader_takeCondition : MethodName := ⟨R_Reader, "takeCondition", "(LTripleDesk$Nodes;)I"⟩
theorem d_Reader_takeCondition_0 : decode b_Reader_takeCondition 0 = .ok (.aload_n 0, 1) := by decide +kernel
theorem d_Reader_takeCondition_1 : decode b_Reader_takeCondition 1 = .ok (.getfield 9, 3) := by decide +kernel
theorem d_Reader_takeCondition_4 : decode b_Reader_takeCondition 4 = .ok (.invokevirtual 15, 3) := by decide +kernel
theorem d_Reader_takeCondition_7 : decode b_Reader_takeCondition 7 = .ok (.aload_n 1, 1) := by decide +kernel
theorem d_Reader_takeCondition_8 : decode b_Reader_takeCondition 8 = .ok (.invokevirtual 20, 3) := by decide +kernel
theorem d_Reader_takeCondition_11 : decode b_Reader_takeCondition 11 = .ok (.aload_n 0, 1) := by decide +kernel
theorem d_Reader_takeCondition_12 : decode b_Reader_takeCondition 12 = .ok (.aload_n 1, 1) := by decide +kernel
theorem d_Reader_takeCondition_13 : decode b_Reader_takeCondition 13 = .ok (.putfield 25, 3) := by decide +kernel
theorem d_Reader_takeCondition_16 : decode b_Reader_takeCondition 16 = .ok (.aload_n 0, 1) := by decide +kernel
theorem d_Reader_takeCondition_17 : decode b_Reader_takeCondition 17 = .ok (.iconst 0, 1) := by decide +kernel
theorem d_Reader_takeCondition_18 : decode b_Reader_takeCondition 18 = .ok (.invokevirtual 29, 3) := by decide +kernel
theorem d_Reader_takeCondition_21 : decode b_Reader_takeCondition 21 = .ok (.pop, 1) := by decide +kernel
theorem d_Reader_takeCondition_22 : decode b_Reader_takeCondition 22 = .ok (.aload_n 0, 1) := by decide +kernel
theorem d_Reader_takeCondition_23 : decode b_Reader_takeCondition 23 = .ok (.getfield 9, 3) := by decide +kernel
theorem d_Reader_takeCondition_26 : decode b_Reader_takeCondition 26 = .ok (.invokevirtual 33, 3) := by decide +kernel
theorem d_Reader_takeCondition_29 : decode b_Reader_takeCondition 29 = .ok (.ireturn, 1) := by decide +kernel
set_option maxHeartbeats 40000000 in
set_option maxRecDepth 100000 in
theorem c_R_takeCondition (l : Launch) (D : va_G) (ax : Nat → ClassId) (ad av : Nat → Nat) (fm : Nat) (r0 : Nat) (vl vn : Value) (gh9 at9 : Nat) (k0 k1 k2 : Nat) (s_ahead : Int32) (s_at : Int32) (s_fault : Int32) (s_next : Int32) (s_amount : Int32) (tb : Nat → Int32) (tk : Nat → Nat) (ts : Nat) (n0 n1 n2 n3 cp z9 : Nat) (fo fl fr : Nat → Int32) (sz tz : Nat) (hts4 : ts ≤ 400) (hcp : 8 ≤ cp) (hmx : cp ≤ 1024) (hfo : bts fo cp) (hbt : bts tb 400) : Met l y_Reader_takeCondition (xws (.code y_Reader_takeCondition b_Reader_takeCondition 2 (some .int))) ({ frames := 210, cells := 1024 - cp, slots := 6 * (1024 - cp), locals := 8400 }) (va_Pc [.ref r0, .ref n0] (xo4 D ax ad av fm [(r0, .inr (7, [.ref k0, vl, vn, .int (nI gh9), .int (nI at9)])), (k0, .inr (9, [.ref k1, .ref k2, .int (nI ts), .int s_ahead, .int s_at, .int s_fault, .int s_next, .int s_amount])), (k1, .inl (ax 1, 400, .inl tb)), (k2, .inl (ax 0, 401, .inl (fun j => nI (tk j)))), (n0, .inr (4, [.ref n1, .ref n2, .ref n3, .int (nI z9)])), (n1, .inl (ax 1, cp, .inl fo)), (n2, .inl (ax 0, cp, .inl fl)), (n3, .inl (ax 0, cp, .inl fr))] sz tz)) ((va_Qi (fun (r : Int32) (u : Nat → Nat) => r = nI (u 10) ∧ (u 7 ≤ u 8 ∧ cp ≤ u 8 ∧ u 8 ≤ 1024 ∧ u 11 ≤ 1)) (fun (u : Nat → Nat) (t9 : State) => ∃ xah : Int32, ∃ xat : Int32, ∃ xft : Int32, ∃ xnx : Int32, ∃ xam : Int32, ∃ xtk : Nat → Nat, ∃ xfo : Nat → Int32, ∃ xfl : Nat → Int32, ∃ xfr : Nat → Int32, ∃ xm : List sgT, (t9.heap.size ≤ sz + (u 8 - cp)) ∧ (tsl t9.heap ≤ tz + (6 * (u 8 - cp))) ∧ (bts xfo (u 8)) ∧ (nI (u 10) = 0 → ndv xfo xfl xfr (u 7) ∧ 1 ≤ u 7 ∧ u 7 ≤ 450 ∧ tsn xfo xfl xfr (u 7 - 1) ≤ 450) ∧ (ansL (gtb tb) ts (u 10 % 4294967296) xm) ∧ (nI (u 10) = 0 → ndw xfo xfl xfr (u 7) xm) ∧ va_P D classes [(r0, .inr (7, [.ref k0, vl, .ref n0, .int (nI (u 11)), .int (nI (u 9))])), (k0, .inr (9, [.ref k1, .ref k2, .int 0, .int xah, .int xat, .int xft, .int xnx, .int xam])), (k1, .inl (ax 1, 400, .inl tb)), (k2, .inl (ax 0, 401, .inl (fun j => nI (xtk j)))), (n0, .inr (4, [.ref (u 4), .ref (u 5), .ref (u 6), .int (nI (u 7))])), (u 4, .inl (ax 1, u 8, .inl xfo)), (u 5, .inl (ax 0, u 8, .inl xfl)), (u 6, .inl (ax 0, u 8, .inl xfr))] t9.heap ∧ va_D (va_A [(r0, .inr (7, [.ref k0, vl, vn, .int (nI gh9), .int (nI at9)])), (k0, .inr (9, [.ref k1, .ref k2, .int (nI ts), .int s_ahead, .int s_at, .int s_fault, .int s_next, .int s_amount])), (k1, .inl (ax 1, 400, .inl tb)), (k2, .inl (ax 0, 401, .inl (fun j => nI (tk j)))), (n0, .inr (4, [.ref n1, .ref n2, .ref n3, .int (nI z9)])), (n1, .inl (ax 1, cp, .inl fo)), (n2, .inl (ax 0, cp, .inl fl)), (n3, .inl (ax 0, cp, .inl fr))] sz) [(r0, .inr (7, [.ref k0, vl, .ref n0, .int (nI (u 11)), .int (nI (u 9))])), (k0, .inr (9, [.ref k1, .ref k2, .int 0, .int xah, .int xat, .int xft, .int xnx, .int xam])), (k1, .inl (ax 1, 400, .inl tb)), (k2, .inl (ax 0, 401, .inl (fun j => nI (xtk j)))), (n0, .inr (4, [.ref (u 4), .ref (u 5), .ref (u 6), .int (nI (u 7))])), (u 4, .inl (ax 1, u 8, .inl xfo)), (u 5, .inl (ax 0, u 8, .inl xfl)), (u 6, .inl (ax 0, u 8, .inl xfr))]) (va_A [(r0, .inr (7, [.ref k0, vl, vn, .int (nI gh9), .int (nI at9)])), (k0, .inr (9, [.ref k1, .ref k2, .int (nI ts), .int s_ahead, .int s_at, .int s_fault, .int s_next, .int s_amount])), (k1, .inl (ax 1, 400, .inl tb)), (k2, .inl (ax 0, 401, .inl (fun j => nI (tk j)))), (n0, .inr (4, [.ref n1, .ref n2, .ref n3, .int (nI z9)])), (n1, .inl (ax 1, cp, .inl fo)), (n2, .inl (ax 0, cp, .inl fl)), (n3, .inl (ax 0, cp, .inl fr))] sz))) (1024 - cp) (6 * (1024 - cp)) (va_A [(r0, .inr (7, [.ref k0, vl, vn, .int (nI gh9), .int (nI at9)])), (k0, .inr (9, [.ref k1, .ref k2, .int (nI ts), .int s_ahead, .int s_at, .int s_fault, .int s_next, .int s_amount])), (k1, .inl (ax 1, 400, .inl tb)), (k2, .inl (ax 0, 401, .inl (fun j => nI (tk j)))), (n0, .inr (4, [.ref n1, .ref n2, .ref n3, .int (nI z9)])), (n1, .inl (ax 1, cp, .inl fo)), (n2, .inl (ax 0, cp, .inl fl)), (n3, .inl (ax 0, cp, .inl fr))] sz) := by
  refine Met.ofW (cc := b_Reader_takeCondition) (maxL := 2) (ret := (some .int)) (by decide) rfl ?_
  intro p e s m args below meth c s₁ B hml hv
  obtain ⟨rfl, ⟨⟨hsz, hP, hK, hD0⟩, htz⟩, hX⟩ := hv
  have hx := B.exec
  have hb := B.bytes
  have hr := B.returns
  have hts := xw_hts B.pre
  have hown : s.vm.findClass R_Reader = some m.cls := findClass_of_methodNamed B.named
  have hlocks := B.notSynchronized
  subst hsz
  subst htz
  have hD := hD0.self (sz := s.heap.size)
  have hN := xz_entry hP
  generalize hAe : va_A [(r0, .inr (7, [.ref k0, vl, vn, .int (nI gh9), .int (nI at9)])), (k0, .inr (9, [.ref k1, .ref k2, .int (nI ts), .int s_ahead, .int s_at, .int s_fault, .int s_next, .int s_amount])), (k1, .inl (ax 1, 400, .inl tb)), (k2, .inl (ax 0, 401, .inl (fun j => nI (tk j)))), (n0, .inr (4, [.ref n1, .ref n2, .ref n3, .int (nI z9)])), (n1, .inl (ax 1, cp, .inl fo)), (n2, .inl (ax 0, cp, .inl fl)), (n3, .inl (ax 0, cp, .inl fr))] s.heap.size = A at hD hN hX ⊢
  have hA : ∀ q : Nat, s.heap.size ≤ q → A q := fun q h => by rw [← hAe]; exact Or.inr h
  have hS : va_S A s.heap s.heap [] := va_S.rf
  have hl0 := lv_entry ([.ref r0, .ref n0]) (n := 2) (Nat.le_of_ble_eq_true rfl)
  rw [lg_entry_eq]
  generalize (lg_sl ([.ref r0, .ref n0]) ++ List.replicate (2 - (lg_sl ([.ref r0, .ref n0])).length) Slot.unset).toArray = ls at hl0 ⊢
  have hl1 : lv_has ls 2 [(0, .ref r0), (1, .ref n0)] := hl0
  refine xw_gen (fun Z9 hQe => ?_)
  refine lv_aload_n hx hb d_Reader_takeCondition_0 rfl (lv_at hl1 0 rfl) ?_
  refine va_get (D := D) (ci := 7) (v := .ref k0) (C := R_Reader) (T := F_Reader) (N := 5) hx hb hts i_Reader hown hK.1 hP 0 rfl rfl 0 (by decide) (hts _ wd_75) (fun _ h9 => h9) rfl d_Reader_takeCondition_1 ?_
  obtain ⟨hPc, hDc, hFc, hCs⟩ := xw_sub3 (wc := [(k0, .inr (9, [.ref k1, .ref k2, .int (nI ts), .int s_ahead, .int s_at, .int s_fault, .int s_next, .int s_amount])), (k1, .inl (ax 1, 400, .inl tb)), (k2, .inl (ax 0, 401, .inl (fun j => nI (tk j))))]) hP hD hS hA [1, 2, 3] (by decide) rfl
  have hz := xz_of hN hS
  refine wk_know (fun hk8 hk9 => ?_)
  refine va_callv (va_runV (As := []) (rest := []) ⟨hx, hb, hml, hown, hts⟩ (c_T_takeTape l D ax ad av fm k0 k1 k2 s_ahead s_at s_fault s_next s_amount tb tk ts s.heap.size (tsl s.heap) (by first | assumption | omega) hbt) (xcV (n := 0) hts wd_434 wd_2 wd_431 wd_432 wd_433 rfl rfl (by decide +kernel) ⟨Nat.le_of_ble_eq_true rfl, Nat.le_of_ble_eq_true rfl⟩) (xpV4 (ci := 9) (q0 := 0) (As := []) hX hS hFc hPc hK hz hDc rfl rfl) rfl rfl hl1.1 rfl (lv_room (Nat.le_of_ble_eq_true rfl)) d_Reader_takeCondition_4 ⟨(show (0) + (0) ≤ (1024 - cp) by omega), (show (0) + (0) ≤ (6 * (1024 - cp)) by omega)⟩) hS (fun q _ h => hFc q h) hFc (fun u_1 t H_2 locs ht hvm hw hB hz1 hk1 hS1 => ?_)
  try dsimp only at hw
  have hs_4 := hw
  obtain ⟨x_5, hg8, hg9, hx_6, hP1, hD1⟩ := hB
  rw [ht] at hg8 hg9 hP1
  have hjn := xw_join3 (wl := [(r0, .inr (7, [.ref k0, vl, vn, .int (nI gh9), .int (nI at9)])), (n0, .inr (4, [.ref n1, .ref n2, .ref n3, .int (nI z9)])), (n1, .inl (ax 1, cp, .inl fo)), (n2, .inl (ax 0, cp, .inl fl)), (n3, .inl (ax 0, cp, .inl fr)), (k0, .inr (9, [.ref k1, .ref k2, .int 0, .int (nI (u_1 0)), .int 0, .int (-1), .int (nI (x_5 0 % 128)), .int (nI (x_5 0 / 128 % 1024))])), (k1, .inl (ax 1, 400, .inl tb)), (k2, .inl (ax 0, 401, .inl (fun j => nI (x_5 j))))]) hP hD [1, 2, 3] [0, 4, 5, 6, 7] hCs (by decide) (by decide) hk1 hFc hP1 hD1 rfl
  clear hP1 hD1
  clear hPc hDc hFc hCs hz hz1 hk1 ht hvm
  clear hP hD hS
  have hS := hS1
  obtain ⟨hP, hD⟩ := hjn
  clear hS1
  refine wk_narrow (k := 0) (n := 0) (by first | assumption | omega) (by first | assumption | omega) ?_
  clear hk8 hk9 hg8 hg9
  obtain ⟨cn, hkz, hkr⟩ := hx_6
  have hrs := rst_0 hkz
  have hcn := hkz.1
  rw [← nIm] at hP hD
  have hP7 := hP; have hD7 := hD; clear hP hD
  have hW7 : (fun w9 : va_W => va_P D classes w9 H_2 ∧ va_D A w9) [(r0, .inr (7, [.ref k0, vl, vn, .int (nI gh9), .int (nI at9)])), (n0, .inr (4, [.ref n1, .ref n2, .ref n3, .int (nI z9)])), (n1, .inl (ax 1, cp, .inl fo)), (n2, .inl (ax 0, cp, .inl fl)), (n3, .inl (ax 0, cp, .inl fr)), (k0, .inr (9, [.ref k1, .ref k2, .int 0, .int (nI (u_1 0)), .int 0, .int (nI 4294967295), .int (nI (x_5 0 % 128)), .int (nI (x_5 0 / 128 % 1024))])), (k1, .inl (ax 1, 400, .inl tb)), (k2, .inl (ax 0, 401, .inl (fun j => nI (x_5 j))))] := ⟨hP7, hD7⟩
  obtain ⟨hP, hD⟩ := hW7
  clear hP7 hD7
  refine lv_aload_n hx hb d_Reader_takeCondition_7 rfl (lv_at hl1 1 rfl) ?_
  obtain ⟨hPc, hDc, hFc, hCs⟩ := xw_sub3 (wc := [(n0, .inr (4, [.ref n1, .ref n2, .ref n3, .int (nI z9)])), (n1, .inl (ax 1, cp, .inl fo)), (n2, .inl (ax 0, cp, .inl fl)), (n3, .inl (ax 0, cp, .inl fr))]) hP hD hS hA [1, 2, 3, 4] (by decide) rfl
  have hz := xz_of hN hS
  refine va_callv (va_runV (As := []) (rest := []) ⟨hx, hb, hml, hown, hts⟩ (c_Nodes_clear l D ax n0 n1 n2 n3 cp z9 fo fl fr H_2.size) (xcV (n := 0) hts wd_535 wd_5 wd_532 wd_533 wd_534 rfl rfl (by decide +kernel) ⟨Nat.le_of_ble_eq_true rfl, Nat.le_of_ble_eq_true rfl⟩) (xpV (ci := 4) (q0 := 0) (As := []) hPc hK hz hDc rfl rfl) rfl rfl hl1.1 rfl (lv_room (Nat.le_of_ble_eq_true rfl)) d_Reader_takeCondition_8 ⟨(show (0) + (0) ≤ (1024 - cp) by omega), (show (0) + (0) ≤ (6 * (1024 - cp)) by omega)⟩) hS (fun q _ h => hFc q h) hFc (fun u_7 t H_8 locs ht hvm hw hB hz1 hk1 hS1 => ?_)
  try dsimp only at hw
  obtain ⟨hP1, hD1⟩ := hB
  rw [ht] at hP1
  have hjn := xw_join3 (wl := [(r0, .inr (7, [.ref k0, vl, vn, .int (nI gh9), .int (nI at9)])), (k0, .inr (9, [.ref k1, .ref k2, .int 0, .int (nI (u_1 0)), .int 0, .int (nI 4294967295), .int (nI (x_5 0 % 128)), .int (nI (x_5 0 / 128 % 1024))])), (k1, .inl (ax 1, 400, .inl tb)), (k2, .inl (ax 0, 401, .inl (fun j => nI (x_5 j)))), (n0, .inr (4, [.ref n1, .ref n2, .ref n3, .int 0])), (n1, .inl (ax 1, cp, .inl fo)), (n2, .inl (ax 0, cp, .inl fl)), (n3, .inl (ax 0, cp, .inl fr))]) hP hD [1, 2, 3, 4] [0, 5, 6, 7] hCs (by decide) (by decide) hk1 hFc hP1 hD1 rfl
  clear hP1 hD1
  clear hPc hDc hFc hCs hz hz1 hk1 ht hvm
  clear hP hD hS
  have hS := hS1
  obtain ⟨hP, hD⟩ := hjn
  clear hS1
  refine lv_aload_n hx hb d_Reader_takeCondition_11 rfl (lv_at hl1 0 rfl) ?_
  refine lv_aload_n hx hb d_Reader_takeCondition_12 rfl (lv_at hl1 1 rfl) ?_
  refine va_put (D := D) (ci := 7) (v := .ref n0) (ty := .object "TripleDesk$Nodes") (C := R_Reader) (T := F_Reader) (N := 5) hx hb hts i_Reader t_Reader t_Reader_ok n_Reader hown hK.1 hP hD hS 0 rfl rfl 2 (by decide) (hts _ wd_77) (fun _ h9 => h9) rfl (by decide +kernel) rfl rfl (Nat.le_of_ble_eq_true rfl) d_Reader_takeCondition_13 (fun H_10 locs hP1 hD1 hS1 => ?_)
  clear hP hD hS
  have hS := hS1
  have hW7 : (fun w9 : va_W => va_P D classes w9 H_10 ∧ va_D A w9) [(r0, .inr (7, [.ref k0, vl, .ref n0, .int (nI gh9), .int (nI at9)])), (k0, .inr (9, [.ref k1, .ref k2, .int 0, .int (nI (u_1 0)), .int 0, .int (nI 4294967295), .int (nI (x_5 0 % 128)), .int (nI (x_5 0 / 128 % 1024))])), (k1, .inl (ax 1, 400, .inl tb)), (k2, .inl (ax 0, 401, .inl (fun j => nI (x_5 j)))), (n0, .inr (4, [.ref n1, .ref n2, .ref n3, .int 0])), (n1, .inl (ax 1, cp, .inl fo)), (n2, .inl (ax 0, cp, .inl fl)), (n3, .inl (ax 0, cp, .inl fr))] := ⟨hP1, hD1⟩
  obtain ⟨hP, hD⟩ := hW7
  clear hP1 hD1 hS1
  refine lv_aload_n hx hb d_Reader_takeCondition_16 rfl (lv_at hl1 0 rfl) ?_
  refine lv_iconst (v := 0) hx hb d_Reader_takeCondition_17 (by decide) ?_
  obtain ⟨hPc, hDc, hFc, hCs⟩ := xw_sub3 (wc := [(r0, .inr (7, [.ref k0, vl, .ref n0, .int (nI gh9), .int (nI at9)])), (k0, .inr (9, [.ref k1, .ref k2, .int (nI 0), .int (nI (u_1 0)), .int (nI 0), .int (nI 4294967295), .int (nI (x_5 0 % 128)), .int (nI (x_5 0 / 128 % 1024))])), (k1, .inl (ax 1, 400, .inl tb)), (k2, .inl (ax 0, 401, .inl (fun j => nI (x_5 j)))), (n0, .inr (4, [.ref n1, .ref n2, .ref n3, .int (nI 0)])), (n1, .inl (ax 1, cp, .inl fo)), (n2, .inl (ax 0, cp, .inl fl)), (n3, .inl (ax 0, cp, .inl fr))]) hP hD hS hA [0, 1, 2, 3, 4, 5, 6, 7] (by decide) rfl
  have hz := xz_of hN hS
  refine wk_know (fun hk8 hk9 => ?_)
  refine va_calli (va_runV (As := [.int 0]) (rest := []) ⟨hx, hb, hml, hown, hts⟩ (c_R_condition l D ax r0 k0 k1 k2 vl tb x_5 0 4294967295 (x_5 0 % 128) (x_5 0 / 128 % 1024) cn 0 (u_1 0) gh9 at9 0 n0 n1 n2 n3 cp 0 fo fl fr 1024 ([]) H_10.size (tsl H_10) hkz (by assumption) (by first | assumption | omega) (by first | assumption | omega) (by first | assumption | omega) (by first | assumption | omega) (by first | assumption | omega) (by first | assumption | omega) (by first | assumption | omega) (by first | assumption | omega) (by first | assumption | omega) (by assumption) (fun _ => ndv.z0) (fun _ => ⟨ndl_0, rfl⟩)) (xcV (n := 1) hts wd_539 wd_3 wd_536 wd_538 ps_7 rfl rfl (by decide +kernel) ⟨Nat.le_of_ble_eq_true rfl, Nat.le_of_ble_eq_true rfl⟩) (xpV3 (ci := 7) (q0 := 0) (As := [.int 0]) hPc hK hz hDc rfl rfl) rfl rfl hl1.1 rfl (lv_room (Nat.le_of_ble_eq_true rfl)) d_Reader_takeCondition_18 ⟨(show (0) + (1024 - cp) ≤ (1024 - cp) by omega), (show (0) + (6 * (1024 - cp)) ≤ (6 * (1024 - cp)) by omega)⟩) hS (fun q _ h => hFc q h) hFc (fun r_13 u_11 t H_12 locs ht hvm hw hB hz1 hk1 hS1 => ?_)
  try dsimp only at hw
  obtain ⟨hw, hs_14, hs_15, hs_16, hs_17, hs_18, hs_19, hs_20, hs_21, hs_22, hs_23, hs_24, hs_25, hs_26, hs_27, hs_28⟩ := hw
  subst hw
  obtain ⟨x_29, x_30, x_31, x_32, hg8, hg9, hx_33, hx_34, hx_35, hx_36, hx_37, hx_38, hP1, hD1⟩ := hB
  rw [ht] at hg8 hg9 hP1
  have hjn := xw_join3 (wl := [(r0, .inr (7, [.ref k0, vl, .ref n0, .int (nI 0), .int (nI (u_11 9))])), (k0, .inr (9, [.ref k1, .ref k2, .int (nI 0), .int (nI (u_1 0)), .int (nI (u_11 0)), .int (nI (u_11 1)), .int (nI (u_11 2)), .int (nI (u_11 3))])), (k1, .inl (ax 1, 400, .inl tb)), (k2, .inl (ax 0, 401, .inl (fun j => nI (x_5 j)))), (n0, .inr (4, [.ref (u_11 4), .ref (u_11 5), .ref (u_11 6), .int (nI (u_11 7))])), ((u_11 4), .inl (ax 1, u_11 8, .inl x_29)), ((u_11 5), .inl (ax 0, u_11 8, .inl x_30)), ((u_11 6), .inl (ax 0, u_11 8, .inl x_31))]) hP hD [0, 1, 2, 3, 4, 5, 6, 7] [] hCs (by decide) (by decide) hk1 hFc hP1 hD1 rfl
  clear hP1 hD1
  clear hPc hDc hFc hCs hz hz1 hk1 ht hvm
  clear hP hD hS
  have hS := hS1
  obtain ⟨hP, hD⟩ := hjn
  clear hS1
  refine wk_narrow (k := 0 + (u_11 8 - cp)) (n := 0 + (6 * (u_11 8 - cp))) (by first | assumption | omega) (by first | assumption | omega) ?_
  clear hk8 hk9 hg8 hg9
  refine lv_pop hx hb d_Reader_takeCondition_21 rfl ?_
  refine lv_aload_n hx hb d_Reader_takeCondition_22 rfl (lv_at hl1 0 rfl) ?_
  refine va_get (D := D) (ci := 7) (v := .ref k0) (C := R_Reader) (T := F_Reader) (N := 5) hx hb hts i_Reader hown hK.1 hP 0 rfl rfl 0 (by decide) (hts _ wd_75) (fun _ h9 => h9) rfl d_Reader_takeCondition_23 ?_
  obtain ⟨hPc, hDc, hFc, hCs⟩ := xw_sub3 (wc := [(k0, .inr (9, [.ref k1, .ref k2, .int (nI 0), .int (nI (u_1 0)), .int (nI (u_11 0)), .int (nI (u_11 1)), .int (nI (u_11 2)), .int (nI (u_11 3))])), (k1, .inl (ax 1, 400, .inl tb)), (k2, .inl (ax 0, 401, .inl (fun j => nI (x_5 j))))]) hP hD hS hA [1, 2, 3] (by decide) rfl
  have hz := xz_of hN hS
  refine va_calli (va_runV (As := []) (rest := []) ⟨hx, hb, hml, hown, hts⟩ (c_K_answer l D ax k0 k1 k2 tb x_5 (u_11 0) (u_11 1) (u_11 2) (u_11 3) cn 0 (u_1 0) H_12.size hkz (by assumption) (by first | assumption | omega) (by first | assumption | omega) (by first | assumption | omega)) (xcV (n := 0) hts wd_577 wd_2 wd_574 wd_575 wd_576 rfl rfl (by decide +kernel) ⟨Nat.le_of_ble_eq_true rfl, Nat.le_of_ble_eq_true rfl⟩) (xpV (ci := 9) (q0 := 0) (As := []) hPc hK hz hDc rfl rfl) rfl rfl hl1.1 rfl (lv_room (Nat.le_of_ble_eq_true rfl)) d_Reader_takeCondition_26 ⟨(show (0 + (u_11 8 - cp)) + (0) ≤ (1024 - cp) by omega), (show (0 + (6 * (u_11 8 - cp))) + (0) ≤ (6 * (1024 - cp)) by omega)⟩) hS (fun q _ h => hFc q h) hFc (fun r_41 u_39 t H_40 locs ht hvm hw hB hz1 hk1 hS1 => ?_)
  try dsimp only at hw
  obtain ⟨hw, hs_42, hs_43, hs_44, hs_45, hs_46, hs_47, hs_48, hs_49⟩ := hw
  subst hw
  obtain ⟨hP1, hD1⟩ := hB
  rw [ht] at hP1
  have hjn := xw_join3 (wl := [(r0, .inr (7, [.ref k0, vl, .ref n0, .int (nI 0), .int (nI (u_11 9))])), (n0, .inr (4, [.ref (u_11 4), .ref (u_11 5), .ref (u_11 6), .int (nI (u_11 7))])), ((u_11 4), .inl (ax 1, u_11 8, .inl x_29)), ((u_11 5), .inl (ax 0, u_11 8, .inl x_30)), ((u_11 6), .inl (ax 0, u_11 8, .inl x_31)), (k0, .inr (9, [.ref k1, .ref k2, .int (nI 0), .int (nI (u_1 0)), .int (nI (u_39 0)), .int (nI (u_39 1)), .int (nI (u_39 2)), .int (nI (u_39 3))])), (k1, .inl (ax 1, 400, .inl tb)), (k2, .inl (ax 0, 401, .inl (fun j => nI (x_5 j))))]) hP hD [1, 2, 3] [0, 4, 5, 6, 7] hCs (by decide) (by decide) hk1 hFc hP1 hD1 rfl
  clear hP1 hD1
  clear hPc hDc hFc hCs hz hz1 hk1 ht hvm
  clear hP hD hS
  have hS := hS1
  obtain ⟨hP, hD⟩ := hjn
  clear hS1
  have hlt32 := hs_42.lt32
  rw [← hQe]
  refine wk_know (fun hk8 hk9 => ?_)
  refine W.widen (k := 1024 - cp) (n := 6 * (1024 - cp)) (by first | assumption | omega) (by first | assumption | omega) ?_
  obtain ⟨hP9, hD9⟩ := xw_sub2 (wc := (fun (u : Nat → Nat) (xah : Int32) (xat : Int32) (xft : Int32) (xnx : Int32) (xam : Int32) (xtk : Nat → Nat) (xfo : Nat → Int32) (xfl : Nat → Int32) (xfr : Nat → Int32) (xm : List sgT) => [(r0, .inr (7, [.ref k0, vl, .ref n0, .int (nI (u 11)), .int (nI (u 9))])), (k0, .inr (9, [.ref k1, .ref k2, .int 0, .int xah, .int xat, .int xft, .int xnx, .int xam])), (k1, .inl (ax 1, 400, .inl tb)), (k2, .inl (ax 0, 401, .inl (fun j => nI (xtk j)))), (n0, .inr (4, [.ref (u 4), .ref (u 5), .ref (u 6), .int (nI (u 7))])), (u 4, .inl (ax 1, u 8, .inl xfo)), (u 5, .inl (ax 0, u 8, .inl xfl)), (u 6, .inl (ax 0, u 8, .inl xfr))]) (ixn [0, 0, 0, 0, (u_11 4), (u_11 5), (u_11 6), (u_11 7), (u_11 8), (u_11 9), ((u_39 1) + 1), 0]) (nI (u_1 0)) (nI (u_39 0)) (nI (u_39 1)) (nI (u_39 2)) (nI (u_39 3)) x_5 x_29 x_30 x_31 x_32) hP hD [0, 5, 6, 7, 1, 2, 3, 4] (by decide) rfl
  have hex0 : bts x_29 ((u_11 8)) := (by assumption)
  have hex1 : nI (((u_39 1) + 1)) = 0 → ndv x_29 x_30 x_31 ((u_11 7)) ∧ 1 ≤ (u_11 7) ∧ (u_11 7) ≤ 450 ∧ tsn x_29 x_30 x_31 ((u_11 7) - 1) ≤ 450 := (fun q => by have hq := nI1_0 q hlt32; have ho := okf.of hs_47 hq; have h1 := hs_26 ho; have h2 := hx_35 ho; have h3 := hx_33 ho; rw [show u_11 7 - 1 = u_11 10 by omega]; exact ⟨h3, by omega, by omega, by omega⟩)
  have hex2 : ansL (gtb tb) ts (((u_39 1) + 1) % 4294967296) x_32 := (anl_of hkr hkz hx_38 hs_14 hs_15 hs_49 hs_42)
  have hex3 : nI (((u_39 1) + 1)) = 0 → ndw x_29 x_30 x_31 ((u_11 7)) x_32 := (fun q => by have hq := nI1_0 q hlt32; have ho := okf.of hs_47 hq; have h1 := hx_37 ho; have h2 := (hx_38.2 rfl).2 ho; exact ⟨h1.1, by have h9 := h1.2; omega, h2.1, h2.2⟩)
  have hg8 : H_40.size ≤ s.heap.size + ((u_11 8) - cp) := by omega
  have hg9 : tsl H_40 ≤ tsl s.heap + (6 * ((u_11 8) - cp)) := by omega
  have hsp0 : (u_11 7) ≤ (u_11 8) := (by first | assumption | omega)
  have hsp1 : cp ≤ (u_11 8) := (by first | assumption | omega)
  have hsp2 : (u_11 8) ≤ 1024 := (by first | assumption | omega)
  have hsp3 : 0 ≤ 1 := (by first | assumption | omega)
  exact W.iret (v := nI (u_39 1) + 1) hx hb hr (fun t ht hW => ⟨⟨nI (u_39 1) + 1, ixn [0, 0, 0, 0, (u_11 4), (u_11 5), (u_11 6), (u_11 7), (u_11 8), (u_11 9), ((u_39 1) + 1), 0], rfl, ⟨(nI_add _ 1), ⟨hsp0, hsp1, hsp2, hsp3⟩⟩, ⟨nI (u_1 0), nI (u_39 0), nI (u_39 1), nI (u_39 2), nI (u_39 3), x_5, x_29, x_30, x_31, x_32, by rw [ht]; exact hg8, by rw [ht]; exact hg9, hex0, hex1, hex2, hex3, by rw [ht]; exact hP9, hD9⟩⟩, hS.F ht⟩) hS.2.2 d_Reader_takeCondition_29
abbrev b_Reader_takeProgram : ByteArray := prog_9_method_3_code
def y_Reader_takeProgram : MethodName := ⟨R_Reader, "takeProgram", "(LTripleDesk$Listing;)I"⟩
theorem d_Reader_takeProgram_0 : decode b_Reader_takeProgram 0 = .ok (.aload_n 0, 1) := by decide +kernel
theorem d_Reader_takeProgram_1 : decode b_Reader_takeProgram 1 = .ok (.getfield 9, 3) := by decide +kernel
theorem d_Reader_takeProgram_4 : decode b_Reader_takeProgram 4 = .ok (.invokevirtual 15, 3) := by decide +kernel
theorem d_Reader_takeProgram_7 : decode b_Reader_takeProgram 7 = .ok (.aload_n 1, 1) := by decide +kernel
theorem d_Reader_takeProgram_8 : decode b_Reader_takeProgram 8 = .ok (.invokevirtual 37, 3) := by decide +kernel
theorem d_Reader_takeProgram_11 : decode b_Reader_takeProgram 11 = .ok (.aload_n 0, 1) := by decide +kernel
theorem d_Reader_takeProgram_12 : decode b_Reader_takeProgram 12 = .ok (.aload_n 1, 1) := by decide +kernel
theorem d_Reader_takeProgram_13 : decode b_Reader_takeProgram 13 = .ok (.putfield 40, 3) := by decide +kernel
theorem d_Reader_takeProgram_16 : decode b_Reader_takeProgram 16 = .ok (.aload_n 0, 1) := by decide +kernel
theorem d_Reader_takeProgram_17 : decode b_Reader_takeProgram 17 = .ok (.aload_n 1, 1) := by decide +kernel
theorem d_Reader_takeProgram_18 : decode b_Reader_takeProgram 18 = .ok (.getfield 44, 3) := by decide +kernel
theorem d_Reader_takeProgram_21 : decode b_Reader_takeProgram 21 = .ok (.putfield 25, 3) := by decide +kernel
theorem d_Reader_takeProgram_24 : decode b_Reader_takeProgram 24 = .ok (.aload_n 0, 1) := by decide +kernel
theorem d_Reader_takeProgram_25 : decode b_Reader_takeProgram 25 = .ok (.iconst (-1), 1) := by decide +kernel
theorem d_Reader_takeProgram_26 : decode b_Reader_takeProgram 26 = .ok (.invokevirtual 45, 3) := by decide +kernel
theorem d_Reader_takeProgram_29 : decode b_Reader_takeProgram 29 = .ok (.pop, 1) := by decide +kernel
theorem d_Reader_takeProgram_30 : decode b_Reader_takeProgram 30 = .ok (.aload_n 0, 1) := by decide +kernel
theorem d_Reader_takeProgram_31 : decode b_Reader_takeProgram 31 = .ok (.getfield 9, 3) := by decide +kernel
theorem d_Reader_takeProgram_34 : decode b_Reader_takeProgram 34 = .ok (.invokevirtual 33, 3) := by decide +kernel
theorem d_Reader_takeProgram_37 : decode b_Reader_takeProgram 37 = .ok (.ireturn, 1) := by decide +kernel
set_option maxHeartbeats 40000000 in
set_option maxRecDepth 100000 in
theorem c_R_takeProgram (l : Launch) (D : va_G) (ax : Nat → ClassId) (ad av : Nat → Nat) (fm : Nat) (r0 : Nat) (vl vn : Value) (gh9 at9 : Nat) (k0 k1 k2 : Nat) (s_ahead : Int32) (s_at : Int32) (s_fault : Int32) (s_next : Int32) (s_amount : Int32) (tb : Nat → Int32) (tk : Nat → Nat) (ts : Nat) (n0 n1 n2 n3 cp z9 : Nat) (fo fl fr : Nat → Int32) (g0 g1 g2 g3 g4 g5 g6 g7 g8 g9 ga gb cl ln br lp va : Nat) (kd ow sb f1 f2 te kp nm ck co : Nat → Nat) (tm : Nat → Int32) (sz tz : Nat) (hts4 : ts ≤ 400) (hcp : 8 ≤ cp) (hmx : cp ≤ 1024) (hfo : bts fo cp) (hgh : gh9 ≤ 1) (hbt : bts tb 400) : Met l y_Reader_takeProgram (xws (.code y_Reader_takeProgram b_Reader_takeProgram 2 (some .int))) ({ frames := 400, cells := 1024 - cp, slots := 6 * (1024 - cp), locals := 16000 }) (va_Pc [.ref r0, .ref g0] (xo4 D ax ad av fm [(r0, .inr (7, [.ref k0, vl, vn, .int (nI gh9), .int (nI at9)])), (k0, .inr (9, [.ref k1, .ref k2, .int (nI ts), .int s_ahead, .int s_at, .int s_fault, .int s_next, .int s_amount])), (k1, .inl (ax 1, 400, .inl tb)), (k2, .inl (ax 0, 401, .inl (fun j => nI (tk j)))), (n0, .inr (4, [.ref n1, .ref n2, .ref n3, .int (nI z9)])), (n1, .inl (ax 1, cp, .inl fo)), (n2, .inl (ax 0, cp, .inl fl)), (n3, .inl (ax 0, cp, .inl fr)), (g0, .inr (2, [.ref n0, .ref g1, .ref g2, .ref g3, .ref g4, .ref g5, .ref g6, .ref g7, .ref g8, .ref g9, .ref ga, .ref gb, .int (nI cl), .int (nI ln), .int (nI br), .int (nI lp), .int (nI va)])), (g1, .inl (ax 1, 20, .inl (fun j => nI (kd j)))), (g2, .inl (ax 1, 20, .inl (fun j => nI (ow j)))), (g3, .inl (ax 1, 20, .inl (fun j => nI (sb j)))), (g4, .inl (ax 1, 20, .inl (fun j => nI (f1 j)))), (g5, .inl (ax 1, 20, .inl (fun j => nI (f2 j)))), (g6, .inl (ax 2, 20, .inl (fun j => nI (te j)))), (g7, .inl (ax 2, 20, .inl (fun j => nI (kp j)))), (g8, .inl (ax 0, 20, .inl tm)), (g9, .inl (ax 1, 20, .inl (fun j => nI (nm j)))), (ga, .inl (ax 1, 29, .inl (fun j => nI (ck j)))), (gb, .inl (ax 1, 29, .inl (fun j => nI (co j))))] sz tz)) ((va_Qi (fun (r : Int32) (u : Nat → Nat) => r = nI (u 10) ∧ (u 7 ≤ u 8 ∧ cp ≤ u 8 ∧ u 8 ≤ 1024 ∧ u 11 ≤ 1 ∧ u 12 ≤ 29 ∧ u 13 ≤ 20 ∧ u 14 ≤ 4)) (fun (u : Nat → Nat) (t9 : State) => ∃ xah : Int32, ∃ xat : Int32, ∃ xft : Int32, ∃ xnx : Int32, ∃ xam : Int32, ∃ xtk : Nat → Nat, ∃ xfo : Nat → Int32, ∃ xfl : Nat → Int32, ∃ xfr : Nat → Int32, ∃ xkd : Nat → Nat, ∃ xow : Nat → Nat, ∃ xsb : Nat → Nat, ∃ xf1 : Nat → Nat, ∃ xf2 : Nat → Nat, ∃ xte : Nat → Nat, ∃ xkp : Nat → Nat, ∃ xnm : Nat → Nat, ∃ xck : Nat → Nat, ∃ xco : Nat → Nat, ∃ xtm : Nat → Int32, ∃ xpl : List itT, ∃ xL : List sgT, (t9.heap.size ≤ sz + (u 8 - cp)) ∧ (tsl t9.heap ≤ tz + (6 * (u 8 - cp))) ∧ (bts xfo (u 8)) ∧ (nI (u 10) = 0 → (∃ en kc : Nat → Nat, lsw (u 13) (u 7) xkd xow xsb xf1 xf2 xte xkp xnm en kc xtm xfo xfl xfr) ∧ (clm (u 14) (u 12) xck xco (u 13) xkd xnm) ∧ 1 ≤ u 13 ∧ ndv xfo xfl xfr (u 7)) ∧ (ansP (gtb tb) ts (u 10 % 4294967296) xpl) ∧ (nI (u 10) = 0 → pgQ xfo xfl xfr (u 7) (u 13) (u 12) xkd xow xsb xf1 xf2 xte xkp xnm xck xco xtm xL xpl) ∧ va_P D classes [(r0, .inr (7, [.ref k0, .ref g0, .ref n0, .int (nI (u 11)), .int (nI (u 9))])), (k0, .inr (9, [.ref k1, .ref k2, .int 0, .int xah, .int xat, .int xft, .int xnx, .int xam])), (k1, .inl (ax 1, 400, .inl tb)), (k2, .inl (ax 0, 401, .inl (fun j => nI (xtk j)))), (n0, .inr (4, [.ref (u 4), .ref (u 5), .ref (u 6), .int (nI (u 7))])), (u 4, .inl (ax 1, u 8, .inl xfo)), (u 5, .inl (ax 0, u 8, .inl xfl)), (u 6, .inl (ax 0, u 8, .inl xfr)), (g0, .inr (2, [.ref n0, .ref g1, .ref g2, .ref g3, .ref g4, .ref g5, .ref g6, .ref g7, .ref g8, .ref g9, .ref ga, .ref gb, .int (nI (u 12)), .int (nI (u 13)), .int (nI (u 14)), .int (nI (u 15)), .int (nI (u 16))])), (g1, .inl (ax 1, 20, .inl (fun j => nI (xkd j)))), (g2, .inl (ax 1, 20, .inl (fun j => nI (xow j)))), (g3, .inl (ax 1, 20, .inl (fun j => nI (xsb j)))), (g4, .inl (ax 1, 20, .inl (fun j => nI (xf1 j)))), (g5, .inl (ax 1, 20, .inl (fun j => nI (xf2 j)))), (g6, .inl (ax 2, 20, .inl (fun j => nI (xte j)))), (g7, .inl (ax 2, 20, .inl (fun j => nI (xkp j)))), (g8, .inl (ax 0, 20, .inl xtm)), (g9, .inl (ax 1, 20, .inl (fun j => nI (xnm j)))), (ga, .inl (ax 1, 29, .inl (fun j => nI (xck j)))), (gb, .inl (ax 1, 29, .inl (fun j => nI (xco j))))] t9.heap ∧ va_D (va_A [(r0, .inr (7, [.ref k0, vl, vn, .int (nI gh9), .int (nI at9)])), (k0, .inr (9, [.ref k1, .ref k2, .int (nI ts), .int s_ahead, .int s_at, .int s_fault, .int s_next, .int s_amount])), (k1, .inl (ax 1, 400, .inl tb)), (k2, .inl (ax 0, 401, .inl (fun j => nI (tk j)))), (n0, .inr (4, [.ref n1, .ref n2, .ref n3, .int (nI z9)])), (n1, .inl (ax 1, cp, .inl fo)), (n2, .inl (ax 0, cp, .inl fl)), (n3, .inl (ax 0, cp, .inl fr)), (g0, .inr (2, [.ref n0, .ref g1, .ref g2, .ref g3, .ref g4, .ref g5, .ref g6, .ref g7, .ref g8, .ref g9, .ref ga, .ref gb, .int (nI cl), .int (nI ln), .int (nI br), .int (nI lp), .int (nI va)])), (g1, .inl (ax 1, 20, .inl (fun j => nI (kd j)))), (g2, .inl (ax 1, 20, .inl (fun j => nI (ow j)))), (g3, .inl (ax 1, 20, .inl (fun j => nI (sb j)))), (g4, .inl (ax 1, 20, .inl (fun j => nI (f1 j)))), (g5, .inl (ax 1, 20, .inl (fun j => nI (f2 j)))), (g6, .inl (ax 2, 20, .inl (fun j => nI (te j)))), (g7, .inl (ax 2, 20, .inl (fun j => nI (kp j)))), (g8, .inl (ax 0, 20, .inl tm)), (g9, .inl (ax 1, 20, .inl (fun j => nI (nm j)))), (ga, .inl (ax 1, 29, .inl (fun j => nI (ck j)))), (gb, .inl (ax 1, 29, .inl (fun j => nI (co j))))] sz) [(r0, .inr (7, [.ref k0, .ref g0, .ref n0, .int (nI (u 11)), .int (nI (u 9))])), (k0, .inr (9, [.ref k1, .ref k2, .int 0, .int xah, .int xat, .int xft, .int xnx, .int xam])), (k1, .inl (ax 1, 400, .inl tb)), (k2, .inl (ax 0, 401, .inl (fun j => nI (xtk j)))), (n0, .inr (4, [.ref (u 4), .ref (u 5), .ref (u 6), .int (nI (u 7))])), (u 4, .inl (ax 1, u 8, .inl xfo)), (u 5, .inl (ax 0, u 8, .inl xfl)), (u 6, .inl (ax 0, u 8, .inl xfr)), (g0, .inr (2, [.ref n0, .ref g1, .ref g2, .ref g3, .ref g4, .ref g5, .ref g6, .ref g7, .ref g8, .ref g9, .ref ga, .ref gb, .int (nI (u 12)), .int (nI (u 13)), .int (nI (u 14)), .int (nI (u 15)), .int (nI (u 16))])), (g1, .inl (ax 1, 20, .inl (fun j => nI (xkd j)))), (g2, .inl (ax 1, 20, .inl (fun j => nI (xow j)))), (g3, .inl (ax 1, 20, .inl (fun j => nI (xsb j)))), (g4, .inl (ax 1, 20, .inl (fun j => nI (xf1 j)))), (g5, .inl (ax 1, 20, .inl (fun j => nI (xf2 j)))), (g6, .inl (ax 2, 20, .inl (fun j => nI (xte j)))), (g7, .inl (ax 2, 20, .inl (fun j => nI (xkp j)))), (g8, .inl (ax 0, 20, .inl xtm)), (g9, .inl (ax 1, 20, .inl (fun j => nI (xnm j)))), (ga, .inl (ax 1, 29, .inl (fun j => nI (xck j)))), (gb, .inl (ax 1, 29, .inl (fun j => nI (xco j))))]) (va_A [(r0, .inr (7, [.ref k0, vl, vn, .int (nI gh9), .int (nI at9)])), (k0, .inr (9, [.ref k1, .ref k2, .int (nI ts), .int s_ahead, .int s_at, .int s_fault, .int s_next, .int s_amount])), (k1, .inl (ax 1, 400, .inl tb)), (k2, .inl (ax 0, 401, .inl (fun j => nI (tk j)))), (n0, .inr (4, [.ref n1, .ref n2, .ref n3, .int (nI z9)])), (n1, .inl (ax 1, cp, .inl fo)), (n2, .inl (ax 0, cp, .inl fl)), (n3, .inl (ax 0, cp, .inl fr)), (g0, .inr (2, [.ref n0, .ref g1, .ref g2, .ref g3, .ref g4, .ref g5, .ref g6, .ref g7, .ref g8, .ref g9, .ref ga, .ref gb, .int (nI cl), .int (nI ln), .int (nI br), .int (nI lp), .int (nI va)])), (g1, .inl (ax 1, 20, .inl (fun j => nI (kd j)))), (g2, .inl (ax 1, 20, .inl (fun j => nI (ow j)))), (g3, .inl (ax 1, 20, .inl (fun j => nI (sb j)))), (g4, .inl (ax 1, 20, .inl (fun j => nI (f1 j)))), (g5, .inl (ax 1, 20, .inl (fun j => nI (f2 j)))), (g6, .inl (ax 2, 20, .inl (fun j => nI (te j)))), (g7, .inl (ax 2, 20, .inl (fun j => nI (kp j)))), (g8, .inl (ax 0, 20, .inl tm)), (g9, .inl (ax 1, 20, .inl (fun j => nI (nm j)))), (ga, .inl (ax 1, 29, .inl (fun j => nI (ck j)))), (gb, .inl (ax 1, 29, .inl (fun j => nI (co j))))] sz))) (1024 - cp) (6 * (1024 - cp)) (va_A [(r0, .inr (7, [.ref k0, vl, vn, .int (nI gh9), .int (nI at9)])), (k0, .inr (9, [.ref k1, .ref k2, .int (nI ts), .int s_ahead, .int s_at, .int s_fault, .int s_next, .int s_amount])), (k1, .inl (ax 1, 400, .inl tb)), (k2, .inl (ax 0, 401, .inl (fun j => nI (tk j)))), (n0, .inr (4, [.ref n1, .ref n2, .ref n3, .int (nI z9)])), (n1, .inl (ax 1, cp, .inl fo)), (n2, .inl (ax 0, cp, .inl fl)), (n3, .inl (ax 0, cp, .inl fr)), (g0, .inr (2, [.ref n0, .ref g1, .ref g2, .ref g3, .ref g4, .ref g5, .ref g6, .ref g7, .ref g8, .ref g9, .ref ga, .ref gb, .int (nI cl), .int (nI ln), .int (nI br), .int (nI lp), .int (nI va)])), (g1, .inl (ax 1, 20, .inl (fun j => nI (kd j)))), (g2, .inl (ax 1, 20, .inl (fun j => nI (ow j)))), (g3, .inl (ax 1, 20, .inl (fun j => nI (sb j)))), (g4, .inl (ax 1, 20, .inl (fun j => nI (f1 j)))), (g5, .inl (ax 1, 20, .inl (fun j => nI (f2 j)))), (g6, .inl (ax 2, 20, .inl (fun j => nI (te j)))), (g7, .inl (ax 2, 20, .inl (fun j => nI (kp j)))), (g8, .inl (ax 0, 20, .inl tm)), (g9, .inl (ax 1, 20, .inl (fun j => nI (nm j)))), (ga, .inl (ax 1, 29, .inl (fun j => nI (ck j)))), (gb, .inl (ax 1, 29, .inl (fun j => nI (co j))))] sz) := by
  refine Met.ofW (cc := b_Reader_takeProgram) (maxL := 2) (ret := (some .int)) (by decide) rfl ?_
  intro p e s m args below meth c s₁ B hml hv
  obtain ⟨rfl, ⟨⟨hsz, hP, hK, hD0⟩, htz⟩, hX⟩ := hv
  have hx := B.exec
  have hb := B.bytes
  have hr := B.returns
  have hts := xw_hts B.pre
  have hown : s.vm.findClass R_Reader = some m.cls := findClass_of_methodNamed B.named
  have hlocks := B.notSynchronized
  subst hsz
  subst htz
  have hD := hD0.self (sz := s.heap.size)
  have hN := xz_entry hP
  generalize hAe : va_A [(r0, .inr (7, [.ref k0, vl, vn, .int (nI gh9), .int (nI at9)])), (k0, .inr (9, [.ref k1, .ref k2, .int (nI ts), .int s_ahead, .int s_at, .int s_fault, .int s_next, .int s_amount])), (k1, .inl (ax 1, 400, .inl tb)), (k2, .inl (ax 0, 401, .inl (fun j => nI (tk j)))), (n0, .inr (4, [.ref n1, .ref n2, .ref n3, .int (nI z9)])), (n1, .inl (ax 1, cp, .inl fo)), (n2, .inl (ax 0, cp, .inl fl)), (n3, .inl (ax 0, cp, .inl fr)), (g0, .inr (2, [.ref n0, .ref g1, .ref g2, .ref g3, .ref g4, .ref g5, .ref g6, .ref g7, .ref g8, .ref g9, .ref ga, .ref gb, .int (nI cl), .int (nI ln), .int (nI br), .int (nI lp), .int (nI va)])), (g1, .inl (ax 1, 20, .inl (fun j => nI (kd j)))), (g2, .inl (ax 1, 20, .inl (fun j => nI (ow j)))), (g3, .inl (ax 1, 20, .inl (fun j => nI (sb j)))), (g4, .inl (ax 1, 20, .inl (fun j => nI (f1 j)))), (g5, .inl (ax 1, 20, .inl (fun j => nI (f2 j)))), (g6, .inl (ax 2, 20, .inl (fun j => nI (te j)))), (g7, .inl (ax 2, 20, .inl (fun j => nI (kp j)))), (g8, .inl (ax 0, 20, .inl tm)), (g9, .inl (ax 1, 20, .inl (fun j => nI (nm j)))), (ga, .inl (ax 1, 29, .inl (fun j => nI (ck j)))), (gb, .inl (ax 1, 29, .inl (fun j => nI (co j))))] s.heap.size = A at hD hN hX ⊢
  have hA : ∀ q : Nat, s.heap.size ≤ q → A q := fun q h => by rw [← hAe]; exact Or.inr h
  have hS : va_S A s.heap s.heap [] := va_S.rf
  have hl0 := lv_entry ([.ref r0, .ref g0]) (n := 2) (Nat.le_of_ble_eq_true rfl)
  rw [lg_entry_eq]
  generalize (lg_sl ([.ref r0, .ref g0]) ++ List.replicate (2 - (lg_sl ([.ref r0, .ref g0])).length) Slot.unset).toArray = ls at hl0 ⊢
  have hl1 : lv_has ls 2 [(0, .ref r0), (1, .ref g0)] := hl0
  refine xw_gen (fun Z9 hQe => ?_)
  refine lv_aload_n hx hb d_Reader_takeProgram_0 rfl (lv_at hl1 0 rfl) ?_
  refine va_get (D := D) (ci := 7) (v := .ref k0) (C := R_Reader) (T := F_Reader) (N := 5) hx hb hts i_Reader hown hK.1 hP 0 rfl rfl 0 (by decide) (hts _ wd_75) (fun _ h9 => h9) rfl d_Reader_takeProgram_1 ?_
  obtain ⟨hPc, hDc, hFc, hCs⟩ := xw_sub3 (wc := [(k0, .inr (9, [.ref k1, .ref k2, .int (nI ts), .int s_ahead, .int s_at, .int s_fault, .int s_next, .int s_amount])), (k1, .inl (ax 1, 400, .inl tb)), (k2, .inl (ax 0, 401, .inl (fun j => nI (tk j))))]) hP hD hS hA [1, 2, 3] (by decide) rfl
  have hz := xz_of hN hS
  refine wk_know (fun hk8 hk9 => ?_)
  refine va_callv (va_runV (As := []) (rest := []) ⟨hx, hb, hml, hown, hts⟩ (c_T_takeTape l D ax ad av fm k0 k1 k2 s_ahead s_at s_fault s_next s_amount tb tk ts s.heap.size (tsl s.heap) (by first | assumption | omega) hbt) (xcV (n := 0) hts wd_434 wd_2 wd_431 wd_432 wd_433 rfl rfl (by decide +kernel) ⟨(show (90) + 1 ≤ (400) by omega), (show 8 + (5 + 11) + (3600) ≤ (16000) by omega)⟩) (xpV4 (ci := 9) (q0 := 0) (As := []) hX hS hFc hPc hK hz hDc rfl rfl) rfl rfl hl1.1 rfl (lv_room (Nat.le_of_ble_eq_true rfl)) d_Reader_takeProgram_4 ⟨(show (0) + (0) ≤ (1024 - cp) by omega), (show (0) + (0) ≤ (6 * (1024 - cp)) by omega)⟩) hS (fun q _ h => hFc q h) hFc (fun u_1 t H_2 locs ht hvm hw hB hz1 hk1 hS1 => ?_)
  try dsimp only at hw
  have hs_4 := hw
  obtain ⟨x_5, hg8, hg9, hx_6, hP1, hD1⟩ := hB
  rw [ht] at hg8 hg9 hP1
  have hjn := xw_join3 (wl := [(r0, .inr (7, [.ref k0, vl, vn, .int (nI gh9), .int (nI at9)])), (n0, .inr (4, [.ref n1, .ref n2, .ref n3, .int (nI z9)])), (n1, .inl (ax 1, cp, .inl fo)), (n2, .inl (ax 0, cp, .inl fl)), (n3, .inl (ax 0, cp, .inl fr)), (g0, .inr (2, [.ref n0, .ref g1, .ref g2, .ref g3, .ref g4, .ref g5, .ref g6, .ref g7, .ref g8, .ref g9, .ref ga, .ref gb, .int (nI cl), .int (nI ln), .int (nI br), .int (nI lp), .int (nI va)])), (g1, .inl (ax 1, 20, .inl (fun j => nI (kd j)))), (g2, .inl (ax 1, 20, .inl (fun j => nI (ow j)))), (g3, .inl (ax 1, 20, .inl (fun j => nI (sb j)))), (g4, .inl (ax 1, 20, .inl (fun j => nI (f1 j)))), (g5, .inl (ax 1, 20, .inl (fun j => nI (f2 j)))), (g6, .inl (ax 2, 20, .inl (fun j => nI (te j)))), (g7, .inl (ax 2, 20, .inl (fun j => nI (kp j)))), (g8, .inl (ax 0, 20, .inl tm)), (g9, .inl (ax 1, 20, .inl (fun j => nI (nm j)))), (ga, .inl (ax 1, 29, .inl (fun j => nI (ck j)))), (gb, .inl (ax 1, 29, .inl (fun j => nI (co j)))), (k0, .inr (9, [.ref k1, .ref k2, .int 0, .int (nI (u_1 0)), .int 0, .int (-1), .int (nI (x_5 0 % 128)), .int (nI (x_5 0 / 128 % 1024))])), (k1, .inl (ax 1, 400, .inl tb)), (k2, .inl (ax 0, 401, .inl (fun j => nI (x_5 j))))]) hP hD [1, 2, 3] [0, 4, 5, 6, 7, 8, 9, 10, 11, 12, 13, 14, 15, 16, 17, 18, 19] hCs (by decide) (by decide) hk1 hFc hP1 hD1 rfl
  clear hP1 hD1
  clear hPc hDc hFc hCs hz hz1 hk1 ht hvm
  clear hP hD hS
  have hS := hS1
  obtain ⟨hP, hD⟩ := hjn
  clear hS1
  refine wk_narrow (k := 0) (n := 0) (by first | assumption | omega) (by first | assumption | omega) ?_
  clear hk8 hk9 hg8 hg9
  obtain ⟨cn, hkz, hkr⟩ := hx_6
  have hrs := rst_0 hkz
  have hcn := hkz.1
  rw [← nIm] at hP hD
  have hP7 := hP; have hD7 := hD; clear hP hD
  have hW7 : (fun w9 : va_W => va_P D classes w9 H_2 ∧ va_D A w9) [(r0, .inr (7, [.ref k0, vl, vn, .int (nI gh9), .int (nI at9)])), (n0, .inr (4, [.ref n1, .ref n2, .ref n3, .int (nI z9)])), (n1, .inl (ax 1, cp, .inl fo)), (n2, .inl (ax 0, cp, .inl fl)), (n3, .inl (ax 0, cp, .inl fr)), (g0, .inr (2, [.ref n0, .ref g1, .ref g2, .ref g3, .ref g4, .ref g5, .ref g6, .ref g7, .ref g8, .ref g9, .ref ga, .ref gb, .int (nI cl), .int (nI ln), .int (nI br), .int (nI lp), .int (nI va)])), (g1, .inl (ax 1, 20, .inl (fun j => nI (kd j)))), (g2, .inl (ax 1, 20, .inl (fun j => nI (ow j)))), (g3, .inl (ax 1, 20, .inl (fun j => nI (sb j)))), (g4, .inl (ax 1, 20, .inl (fun j => nI (f1 j)))), (g5, .inl (ax 1, 20, .inl (fun j => nI (f2 j)))), (g6, .inl (ax 2, 20, .inl (fun j => nI (te j)))), (g7, .inl (ax 2, 20, .inl (fun j => nI (kp j)))), (g8, .inl (ax 0, 20, .inl tm)), (g9, .inl (ax 1, 20, .inl (fun j => nI (nm j)))), (ga, .inl (ax 1, 29, .inl (fun j => nI (ck j)))), (gb, .inl (ax 1, 29, .inl (fun j => nI (co j)))), (k0, .inr (9, [.ref k1, .ref k2, .int 0, .int (nI (u_1 0)), .int 0, .int (nI 4294967295), .int (nI (x_5 0 % 128)), .int (nI (x_5 0 / 128 % 1024))])), (k1, .inl (ax 1, 400, .inl tb)), (k2, .inl (ax 0, 401, .inl (fun j => nI (x_5 j))))] := ⟨hP7, hD7⟩
  obtain ⟨hP, hD⟩ := hW7
  clear hP7 hD7
  refine lv_aload_n hx hb d_Reader_takeProgram_7 rfl (lv_at hl1 1 rfl) ?_
  obtain ⟨hPc, hDc, hFc, hCs⟩ := xw_sub3 (wc := [(g0, .inr (2, [.ref n0, .ref g1, .ref g2, .ref g3, .ref g4, .ref g5, .ref g6, .ref g7, .ref g8, .ref g9, .ref ga, .ref gb, .int (nI cl), .int (nI ln), .int (nI br), .int (nI lp), .int (nI va)])), (g1, .inl (ax 1, 20, .inl (fun j => nI (kd j)))), (g2, .inl (ax 1, 20, .inl (fun j => nI (ow j)))), (g3, .inl (ax 1, 20, .inl (fun j => nI (sb j)))), (g4, .inl (ax 1, 20, .inl (fun j => nI (f1 j)))), (g5, .inl (ax 1, 20, .inl (fun j => nI (f2 j)))), (g6, .inl (ax 2, 20, .inl (fun j => nI (te j)))), (g7, .inl (ax 2, 20, .inl (fun j => nI (kp j)))), (g8, .inl (ax 0, 20, .inl tm)), (g9, .inl (ax 1, 20, .inl (fun j => nI (nm j)))), (ga, .inl (ax 1, 29, .inl (fun j => nI (ck j)))), (gb, .inl (ax 1, 29, .inl (fun j => nI (co j)))), (n0, .inr (4, [.ref n1, .ref n2, .ref n3, .int (nI z9)])), (n1, .inl (ax 1, cp, .inl fo)), (n2, .inl (ax 0, cp, .inl fl)), (n3, .inl (ax 0, cp, .inl fr))]) hP hD hS hA [5, 6, 7, 8, 9, 10, 11, 12, 13, 14, 15, 16, 1, 2, 3, 4] (by decide) rfl
  have hz := xz_of hN hS
  refine va_callv (va_runV (As := []) (rest := []) ⟨hx, hb, hml, hown, hts⟩ (c_L_clear l D ax g0 g1 g2 g3 g4 g5 g6 g7 g8 g9 ga gb cl ln br lp va kd ow sb f1 f2 te kp nm ck co tm n0 n1 n2 n3 cp z9 fo fl fr H_2.size) (xcV (n := 0) hts wd_608 wd_12 wd_605 wd_606 wd_607 rfl rfl (by decide +kernel) ⟨(show (20) + 1 ≤ (400) by omega), (show 8 + (1 + 11) + (800) ≤ (16000) by omega)⟩) (xpV (ci := 2) (q0 := 0) (As := []) hPc hK hz hDc rfl rfl) rfl rfl hl1.1 rfl (lv_room (Nat.le_of_ble_eq_true rfl)) d_Reader_takeProgram_8 ⟨(show (0) + (0) ≤ (1024 - cp) by omega), (show (0) + (0) ≤ (6 * (1024 - cp)) by omega)⟩) hS (fun q _ h => hFc q h) hFc (fun u_7 t H_8 locs ht hvm hw hB hz1 hk1 hS1 => ?_)
  try dsimp only at hw
  have hs_10 := hw
  obtain ⟨x_11, x_12, hx_13, hP1, hD1⟩ := hB
  rw [ht] at hP1
  have hjn := xw_join3 (wl := [(r0, .inr (7, [.ref k0, vl, vn, .int (nI gh9), .int (nI at9)])), (k0, .inr (9, [.ref k1, .ref k2, .int 0, .int (nI (u_1 0)), .int 0, .int (nI 4294967295), .int (nI (x_5 0 % 128)), .int (nI (x_5 0 / 128 % 1024))])), (k1, .inl (ax 1, 400, .inl tb)), (k2, .inl (ax 0, 401, .inl (fun j => nI (x_5 j)))), (g0, .inr (2, [.ref n0, .ref g1, .ref g2, .ref g3, .ref g4, .ref g5, .ref g6, .ref g7, .ref g8, .ref g9, .ref ga, .ref gb, .int (nI (u_7 0)), .int 0, .int 0, .int 0, .int 0])), (g1, .inl (ax 1, 20, .inl (fun j => nI (kd j)))), (g2, .inl (ax 1, 20, .inl (fun j => nI (ow j)))), (g3, .inl (ax 1, 20, .inl (fun j => nI (sb j)))), (g4, .inl (ax 1, 20, .inl (fun j => nI (f1 j)))), (g5, .inl (ax 1, 20, .inl (fun j => nI (f2 j)))), (g6, .inl (ax 2, 20, .inl (fun j => nI (te j)))), (g7, .inl (ax 2, 20, .inl (fun j => nI (kp j)))), (g8, .inl (ax 0, 20, .inl tm)), (g9, .inl (ax 1, 20, .inl (fun j => nI (nm j)))), (ga, .inl (ax 1, 29, .inl (fun j => nI (x_11 j)))), (gb, .inl (ax 1, 29, .inl (fun j => nI (x_12 j)))), (n0, .inr (4, [.ref n1, .ref n2, .ref n3, .int 0])), (n1, .inl (ax 1, cp, .inl fo)), (n2, .inl (ax 0, cp, .inl fl)), (n3, .inl (ax 0, cp, .inl fr))]) hP hD [5, 6, 7, 8, 9, 10, 11, 12, 13, 14, 15, 16, 1, 2, 3, 4] [0, 17, 18, 19] hCs (by decide) (by decide) hk1 hFc hP1 hD1 rfl
  clear hP1 hD1
  clear hPc hDc hFc hCs hz hz1 hk1 ht hvm
  clear hP hD hS
  have hS := hS1
  obtain ⟨hP, hD⟩ := hjn
  clear hS1
  refine lv_aload_n hx hb d_Reader_takeProgram_11 rfl (lv_at hl1 0 rfl) ?_
  refine lv_aload_n hx hb d_Reader_takeProgram_12 rfl (lv_at hl1 1 rfl) ?_
  refine va_put (D := D) (ci := 7) (v := .ref g0) (ty := .object "TripleDesk$Listing") (C := R_Reader) (T := F_Reader) (N := 5) hx hb hts i_Reader t_Reader t_Reader_ok n_Reader hown hK.1 hP hD hS 0 rfl rfl 1 (by decide) (hts _ wd_76) (fun _ h9 => h9) rfl (by decide +kernel) rfl rfl (Nat.le_of_ble_eq_true rfl) d_Reader_takeProgram_13 (fun H_14 locs hP1 hD1 hS1 => ?_)
  clear hP hD hS
  have hS := hS1
  have hW7 : (fun w9 : va_W => va_P D classes w9 H_14 ∧ va_D A w9) [(r0, .inr (7, [.ref k0, .ref g0, vn, .int (nI gh9), .int (nI at9)])), (k0, .inr (9, [.ref k1, .ref k2, .int 0, .int (nI (u_1 0)), .int 0, .int (nI 4294967295), .int (nI (x_5 0 % 128)), .int (nI (x_5 0 / 128 % 1024))])), (k1, .inl (ax 1, 400, .inl tb)), (k2, .inl (ax 0, 401, .inl (fun j => nI (x_5 j)))), (g0, .inr (2, [.ref n0, .ref g1, .ref g2, .ref g3, .ref g4, .ref g5, .ref g6, .ref g7, .ref g8, .ref g9, .ref ga, .ref gb, .int (nI (u_7 0)), .int 0, .int 0, .int 0, .int 0])), (g1, .inl (ax 1, 20, .inl (fun j => nI (kd j)))), (g2, .inl (ax 1, 20, .inl (fun j => nI (ow j)))), (g3, .inl (ax 1, 20, .inl (fun j => nI (sb j)))), (g4, .inl (ax 1, 20, .inl (fun j => nI (f1 j)))), (g5, .inl (ax 1, 20, .inl (fun j => nI (f2 j)))), (g6, .inl (ax 2, 20, .inl (fun j => nI (te j)))), (g7, .inl (ax 2, 20, .inl (fun j => nI (kp j)))), (g8, .inl (ax 0, 20, .inl tm)), (g9, .inl (ax 1, 20, .inl (fun j => nI (nm j)))), (ga, .inl (ax 1, 29, .inl (fun j => nI (x_11 j)))), (gb, .inl (ax 1, 29, .inl (fun j => nI (x_12 j)))), (n0, .inr (4, [.ref n1, .ref n2, .ref n3, .int 0])), (n1, .inl (ax 1, cp, .inl fo)), (n2, .inl (ax 0, cp, .inl fl)), (n3, .inl (ax 0, cp, .inl fr))] := ⟨hP1, hD1⟩
  obtain ⟨hP, hD⟩ := hW7
  clear hP1 hD1 hS1
  refine lv_aload_n hx hb d_Reader_takeProgram_16 rfl (lv_at hl1 0 rfl) ?_
  refine lv_aload_n hx hb d_Reader_takeProgram_17 rfl (lv_at hl1 1 rfl) ?_
  refine va_get (D := D) (ci := 2) (v := .ref n0) (C := R_Listing) (T := F_Listing) (N := 17) hx hb hts i_Listing hown hK.1 hP 4 rfl rfl 0 (by decide) (hts _ wd_268) (fun _ h9 => h9) rfl d_Reader_takeProgram_18 ?_
  refine va_put (D := D) (ci := 7) (v := .ref n0) (ty := .object "TripleDesk$Nodes") (C := R_Reader) (T := F_Reader) (N := 5) hx hb hts i_Reader t_Reader t_Reader_ok n_Reader hown hK.1 hP hD hS 0 rfl rfl 2 (by decide) (hts _ wd_77) (fun _ h9 => h9) rfl (by decide +kernel) rfl rfl (Nat.le_of_ble_eq_true rfl) d_Reader_takeProgram_21 (fun H_15 locs hP1 hD1 hS1 => ?_)
  clear hP hD hS
  have hS := hS1
  have hW7 : (fun w9 : va_W => va_P D classes w9 H_15 ∧ va_D A w9) [(r0, .inr (7, [.ref k0, .ref g0, .ref n0, .int (nI gh9), .int (nI at9)])), (k0, .inr (9, [.ref k1, .ref k2, .int 0, .int (nI (u_1 0)), .int 0, .int (nI 4294967295), .int (nI (x_5 0 % 128)), .int (nI (x_5 0 / 128 % 1024))])), (k1, .inl (ax 1, 400, .inl tb)), (k2, .inl (ax 0, 401, .inl (fun j => nI (x_5 j)))), (g0, .inr (2, [.ref n0, .ref g1, .ref g2, .ref g3, .ref g4, .ref g5, .ref g6, .ref g7, .ref g8, .ref g9, .ref ga, .ref gb, .int (nI (u_7 0)), .int 0, .int 0, .int 0, .int 0])), (g1, .inl (ax 1, 20, .inl (fun j => nI (kd j)))), (g2, .inl (ax 1, 20, .inl (fun j => nI (ow j)))), (g3, .inl (ax 1, 20, .inl (fun j => nI (sb j)))), (g4, .inl (ax 1, 20, .inl (fun j => nI (f1 j)))), (g5, .inl (ax 1, 20, .inl (fun j => nI (f2 j)))), (g6, .inl (ax 2, 20, .inl (fun j => nI (te j)))), (g7, .inl (ax 2, 20, .inl (fun j => nI (kp j)))), (g8, .inl (ax 0, 20, .inl tm)), (g9, .inl (ax 1, 20, .inl (fun j => nI (nm j)))), (ga, .inl (ax 1, 29, .inl (fun j => nI (x_11 j)))), (gb, .inl (ax 1, 29, .inl (fun j => nI (x_12 j)))), (n0, .inr (4, [.ref n1, .ref n2, .ref n3, .int 0])), (n1, .inl (ax 1, cp, .inl fo)), (n2, .inl (ax 0, cp, .inl fl)), (n3, .inl (ax 0, cp, .inl fr))] := ⟨hP1, hD1⟩
  obtain ⟨hP, hD⟩ := hW7
  clear hP1 hD1 hS1
  refine lv_aload_n hx hb d_Reader_takeProgram_24 rfl (lv_at hl1 0 rfl) ?_
  refine lv_iconst (v := (-1)) hx hb d_Reader_takeProgram_25 (by decide) ?_
  refine W.eq (g2 := F0 m 26 ls [.int (nI 4294967295), .ref r0]) (by rw [nIm]) ?_
  obtain ⟨hPc, hDc, hFc, hCs⟩ := xw_sub3 (wc := [(r0, .inr (7, [.ref k0, .ref g0, .ref n0, .int (nI gh9), .int (nI at9)])), (k0, .inr (9, [.ref k1, .ref k2, .int (nI 0), .int (nI (u_1 0)), .int (nI 0), .int (nI 4294967295), .int (nI (x_5 0 % 128)), .int (nI (x_5 0 / 128 % 1024))])), (k1, .inl (ax 1, 400, .inl tb)), (k2, .inl (ax 0, 401, .inl (fun j => nI (x_5 j)))), (n0, .inr (4, [.ref n1, .ref n2, .ref n3, .int (nI 0)])), (n1, .inl (ax 1, cp, .inl fo)), (n2, .inl (ax 0, cp, .inl fl)), (n3, .inl (ax 0, cp, .inl fr)), (g0, .inr (2, [.ref n0, .ref g1, .ref g2, .ref g3, .ref g4, .ref g5, .ref g6, .ref g7, .ref g8, .ref g9, .ref ga, .ref gb, .int (nI (u_7 0)), .int (nI 0), .int (nI 0), .int (nI 0), .int (nI 0)])), (g1, .inl (ax 1, 20, .inl (fun j => nI (kd j)))), (g2, .inl (ax 1, 20, .inl (fun j => nI (ow j)))), (g3, .inl (ax 1, 20, .inl (fun j => nI (sb j)))), (g4, .inl (ax 1, 20, .inl (fun j => nI (f1 j)))), (g5, .inl (ax 1, 20, .inl (fun j => nI (f2 j)))), (g6, .inl (ax 2, 20, .inl (fun j => nI (te j)))), (g7, .inl (ax 2, 20, .inl (fun j => nI (kp j)))), (g8, .inl (ax 0, 20, .inl tm)), (g9, .inl (ax 1, 20, .inl (fun j => nI (nm j)))), (ga, .inl (ax 1, 29, .inl (fun j => nI (x_11 j)))), (gb, .inl (ax 1, 29, .inl (fun j => nI (x_12 j))))]) hP hD hS hA [0, 1, 2, 3, 16, 17, 18, 19, 4, 5, 6, 7, 8, 9, 10, 11, 12, 13, 14, 15] (by decide) rfl
  have hz := xz_of hN hS
  refine wk_know (fun hk8 hk9 => ?_)
  refine va_calli (va_runV (As := [.int (nI 4294967295)]) (rest := []) ⟨hx, hb, hml, hown, hts⟩ (c_R_statements l 8 (R_stm_all l 8) D ax r0 k0 k1 k2 tb x_5 0 4294967295 (x_5 0 % 128) (x_5 0 / 128 % 1024) cn 0 (u_1 0) gh9 at9 n0 n1 n2 n3 cp 0 fo fl fr g0 g1 g2 g3 g4 g5 g6 g7 g8 g9 ga gb (u_7 0) 0 0 0 0 kd ow sb f1 f2 te kp nm x_11 x_12 tm 1024 (fun _ => 0) (fun _ => 0) ([]) ([]) ([]) 4294967295 H_15.size (tsl H_15) hkz (by assumption) (by first | assumption | omega) (by first | assumption | omega) (by first | assumption | omega) (by first | assumption | omega) (by first | assumption | omega) (by first | assumption | omega) (by first | assumption | omega) (by first | assumption | omega) (by assumption) (fun _ => ndv.z0) (by first | assumption | omega) (by first | assumption | omega) (by first | assumption | omega) (by first | assumption | omega) (by first | assumption | omega) (fun _ => ⟨by omega, fun i h => absurd h (Nat.not_lt_zero _), fun i h => absurd h (Nat.not_lt_zero _), Nat.le_refl _⟩) (fun _ => ⟨Nat.le_refl _, fun c hc => Or.inl (by rw [show c = 0 by omega]; exact hx_13)⟩) (fun _ => nlq_0) (fun _ => rfl) (fun _ => by rw [hs_10]; exact cll_0 hx_13.1 hx_13.2) (by first | assumption | omega) (Or.inr rfl) (fun _ => Or.inl rfl) (by first | assumption | omega)) (xcV (n := 1) hts wd_617 wd_3 wd_614 wd_616 ps_14 rfl rfl (by decide +kernel) ⟨(show (205 + 20 * 8) + 1 ≤ (400) by omega), (show 8 + (6 + 11) + (8100 + 800 * 8) ≤ (16000) by omega)⟩) (xpV3 (ci := 7) (q0 := 0) (As := [.int (nI 4294967295)]) hPc hK hz hDc rfl rfl) rfl rfl hl1.1 rfl (lv_room (Nat.le_of_ble_eq_true rfl)) d_Reader_takeProgram_26 ⟨(show (0) + (1024 - cp) ≤ (1024 - cp) by omega), (show (0) + (6 * (1024 - cp)) ≤ (6 * (1024 - cp)) by omega)⟩) hS (fun q _ h => hFc q h) hFc (fun r_18 u_16 t H_17 locs ht hvm hw hB hz1 hk1 hS1 => ?_)
  try dsimp only at hw
  obtain ⟨hw, hs_19, hs_20, hs_21, hs_22, hs_23, hs_24, hs_25, hs_26, hs_27, hs_28, hs_29, hs_30, hs_31, hs_32, hs_33, hs_34, hs_35, hs_36, hs_37, hs_38, hs_39, hs_40⟩ := hw
  subst hw
  obtain ⟨x_41, x_42, x_43, x_44, x_45, x_46, x_47, x_48, x_49, x_50, x_51, x_52, x_53, x_54, x_55, x_56, x_57, x_58, hg8, hg9, hx_59, hx_60, hx_61, hx_62, hx_63, hx_64, hx_65, hx_66, hx_67, hx_68, hx_69, hx_70, hx_71, hP1, hD1⟩ := hB
  rw [ht] at hg8 hg9 hP1
  have hjn := xw_join3 (wl := [(r0, .inr (7, [.ref k0, .ref g0, .ref n0, .int (nI (u_16 11)), .int (nI (u_16 9))])), (k0, .inr (9, [.ref k1, .ref k2, .int (nI 0), .int (nI (u_1 0)), .int (nI (u_16 0)), .int (nI (u_16 1)), .int (nI (u_16 2)), .int (nI (u_16 3))])), (k1, .inl (ax 1, 400, .inl tb)), (k2, .inl (ax 0, 401, .inl (fun j => nI (x_5 j)))), (n0, .inr (4, [.ref (u_16 4), .ref (u_16 5), .ref (u_16 6), .int (nI (u_16 7))])), ((u_16 4), .inl (ax 1, u_16 8, .inl x_52)), ((u_16 5), .inl (ax 0, u_16 8, .inl x_53)), ((u_16 6), .inl (ax 0, u_16 8, .inl x_54)), (g0, .inr (2, [.ref n0, .ref g1, .ref g2, .ref g3, .ref g4, .ref g5, .ref g6, .ref g7, .ref g8, .ref g9, .ref ga, .ref gb, .int (nI (u_16 12)), .int (nI (u_16 13)), .int (nI (u_16 14)), .int (nI (u_16 15)), .int (nI (u_16 16))])), (g1, .inl (ax 1, 20, .inl (fun j => nI (x_41 j)))), (g2, .inl (ax 1, 20, .inl (fun j => nI (x_42 j)))), (g3, .inl (ax 1, 20, .inl (fun j => nI (x_43 j)))), (g4, .inl (ax 1, 20, .inl (fun j => nI (x_44 j)))), (g5, .inl (ax 1, 20, .inl (fun j => nI (x_45 j)))), (g6, .inl (ax 2, 20, .inl (fun j => nI (x_46 j)))), (g7, .inl (ax 2, 20, .inl (fun j => nI (x_47 j)))), (g8, .inl (ax 0, 20, .inl x_51)), (g9, .inl (ax 1, 20, .inl (fun j => nI (x_48 j)))), (ga, .inl (ax 1, 29, .inl (fun j => nI (x_49 j)))), (gb, .inl (ax 1, 29, .inl (fun j => nI (x_50 j))))]) hP hD [0, 1, 2, 3, 16, 17, 18, 19, 4, 5, 6, 7, 8, 9, 10, 11, 12, 13, 14, 15] [] hCs (by decide) (by decide) hk1 hFc hP1 hD1 rfl
  clear hP1 hD1
  clear hPc hDc hFc hCs hz hz1 hk1 ht hvm
  clear hP hD hS
  have hS := hS1
  obtain ⟨hP, hD⟩ := hjn
  clear hS1
  refine wk_narrow (k := 0 + (u_16 8 - cp)) (n := 0 + (6 * (u_16 8 - cp))) (by first | assumption | omega) (by first | assumption | omega) ?_
  clear hk8 hk9 hg8 hg9
  refine lv_pop hx hb d_Reader_takeProgram_29 rfl ?_
  refine lv_aload_n hx hb d_Reader_takeProgram_30 rfl (lv_at hl1 0 rfl) ?_
  refine va_get (D := D) (ci := 7) (v := .ref k0) (C := R_Reader) (T := F_Reader) (N := 5) hx hb hts i_Reader hown hK.1 hP 0 rfl rfl 0 (by decide) (hts _ wd_75) (fun _ h9 => h9) rfl d_Reader_takeProgram_31 ?_
  obtain ⟨hPc, hDc, hFc, hCs⟩ := xw_sub3 (wc := [(k0, .inr (9, [.ref k1, .ref k2, .int (nI 0), .int (nI (u_1 0)), .int (nI (u_16 0)), .int (nI (u_16 1)), .int (nI (u_16 2)), .int (nI (u_16 3))])), (k1, .inl (ax 1, 400, .inl tb)), (k2, .inl (ax 0, 401, .inl (fun j => nI (x_5 j))))]) hP hD hS hA [1, 2, 3] (by decide) rfl
  have hz := xz_of hN hS
  refine va_calli (va_runV (As := []) (rest := []) ⟨hx, hb, hml, hown, hts⟩ (c_K_answer l D ax k0 k1 k2 tb x_5 (u_16 0) (u_16 1) (u_16 2) (u_16 3) cn 0 (u_1 0) H_17.size hkz (by assumption) (by first | assumption | omega) (by first | assumption | omega) (by first | assumption | omega)) (xcV (n := 0) hts wd_577 wd_2 wd_574 wd_575 wd_576 rfl rfl (by decide +kernel) ⟨(show (20) + 1 ≤ (400) by omega), (show 8 + (1 + 11) + (800) ≤ (16000) by omega)⟩) (xpV (ci := 9) (q0 := 0) (As := []) hPc hK hz hDc rfl rfl) rfl rfl hl1.1 rfl (lv_room (Nat.le_of_ble_eq_true rfl)) d_Reader_takeProgram_34 ⟨(show (0 + (u_16 8 - cp)) + (0) ≤ (1024 - cp) by omega), (show (0 + (6 * (u_16 8 - cp))) + (0) ≤ (6 * (1024 - cp)) by omega)⟩) hS (fun q _ h => hFc q h) hFc (fun r_74 u_72 t H_73 locs ht hvm hw hB hz1 hk1 hS1 => ?_)
  try dsimp only at hw
  obtain ⟨hw, hs_75, hs_76, hs_77, hs_78, hs_79, hs_80, hs_81, hs_82⟩ := hw
  subst hw
  obtain ⟨hP1, hD1⟩ := hB
  rw [ht] at hP1
  have hjn := xw_join3 (wl := [(r0, .inr (7, [.ref k0, .ref g0, .ref n0, .int (nI (u_16 11)), .int (nI (u_16 9))])), (n0, .inr (4, [.ref (u_16 4), .ref (u_16 5), .ref (u_16 6), .int (nI (u_16 7))])), ((u_16 4), .inl (ax 1, u_16 8, .inl x_52)), ((u_16 5), .inl (ax 0, u_16 8, .inl x_53)), ((u_16 6), .inl (ax 0, u_16 8, .inl x_54)), (g0, .inr (2, [.ref n0, .ref g1, .ref g2, .ref g3, .ref g4, .ref g5, .ref g6, .ref g7, .ref g8, .ref g9, .ref ga, .ref gb, .int (nI (u_16 12)), .int (nI (u_16 13)), .int (nI (u_16 14)), .int (nI (u_16 15)), .int (nI (u_16 16))])), (g1, .inl (ax 1, 20, .inl (fun j => nI (x_41 j)))), (g2, .inl (ax 1, 20, .inl (fun j => nI (x_42 j)))), (g3, .inl (ax 1, 20, .inl (fun j => nI (x_43 j)))), (g4, .inl (ax 1, 20, .inl (fun j => nI (x_44 j)))), (g5, .inl (ax 1, 20, .inl (fun j => nI (x_45 j)))), (g6, .inl (ax 2, 20, .inl (fun j => nI (x_46 j)))), (g7, .inl (ax 2, 20, .inl (fun j => nI (x_47 j)))), (g8, .inl (ax 0, 20, .inl x_51)), (g9, .inl (ax 1, 20, .inl (fun j => nI (x_48 j)))), (ga, .inl (ax 1, 29, .inl (fun j => nI (x_49 j)))), (gb, .inl (ax 1, 29, .inl (fun j => nI (x_50 j)))), (k0, .inr (9, [.ref k1, .ref k2, .int (nI 0), .int (nI (u_1 0)), .int (nI (u_72 0)), .int (nI (u_72 1)), .int (nI (u_72 2)), .int (nI (u_72 3))])), (k1, .inl (ax 1, 400, .inl tb)), (k2, .inl (ax 0, 401, .inl (fun j => nI (x_5 j))))]) hP hD [1, 2, 3] [0, 4, 5, 6, 7, 8, 9, 10, 11, 12, 13, 14, 15, 16, 17, 18, 19] hCs (by decide) (by decide) hk1 hFc hP1 hD1 rfl
  clear hP1 hD1
  clear hPc hDc hFc hCs hz hz1 hk1 ht hvm
  clear hP hD hS
  have hS := hS1
  obtain ⟨hP, hD⟩ := hjn
  clear hS1
  have hlt32 := hs_75.lt32
  rw [← hQe]
  refine wk_know (fun hk8 hk9 => ?_)
  refine W.widen (k := 1024 - cp) (n := 6 * (1024 - cp)) (by first | assumption | omega) (by first | assumption | omega) ?_
  obtain ⟨hP9, hD9⟩ := xw_sub2 (wc := (fun (u : Nat → Nat) (xah : Int32) (xat : Int32) (xft : Int32) (xnx : Int32) (xam : Int32) (xtk : Nat → Nat) (xfo : Nat → Int32) (xfl : Nat → Int32) (xfr : Nat → Int32) (xkd : Nat → Nat) (xow : Nat → Nat) (xsb : Nat → Nat) (xf1 : Nat → Nat) (xf2 : Nat → Nat) (xte : Nat → Nat) (xkp : Nat → Nat) (xnm : Nat → Nat) (xck : Nat → Nat) (xco : Nat → Nat) (xtm : Nat → Int32) (xpl : List itT) (xL : List sgT) => [(r0, .inr (7, [.ref k0, .ref g0, .ref n0, .int (nI (u 11)), .int (nI (u 9))])), (k0, .inr (9, [.ref k1, .ref k2, .int 0, .int xah, .int xat, .int xft, .int xnx, .int xam])), (k1, .inl (ax 1, 400, .inl tb)), (k2, .inl (ax 0, 401, .inl (fun j => nI (xtk j)))), (n0, .inr (4, [.ref (u 4), .ref (u 5), .ref (u 6), .int (nI (u 7))])), (u 4, .inl (ax 1, u 8, .inl xfo)), (u 5, .inl (ax 0, u 8, .inl xfl)), (u 6, .inl (ax 0, u 8, .inl xfr)), (g0, .inr (2, [.ref n0, .ref g1, .ref g2, .ref g3, .ref g4, .ref g5, .ref g6, .ref g7, .ref g8, .ref g9, .ref ga, .ref gb, .int (nI (u 12)), .int (nI (u 13)), .int (nI (u 14)), .int (nI (u 15)), .int (nI (u 16))])), (g1, .inl (ax 1, 20, .inl (fun j => nI (xkd j)))), (g2, .inl (ax 1, 20, .inl (fun j => nI (xow j)))), (g3, .inl (ax 1, 20, .inl (fun j => nI (xsb j)))), (g4, .inl (ax 1, 20, .inl (fun j => nI (xf1 j)))), (g5, .inl (ax 1, 20, .inl (fun j => nI (xf2 j)))), (g6, .inl (ax 2, 20, .inl (fun j => nI (xte j)))), (g7, .inl (ax 2, 20, .inl (fun j => nI (xkp j)))), (g8, .inl (ax 0, 20, .inl xtm)), (g9, .inl (ax 1, 20, .inl (fun j => nI (xnm j)))), (ga, .inl (ax 1, 29, .inl (fun j => nI (xck j)))), (gb, .inl (ax 1, 29, .inl (fun j => nI (xco j))))]) (ixn [0, 0, 0, 0, (u_16 4), (u_16 5), (u_16 6), (u_16 7), (u_16 8), (u_16 9), ((u_72 1) + 1), (u_16 11), (u_16 12), (u_16 13), (u_16 14), (u_16 15), (u_16 16)]) (nI (u_1 0)) (nI (u_72 0)) (nI (u_72 1)) (nI (u_72 2)) (nI (u_72 3)) x_5 x_52 x_53 x_54 x_41 x_42 x_43 x_44 x_45 x_46 x_47 x_48 x_49 x_50 x_51 x_57 x_58) hP hD [0, 17, 18, 19, 1, 2, 3, 4, 5, 6, 7, 8, 9, 10, 11, 12, 13, 14, 15, 16] (by decide) rfl
  have hex0 : bts x_52 ((u_16 8)) := (by assumption)
  have hex1 : nI (((u_72 1) + 1)) = 0 → (∃ en kc : Nat → Nat, lsw ((u_16 13)) ((u_16 7)) x_41 x_42 x_43 x_44 x_45 x_46 x_47 x_48 en kc x_51 x_52 x_53 x_54) ∧ (clm ((u_16 14)) ((u_16 12)) x_49 x_50 ((u_16 13)) x_41 x_48) ∧ 1 ≤ (u_16 13) ∧ ndv x_52 x_53 x_54 ((u_16 7)) := (fun q => by have hq := nI1_0 q hlt32; have ho := okf.of hs_80 hq; have h0 := hx_59 ho; have h1 := hx_60 ho; have h3 := hx_62 ho; exact ⟨⟨x_55, x_56, h0, fun i hi => h1 i (Nat.zero_le _) hi, by omega⟩, hx_63 ho, by omega, hx_64 ho⟩)
  have hex2 : ansP (gtb tb) ts (((u_72 1) + 1) % 4294967296) x_57 := (ap_of hkr hkz hx_67 hs_39 hs_19 hs_20 hs_82 hs_75)
  have hex3 : nI (((u_72 1) + 1)) = 0 → pgQ x_52 x_53 x_54 ((u_16 7)) ((u_16 13)) ((u_16 12)) x_41 x_42 x_43 x_44 x_45 x_46 x_47 x_48 x_49 x_50 x_51 x_58 x_57 := (fun q => by have hq := nI1_0 q hlt32; have ho := okf.of hs_80 hq; exact ⟨(hx_69 ho).1, hx_68 ho, hx_71 ho⟩)
  have hg8 : H_73.size ≤ s.heap.size + ((u_16 8) - cp) := by omega
  have hg9 : tsl H_73 ≤ tsl s.heap + (6 * ((u_16 8) - cp)) := by omega
  have hsp0 : (u_16 7) ≤ (u_16 8) := (by first | assumption | omega)
  have hsp1 : cp ≤ (u_16 8) := (by first | assumption | omega)
  have hsp2 : (u_16 8) ≤ 1024 := (by first | assumption | omega)
  have hsp3 : (u_16 11) ≤ 1 := (by first | assumption | omega)
  have hsp4 : (u_16 12) ≤ 29 := (by first | assumption | omega)
  have hsp5 : (u_16 13) ≤ 20 := (by first | assumption | omega)
  have hsp6 : (u_16 14) ≤ 4 := (by first | assumption | omega)
  exact W.iret (v := nI (u_72 1) + 1) hx hb hr (fun t ht hW => ⟨⟨nI (u_72 1) + 1, ixn [0, 0, 0, 0, (u_16 4), (u_16 5), (u_16 6), (u_16 7), (u_16 8), (u_16 9), ((u_72 1) + 1), (u_16 11), (u_16 12), (u_16 13), (u_16 14), (u_16 15), (u_16 16)], rfl, ⟨(nI_add _ 1), ⟨hsp0, hsp1, hsp2, hsp3, hsp4, hsp5, hsp6⟩⟩, ⟨nI (u_1 0), nI (u_72 0), nI (u_72 1), nI (u_72 2), nI (u_72 3), x_5, x_52, x_53, x_54, x_41, x_42, x_43, x_44, x_45, x_46, x_47, x_48, x_49, x_50, x_51, x_57, x_58, by rw [ht]; exact hg8, by rw [ht]; exact hg9, hex0, hex1, hex2, hex3, by rw [ht]; exact hP9, hD9⟩⟩, hS.F ht⟩) hS.2.2 d_Reader_takeProgram_37
