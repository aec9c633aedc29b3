theorem wd_12 : ((Jvm.Cond.initialized "TripleDesk$Listing")) ∈ lw_gd := lw_gd_in (i := 12) (by decide +kernel) rfl
theorem wd_267 : ((Jvm.Cond.fieldLink "TripleDesk$Listing" (12 : Nat) "TripleDesk$Listing" "nodes" "LTripleDesk$Nodes;")) ∈ lw_gd := lw_gd_in (i := 267) (by decide +kernel) rfl
theorem wd_533 : ((Jvm.Cond.instanceMethod ({ cls := "TripleDesk$Nodes", name := "clear", desc := "()V" } : Jvm.MethodName))) ∈ lw_gd := lw_gd_in (i := 533) (by decide +kernel) rfl
theorem wd_534 : ((Jvm.Cond.selects "TripleDesk$Nodes" ({ cls := "TripleDesk$Nodes", name := "clear", desc := "()V" } : Jvm.MethodName) ({ cls := "TripleDesk$Nodes", name := "clear", desc := "()V" } : Jvm.MethodName))) ∈ lw_gd := lw_gd_in (i := 534) (by decide +kernel) rfl
theorem wd_535 : ((Jvm.Cond.code ({ cls := "TripleDesk$Nodes", name := "clear", desc := "()V" } : Jvm.MethodName) prog_6_method_2_code (1 : Nat) (Option.none : Option Jvm.ClassFile.FieldType))) ∈ lw_gd := lw_gd_in (i := 535) (by decide +kernel) rfl
theorem wd_609 : ((Jvm.Cond.methodLink "TripleDesk$Listing" (54 : Nat) ({ cls := "TripleDesk$Nodes", name := "clear", desc := "()V" } : Jvm.MethodName))) ∈ lw_gd := lw_gd_in (i := 609) (by decide +kernel) rfl
theorem wd_610 : ((Jvm.Cond.methodLink "TripleDesk$Listing" (73 : Nat) ({ cls := "TripleDesk$Listing", name := "addClaim", desc := "(II)V" } : Jvm.MethodName))) ∈ lw_gd := lw_gd_in (i := 610) (by decide +kernel) rfl
theorem wd_611 : ((Jvm.Cond.instanceMethod ({ cls := "TripleDesk$Listing", name := "addClaim", desc := "(II)V" } : Jvm.MethodName))) ∈ lw_gd := lw_gd_in (i := 611) (by decide +kernel) rfl
theorem wd_612 : ((Jvm.Cond.selects "TripleDesk$Listing" ({ cls := "TripleDesk$Listing", name := "addClaim", desc := "(II)V" } : Jvm.MethodName) ({ cls := "TripleDesk$Listing", name := "addClaim", desc := "(II)V" } : Jvm.MethodName))) ∈ lw_gd := lw_gd_in (i := 612) (by decide +kernel) rfl
theorem wd_613 : ((Jvm.Cond.code ({ cls := "TripleDesk$Listing", name := "addClaim", desc := "(II)V" } : Jvm.MethodName) prog_4_method_6_code (3 : Nat) (Option.none : Option Jvm.ClassFile.FieldType))) ∈ lw_gd := lw_gd_in (i := 613) (by decide +kernel) rfl
/-- what comes behind a statement: none, a later one, or a while around it -/
def bhd (n s9 r : Nat) (kd : Nat → Nat) : Prop := r = 4294967295 ∨ (r < n ∧ (s9 < r ∨ (r < s9 ∧ kd r = 12)))
theorem lsp.own {n i : Nat} {kd ow sb en : Nat → Nat} (h : lsp n kd ow sb en) (hi : i < n) : ow i = 4294967295 ∨ (ow i < i ∧ en i ≤ en (ow i)) := (h i hi).2.1
theorem lsp.sib {n i : Nat} {kd ow sb en : Nat → Nat} (h : lsp n kd ow sb en) (hi : i < n) : sb i = 4294967295 ∨ (en i ≤ sb i ∧ sb i < n) := (h i hi).2.2.2
theorem lsp.ends {n i : Nat} {kd ow sb en : Nat → Nat} (h : lsp n kd ow sb en) (hi : i < n) : i < en i := (h i hi).2.2.1.1
theorem knd.lt {q : Nat} (h : knd q) : q < 128 := by unfold knd at h; omega
abbrev b_Listing_behind : ByteArray := prog_4_method_7_code
def y_Listing_behind : MethodName := ⟨R_Listing, "behind", "(I)I"⟩
theorem d_Listing_behind_0 : decode b_Listing_behind 0 = .ok (.iload_n 1, 1) := by decide +kernel
theorem d_Listing_behind_1 : decode b_Listing_behind 1 = .ok (.istore_n 2, 1) := by decide +kernel
theorem d_Listing_behind_2 : decode b_Listing_behind 2 = .ok (.iconst 0, 1) := by decide +kernel
theorem d_Listing_behind_3 : decode b_Listing_behind 3 = .ok (.istore_n 3, 1) := by decide +kernel
theorem d_Listing_behind_4 : decode b_Listing_behind 4 = .ok (.iload_n 3, 1) := by decide +kernel
theorem d_Listing_behind_5 : decode b_Listing_behind 5 = .ok (.bipush 20, 2) := by decide +kernel
theorem d_Listing_behind_7 : decode b_Listing_behind 7 = .ok (.if_icmp .ge 44, 3) := by decide +kernel
theorem d_Listing_behind_10 : decode b_Listing_behind 10 = .ok (.aload_n 0, 1) := by decide +kernel
theorem d_Listing_behind_11 : decode b_Listing_behind 11 = .ok (.getfield 25, 3) := by decide +kernel
theorem d_Listing_behind_14 : decode b_Listing_behind 14 = .ok (.iload_n 2, 1) := by decide +kernel
theorem d_Listing_behind_15 : decode b_Listing_behind 15 = .ok (.baload, 1) := by decide +kernel
theorem d_Listing_behind_16 : decode b_Listing_behind 16 = .ok (.iconst (-1), 1) := by decide +kernel
theorem d_Listing_behind_17 : decode b_Listing_behind 17 = .ok (.if_icmp .ne 34, 3) := by decide +kernel
theorem d_Listing_behind_20 : decode b_Listing_behind 20 = .ok (.aload_n 0, 1) := by decide +kernel
theorem d_Listing_behind_21 : decode b_Listing_behind 21 = .ok (.getfield 22, 3) := by decide +kernel
theorem d_Listing_behind_24 : decode b_Listing_behind 24 = .ok (.iload_n 2, 1) := by decide +kernel
theorem d_Listing_behind_25 : decode b_Listing_behind 25 = .ok (.baload, 1) := by decide +kernel
theorem d_Listing_behind_26 : decode b_Listing_behind 26 = .ok (.istore_n 2, 1) := by decide +kernel
theorem d_Listing_behind_27 : decode b_Listing_behind 27 = .ok (.iload_n 2, 1) := by decide +kernel
theorem d_Listing_behind_28 : decode b_Listing_behind 28 = .ok (.iconst (-1), 1) := by decide +kernel
theorem d_Listing_behind_29 : decode b_Listing_behind 29 = .ok (.if_icmp .eq 14, 3) := by decide +kernel
theorem d_Listing_behind_32 : decode b_Listing_behind 32 = .ok (.aload_n 0, 1) := by decide +kernel
theorem d_Listing_behind_33 : decode b_Listing_behind 33 = .ok (.getfield 18, 3) := by decide +kernel
theorem d_Listing_behind_36 : decode b_Listing_behind 36 = .ok (.iload_n 2, 1) := by decide +kernel
theorem d_Listing_behind_37 : decode b_Listing_behind 37 = .ok (.baload, 1) := by decide +kernel
theorem d_Listing_behind_38 : decode b_Listing_behind 38 = .ok (.bipush 12, 2) := by decide +kernel
theorem d_Listing_behind_40 : decode b_Listing_behind 40 = .ok (.if_icmp .ne 5, 3) := by decide +kernel
theorem d_Listing_behind_43 : decode b_Listing_behind 43 = .ok (.iload_n 2, 1) := by decide +kernel
theorem d_Listing_behind_44 : decode b_Listing_behind 44 = .ok (.ireturn, 1) := by decide +kernel
theorem d_Listing_behind_45 : decode b_Listing_behind 45 = .ok (.iinc 3 1, 3) := by decide +kernel
theorem d_Listing_behind_48 : decode b_Listing_behind 48 = .ok (.goto (-44), 3) := by decide +kernel
theorem d_Listing_behind_51 : decode b_Listing_behind 51 = .ok (.aload_n 0, 1) := by decide +kernel
theorem d_Listing_behind_52 : decode b_Listing_behind 52 = .ok (.getfield 25, 3) := by decide +kernel
theorem d_Listing_behind_55 : decode b_Listing_behind 55 = .ok (.iload_n 2, 1) := by decide +kernel
theorem d_Listing_behind_56 : decode b_Listing_behind 56 = .ok (.baload, 1) := by decide +kernel
theorem d_Listing_behind_57 : decode b_Listing_behind 57 = .ok (.ireturn, 1) := by decide +kernel
set_option maxHeartbeats 40000000 in
set_option maxRecDepth 100000 in
theorem c_L_behind (l : Launch) (D : va_G) (ax : Nat → ClassId) (g0 g1 g2 g3 g4 g5 g6 g7 g8 g9 ga gb cl ln br lp va : Nat) (kd ow sb f1 f2 te kp nm ck co : Nat → Nat) (tm : Nat → Int32) (n0 : Nat) (s9 : Nat) (en : Nat → Nat) (IT : Nat → itT) (X Y : Nat → List itT) (sz : Nat) (hln : ln ≤ 20) (hs9 : s9 < ln) (hls : lsp ln kd ow sb en) (hsn : ∀ i, i < ln → lsn ln kd ow sb IT X Y i) : Met l y_Listing_behind (xws (.code y_Listing_behind b_Listing_behind 4 (some .int))) ({ frames := 10, cells := 0, slots := 0, locals := 400 }) (va_Pc [.ref g0, .int (nI s9)] (xo D ax [(g0, .inr (2, [.ref n0, .ref g1, .ref g2, .ref g3, .ref g4, .ref g5, .ref g6, .ref g7, .ref g8, .ref g9, .ref ga, .ref gb, .int (nI cl), .int (nI ln), .int (nI br), .int (nI lp), .int (nI va)])), (g1, .inl (ax 1, 20, .inl (fun j => nI (kd j)))), (g2, .inl (ax 1, 20, .inl (fun j => nI (ow j)))), (g3, .inl (ax 1, 20, .inl (fun j => nI (sb j)))), (g4, .inl (ax 1, 20, .inl (fun j => nI (f1 j)))), (g5, .inl (ax 1, 20, .inl (fun j => nI (f2 j)))), (g6, .inl (ax 2, 20, .inl (fun j => nI (te j)))), (g7, .inl (ax 2, 20, .inl (fun j => nI (kp j)))), (g8, .inl (ax 0, 20, .inl tm)), (g9, .inl (ax 1, 20, .inl (fun j => nI (nm j)))), (ga, .inl (ax 1, 29, .inl (fun j => nI (ck j)))), (gb, .inl (ax 1, 29, .inl (fun j => nI (co j))))] sz)) ((va_Qi (fun (r : Int32) (u : Nat → Nat) => r = nI (u 0) ∧ (bhd ln s9 (u 0) kd ∧ bhQ kd IT X Y s9 (u 0))) (xb D (va_A [(g0, .inr (2, [.ref n0, .ref g1, .ref g2, .ref g3, .ref g4, .ref g5, .ref g6, .ref g7, .ref g8, .ref g9, .ref ga, .ref gb, .int (nI cl), .int (nI ln), .int (nI br), .int (nI lp), .int (nI va)])), (g1, .inl (ax 1, 20, .inl (fun j => nI (kd j)))), (g2, .inl (ax 1, 20, .inl (fun j => nI (ow j)))), (g3, .inl (ax 1, 20, .inl (fun j => nI (sb j)))), (g4, .inl (ax 1, 20, .inl (fun j => nI (f1 j)))), (g5, .inl (ax 1, 20, .inl (fun j => nI (f2 j)))), (g6, .inl (ax 2, 20, .inl (fun j => nI (te j)))), (g7, .inl (ax 2, 20, .inl (fun j => nI (kp j)))), (g8, .inl (ax 0, 20, .inl tm)), (g9, .inl (ax 1, 20, .inl (fun j => nI (nm j)))), (ga, .inl (ax 1, 29, .inl (fun j => nI (ck j)))), (gb, .inl (ax 1, 29, .inl (fun j => nI (co j))))] sz) (fun u => [(g0, .inr (2, [.ref n0, .ref g1, .ref g2, .ref g3, .ref g4, .ref g5, .ref g6, .ref g7, .ref g8, .ref g9, .ref ga, .ref gb, .int (nI cl), .int (nI ln), .int (nI br), .int (nI lp), .int (nI va)])), (g1, .inl (ax 1, 20, .inl (fun j => nI (kd j)))), (g2, .inl (ax 1, 20, .inl (fun j => nI (ow j)))), (g3, .inl (ax 1, 20, .inl (fun j => nI (sb j)))), (g4, .inl (ax 1, 20, .inl (fun j => nI (f1 j)))), (g5, .inl (ax 1, 20, .inl (fun j => nI (f2 j)))), (g6, .inl (ax 2, 20, .inl (fun j => nI (te j)))), (g7, .inl (ax 2, 20, .inl (fun j => nI (kp j)))), (g8, .inl (ax 0, 20, .inl tm)), (g9, .inl (ax 1, 20, .inl (fun j => nI (nm j)))), (ga, .inl (ax 1, 29, .inl (fun j => nI (ck j)))), (gb, .inl (ax 1, 29, .inl (fun j => nI (co j))))])) (va_A [(g0, .inr (2, [.ref n0, .ref g1, .ref g2, .ref g3, .ref g4, .ref g5, .ref g6, .ref g7, .ref g8, .ref g9, .ref ga, .ref gb, .int (nI cl), .int (nI ln), .int (nI br), .int (nI lp), .int (nI va)])), (g1, .inl (ax 1, 20, .inl (fun j => nI (kd j)))), (g2, .inl (ax 1, 20, .inl (fun j => nI (ow j)))), (g3, .inl (ax 1, 20, .inl (fun j => nI (sb j)))), (g4, .inl (ax 1, 20, .inl (fun j => nI (f1 j)))), (g5, .inl (ax 1, 20, .inl (fun j => nI (f2 j)))), (g6, .inl (ax 2, 20, .inl (fun j => nI (te j)))), (g7, .inl (ax 2, 20, .inl (fun j => nI (kp j)))), (g8, .inl (ax 0, 20, .inl tm)), (g9, .inl (ax 1, 20, .inl (fun j => nI (nm j)))), (ga, .inl (ax 1, 29, .inl (fun j => nI (ck j)))), (gb, .inl (ax 1, 29, .inl (fun j => nI (co j))))] sz))) 0 0 (va_A [(g0, .inr (2, [.ref n0, .ref g1, .ref g2, .ref g3, .ref g4, .ref g5, .ref g6, .ref g7, .ref g8, .ref g9, .ref ga, .ref gb, .int (nI cl), .int (nI ln), .int (nI br), .int (nI lp), .int (nI va)])), (g1, .inl (ax 1, 20, .inl (fun j => nI (kd j)))), (g2, .inl (ax 1, 20, .inl (fun j => nI (ow j)))), (g3, .inl (ax 1, 20, .inl (fun j => nI (sb j)))), (g4, .inl (ax 1, 20, .inl (fun j => nI (f1 j)))), (g5, .inl (ax 1, 20, .inl (fun j => nI (f2 j)))), (g6, .inl (ax 2, 20, .inl (fun j => nI (te j)))), (g7, .inl (ax 2, 20, .inl (fun j => nI (kp j)))), (g8, .inl (ax 0, 20, .inl tm)), (g9, .inl (ax 1, 20, .inl (fun j => nI (nm j)))), (ga, .inl (ax 1, 29, .inl (fun j => nI (ck j)))), (gb, .inl (ax 1, 29, .inl (fun j => nI (co j))))] sz) := by
  refine Met.ofW (cc := b_Listing_behind) (maxL := 4) (ret := (some .int)) (by decide) rfl ?_
  intro p e s m args below meth c s₁ B hml hv
  obtain ⟨rfl, hsz, hP, hK, hD0⟩ := hv
  have hx := B.exec
  have hb := B.bytes
  have hr := B.returns
  have hts := xw_hts B.pre
  have hown : s.vm.findClass R_Listing = some m.cls := findClass_of_methodNamed B.named
  have hlocks := B.notSynchronized
  subst hsz
  have hD := hD0.self (sz := s.heap.size)
  have hN := xz_entry hP
  generalize hAe : va_A [(g0, .inr (2, [.ref n0, .ref g1, .ref g2, .ref g3, .ref g4, .ref g5, .ref g6, .ref g7, .ref g8, .ref g9, .ref ga, .ref gb, .int (nI cl), .int (nI ln), .int (nI br), .int (nI lp), .int (nI va)])), (g1, .inl (ax 1, 20, .inl (fun j => nI (kd j)))), (g2, .inl (ax 1, 20, .inl (fun j => nI (ow j)))), (g3, .inl (ax 1, 20, .inl (fun j => nI (sb j)))), (g4, .inl (ax 1, 20, .inl (fun j => nI (f1 j)))), (g5, .inl (ax 1, 20, .inl (fun j => nI (f2 j)))), (g6, .inl (ax 2, 20, .inl (fun j => nI (te j)))), (g7, .inl (ax 2, 20, .inl (fun j => nI (kp j)))), (g8, .inl (ax 0, 20, .inl tm)), (g9, .inl (ax 1, 20, .inl (fun j => nI (nm j)))), (ga, .inl (ax 1, 29, .inl (fun j => nI (ck j)))), (gb, .inl (ax 1, 29, .inl (fun j => nI (co j))))] s.heap.size = A at hD hN ⊢
  have hA : ∀ q : Nat, s.heap.size ≤ q → A q := fun q h => by rw [← hAe]; exact Or.inr h
  have hS : va_S A s.heap s.heap [] := va_S.rf
  have hl0 := lv_entry ([.ref g0, .int (nI s9)]) (n := 4) (Nat.le_of_ble_eq_true rfl)
  rw [lg_entry_eq]
  generalize (lg_sl ([.ref g0, .int (nI s9)]) ++ List.replicate (4 - (lg_sl ([.ref g0, .int (nI s9)])).length) Slot.unset).toArray = ls at hl0 ⊢
  have hl1 : lv_has ls 4 [(0, .ref g0), (1, .int (nI s9))] := hl0
  refine xw_gen (fun Z9 hQe => ?_)
  refine lv_iload_n hx hb d_Listing_behind_0 rfl (lv_at hl1 1 rfl) ?_
  refine lv_istore_n (lv' := [(2, .int (nI s9)), (0, .ref g0), (1, .int (nI s9))]) hx hb d_Listing_behind_1 rfl hl1 (by decide) rfl (fun ls hl2 => ?_)
  clear hl1; have hl1 := hl2; clear hl2
  refine lv_iconst (v := 0) hx hb d_Listing_behind_2 (by decide) ?_
  refine lv_istore_n (lv' := [(3, .int 0), (2, .int (nI s9)), (0, .ref g0), (1, .int (nI s9))]) hx hb d_Listing_behind_3 rfl hl1 (by decide) rfl (fun ls hl2 => ?_)
  clear hl1; have hl1 := hl2; clear hl2
  suffices key_1 : ∀ (k : Nat) (a1 i1 : Nat), 20 - i1 < k → a1 < ln → a1 ≤ s9 → s9 < en a1 → i1 ≤ 20 → (∀ po, fFm po (Y a1) = fFm po (Y s9)) → a1 + i1 ≤ s9 → ∀ (H : Heap) (locs : List Loc) (ls : Array Slot), va_P D classes [(g0, .inr (2, [.ref n0, .ref g1, .ref g2, .ref g3, .ref g4, .ref g5, .ref g6, .ref g7, .ref g8, .ref g9, .ref ga, .ref gb, .int (nI cl), .int (nI ln), .int (nI br), .int (nI lp), .int (nI va)])), (g1, .inl (ax 1, 20, .inl (fun j => nI (kd j)))), (g2, .inl (ax 1, 20, .inl (fun j => nI (ow j)))), (g3, .inl (ax 1, 20, .inl (fun j => nI (sb j)))), (g4, .inl (ax 1, 20, .inl (fun j => nI (f1 j)))), (g5, .inl (ax 1, 20, .inl (fun j => nI (f2 j)))), (g6, .inl (ax 2, 20, .inl (fun j => nI (te j)))), (g7, .inl (ax 2, 20, .inl (fun j => nI (kp j)))), (g8, .inl (ax 0, 20, .inl tm)), (g9, .inl (ax 1, 20, .inl (fun j => nI (nm j)))), (ga, .inl (ax 1, 29, .inl (fun j => nI (ck j)))), (gb, .inl (ax 1, 29, .inl (fun j => nI (co j))))] H → va_D A [(g0, .inr (2, [.ref n0, .ref g1, .ref g2, .ref g3, .ref g4, .ref g5, .ref g6, .ref g7, .ref g8, .ref g9, .ref ga, .ref gb, .int (nI cl), .int (nI ln), .int (nI br), .int (nI lp), .int (nI va)])), (g1, .inl (ax 1, 20, .inl (fun j => nI (kd j)))), (g2, .inl (ax 1, 20, .inl (fun j => nI (ow j)))), (g3, .inl (ax 1, 20, .inl (fun j => nI (sb j)))), (g4, .inl (ax 1, 20, .inl (fun j => nI (f1 j)))), (g5, .inl (ax 1, 20, .inl (fun j => nI (f2 j)))), (g6, .inl (ax 2, 20, .inl (fun j => nI (te j)))), (g7, .inl (ax 2, 20, .inl (fun j => nI (kp j)))), (g8, .inl (ax 0, 20, .inl tm)), (g9, .inl (ax 1, 20, .inl (fun j => nI (nm j)))), (ga, .inl (ax 1, 29, .inl (fun j => nI (ck j)))), (gb, .inl (ax 1, 29, .inl (fun j => nI (co j))))] → va_S A s.heap H locs → lv_has ls 4 [(0, .ref g0), (1, .int (nI s9)), (2, .int (nI a1)), (3, .int (nI i1))] → W p l e (headSpec (xws (.code y_Listing_behind b_Listing_behind 4 (some .int))) ({ frames := 10, cells := 0, slots := 0, locals := 400 })).room s m ([.ref g0, .int (nI s9)] : List Value).toArray below meth c H locs 0 0 Z9 (F0 m 4 ls []) from key_1 (20 - 0 + 1) s9 0 (Nat.lt_succ_self _) (by first | assumption | omega) (by first | assumption | omega) (hls.ends hs9) (by first | assumption | omega) (fun _ => rfl) (by first | assumption | omega) _ _ _ (hP) (hD) hS (lv_sub hl1 [2, 3, 1, 0] rfl)
  intro k_2
  induction k_2 with
  | zero =>
    intro a1 i1 hk_4
    exact absurd hk_4 (Nat.not_lt_zero _)
  | succ k_2 ih_3 =>
    clear hP hD hS hl1
    intro a1 i1 hk_4 ha1 ha2 ha3 hi1 hE hi2 H locs ls hP hD hS hl1
    refine lv_iload_n hx hb d_Listing_behind_4 rfl (lv_at hl1 3 rfl) ?_
    refine lv_bipush (v := 20) hx hb d_Listing_behind_5 (by decide) ?_
    refine lv_icmp_ge (tgt := 51) hx hb d_Listing_behind_7 (by decide) (fun c_5 => ?_) (fun c_5 => ?_)
    · replace c_5 : 20 ≤ i1 := (nI_leI (a := 20) (b := i1) (by decide) (by first | exact Nat.lt_of_lt_of_le (by assumption) (by decide) | exact Nat.lt_of_le_of_lt (by assumption) (by decide) | omega)).mp c_5
      refine lv_aload_n hx hb d_Listing_behind_51 rfl (lv_at hl1 0 rfl) ?_
      refine va_get (D := D) (ci := 2) (v := .ref g3) (C := R_Listing) (T := F_Listing) (N := 17) hx hb hts i_Listing hown hK.1 hP 0 rfl rfl 3 (by decide) (hts _ wd_275) (fun _ h9 => h9) rfl d_Listing_behind_52 ?_
      refine lv_iload_n hx hb d_Listing_behind_55 rfl (lv_at hl1 2 rfl) ?_
      refine va_bald hx hb hK.1 hP 3 1 rfl rfl (vp_in_nI (by first | assumption | omega) (by decide)) d_Listing_behind_56 ?_
      refine W.eq (g2 := F0 m 57 ls [.int (nI (sb a1))]) (by rw [nI_clamp (by first | exact Nat.lt_of_lt_of_le (by assumption) (by decide) | exact Nat.lt_of_le_of_lt (by assumption) (by decide) | omega)]) ?_
      rw [← hQe]
      obtain ⟨hP9, hD9⟩ := xw_sub2 (wc := (fun u : Nat → Nat => [(g0, .inr (2, [.ref n0, .ref g1, .ref g2, .ref g3, .ref g4, .ref g5, .ref g6, .ref g7, .ref g8, .ref g9, .ref ga, .ref gb, .int (nI cl), .int (nI ln), .int (nI br), .int (nI lp), .int (nI va)])), (g1, .inl (ax 1, 20, .inl (fun j => nI (kd j)))), (g2, .inl (ax 1, 20, .inl (fun j => nI (ow j)))), (g3, .inl (ax 1, 20, .inl (fun j => nI (sb j)))), (g4, .inl (ax 1, 20, .inl (fun j => nI (f1 j)))), (g5, .inl (ax 1, 20, .inl (fun j => nI (f2 j)))), (g6, .inl (ax 2, 20, .inl (fun j => nI (te j)))), (g7, .inl (ax 2, 20, .inl (fun j => nI (kp j)))), (g8, .inl (ax 0, 20, .inl tm)), (g9, .inl (ax 1, 20, .inl (fun j => nI (nm j)))), (ga, .inl (ax 1, 29, .inl (fun j => nI (ck j)))), (gb, .inl (ax 1, 29, .inl (fun j => nI (co j))))]) (ixn [(sb a1)])) hP hD [0, 1, 2, 3, 4, 5, 6, 7, 8, 9, 10, 11] (by decide) rfl
      have hsp0 : bhd ln s9 ((sb a1)) kd := (by rcases hls.sib ha1 with h9 | h9; (exact Or.inl h9); (exact Or.inr ⟨h9.2, Or.inl (by first | assumption | omega)⟩))
      have hsp1 : bhQ kd IT X Y s9 ((sb a1)) := (by exfalso; omega)
      exact W.iret (v := nI (sb a1)) hx hb hr (fun t ht hW => ⟨⟨nI (sb a1), ixn [(sb a1)], rfl, ⟨rfl, ⟨hsp0, hsp1⟩⟩, ⟨by rw [ht]; exact hP9, hD9⟩⟩, hS.F ht⟩) hS.2.2 d_Listing_behind_57
    · replace c_5 : ¬ 20 ≤ i1 := fun hq9 => c_5 ((nI_leI (a := 20) (b := i1) (by decide) (by first | exact Nat.lt_of_lt_of_le (by assumption) (by decide) | exact Nat.lt_of_le_of_lt (by assumption) (by decide) | omega)).mpr hq9)
      refine lv_aload_n hx hb d_Listing_behind_10 rfl (lv_at hl1 0 rfl) ?_
      refine va_get (D := D) (ci := 2) (v := .ref g3) (C := R_Listing) (T := F_Listing) (N := 17) hx hb hts i_Listing hown hK.1 hP 0 rfl rfl 3 (by decide) (hts _ wd_275) (fun _ h9 => h9) rfl d_Listing_behind_11 ?_
      refine lv_iload_n hx hb d_Listing_behind_14 rfl (lv_at hl1 2 rfl) ?_
      refine va_bald hx hb hK.1 hP 3 1 rfl rfl (vp_in_nI (by first | assumption | omega) (by decide)) d_Listing_behind_15 ?_
      refine W.eq (g2 := F0 m 16 ls [.int (nI (sb a1))]) (by rw [nI_clamp (by first | exact Nat.lt_of_lt_of_le (by assumption) (by decide) | exact Nat.lt_of_le_of_lt (by assumption) (by decide) | omega)]) ?_
      refine lv_iconst (v := (-1)) hx hb d_Listing_behind_16 (by decide) ?_
      by_cases hn_6 : sb a1 = 4294967295
      · refine W.eq (g2 := F0 m 17 ls [.int (-1), .int (-1)]) (by rw [hn_6, nIm]) ?_
        refine lv_icmp_ne (tgt := 51) hx hb d_Listing_behind_17 (by decide) (fun c_7 => ?_) (fun c_7 => ?_)
        · first | exact absurd c_7 (by decide) | exact absurd (by decide) c_7
        have how := hls.own ha1
        refine lv_aload_n hx hb d_Listing_behind_20 rfl (lv_at hl1 0 rfl) ?_
        refine va_get (D := D) (ci := 2) (v := .ref g2) (C := R_Listing) (T := F_Listing) (N := 17) hx hb hts i_Listing hown hK.1 hP 0 rfl rfl 2 (by decide) (hts _ wd_274) (fun _ h9 => h9) rfl d_Listing_behind_21 ?_
        refine lv_iload_n hx hb d_Listing_behind_24 rfl (lv_at hl1 2 rfl) ?_
        refine va_bald hx hb hK.1 hP 2 1 rfl rfl (vp_in_nI (by first | assumption | omega) (by decide)) d_Listing_behind_25 ?_
        refine W.eq (g2 := F0 m 26 ls [.int (nI (ow a1))]) (by rw [nI_clamp (by first | exact Nat.lt_of_lt_of_le (by assumption) (by decide) | exact Nat.lt_of_le_of_lt (by assumption) (by decide) | omega)]) ?_
        refine lv_istore_n (lv' := [(2, .int (nI (ow a1))), (0, .ref g0), (1, .int (nI s9)), (3, .int (nI i1))]) hx hb d_Listing_behind_26 rfl hl1 (by decide) rfl (fun ls hl2 => ?_)
        clear hl1; have hl1 := hl2; clear hl2
        refine lv_iload_n hx hb d_Listing_behind_27 rfl (lv_at hl1 0 rfl) ?_
        refine lv_iconst (v := (-1)) hx hb d_Listing_behind_28 (by decide) ?_
        by_cases hn_8 : ow a1 = 4294967295
        · refine W.eq (g2 := F0 m 29 ls [.int (-1), .int (-1)]) (by rw [hn_8, nIm]) ?_
          refine lv_icmp_eq (tgt := 43) hx hb d_Listing_behind_29 (by decide) (fun c_9 => ?_) (fun c_9 => ?_)
          rotate_left
          · first | exact absurd c_9 (by decide) | exact absurd (by decide) c_9
          refine lv_iload_n hx hb d_Listing_behind_43 rfl (lv_at hl1 0 rfl) ?_
          rw [← hQe]
          obtain ⟨hP9, hD9⟩ := xw_sub2 (wc := (fun u : Nat → Nat => [(g0, .inr (2, [.ref n0, .ref g1, .ref g2, .ref g3, .ref g4, .ref g5, .ref g6, .ref g7, .ref g8, .ref g9, .ref ga, .ref gb, .int (nI cl), .int (nI ln), .int (nI br), .int (nI lp), .int (nI va)])), (g1, .inl (ax 1, 20, .inl (fun j => nI (kd j)))), (g2, .inl (ax 1, 20, .inl (fun j => nI (ow j)))), (g3, .inl (ax 1, 20, .inl (fun j => nI (sb j)))), (g4, .inl (ax 1, 20, .inl (fun j => nI (f1 j)))), (g5, .inl (ax 1, 20, .inl (fun j => nI (f2 j)))), (g6, .inl (ax 2, 20, .inl (fun j => nI (te j)))), (g7, .inl (ax 2, 20, .inl (fun j => nI (kp j)))), (g8, .inl (ax 0, 20, .inl tm)), (g9, .inl (ax 1, 20, .inl (fun j => nI (nm j)))), (ga, .inl (ax 1, 29, .inl (fun j => nI (ck j)))), (gb, .inl (ax 1, 29, .inl (fun j => nI (co j))))]) (ixn [(ow a1)])) hP hD [0, 1, 2, 3, 4, 5, 6, 7, 8, 9, 10, 11] (by decide) rfl
          have hsp0 : bhd ln s9 ((ow a1)) kd := (Or.inl hn_8)
          have hsp1 : bhQ kd IT X Y s9 ((ow a1)) := (fun po => ⟨fun _ => (hE po).symm.trans (ln_end (hsn a1 ha1) hln hn_6 hn_8), fun q => absurd hn_8 q, fun q => by omega⟩)
          exact W.iret (v := nI (ow a1)) hx hb hr (fun t ht hW => ⟨⟨nI (ow a1), ixn [(ow a1)], rfl, ⟨rfl, ⟨hsp0, hsp1⟩⟩, ⟨by rw [ht]; exact hP9, hD9⟩⟩, hS.F ht⟩) hS.2.2 d_Listing_behind_44
        · have hn_8l : ow a1 < 2 ^ 31 := by have h9 := Or.resolve_left how hn_8; omega
          refine lv_icmp_eq (tgt := 43) hx hb d_Listing_behind_29 (by decide) (fun c_10 => ?_) (fun c_10 => ?_)
          · exact absurd c_10 (nIm1 (by first | assumption | omega))
          obtain ⟨hoa, hoe⟩ := Or.resolve_left how hn_8
          have hkl := (hls (ow a1) (by first | assumption | omega)).1.lt
          clear how
          refine lv_aload_n hx hb d_Listing_behind_32 rfl (lv_at hl1 1 rfl) ?_
          refine va_get (D := D) (ci := 2) (v := .ref g1) (C := R_Listing) (T := F_Listing) (N := 17) hx hb hts i_Listing hown hK.1 hP 0 rfl rfl 1 (by decide) (hts _ wd_271) (fun _ h9 => h9) rfl d_Listing_behind_33 ?_
          refine lv_iload_n hx hb d_Listing_behind_36 rfl (lv_at hl1 0 rfl) ?_
          refine va_bald hx hb hK.1 hP 1 1 rfl rfl (vp_in_nI (by first | assumption | omega) (by decide)) d_Listing_behind_37 ?_
          refine W.eq (g2 := F0 m 38 ls [.int (nI (kd (ow a1)))]) (by rw [nI_clamp (by first | exact Nat.lt_of_lt_of_le (by assumption) (by decide) | exact Nat.lt_of_le_of_lt (by assumption) (by decide) | omega)]) ?_
          refine lv_bipush (v := 12) hx hb d_Listing_behind_38 (by decide) ?_
          refine lv_icmp_ne (tgt := 45) hx hb d_Listing_behind_40 (by decide) (fun c_11 => ?_) (fun c_11 => ?_)
          · replace c_11 : ¬ kd (ow a1) = 12 := fun hq9 => c_11 ((nI_eq (a := kd (ow a1)) (b := 12) (by first | exact Nat.lt_of_lt_of_le (by assumption) (by decide) | exact Nat.lt_of_le_of_lt (by assumption) (by decide) | omega) (by decide)).mpr hq9)
            refine lv_iinc (v := nI (i1 + 1)) (lv' := [(3, .int (nI (i1 + 1))), (2, .int (nI (ow a1))), (0, .ref g0), (1, .int (nI s9))]) hx hb d_Listing_behind_45 hl1 (k := 3) rfl (nI_add i1 1) (by decide) rfl (fun ls hl2 => ?_)
            clear hl1; have hl1 := hl2; clear hl2
            refine lv_goto (tgt := 4) hx hb d_Listing_behind_48 (by decide) ?_
            exact ih_3 (ow a1) (i1 + 1) (by first | assumption | omega) (by first | assumption | omega) (by first | assumption | omega) (by first | assumption | omega) (by first | assumption | omega) (fun po => (ln_own (hsn a1 ha1) hn_6 hn_8 (by assumption)).symm.trans (hE po)) (by first | assumption | omega) _ _ _ (hP.sub [0, 1, 2, 3, 4, 5, 6, 7, 8, 9, 10, 11] rfl) (hD.sub [0, 1, 2, 3, 4, 5, 6, 7, 8, 9, 10, 11] (by decide) rfl) hS (lv_sub hl1 [2, 3, 1, 0] rfl)
          · replace c_11 : kd (ow a1) = 12 := (nI_eq (a := kd (ow a1)) (b := 12) (by first | exact Nat.lt_of_lt_of_le (by assumption) (by decide) | exact Nat.lt_of_le_of_lt (by assumption) (by decide) | omega) (by decide)).mp c_11
            refine lv_iload_n hx hb d_Listing_behind_43 rfl (lv_at hl1 0 rfl) ?_
            rw [← hQe]
            obtain ⟨hP9, hD9⟩ := xw_sub2 (wc := (fun u : Nat → Nat => [(g0, .inr (2, [.ref n0, .ref g1, .ref g2, .ref g3, .ref g4, .ref g5, .ref g6, .ref g7, .ref g8, .ref g9, .ref ga, .ref gb, .int (nI cl), .int (nI ln), .int (nI br), .int (nI lp), .int (nI va)])), (g1, .inl (ax 1, 20, .inl (fun j => nI (kd j)))), (g2, .inl (ax 1, 20, .inl (fun j => nI (ow j)))), (g3, .inl (ax 1, 20, .inl (fun j => nI (sb j)))), (g4, .inl (ax 1, 20, .inl (fun j => nI (f1 j)))), (g5, .inl (ax 1, 20, .inl (fun j => nI (f2 j)))), (g6, .inl (ax 2, 20, .inl (fun j => nI (te j)))), (g7, .inl (ax 2, 20, .inl (fun j => nI (kp j)))), (g8, .inl (ax 0, 20, .inl tm)), (g9, .inl (ax 1, 20, .inl (fun j => nI (nm j)))), (ga, .inl (ax 1, 29, .inl (fun j => nI (ck j)))), (gb, .inl (ax 1, 29, .inl (fun j => nI (co j))))]) (ixn [(ow a1)])) hP hD [0, 1, 2, 3, 4, 5, 6, 7, 8, 9, 10, 11] (by decide) rfl
            have hsp0 : bhd ln s9 ((ow a1)) kd := (Or.inr ⟨by omega, Or.inr ⟨by omega, by assumption⟩⟩)
            have hsp1 : bhQ kd IT X Y s9 ((ow a1)) := (fun po => ⟨fun q => absurd q hn_8, fun _ q => by omega, fun _ => (hE po).symm.trans (ln_od (hsn a1 ha1) hn_6 hn_8 (by assumption))⟩)
            exact W.iret (v := nI (ow a1)) hx hb hr (fun t ht hW => ⟨⟨nI (ow a1), ixn [(ow a1)], rfl, ⟨rfl, ⟨hsp0, hsp1⟩⟩, ⟨by rw [ht]; exact hP9, hD9⟩⟩, hS.F ht⟩) hS.2.2 d_Listing_behind_44
      · have hn_6l : sb a1 < 2 ^ 31 := by have h9 := Or.resolve_left (hls.sib ha1) hn_6; omega
        refine lv_icmp_ne (tgt := 51) hx hb d_Listing_behind_17 (by decide) (fun c_12 => ?_) (fun c_12 => ?_)
        rotate_right
        · exact absurd c_12 (nIm1 (by first | assumption | omega))
        refine lv_aload_n hx hb d_Listing_behind_51 rfl (lv_at hl1 0 rfl) ?_
        refine va_get (D := D) (ci := 2) (v := .ref g3) (C := R_Listing) (T := F_Listing) (N := 17) hx hb hts i_Listing hown hK.1 hP 0 rfl rfl 3 (by decide) (hts _ wd_275) (fun _ h9 => h9) rfl d_Listing_behind_52 ?_
        refine lv_iload_n hx hb d_Listing_behind_55 rfl (lv_at hl1 2 rfl) ?_
        refine va_bald hx hb hK.1 hP 3 1 rfl rfl (vp_in_nI (by first | assumption | omega) (by decide)) d_Listing_behind_56 ?_
        refine W.eq (g2 := F0 m 57 ls [.int (nI (sb a1))]) (by rw [nI_clamp (by first | exact Nat.lt_of_lt_of_le (by assumption) (by decide) | exact Nat.lt_of_le_of_lt (by assumption) (by decide) | omega)]) ?_
        rw [← hQe]
        obtain ⟨hP9, hD9⟩ := xw_sub2 (wc := (fun u : Nat → Nat => [(g0, .inr (2, [.ref n0, .ref g1, .ref g2, .ref g3, .ref g4, .ref g5, .ref g6, .ref g7, .ref g8, .ref g9, .ref ga, .ref gb, .int (nI cl), .int (nI ln), .int (nI br), .int (nI lp), .int (nI va)])), (g1, .inl (ax 1, 20, .inl (fun j => nI (kd j)))), (g2, .inl (ax 1, 20, .inl (fun j => nI (ow j)))), (g3, .inl (ax 1, 20, .inl (fun j => nI (sb j)))), (g4, .inl (ax 1, 20, .inl (fun j => nI (f1 j)))), (g5, .inl (ax 1, 20, .inl (fun j => nI (f2 j)))), (g6, .inl (ax 2, 20, .inl (fun j => nI (te j)))), (g7, .inl (ax 2, 20, .inl (fun j => nI (kp j)))), (g8, .inl (ax 0, 20, .inl tm)), (g9, .inl (ax 1, 20, .inl (fun j => nI (nm j)))), (ga, .inl (ax 1, 29, .inl (fun j => nI (ck j)))), (gb, .inl (ax 1, 29, .inl (fun j => nI (co j))))]) (ixn [(sb a1)])) hP hD [0, 1, 2, 3, 4, 5, 6, 7, 8, 9, 10, 11] (by decide) rfl
        have hsp0 : bhd ln s9 ((sb a1)) kd := (Or.inr (by have h9 := Or.resolve_left (hls.sib ha1) hn_6; exact ⟨h9.2, Or.inl (by first | assumption | omega)⟩))
        have hsp1 : bhQ kd IT X Y s9 ((sb a1)) := (fun po => ⟨fun q => absurd q hn_6, fun _ _ => (hE po).symm.trans (ln_sib (hsn a1 ha1) hn_6), fun q => by have h9 := Or.resolve_left (hls.sib ha1) hn_6; omega⟩)
        exact W.iret (v := nI (sb a1)) hx hb hr (fun t ht hW => ⟨⟨nI (sb a1), ixn [(sb a1)], rfl, ⟨rfl, ⟨hsp0, hsp1⟩⟩, ⟨by rw [ht]; exact hP9, hD9⟩⟩, hS.F ht⟩) hS.2.2 d_Listing_behind_57
abbrev b_Listing_clear : ByteArray := prog_4_method_2_code
def y_Listing_clear : MethodName := ⟨R_Listing, "clear", "()V"⟩
theorem d_Listing_clear_0 : decode b_Listing_clear 0 = .ok (.aload_n 0, 1) := by decide +kernel
theorem d_Listing_clear_1 : decode b_Listing_clear 1 = .ok (.getfield 12, 3) := by decide +kernel
theorem d_Listing_clear_4 : decode b_Listing_clear 4 = .ok (.invokevirtual 54, 3) := by decide +kernel
theorem d_Listing_clear_7 : decode b_Listing_clear 7 = .ok (.aload_n 0, 1) := by decide +kernel
theorem d_Listing_clear_8 : decode b_Listing_clear 8 = .ok (.iconst 0, 1) := by decide +kernel
theorem d_Listing_clear_9 : decode b_Listing_clear 9 = .ok (.putfield 57, 3) := by decide +kernel
theorem d_Listing_clear_12 : decode b_Listing_clear 12 = .ok (.aload_n 0, 1) := by decide +kernel
theorem d_Listing_clear_13 : decode b_Listing_clear 13 = .ok (.iconst 0, 1) := by decide +kernel
theorem d_Listing_clear_14 : decode b_Listing_clear 14 = .ok (.putfield 61, 3) := by decide +kernel
theorem d_Listing_clear_17 : decode b_Listing_clear 17 = .ok (.aload_n 0, 1) := by decide +kernel
theorem d_Listing_clear_18 : decode b_Listing_clear 18 = .ok (.iconst 0, 1) := by decide +kernel
theorem d_Listing_clear_19 : decode b_Listing_clear 19 = .ok (.putfield 64, 3) := by decide +kernel
theorem d_Listing_clear_22 : decode b_Listing_clear 22 = .ok (.aload_n 0, 1) := by decide +kernel
theorem d_Listing_clear_23 : decode b_Listing_clear 23 = .ok (.iconst 0, 1) := by decide +kernel
theorem d_Listing_clear_24 : decode b_Listing_clear 24 = .ok (.putfield 67, 3) := by decide +kernel
theorem d_Listing_clear_27 : decode b_Listing_clear 27 = .ok (.aload_n 0, 1) := by decide +kernel
theorem d_Listing_clear_28 : decode b_Listing_clear 28 = .ok (.iconst 0, 1) := by decide +kernel
theorem d_Listing_clear_29 : decode b_Listing_clear 29 = .ok (.putfield 70, 3) := by decide +kernel
theorem d_Listing_clear_32 : decode b_Listing_clear 32 = .ok (.aload_n 0, 1) := by decide +kernel
theorem d_Listing_clear_33 : decode b_Listing_clear 33 = .ok (.iconst 0, 1) := by decide +kernel
theorem d_Listing_clear_34 : decode b_Listing_clear 34 = .ok (.iconst (-1), 1) := by decide +kernel
theorem d_Listing_clear_35 : decode b_Listing_clear 35 = .ok (.invokevirtual 73, 3) := by decide +kernel
theorem d_Listing_clear_38 : decode b_Listing_clear 38 = .ok (.return_, 1) := by decide +kernel
set_option maxHeartbeats 40000000 in
set_option maxRecDepth 100000 in
theorem c_L_clear (l : Launch) (D : va_G) (ax : Nat → ClassId) (g0 g1 g2 g3 g4 g5 g6 g7 g8 g9 ga gb cl ln br lp va : Nat) (kd ow sb f1 f2 te kp nm ck co : Nat → Nat) (tm : Nat → Int32) (n0 n1 n2 n3 cp z9 : Nat) (fo fl fr : Nat → Int32) (sz : Nat) : Met l y_Listing_clear (xws (.code y_Listing_clear b_Listing_clear 1 none)) ({ frames := 20, cells := 0, slots := 0, locals := 800 }) (va_Pc [.ref g0] (xo D ax [(g0, .inr (2, [.ref n0, .ref g1, .ref g2, .ref g3, .ref g4, .ref g5, .ref g6, .ref g7, .ref g8, .ref g9, .ref ga, .ref gb, .int (nI cl), .int (nI ln), .int (nI br), .int (nI lp), .int (nI va)])), (g1, .inl (ax 1, 20, .inl (fun j => nI (kd j)))), (g2, .inl (ax 1, 20, .inl (fun j => nI (ow j)))), (g3, .inl (ax 1, 20, .inl (fun j => nI (sb j)))), (g4, .inl (ax 1, 20, .inl (fun j => nI (f1 j)))), (g5, .inl (ax 1, 20, .inl (fun j => nI (f2 j)))), (g6, .inl (ax 2, 20, .inl (fun j => nI (te j)))), (g7, .inl (ax 2, 20, .inl (fun j => nI (kp j)))), (g8, .inl (ax 0, 20, .inl tm)), (g9, .inl (ax 1, 20, .inl (fun j => nI (nm j)))), (ga, .inl (ax 1, 29, .inl (fun j => nI (ck j)))), (gb, .inl (ax 1, 29, .inl (fun j => nI (co j)))), (n0, .inr (4, [.ref n1, .ref n2, .ref n3, .int (nI z9)])), (n1, .inl (ax 1, cp, .inl fo)), (n2, .inl (ax 0, cp, .inl fl)), (n3, .inl (ax 0, cp, .inl fr))] sz)) ((va_Qv (fun (u : Nat → Nat) => (u 0 = 1)) (fun (u : Nat → Nat) (t9 : State) => ∃ xck : Nat → Nat, ∃ xco : Nat → Nat, (xck 0 = 0 ∧ xco 0 = 4294967295) ∧ va_P D classes [(g0, .inr (2, [.ref n0, .ref g1, .ref g2, .ref g3, .ref g4, .ref g5, .ref g6, .ref g7, .ref g8, .ref g9, .ref ga, .ref gb, .int (nI (u 0)), .int 0, .int 0, .int 0, .int 0])), (g1, .inl (ax 1, 20, .inl (fun j => nI (kd j)))), (g2, .inl (ax 1, 20, .inl (fun j => nI (ow j)))), (g3, .inl (ax 1, 20, .inl (fun j => nI (sb j)))), (g4, .inl (ax 1, 20, .inl (fun j => nI (f1 j)))), (g5, .inl (ax 1, 20, .inl (fun j => nI (f2 j)))), (g6, .inl (ax 2, 20, .inl (fun j => nI (te j)))), (g7, .inl (ax 2, 20, .inl (fun j => nI (kp j)))), (g8, .inl (ax 0, 20, .inl tm)), (g9, .inl (ax 1, 20, .inl (fun j => nI (nm j)))), (ga, .inl (ax 1, 29, .inl (fun j => nI (xck j)))), (gb, .inl (ax 1, 29, .inl (fun j => nI (xco j)))), (n0, .inr (4, [.ref n1, .ref n2, .ref n3, .int 0])), (n1, .inl (ax 1, cp, .inl fo)), (n2, .inl (ax 0, cp, .inl fl)), (n3, .inl (ax 0, cp, .inl fr))] t9.heap ∧ va_D (va_A [(g0, .inr (2, [.ref n0, .ref g1, .ref g2, .ref g3, .ref g4, .ref g5, .ref g6, .ref g7, .ref g8, .ref g9, .ref ga, .ref gb, .int (nI cl), .int (nI ln), .int (nI br), .int (nI lp), .int (nI va)])), (g1, .inl (ax 1, 20, .inl (fun j => nI (kd j)))), (g2, .inl (ax 1, 20, .inl (fun j => nI (ow j)))), (g3, .inl (ax 1, 20, .inl (fun j => nI (sb j)))), (g4, .inl (ax 1, 20, .inl (fun j => nI (f1 j)))), (g5, .inl (ax 1, 20, .inl (fun j => nI (f2 j)))), (g6, .inl (ax 2, 20, .inl (fun j => nI (te j)))), (g7, .inl (ax 2, 20, .inl (fun j => nI (kp j)))), (g8, .inl (ax 0, 20, .inl tm)), (g9, .inl (ax 1, 20, .inl (fun j => nI (nm j)))), (ga, .inl (ax 1, 29, .inl (fun j => nI (ck j)))), (gb, .inl (ax 1, 29, .inl (fun j => nI (co j)))), (n0, .inr (4, [.ref n1, .ref n2, .ref n3, .int (nI z9)])), (n1, .inl (ax 1, cp, .inl fo)), (n2, .inl (ax 0, cp, .inl fl)), (n3, .inl (ax 0, cp, .inl fr))] sz) [(g0, .inr (2, [.ref n0, .ref g1, .ref g2, .ref g3, .ref g4, .ref g5, .ref g6, .ref g7, .ref g8, .ref g9, .ref ga, .ref gb, .int (nI (u 0)), .int 0, .int 0, .int 0, .int 0])), (g1, .inl (ax 1, 20, .inl (fun j => nI (kd j)))), (g2, .inl (ax 1, 20, .inl (fun j => nI (ow j)))), (g3, .inl (ax 1, 20, .inl (fun j => nI (sb j)))), (g4, .inl (ax 1, 20, .inl (fun j => nI (f1 j)))), (g5, .inl (ax 1, 20, .inl (fun j => nI (f2 j)))), (g6, .inl (ax 2, 20, .inl (fun j => nI (te j)))), (g7, .inl (ax 2, 20, .inl (fun j => nI (kp j)))), (g8, .inl (ax 0, 20, .inl tm)), (g9, .inl (ax 1, 20, .inl (fun j => nI (nm j)))), (ga, .inl (ax 1, 29, .inl (fun j => nI (xck j)))), (gb, .inl (ax 1, 29, .inl (fun j => nI (xco j)))), (n0, .inr (4, [.ref n1, .ref n2, .ref n3, .int 0])), (n1, .inl (ax 1, cp, .inl fo)), (n2, .inl (ax 0, cp, .inl fl)), (n3, .inl (ax 0, cp, .inl fr))]) (va_A [(g0, .inr (2, [.ref n0, .ref g1, .ref g2, .ref g3, .ref g4, .ref g5, .ref g6, .ref g7, .ref g8, .ref g9, .ref ga, .ref gb, .int (nI cl), .int (nI ln), .int (nI br), .int (nI lp), .int (nI va)])), (g1, .inl (ax 1, 20, .inl (fun j => nI (kd j)))), (g2, .inl (ax 1, 20, .inl (fun j => nI (ow j)))), (g3, .inl (ax 1, 20, .inl (fun j => nI (sb j)))), (g4, .inl (ax 1, 20, .inl (fun j => nI (f1 j)))), (g5, .inl (ax 1, 20, .inl (fun j => nI (f2 j)))), (g6, .inl (ax 2, 20, .inl (fun j => nI (te j)))), (g7, .inl (ax 2, 20, .inl (fun j => nI (kp j)))), (g8, .inl (ax 0, 20, .inl tm)), (g9, .inl (ax 1, 20, .inl (fun j => nI (nm j)))), (ga, .inl (ax 1, 29, .inl (fun j => nI (ck j)))), (gb, .inl (ax 1, 29, .inl (fun j => nI (co j)))), (n0, .inr (4, [.ref n1, .ref n2, .ref n3, .int (nI z9)])), (n1, .inl (ax 1, cp, .inl fo)), (n2, .inl (ax 0, cp, .inl fl)), (n3, .inl (ax 0, cp, .inl fr))] sz))) 0 0 (va_A [(g0, .inr (2, [.ref n0, .ref g1, .ref g2, .ref g3, .ref g4, .ref g5, .ref g6, .ref g7, .ref g8, .ref g9, .ref ga, .ref gb, .int (nI cl), .int (nI ln), .int (nI br), .int (nI lp), .int (nI va)])), (g1, .inl (ax 1, 20, .inl (fun j => nI (kd j)))), (g2, .inl (ax 1, 20, .inl (fun j => nI (ow j)))), (g3, .inl (ax 1, 20, .inl (fun j => nI (sb j)))), (g4, .inl (ax 1, 20, .inl (fun j => nI (f1 j)))), (g5, .inl (ax 1, 20, .inl (fun j => nI (f2 j)))), (g6, .inl (ax 2, 20, .inl (fun j => nI (te j)))), (g7, .inl (ax 2, 20, .inl (fun j => nI (kp j)))), (g8, .inl (ax 0, 20, .inl tm)), (g9, .inl (ax 1, 20, .inl (fun j => nI (nm j)))), (ga, .inl (ax 1, 29, .inl (fun j => nI (ck j)))), (gb, .inl (ax 1, 29, .inl (fun j => nI (co j)))), (n0, .inr (4, [.ref n1, .ref n2, .ref n3, .int (nI z9)])), (n1, .inl (ax 1, cp, .inl fo)), (n2, .inl (ax 0, cp, .inl fl)), (n3, .inl (ax 0, cp, .inl fr))] sz) := by
  refine Met.ofW (cc := b_Listing_clear) (maxL := 1) (ret := none) (by decide) rfl ?_
  intro p e s m args below meth c s₁ B hml hv
  obtain ⟨rfl, hsz, hP, hK, hD0⟩ := hv
  have hx := B.exec
  have hb := B.bytes
  have hr := B.returns
  have hts := xw_hts B.pre
  have hown : s.vm.findClass R_Listing = some m.cls := findClass_of_methodNamed B.named
  have hlocks := B.notSynchronized
  subst hsz
  have hD := hD0.self (sz := s.heap.size)
  have hN := xz_entry hP
  generalize hAe : va_A [(g0, .inr (2, [.ref n0, .ref g1, .ref g2, .ref g3, .ref g4, .ref g5, .ref g6, .ref g7, .ref g8, .ref g9, .ref ga, .ref gb, .int (nI cl), .int (nI ln), .int (nI br), .int (nI lp), .int (nI va)])), (g1, .inl (ax 1, 20, .inl (fun j => nI (kd j)))), (g2, .inl (ax 1, 20, .inl (fun j => nI (ow j)))), (g3, .inl (ax 1, 20, .inl (fun j => nI (sb j)))), (g4, .inl (ax 1, 20, .inl (fun j => nI (f1 j)))), (g5, .inl (ax 1, 20, .inl (fun j => nI (f2 j)))), (g6, .inl (ax 2, 20, .inl (fun j => nI (te j)))), (g7, .inl (ax 2, 20, .inl (fun j => nI (kp j)))), (g8, .inl (ax 0, 20, .inl tm)), (g9, .inl (ax 1, 20, .inl (fun j => nI (nm j)))), (ga, .inl (ax 1, 29, .inl (fun j => nI (ck j)))), (gb, .inl (ax 1, 29, .inl (fun j => nI (co j)))), (n0, .inr (4, [.ref n1, .ref n2, .ref n3, .int (nI z9)])), (n1, .inl (ax 1, cp, .inl fo)), (n2, .inl (ax 0, cp, .inl fl)), (n3, .inl (ax 0, cp, .inl fr))] s.heap.size = A at hD hN ⊢
  have hA : ∀ q : Nat, s.heap.size ≤ q → A q := fun q h => by rw [← hAe]; exact Or.inr h
  have hS : va_S A s.heap s.heap [] := va_S.rf
  have hl0 := lv_entry ([.ref g0]) (n := 1) (Nat.le_of_ble_eq_true rfl)
  rw [lg_entry_eq]
  generalize (lg_sl ([.ref g0]) ++ List.replicate (1 - (lg_sl ([.ref g0])).length) Slot.unset).toArray = ls at hl0 ⊢
  have hl1 : lv_has ls 1 [(0, .ref g0)] := hl0
  refine xw_gen (fun Z9 hQe => ?_)
  refine lv_aload_n hx hb d_Listing_clear_0 rfl (lv_at hl1 0 rfl) ?_
  refine va_get (D := D) (ci := 2) (v := .ref n0) (C := R_Listing) (T := F_Listing) (N := 17) hx hb hts i_Listing hown hK.1 hP 0 rfl rfl 0 (by decide) (hts _ wd_267) (fun _ h9 => h9) rfl d_Listing_clear_1 ?_
  obtain ⟨hPc, hDc, hFc, hCs⟩ := xw_sub3 (wc := [(n0, .inr (4, [.ref n1, .ref n2, .ref n3, .int (nI z9)])), (n1, .inl (ax 1, cp, .inl fo)), (n2, .inl (ax 0, cp, .inl fl)), (n3, .inl (ax 0, cp, .inl fr))]) hP hD hS hA [12, 13, 14, 15] (by decide) rfl
  have hz := xz_of hN hS
  refine va_callv (va_runV (As := []) (rest := []) ⟨hx, hb, hml, hown, hts⟩ (c_Nodes_clear l D ax n0 n1 n2 n3 cp z9 fo fl fr s.heap.size) (xcV (n := 0) hts wd_535 wd_5 wd_609 wd_533 wd_534 rfl rfl (by decide +kernel) ⟨Nat.le_of_ble_eq_true rfl, Nat.le_of_ble_eq_true rfl⟩) (xpV (ci := 4) (q0 := 0) (As := []) hPc hK hz hDc rfl rfl) rfl rfl hl1.1 rfl (lv_room (Nat.le_of_ble_eq_true rfl)) d_Listing_clear_4 ⟨Nat.le_of_ble_eq_true rfl, Nat.le_of_ble_eq_true rfl⟩) hS (fun q _ h => hFc q h) hFc (fun u_1 t H_2 locs ht hvm hw hB hz1 hk1 hS1 => ?_)
  try dsimp only at hw
  obtain ⟨hP1, hD1⟩ := hB
  rw [ht] at hP1
  have hjn := xw_join3 (wl := [(g0, .inr (2, [.ref n0, .ref g1, .ref g2, .ref g3, .ref g4, .ref g5, .ref g6, .ref g7, .ref g8, .ref g9, .ref ga, .ref gb, .int (nI cl), .int (nI ln), .int (nI br), .int (nI lp), .int (nI va)])), (g1, .inl (ax 1, 20, .inl (fun j => nI (kd j)))), (g2, .inl (ax 1, 20, .inl (fun j => nI (ow j)))), (g3, .inl (ax 1, 20, .inl (fun j => nI (sb j)))), (g4, .inl (ax 1, 20, .inl (fun j => nI (f1 j)))), (g5, .inl (ax 1, 20, .inl (fun j => nI (f2 j)))), (g6, .inl (ax 2, 20, .inl (fun j => nI (te j)))), (g7, .inl (ax 2, 20, .inl (fun j => nI (kp j)))), (g8, .inl (ax 0, 20, .inl tm)), (g9, .inl (ax 1, 20, .inl (fun j => nI (nm j)))), (ga, .inl (ax 1, 29, .inl (fun j => nI (ck j)))), (gb, .inl (ax 1, 29, .inl (fun j => nI (co j)))), (n0, .inr (4, [.ref n1, .ref n2, .ref n3, .int 0])), (n1, .inl (ax 1, cp, .inl fo)), (n2, .inl (ax 0, cp, .inl fl)), (n3, .inl (ax 0, cp, .inl fr))]) hP hD [12, 13, 14, 15] [0, 1, 2, 3, 4, 5, 6, 7, 8, 9, 10, 11] hCs (by decide) (by decide) hk1 hFc hP1 hD1 rfl
  clear hP1 hD1
  clear hPc hDc hFc hCs hz hz1 hk1 ht hvm
  clear hP hD hS
  have hS := hS1
  obtain ⟨hP, hD⟩ := hjn
  clear hS1
  refine lv_aload_n hx hb d_Listing_clear_7 rfl (lv_at hl1 0 rfl) ?_
  refine lv_iconst (v := 0) hx hb d_Listing_clear_8 (by decide) ?_
  refine va_put (D := D) (ci := 2) (v := .int 0) (ty := .int) (C := R_Listing) (T := F_Listing) (N := 17) hx hb hts i_Listing t_Listing t_Listing_ok n_Listing hown hK.1 hP hD hS 0 rfl rfl 13 (by decide) (hts _ wd_308) (fun _ h9 => h9) rfl (by decide +kernel) rfl rfl (Nat.le_of_ble_eq_true rfl) d_Listing_clear_9 (fun H_4 locs hP1 hD1 hS1 => ?_)
  clear hP hD hS
  have hS := hS1
  have hW7 : (fun w9 : va_W => va_P D classes w9 H_4 ∧ va_D A w9) [(g0, .inr (2, [.ref n0, .ref g1, .ref g2, .ref g3, .ref g4, .ref g5, .ref g6, .ref g7, .ref g8, .ref g9, .ref ga, .ref gb, .int (nI cl), .int 0, .int (nI br), .int (nI lp), .int (nI va)])), (g1, .inl (ax 1, 20, .inl (fun j => nI (kd j)))), (g2, .inl (ax 1, 20, .inl (fun j => nI (ow j)))), (g3, .inl (ax 1, 20, .inl (fun j => nI (sb j)))), (g4, .inl (ax 1, 20, .inl (fun j => nI (f1 j)))), (g5, .inl (ax 1, 20, .inl (fun j => nI (f2 j)))), (g6, .inl (ax 2, 20, .inl (fun j => nI (te j)))), (g7, .inl (ax 2, 20, .inl (fun j => nI (kp j)))), (g8, .inl (ax 0, 20, .inl tm)), (g9, .inl (ax 1, 20, .inl (fun j => nI (nm j)))), (ga, .inl (ax 1, 29, .inl (fun j => nI (ck j)))), (gb, .inl (ax 1, 29, .inl (fun j => nI (co j)))), (n0, .inr (4, [.ref n1, .ref n2, .ref n3, .int 0])), (n1, .inl (ax 1, cp, .inl fo)), (n2, .inl (ax 0, cp, .inl fl)), (n3, .inl (ax 0, cp, .inl fr))] := ⟨hP1, hD1⟩
  obtain ⟨hP, hD⟩ := hW7
  clear hP1 hD1 hS1
  refine lv_aload_n hx hb d_Listing_clear_12 rfl (lv_at hl1 0 rfl) ?_
  refine lv_iconst (v := 0) hx hb d_Listing_clear_13 (by decide) ?_
  refine va_put (D := D) (ci := 2) (v := .int 0) (ty := .int) (C := R_Listing) (T := F_Listing) (N := 17) hx hb hts i_Listing t_Listing t_Listing_ok n_Listing hown hK.1 hP hD hS 0 rfl rfl 14 (by decide) (hts _ wd_309) (fun _ h9 => h9) rfl (by decide +kernel) rfl rfl (Nat.le_of_ble_eq_true rfl) d_Listing_clear_14 (fun H_5 locs hP1 hD1 hS1 => ?_)
  clear hP hD hS
  have hS := hS1
  have hW7 : (fun w9 : va_W => va_P D classes w9 H_5 ∧ va_D A w9) [(g0, .inr (2, [.ref n0, .ref g1, .ref g2, .ref g3, .ref g4, .ref g5, .ref g6, .ref g7, .ref g8, .ref g9, .ref ga, .ref gb, .int (nI cl), .int 0, .int 0, .int (nI lp), .int (nI va)])), (g1, .inl (ax 1, 20, .inl (fun j => nI (kd j)))), (g2, .inl (ax 1, 20, .inl (fun j => nI (ow j)))), (g3, .inl (ax 1, 20, .inl (fun j => nI (sb j)))), (g4, .inl (ax 1, 20, .inl (fun j => nI (f1 j)))), (g5, .inl (ax 1, 20, .inl (fun j => nI (f2 j)))), (g6, .inl (ax 2, 20, .inl (fun j => nI (te j)))), (g7, .inl (ax 2, 20, .inl (fun j => nI (kp j)))), (g8, .inl (ax 0, 20, .inl tm)), (g9, .inl (ax 1, 20, .inl (fun j => nI (nm j)))), (ga, .inl (ax 1, 29, .inl (fun j => nI (ck j)))), (gb, .inl (ax 1, 29, .inl (fun j => nI (co j)))), (n0, .inr (4, [.ref n1, .ref n2, .ref n3, .int 0])), (n1, .inl (ax 1, cp, .inl fo)), (n2, .inl (ax 0, cp, .inl fl)), (n3, .inl (ax 0, cp, .inl fr))] := ⟨hP1, hD1⟩
  obtain ⟨hP, hD⟩ := hW7
  clear hP1 hD1 hS1
  refine lv_aload_n hx hb d_Listing_clear_17 rfl (lv_at hl1 0 rfl) ?_
  refine lv_iconst (v := 0) hx hb d_Listing_clear_18 (by decide) ?_
  refine va_put (D := D) (ci := 2) (v := .int 0) (ty := .int) (C := R_Listing) (T := F_Listing) (N := 17) hx hb hts i_Listing t_Listing t_Listing_ok n_Listing hown hK.1 hP hD hS 0 rfl rfl 15 (by decide) (hts _ wd_310) (fun _ h9 => h9) rfl (by decide +kernel) rfl rfl (Nat.le_of_ble_eq_true rfl) d_Listing_clear_19 (fun H_6 locs hP1 hD1 hS1 => ?_)
  clear hP hD hS
  have hS := hS1
  have hW7 : (fun w9 : va_W => va_P D classes w9 H_6 ∧ va_D A w9) [(g0, .inr (2, [.ref n0, .ref g1, .ref g2, .ref g3, .ref g4, .ref g5, .ref g6, .ref g7, .ref g8, .ref g9, .ref ga, .ref gb, .int (nI cl), .int 0, .int 0, .int 0, .int (nI va)])), (g1, .inl (ax 1, 20, .inl (fun j => nI (kd j)))), (g2, .inl (ax 1, 20, .inl (fun j => nI (ow j)))), (g3, .inl (ax 1, 20, .inl (fun j => nI (sb j)))), (g4, .inl (ax 1, 20, .inl (fun j => nI (f1 j)))), (g5, .inl (ax 1, 20, .inl (fun j => nI (f2 j)))), (g6, .inl (ax 2, 20, .inl (fun j => nI (te j)))), (g7, .inl (ax 2, 20, .inl (fun j => nI (kp j)))), (g8, .inl (ax 0, 20, .inl tm)), (g9, .inl (ax 1, 20, .inl (fun j => nI (nm j)))), (ga, .inl (ax 1, 29, .inl (fun j => nI (ck j)))), (gb, .inl (ax 1, 29, .inl (fun j => nI (co j)))), (n0, .inr (4, [.ref n1, .ref n2, .ref n3, .int 0])), (n1, .inl (ax 1, cp, .inl fo)), (n2, .inl (ax 0, cp, .inl fl)), (n3, .inl (ax 0, cp, .inl fr))] := ⟨hP1, hD1⟩
  obtain ⟨hP, hD⟩ := hW7
  clear hP1 hD1 hS1
  refine lv_aload_n hx hb d_Listing_clear_22 rfl (lv_at hl1 0 rfl) ?_
  refine lv_iconst (v := 0) hx hb d_Listing_clear_23 (by decide) ?_
  refine va_put (D := D) (ci := 2) (v := .int 0) (ty := .int) (C := R_Listing) (T := F_Listing) (N := 17) hx hb hts i_Listing t_Listing t_Listing_ok n_Listing hown hK.1 hP hD hS 0 rfl rfl 16 (by decide) (hts _ wd_311) (fun _ h9 => h9) rfl (by decide +kernel) rfl rfl (Nat.le_of_ble_eq_true rfl) d_Listing_clear_24 (fun H_7 locs hP1 hD1 hS1 => ?_)
  clear hP hD hS
  have hS := hS1
  have hW7 : (fun w9 : va_W => va_P D classes w9 H_7 ∧ va_D A w9) [(g0, .inr (2, [.ref n0, .ref g1, .ref g2, .ref g3, .ref g4, .ref g5, .ref g6, .ref g7, .ref g8, .ref g9, .ref ga, .ref gb, .int (nI cl), .int 0, .int 0, .int 0, .int 0])), (g1, .inl (ax 1, 20, .inl (fun j => nI (kd j)))), (g2, .inl (ax 1, 20, .inl (fun j => nI (ow j)))), (g3, .inl (ax 1, 20, .inl (fun j => nI (sb j)))), (g4, .inl (ax 1, 20, .inl (fun j => nI (f1 j)))), (g5, .inl (ax 1, 20, .inl (fun j => nI (f2 j)))), (g6, .inl (ax 2, 20, .inl (fun j => nI (te j)))), (g7, .inl (ax 2, 20, .inl (fun j => nI (kp j)))), (g8, .inl (ax 0, 20, .inl tm)), (g9, .inl (ax 1, 20, .inl (fun j => nI (nm j)))), (ga, .inl (ax 1, 29, .inl (fun j => nI (ck j)))), (gb, .inl (ax 1, 29, .inl (fun j => nI (co j)))), (n0, .inr (4, [.ref n1, .ref n2, .ref n3, .int 0])), (n1, .inl (ax 1, cp, .inl fo)), (n2, .inl (ax 0, cp, .inl fl)), (n3, .inl (ax 0, cp, .inl fr))] := ⟨hP1, hD1⟩
  obtain ⟨hP, hD⟩ := hW7
  clear hP1 hD1 hS1
  refine lv_aload_n hx hb d_Listing_clear_27 rfl (lv_at hl1 0 rfl) ?_
  refine lv_iconst (v := 0) hx hb d_Listing_clear_28 (by decide) ?_
  refine va_put (D := D) (ci := 2) (v := .int 0) (ty := .int) (C := R_Listing) (T := F_Listing) (N := 17) hx hb hts i_Listing t_Listing t_Listing_ok n_Listing hown hK.1 hP hD hS 0 rfl rfl 12 (by decide) (hts _ wd_306) (fun _ h9 => h9) rfl (by decide +kernel) rfl rfl (Nat.le_of_ble_eq_true rfl) d_Listing_clear_29 (fun H_8 locs hP1 hD1 hS1 => ?_)
  clear hP hD hS
  have hS := hS1
  have hW7 : (fun w9 : va_W => va_P D classes w9 H_8 ∧ va_D A w9) [(g0, .inr (2, [.ref n0, .ref g1, .ref g2, .ref g3, .ref g4, .ref g5, .ref g6, .ref g7, .ref g8, .ref g9, .ref ga, .ref gb, .int 0, .int 0, .int 0, .int 0, .int 0])), (g1, .inl (ax 1, 20, .inl (fun j => nI (kd j)))), (g2, .inl (ax 1, 20, .inl (fun j => nI (ow j)))), (g3, .inl (ax 1, 20, .inl (fun j => nI (sb j)))), (g4, .inl (ax 1, 20, .inl (fun j => nI (f1 j)))), (g5, .inl (ax 1, 20, .inl (fun j => nI (f2 j)))), (g6, .inl (ax 2, 20, .inl (fun j => nI (te j)))), (g7, .inl (ax 2, 20, .inl (fun j => nI (kp j)))), (g8, .inl (ax 0, 20, .inl tm)), (g9, .inl (ax 1, 20, .inl (fun j => nI (nm j)))), (ga, .inl (ax 1, 29, .inl (fun j => nI (ck j)))), (gb, .inl (ax 1, 29, .inl (fun j => nI (co j)))), (n0, .inr (4, [.ref n1, .ref n2, .ref n3, .int 0])), (n1, .inl (ax 1, cp, .inl fo)), (n2, .inl (ax 0, cp, .inl fl)), (n3, .inl (ax 0, cp, .inl fr))] := ⟨hP1, hD1⟩
  obtain ⟨hP, hD⟩ := hW7
  clear hP1 hD1 hS1
  refine lv_aload_n hx hb d_Listing_clear_32 rfl (lv_at hl1 0 rfl) ?_
  refine lv_iconst (v := 0) hx hb d_Listing_clear_33 (by decide) ?_
  refine lv_iconst (v := (-1)) hx hb d_Listing_clear_34 (by decide) ?_
  refine W.eq (g2 := F0 m 35 ls [.int (nI 4294967295), .int 0, .ref g0]) (by rw [nIm]) ?_
  obtain ⟨hPc, hDc, hFc, hCs⟩ := xw_sub3 (wc := [(g0, .inr (2, [.ref n0, .ref g1, .ref g2, .ref g3, .ref g4, .ref g5, .ref g6, .ref g7, .ref g8, .ref g9, .ref ga, .ref gb, .int (nI 0), .int (nI 0), .int (nI 0), .int (nI 0), .int (nI 0)])), (g1, .inl (ax 1, 20, .inl (fun j => nI (kd j)))), (g2, .inl (ax 1, 20, .inl (fun j => nI (ow j)))), (g3, .inl (ax 1, 20, .inl (fun j => nI (sb j)))), (g4, .inl (ax 1, 20, .inl (fun j => nI (f1 j)))), (g5, .inl (ax 1, 20, .inl (fun j => nI (f2 j)))), (g6, .inl (ax 2, 20, .inl (fun j => nI (te j)))), (g7, .inl (ax 2, 20, .inl (fun j => nI (kp j)))), (g8, .inl (ax 0, 20, .inl tm)), (g9, .inl (ax 1, 20, .inl (fun j => nI (nm j)))), (ga, .inl (ax 1, 29, .inl (fun j => nI (ck j)))), (gb, .inl (ax 1, 29, .inl (fun j => nI (co j))))]) hP hD hS hA [0, 1, 2, 3, 4, 5, 6, 7, 8, 9, 10, 11] (by decide) rfl
  have hz := xz_of hN hS
  refine va_callv (va_runV (As := [.int 0, .int (nI 4294967295)]) (rest := []) ⟨hx, hb, hml, hown, hts⟩ (c_L_addClaim l D ax g0 g1 g2 g3 g4 g5 g6 g7 g8 g9 ga gb 0 0 0 0 0 kd ow sb f1 f2 te kp nm ck co tm n0 0 4294967295 H_8.size (by first | assumption | omega) (Or.inr rfl) (by first | assumption | omega)) (xcV (n := 2) hts wd_613 wd_12 wd_610 wd_611 wd_612 rfl rfl (by decide +kernel) ⟨Nat.le_of_ble_eq_true rfl, Nat.le_of_ble_eq_true rfl⟩) (xpV (ci := 2) (q0 := 0) (As := [.int 0, .int (nI 4294967295)]) hPc hK hz hDc rfl rfl) rfl rfl hl1.1 rfl (lv_room (Nat.le_of_ble_eq_true rfl)) d_Listing_clear_35 ⟨Nat.le_of_ble_eq_true rfl, Nat.le_of_ble_eq_true rfl⟩) hS (fun q _ h => hFc q h) hFc (fun u_9 t H_10 locs ht hvm hw hB hz1 hk1 hS1 => ?_)
  try dsimp only at hw
  obtain ⟨hs_12, hs_13⟩ := hw
  obtain ⟨x_14, x_15, hx_16, hP1, hD1⟩ := hB
  rw [ht] at hP1
  have hjn := xw_join3 (wl := [(n0, .inr (4, [.ref n1, .ref n2, .ref n3, .int 0])), (n1, .inl (ax 1, cp, .inl fo)), (n2, .inl (ax 0, cp, .inl fl)), (n3, .inl (ax 0, cp, .inl fr)), (g0, .inr (2, [.ref n0, .ref g1, .ref g2, .ref g3, .ref g4, .ref g5, .ref g6, .ref g7, .ref g8, .ref g9, .ref ga, .ref gb, .int (nI (u_9 0)), .int (nI 0), .int (nI 0), .int (nI 0), .int (nI 0)])), (g1, .inl (ax 1, 20, .inl (fun j => nI (kd j)))), (g2, .inl (ax 1, 20, .inl (fun j => nI (ow j)))), (g3, .inl (ax 1, 20, .inl (fun j => nI (sb j)))), (g4, .inl (ax 1, 20, .inl (fun j => nI (f1 j)))), (g5, .inl (ax 1, 20, .inl (fun j => nI (f2 j)))), (g6, .inl (ax 2, 20, .inl (fun j => nI (te j)))), (g7, .inl (ax 2, 20, .inl (fun j => nI (kp j)))), (g8, .inl (ax 0, 20, .inl tm)), (g9, .inl (ax 1, 20, .inl (fun j => nI (nm j)))), (ga, .inl (ax 1, 29, .inl (fun j => nI (x_14 j)))), (gb, .inl (ax 1, 29, .inl (fun j => nI (x_15 j))))]) hP hD [0, 1, 2, 3, 4, 5, 6, 7, 8, 9, 10, 11] [12, 13, 14, 15] hCs (by decide) (by decide) hk1 hFc hP1 hD1 rfl
  clear hP1 hD1
  clear hPc hDc hFc hCs hz hz1 hk1 ht hvm
  clear hP hD hS
  have hS := hS1
  obtain ⟨hP, hD⟩ := hjn
  clear hS1
  rw [← hQe]
  obtain ⟨hP9, hD9⟩ := xw_sub2 (wc := (fun (u : Nat → Nat) (xck : Nat → Nat) (xco : Nat → Nat) => [(g0, .inr (2, [.ref n0, .ref g1, .ref g2, .ref g3, .ref g4, .ref g5, .ref g6, .ref g7, .ref g8, .ref g9, .ref ga, .ref gb, .int (nI (u 0)), .int 0, .int 0, .int 0, .int 0])), (g1, .inl (ax 1, 20, .inl (fun j => nI (kd j)))), (g2, .inl (ax 1, 20, .inl (fun j => nI (ow j)))), (g3, .inl (ax 1, 20, .inl (fun j => nI (sb j)))), (g4, .inl (ax 1, 20, .inl (fun j => nI (f1 j)))), (g5, .inl (ax 1, 20, .inl (fun j => nI (f2 j)))), (g6, .inl (ax 2, 20, .inl (fun j => nI (te j)))), (g7, .inl (ax 2, 20, .inl (fun j => nI (kp j)))), (g8, .inl (ax 0, 20, .inl tm)), (g9, .inl (ax 1, 20, .inl (fun j => nI (nm j)))), (ga, .inl (ax 1, 29, .inl (fun j => nI (xck j)))), (gb, .inl (ax 1, 29, .inl (fun j => nI (xco j)))), (n0, .inr (4, [.ref n1, .ref n2, .ref n3, .int 0])), (n1, .inl (ax 1, cp, .inl fo)), (n2, .inl (ax 0, cp, .inl fl)), (n3, .inl (ax 0, cp, .inl fr))]) (ixn [(u_9 0)]) x_14 x_15) hP hD [4, 5, 6, 7, 8, 9, 10, 11, 12, 13, 14, 15, 0, 1, 2, 3] (by decide) rfl
  have hex0 : x_14 0 = 0 ∧ x_15 0 = 4294967295 := (by rcases hx_16 with h9 | h9; (have := h9.2.2.2; omega); (obtain ⟨q1, q2, q3, q4⟩ := h9; rw [q1, q2]; exact ⟨sup_eq, sup_eq⟩))
  have hsp0 : (u_9 0) = 1 := (by rcases hx_16 with h9 | h9; (have := h9.2.2.2; omega); (have := h9.2.2.1; omega))
  exact W.vret hx hb hr (fun t ht hW => ⟨⟨ixn [(u_9 0)], rfl, hsp0, ⟨x_14, x_15, hex0, by rw [ht]; exact hP9, hD9⟩⟩, hS.F ht⟩) hS.2.2 d_Listing_clear_38
