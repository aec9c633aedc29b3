theorem ps_47 : Cond.selects "TripleDesk$Runner" ⟨"TripleDesk$Runner", "follow", "(LTripleDesk$Listing;IZ)I"⟩ ⟨"TripleDesk$Runner", "follow", "(LTripleDesk$Listing;IZ)I"⟩ ∈ lw_gd := ps_in (q := (⟨"TripleDesk$Runner", "follow", "(LTripleDesk$Listing;IZ)I"⟩, 1)) (i := 47) (by decide +kernel)
theorem wd_270 : ((Jvm.Cond.fieldLink "TripleDesk$Runner" (46 : Nat) "TripleDesk$Listing" "nodes" "LTripleDesk$Nodes;")) ∈ lw_gd := lw_gd_in (i := 270) (by decide +kernel) rfl
theorem wd_272 : ((Jvm.Cond.fieldLink "TripleDesk$Runner" (25 : Nat) "TripleDesk$Listing" "kind" "[B")) ∈ lw_gd := lw_gd_in (i := 272) (by decide +kernel) rfl
theorem wd_278 : ((Jvm.Cond.fieldLink "TripleDesk$Runner" (58 : Nat) "TripleDesk$Listing" "first" "[B")) ∈ lw_gd := lw_gd_in (i := 278) (by decide +kernel) rfl
theorem wd_282 : ((Jvm.Cond.fieldLink "TripleDesk$Runner" (61 : Nat) "TripleDesk$Listing" "second" "[B")) ∈ lw_gd := lw_gd_in (i := 282) (by decide +kernel) rfl
theorem wd_287 : ((Jvm.Cond.fieldLink "TripleDesk$Runner" (50 : Nat) "TripleDesk$Listing" "test" "[S")) ∈ lw_gd := lw_gd_in (i := 287) (by decide +kernel) rfl
theorem wd_293 : ((Jvm.Cond.fieldLink "TripleDesk$Runner" (34 : Nat) "TripleDesk$Listing" "term" "[I")) ∈ lw_gd := lw_gd_in (i := 293) (by decide +kernel) rfl
theorem wd_297 : ((Jvm.Cond.fieldLink "TripleDesk$Runner" (31 : Nat) "TripleDesk$Listing" "name" "[B")) ∈ lw_gd := lw_gd_in (i := 297) (by decide +kernel) rfl
theorem wd_803 : ((Jvm.Cond.instanceMethod ({ cls := "TripleDesk$Listing", name := "behind", desc := "(I)I" } : Jvm.MethodName))) ∈ lw_gd := lw_gd_in (i := 803) (by decide +kernel) rfl
theorem wd_804 : ((Jvm.Cond.selects "TripleDesk$Listing" ({ cls := "TripleDesk$Listing", name := "behind", desc := "(I)I" } : Jvm.MethodName) ({ cls := "TripleDesk$Listing", name := "behind", desc := "(I)I" } : Jvm.MethodName))) ∈ lw_gd := lw_gd_in (i := 804) (by decide +kernel) rfl
theorem wd_805 : ((Jvm.Cond.code ({ cls := "TripleDesk$Listing", name := "behind", desc := "(I)I" } : Jvm.MethodName) prog_4_method_7_code (4 : Nat) (Option.some Jvm.ClassFile.FieldType.int))) ∈ lw_gd := lw_gd_in (i := 805) (by decide +kernel) rfl
theorem wd_993 : ((Jvm.Cond.methodLink "TripleDesk$Runner" (21 : Nat) ({ cls := "TripleDesk$Runner", name := "follow", desc := "(LTripleDesk$Listing;IZ)I" } : Jvm.MethodName))) ∈ lw_gd := lw_gd_in (i := 993) (by decide +kernel) rfl
theorem wd_995 : ((Jvm.Cond.instanceMethod ({ cls := "TripleDesk$Runner", name := "follow", desc := "(LTripleDesk$Listing;IZ)I" } : Jvm.MethodName))) ∈ lw_gd := lw_gd_in (i := 995) (by decide +kernel) rfl
theorem wd_996 : ((Jvm.Cond.code ({ cls := "TripleDesk$Runner", name := "follow", desc := "(LTripleDesk$Listing;IZ)I" } : Jvm.MethodName) prog_10_method_4_code (4 : Nat) (Option.some Jvm.ClassFile.FieldType.int))) ∈ lw_gd := lw_gd_in (i := 996) (by decide +kernel) rfl
theorem wd_1001 : ((Jvm.Cond.methodLink "TripleDesk$Runner" (42 : Nat) ({ cls := "TripleDesk$Listing", name := "behind", desc := "(I)I" } : Jvm.MethodName))) ∈ lw_gd := lw_gd_in (i := 1001) (by decide +kernel) rfl
/-- a program, whole -/
def lsf (n z : Nat) (kd ow sb f1 f2 ts kp nm : Nat → Nat) (tm fo fl fr : Nat → Int32) : Prop := 1 ≤ n ∧ ∃ en kc, lst n z kd ow sb f1 f2 ts kp nm en kc tm fo fl fr ∧ ∀ i, i < n → en i ≤ n
section LSF
variable {n z i : Nat} {kd ow sb f1 f2 ts kp nm : Nat → Nat} {tm fo fl fr : Nat → Int32}
theorem lsf.nn (h : lsf n z kd ow sb f1 f2 ts kp nm tm fo fl fr) : 1 ≤ n ∧ n ≤ 20 := by
  obtain ⟨h1, en, kc, h2, h3⟩ := h
  exact ⟨h1, h2.1⟩
theorem lsf.p (h : lsf n z kd ow sb f1 f2 ts kp nm tm fo fl fr) : ∃ en, lsp n kd ow sb en := by
  obtain ⟨h1, en, kc, h2, h3⟩ := h
  exact ⟨en, h2.2.1⟩
theorem lsf.k (h : lsf n z kd ow sb f1 f2 ts kp nm tm fo fl fr) (hi : i < n) : knd (kd i) := by
  obtain ⟨h1, en, kc, h2, h3⟩ := h
  exact (h2.2.1 i hi).1
theorem lsf.set (h : lsf n z kd ow sb f1 f2 ts kp nm tm fo fl fr) (hi : i < n) (q : kd i = 2) : nm i < 6 ∧ trm (tm i) := by
  obtain ⟨h1, en, kc, h2, h3⟩ := h
  exact (h2.2.2.1 i hi (h3 i hi)).1 q
theorem lsf.iff (h : lsf n z kd ow sb f1 f2 ts kp nm tm fo fl fr) (hi : i < n) (q : kd i = 8) : ts i < z ∧ i < f1 i ∧ f1 i < n ∧ i < f2 i ∧ f2 i < n := by
  obtain ⟨h1, en, kc, h2, h3⟩ := h
  obtain ⟨a1, a2, a3, a4, a5, a6⟩ := (h2.2.2.1 i hi (h3 i hi)).2.1 q
  exact ⟨a1, a3, a4, a5, a6⟩
theorem lsf.wh (h : lsf n z kd ow sb f1 f2 ts kp nm tm fo fl fr) (hi : i < n) (q : kd i = 12) : ts i < z ∧ kp i < z ∧ i < f1 i ∧ f1 i < n ∧ (nm i = 4294967295 ∨ (nm i < 10 ∧ trm (tm i))) := by
  obtain ⟨h1, en, kc, h2, h3⟩ := h
  obtain ⟨a1, a2, a3, a4, a5, a6⟩ := (h2.2.2.1 i hi (h3 i hi)).2.2.1 q
  exact ⟨a1, a2, a4, a5, a6⟩
theorem lsf.tst (h : lsf n z kd ow sb f1 f2 ts kp nm tm fo fl fr) (hi : i < n) (q : kd i = 17 ∨ kd i = 123) : ts i < z := by
  obtain ⟨h1, en, kc, h2, h3⟩ := h
  exact ((h2.2.2.1 i hi (h3 i hi)).2.2.2 q).1
end LSF
/-- where a step leads: to the end, to a false assert, to a statement -/
def fol (n r : Nat) : Prop := r = 4294967295 ∨ r = 4294967294 ∨ r < n
theorem bhd.fol {n s r : Nat} {kd : Nat → Nat} (h : bhd n s r kd) : fol n r := by
  rcases h with h | h
  · exact Or.inl h
  · exact Or.inr (Or.inr h.1)
theorem nIm2 : nI 4294967294 = -2 := by decide
theorem nI_inj32 {a b : Nat} (h : nI a = nI b) (ha : a < 2 ^ 32) (hb : b < 2 ^ 32) : a = b := by
  have := congrArg i2n h
  rw [i2n_nI ha, i2n_nI hb] at this; exact this
set_option maxHeartbeats 40000000 in
set_option maxRecDepth 100000 in
theorem c_L_behind_0 (l : Launch) (D : va_G) (ax : Nat → ClassId) (g0 g1 g2 g3 g4 g5 g6 g7 g8 g9 ga gb cl ln br lp va : Nat) (kd ow sb f1 f2 te kp nm ck co : Nat → Nat) (tm : Nat → Int32) (n0 : Nat) (s9 : Nat) (en : Nat → Nat) (sz : Nat) (hln : ln ≤ 20) (hs9 : s9 < ln) (hls : lsp ln kd ow sb en) : Met l y_Listing_behind (xws (.code y_Listing_behind b_Listing_behind 4 (some .int))) ({ frames := 10, cells := 0, slots := 0, locals := 400 }) (va_Pc [.ref g0, .int (nI s9)] (xo D ax [(g0, .inr (2, [.ref n0, .ref g1, .ref g2, .ref g3, .ref g4, .ref g5, .ref g6, .ref g7, .ref g8, .ref g9, .ref ga, .ref gb, .int (nI cl), .int (nI ln), .int (nI br), .int (nI lp), .int (nI va)])), (g1, .inl (ax 1, 20, .inl (fun j => nI (kd j)))), (g2, .inl (ax 1, 20, .inl (fun j => nI (ow j)))), (g3, .inl (ax 1, 20, .inl (fun j => nI (sb j)))), (g4, .inl (ax 1, 20, .inl (fun j => nI (f1 j)))), (g5, .inl (ax 1, 20, .inl (fun j => nI (f2 j)))), (g6, .inl (ax 2, 20, .inl (fun j => nI (te j)))), (g7, .inl (ax 2, 20, .inl (fun j => nI (kp j)))), (g8, .inl (ax 0, 20, .inl tm)), (g9, .inl (ax 1, 20, .inl (fun j => nI (nm j)))), (ga, .inl (ax 1, 29, .inl (fun j => nI (ck j)))), (gb, .inl (ax 1, 29, .inl (fun j => nI (co j))))] sz)) ((va_Qi (fun (r : Int32) (u : Nat → Nat) => r = nI (u 0) ∧ (bhd ln s9 (u 0) kd)) (xb D (va_A [(g0, .inr (2, [.ref n0, .ref g1, .ref g2, .ref g3, .ref g4, .ref g5, .ref g6, .ref g7, .ref g8, .ref g9, .ref ga, .ref gb, .int (nI cl), .int (nI ln), .int (nI br), .int (nI lp), .int (nI va)])), (g1, .inl (ax 1, 20, .inl (fun j => nI (kd j)))), (g2, .inl (ax 1, 20, .inl (fun j => nI (ow j)))), (g3, .inl (ax 1, 20, .inl (fun j => nI (sb j)))), (g4, .inl (ax 1, 20, .inl (fun j => nI (f1 j)))), (g5, .inl (ax 1, 20, .inl (fun j => nI (f2 j)))), (g6, .inl (ax 2, 20, .inl (fun j => nI (te j)))), (g7, .inl (ax 2, 20, .inl (fun j => nI (kp j)))), (g8, .inl (ax 0, 20, .inl tm)), (g9, .inl (ax 1, 20, .inl (fun j => nI (nm j)))), (ga, .inl (ax 1, 29, .inl (fun j => nI (ck j)))), (gb, .inl (ax 1, 29, .inl (fun j => nI (co j))))] sz) (fun u => [(g0, .inr (2, [.ref n0, .ref g1, .ref g2, .ref g3, .ref g4, .ref g5, .ref g6, .ref g7, .ref g8, .ref g9, .ref ga, .ref gb, .int (nI cl), .int (nI ln), .int (nI br), .int (nI lp), .int (nI va)])), (g1, .inl (ax 1, 20, .inl (fun j => nI (kd j)))), (g2, .inl (ax 1, 20, .inl (fun j => nI (ow j)))), (g3, .inl (ax 1, 20, .inl (fun j => nI (sb j)))), (g4, .inl (ax 1, 20, .inl (fun j => nI (f1 j)))), (g5, .inl (ax 1, 20, .inl (fun j => nI (f2 j)))), (g6, .inl (ax 2, 20, .inl (fun j => nI (te j)))), (g7, .inl (ax 2, 20, .inl (fun j => nI (kp j)))), (g8, .inl (ax 0, 20, .inl tm)), (g9, .inl (ax 1, 20, .inl (fun j => nI (nm j)))), (ga, .inl (ax 1, 29, .inl (fun j => nI (ck j)))), (gb, .inl (ax 1, 29, .inl (fun j => nI (co j))))])) (va_A [(g0, .inr (2, [.ref n0, .ref g1, .ref g2, .ref g3, .ref g4, .ref g5, .ref g6, .ref g7, .ref g8, .ref g9, .ref ga, .ref gb, .int (nI cl), .int (nI ln), .int (nI br), .int (nI lp), .int (nI va)])), (g1, .inl (ax 1, 20, .inl (fun j => nI (kd j)))), (g2, .inl (ax 1, 20, .inl (fun j => nI (ow j)))), (g3, .inl (ax 1, 20, .inl (fun j => nI (sb j)))), (g4, .inl (ax 1, 20, .inl (fun j => nI (f1 j)))), (g5, .inl (ax 1, 20, .inl (fun j => nI (f2 j)))), (g6, .inl (ax 2, 20, .inl (fun j => nI (te j)))), (g7, .inl (ax 2, 20, .inl (fun j => nI (kp j)))), (g8, .inl (ax 0, 20, .inl tm)), (g9, .inl (ax 1, 20, .inl (fun j => nI (nm j)))), (ga, .inl (ax 1, 29, .inl (fun j => nI (ck j)))), (gb, .inl (ax 1, 29, .inl (fun j => nI (co j))))] sz))) 0 0 (va_A [(g0, .inr (2, [.ref n0, .ref g1, .ref g2, .ref g3, .ref g4, .ref g5, .ref g6, .ref g7, .ref g8, .ref g9, .ref ga, .ref gb, .int (nI cl), .int (nI ln), .int (nI br), .int (nI lp), .int (nI va)])), (g1, .inl (ax 1, 20, .inl (fun j => nI (kd j)))), (g2, .inl (ax 1, 20, .inl (fun j => nI (ow j)))), (g3, .inl (ax 1, 20, .inl (fun j => nI (sb j)))), (g4, .inl (ax 1, 20, .inl (fun j => nI (f1 j)))), (g5, .inl (ax 1, 20, .inl (fun j => nI (f2 j)))), (g6, .inl (ax 2, 20, .inl (fun j => nI (te j)))), (g7, .inl (ax 2, 20, .inl (fun j => nI (kp j)))), (g8, .inl (ax 0, 20, .inl tm)), (g9, .inl (ax 1, 20, .inl (fun j => nI (nm j)))), (ga, .inl (ax 1, 29, .inl (fun j => nI (ck j)))), (gb, .inl (ax 1, 29, .inl (fun j => nI (co j))))] sz) := by
  refine Met.ofW (cc := b_Listing_behind) (maxL := 4) (ret := (some .int)) (by decide) rfl ?_
  intro p e s m args below meth c s₁ B hml hv
  obtain ⟨rfl, hsz, hP, hK, hD0⟩ := hv
  have hx := B.exec
  have hb := B.bytes
  have hr := B.returns
  have hts := xw_hts B.pre
  have hown : s.vm.findClass R_Listing = some m.cls := findClass_of_methodNamed B.named
  have hlocks := B.notSynchronized
  subst hsz
  have hD := hD0.self (sz := s.heap.size)
  have hN := xz_entry hP
  generalize hAe : va_A [(g0, .inr (2, [.ref n0, .ref g1, .ref g2, .ref g3, .ref g4, .ref g5, .ref g6, .ref g7, .ref g8, .ref g9, .ref ga, .ref gb, .int (nI cl), .int (nI ln), .int (nI br), .int (nI lp), .int (nI va)])), (g1, .inl (ax 1, 20, .inl (fun j => nI (kd j)))), (g2, .inl (ax 1, 20, .inl (fun j => nI (ow j)))), (g3, .inl (ax 1, 20, .inl (fun j => nI (sb j)))), (g4, .inl (ax 1, 20, .inl (fun j => nI (f1 j)))), (g5, .inl (ax 1, 20, .inl (fun j => nI (f2 j)))), (g6, .inl (ax 2, 20, .inl (fun j => nI (te j)))), (g7, .inl (ax 2, 20, .inl (fun j => nI (kp j)))), (g8, .inl (ax 0, 20, .inl tm)), (g9, .inl (ax 1, 20, .inl (fun j => nI (nm j)))), (ga, .inl (ax 1, 29, .inl (fun j => nI (ck j)))), (gb, .inl (ax 1, 29, .inl (fun j => nI (co j))))] s.heap.size = A at hD hN ⊢
  have hA : ∀ q : Nat, s.heap.size ≤ q → A q := fun q h => by rw [← hAe]; exact Or.inr h
  have hS : va_S A s.heap s.heap [] := va_S.rf
  have hl0 := lv_entry ([.ref g0, .int (nI s9)]) (n := 4) (Nat.le_of_ble_eq_true rfl)
  rw [lg_entry_eq]
  generalize (lg_sl ([.ref g0, .int (nI s9)]) ++ List.replicate (4 - (lg_sl ([.ref g0, .int (nI s9)])).length) Slot.unset).toArray = ls at hl0 ⊢
  have hl1 : lv_has ls 4 [(0, .ref g0), (1, .int (nI s9))] := hl0
  refine xw_gen (fun Z9 hQe => ?_)
  refine lv_iload_n hx hb d_Listing_behind_0 rfl (lv_at hl1 1 rfl) ?_
  refine lv_istore_n (lv' := [(2, .int (nI s9)), (0, .ref g0), (1, .int (nI s9))]) hx hb d_Listing_behind_1 rfl hl1 (by decide) rfl (fun ls hl2 => ?_)
  clear hl1; have hl1 := hl2; clear hl2
  refine lv_iconst (v := 0) hx hb d_Listing_behind_2 (by decide) ?_
  refine lv_istore_n (lv' := [(3, .int 0), (2, .int (nI s9)), (0, .ref g0), (1, .int (nI s9))]) hx hb d_Listing_behind_3 rfl hl1 (by decide) rfl (fun ls hl2 => ?_)
  clear hl1; have hl1 := hl2; clear hl2
  suffices key_1 : ∀ (k : Nat) (a1 i1 : Nat), 20 - i1 < k → a1 < ln → a1 ≤ s9 → s9 < en a1 → i1 ≤ 20 → ∀ (H : Heap) (locs : List Loc) (ls : Array Slot), va_P D classes [(g0, .inr (2, [.ref n0, .ref g1, .ref g2, .ref g3, .ref g4, .ref g5, .ref g6, .ref g7, .ref g8, .ref g9, .ref ga, .ref gb, .int (nI cl), .int (nI ln), .int (nI br), .int (nI lp), .int (nI va)])), (g1, .inl (ax 1, 20, .inl (fun j => nI (kd j)))), (g2, .inl (ax 1, 20, .inl (fun j => nI (ow j)))), (g3, .inl (ax 1, 20, .inl (fun j => nI (sb j)))), (g4, .inl (ax 1, 20, .inl (fun j => nI (f1 j)))), (g5, .inl (ax 1, 20, .inl (fun j => nI (f2 j)))), (g6, .inl (ax 2, 20, .inl (fun j => nI (te j)))), (g7, .inl (ax 2, 20, .inl (fun j => nI (kp j)))), (g8, .inl (ax 0, 20, .inl tm)), (g9, .inl (ax 1, 20, .inl (fun j => nI (nm j)))), (ga, .inl (ax 1, 29, .inl (fun j => nI (ck j)))), (gb, .inl (ax 1, 29, .inl (fun j => nI (co j))))] H → va_D A [(g0, .inr (2, [.ref n0, .ref g1, .ref g2, .ref g3, .ref g4, .ref g5, .ref g6, .ref g7, .ref g8, .ref g9, .ref ga, .ref gb, .int (nI cl), .int (nI ln), .int (nI br), .int (nI lp), .int (nI va)])), (g1, .inl (ax 1, 20, .inl (fun j => nI (kd j)))), (g2, .inl (ax 1, 20, .inl (fun j => nI (ow j)))), (g3, .inl (ax 1, 20, .inl (fun j => nI (sb j)))), (g4, .inl (ax 1, 20, .inl (fun j => nI (f1 j)))), (g5, .inl (ax 1, 20, .inl (fun j => nI (f2 j)))), (g6, .inl (ax 2, 20, .inl (fun j => nI (te j)))), (g7, .inl (ax 2, 20, .inl (fun j => nI (kp j)))), (g8, .inl (ax 0, 20, .inl tm)), (g9, .inl (ax 1, 20, .inl (fun j => nI (nm j)))), (ga, .inl (ax 1, 29, .inl (fun j => nI (ck j)))), (gb, .inl (ax 1, 29, .inl (fun j => nI (co j))))] → va_S A s.heap H locs → lv_has ls 4 [(0, .ref g0), (1, .int (nI s9)), (2, .int (nI a1)), (3, .int (nI i1))] → W p l e (headSpec (xws (.code y_Listing_behind b_Listing_behind 4 (some .int))) ({ frames := 10, cells := 0, slots := 0, locals := 400 })).room s m ([.ref g0, .int (nI s9)] : List Value).toArray below meth c H locs 0 0 Z9 (F0 m 4 ls []) from key_1 (20 - 0 + 1) s9 0 (Nat.lt_succ_self _) (by first | assumption | omega) (by first | assumption | omega) (hls.ends hs9) (by first | assumption | omega) _ _ _ (hP) (hD) hS (lv_sub hl1 [2, 3, 1, 0] rfl)
  intro k_2
  induction k_2 with
  | zero =>
    intro a1 i1 hk_4
    exact absurd hk_4 (Nat.not_lt_zero _)
  | succ k_2 ih_3 =>
    clear hP hD hS hl1
    intro a1 i1 hk_4 ha1 ha2 ha3 hi1 H locs ls hP hD hS hl1
    refine lv_iload_n hx hb d_Listing_behind_4 rfl (lv_at hl1 3 rfl) ?_
    refine lv_bipush (v := 20) hx hb d_Listing_behind_5 (by decide) ?_
    refine lv_icmp_ge (tgt := 51) hx hb d_Listing_behind_7 (by decide) (fun c_5 => ?_) (fun c_5 => ?_)
    · replace c_5 : 20 ≤ i1 := (nI_leI (a := 20) (b := i1) (by decide) (by first | exact Nat.lt_of_lt_of_le (by assumption) (by decide) | exact Nat.lt_of_le_of_lt (by assumption) (by decide) | omega)).mp c_5
      refine lv_aload_n hx hb d_Listing_behind_51 rfl (lv_at hl1 0 rfl) ?_
      refine va_get (D := D) (ci := 2) (v := .ref g3) (C := R_Listing) (T := F_Listing) (N := 17) hx hb hts i_Listing hown hK.1 hP 0 rfl rfl 3 (by decide) (hts _ wd_275) (fun _ h9 => h9) rfl d_Listing_behind_52 ?_
      refine lv_iload_n hx hb d_Listing_behind_55 rfl (lv_at hl1 2 rfl) ?_
      refine va_bald hx hb hK.1 hP 3 1 rfl rfl (vp_in_nI (by first | assumption | omega) (by decide)) d_Listing_behind_56 ?_
      refine W.eq (g2 := F0 m 57 ls [.int (nI (sb a1))]) (by rw [nI_clamp (by first | exact Nat.lt_of_lt_of_le (by assumption) (by decide) | exact Nat.lt_of_le_of_lt (by assumption) (by decide) | omega)]) ?_
      rw [← hQe]
      obtain ⟨hP9, hD9⟩ := xw_sub2 (wc := (fun u : Nat → Nat => [(g0, .inr (2, [.ref n0, .ref g1, .ref g2, .ref g3, .ref g4, .ref g5, .ref g6, .ref g7, .ref g8, .ref g9, .ref ga, .ref gb, .int (nI cl), .int (nI ln), .int (nI br), .int (nI lp), .int (nI va)])), (g1, .inl (ax 1, 20, .inl (fun j => nI (kd j)))), (g2, .inl (ax 1, 20, .inl (fun j => nI (ow j)))), (g3, .inl (ax 1, 20, .inl (fun j => nI (sb j)))), (g4, .inl (ax 1, 20, .inl (fun j => nI (f1 j)))), (g5, .inl (ax 1, 20, .inl (fun j => nI (f2 j)))), (g6, .inl (ax 2, 20, .inl (fun j => nI (te j)))), (g7, .inl (ax 2, 20, .inl (fun j => nI (kp j)))), (g8, .inl (ax 0, 20, .inl tm)), (g9, .inl (ax 1, 20, .inl (fun j => nI (nm j)))), (ga, .inl (ax 1, 29, .inl (fun j => nI (ck j)))), (gb, .inl (ax 1, 29, .inl (fun j => nI (co j))))]) (ixn [(sb a1)])) hP hD [0, 1, 2, 3, 4, 5, 6, 7, 8, 9, 10, 11] (by decide) rfl
      have hsp0 : bhd ln s9 ((sb a1)) kd := (by rcases hls.sib ha1 with h9 | h9; (exact Or.inl h9); (exact Or.inr ⟨h9.2, Or.inl (by first | assumption | omega)⟩))
      exact W.iret (v := nI (sb a1)) hx hb hr (fun t ht hW => ⟨⟨nI (sb a1), ixn [(sb a1)], rfl, ⟨rfl, hsp0⟩, ⟨by rw [ht]; exact hP9, hD9⟩⟩, hS.F ht⟩) hS.2.2 d_Listing_behind_57
    · replace c_5 : ¬ 20 ≤ i1 := fun hq9 => c_5 ((nI_leI (a := 20) (b := i1) (by decide) (by first | exact Nat.lt_of_lt_of_le (by assumption) (by decide) | exact Nat.lt_of_le_of_lt (by assumption) (by decide) | omega)).mpr hq9)
      refine lv_aload_n hx hb d_Listing_behind_10 rfl (lv_at hl1 0 rfl) ?_
      refine va_get (D := D) (ci := 2) (v := .ref g3) (C := R_Listing) (T := F_Listing) (N := 17) hx hb hts i_Listing hown hK.1 hP 0 rfl rfl 3 (by decide) (hts _ wd_275) (fun _ h9 => h9) rfl d_Listing_behind_11 ?_
      refine lv_iload_n hx hb d_Listing_behind_14 rfl (lv_at hl1 2 rfl) ?_
      refine va_bald hx hb hK.1 hP 3 1 rfl rfl (vp_in_nI (by first | assumption | omega) (by decide)) d_Listing_behind_15 ?_
      refine W.eq (g2 := F0 m 16 ls [.int (nI (sb a1))]) (by rw [nI_clamp (by first | exact Nat.lt_of_lt_of_le (by assumption) (by decide) | exact Nat.lt_of_le_of_lt (by assumption) (by decide) | omega)]) ?_
      refine lv_iconst (v := (-1)) hx hb d_Listing_behind_16 (by decide) ?_
      by_cases hn_6 : sb a1 = 4294967295
      · refine W.eq (g2 := F0 m 17 ls [.int (-1), .int (-1)]) (by rw [hn_6, nIm]) ?_
        refine lv_icmp_ne (tgt := 51) hx hb d_Listing_behind_17 (by decide) (fun c_7 => ?_) (fun c_7 => ?_)
        · first | exact absurd c_7 (by decide) | exact absurd (by decide) c_7
        have how := hls.own ha1
        refine lv_aload_n hx hb d_Listing_behind_20 rfl (lv_at hl1 0 rfl) ?_
        refine va_get (D := D) (ci := 2) (v := .ref g2) (C := R_Listing) (T := F_Listing) (N := 17) hx hb hts i_Listing hown hK.1 hP 0 rfl rfl 2 (by decide) (hts _ wd_274) (fun _ h9 => h9) rfl d_Listing_behind_21 ?_
        refine lv_iload_n hx hb d_Listing_behind_24 rfl (lv_at hl1 2 rfl) ?_
        refine va_bald hx hb hK.1 hP 2 1 rfl rfl (vp_in_nI (by first | assumption | omega) (by decide)) d_Listing_behind_25 ?_
        refine W.eq (g2 := F0 m 26 ls [.int (nI (ow a1))]) (by rw [nI_clamp (by first | exact Nat.lt_of_lt_of_le (by assumption) (by decide) | exact Nat.lt_of_le_of_lt (by assumption) (by decide) | omega)]) ?_
        refine lv_istore_n (lv' := [(2, .int (nI (ow a1))), (0, .ref g0), (1, .int (nI s9)), (3, .int (nI i1))]) hx hb d_Listing_behind_26 rfl hl1 (by decide) rfl (fun ls hl2 => ?_)
        clear hl1; have hl1 := hl2; clear hl2
        refine lv_iload_n hx hb d_Listing_behind_27 rfl (lv_at hl1 0 rfl) ?_
        refine lv_iconst (v := (-1)) hx hb d_Listing_behind_28 (by decide) ?_
        by_cases hn_8 : ow a1 = 4294967295
        · refine W.eq (g2 := F0 m 29 ls [.int (-1), .int (-1)]) (by rw [hn_8, nIm]) ?_
          refine lv_icmp_eq (tgt := 43) hx hb d_Listing_behind_29 (by decide) (fun c_9 => ?_) (fun c_9 => ?_)
          rotate_left
          · first | exact absurd c_9 (by decide) | exact absurd (by decide) c_9
          refine lv_iload_n hx hb d_Listing_behind_43 rfl (lv_at hl1 0 rfl) ?_
          rw [← hQe]
          obtain ⟨hP9, hD9⟩ := xw_sub2 (wc := (fun u : Nat → Nat => [(g0, .inr (2, [.ref n0, .ref g1, .ref g2, .ref g3, .ref g4, .ref g5, .ref g6, .ref g7, .ref g8, .ref g9, .ref ga, .ref gb, .int (nI cl), .int (nI ln), .int (nI br), .int (nI lp), .int (nI va)])), (g1, .inl (ax 1, 20, .inl (fun j => nI (kd j)))), (g2, .inl (ax 1, 20, .inl (fun j => nI (ow j)))), (g3, .inl (ax 1, 20, .inl (fun j => nI (sb j)))), (g4, .inl (ax 1, 20, .inl (fun j => nI (f1 j)))), (g5, .inl (ax 1, 20, .inl (fun j => nI (f2 j)))), (g6, .inl (ax 2, 20, .inl (fun j => nI (te j)))), (g7, .inl (ax 2, 20, .inl (fun j => nI (kp j)))), (g8, .inl (ax 0, 20, .inl tm)), (g9, .inl (ax 1, 20, .inl (fun j => nI (nm j)))), (ga, .inl (ax 1, 29, .inl (fun j => nI (ck j)))), (gb, .inl (ax 1, 29, .inl (fun j => nI (co j))))]) (ixn [(ow a1)])) hP hD [0, 1, 2, 3, 4, 5, 6, 7, 8, 9, 10, 11] (by decide) rfl
          have hsp0 : bhd ln s9 ((ow a1)) kd := (Or.inl hn_8)
          exact W.iret (v := nI (ow a1)) hx hb hr (fun t ht hW => ⟨⟨nI (ow a1), ixn [(ow a1)], rfl, ⟨rfl, hsp0⟩, ⟨by rw [ht]; exact hP9, hD9⟩⟩, hS.F ht⟩) hS.2.2 d_Listing_behind_44
        · have hn_8l : ow a1 < 2 ^ 31 := by have h9 := Or.resolve_left how hn_8; omega
          refine lv_icmp_eq (tgt := 43) hx hb d_Listing_behind_29 (by decide) (fun c_10 => ?_) (fun c_10 => ?_)
          · exact absurd c_10 (nIm1 (by first | assumption | omega))
          obtain ⟨hoa, hoe⟩ := Or.resolve_left how hn_8
          have hkl := (hls (ow a1) (by first | assumption | omega)).1.lt
          clear how
          refine lv_aload_n hx hb d_Listing_behind_32 rfl (lv_at hl1 1 rfl) ?_
          refine va_get (D := D) (ci := 2) (v := .ref g1) (C := R_Listing) (T := F_Listing) (N := 17) hx hb hts i_Listing hown hK.1 hP 0 rfl rfl 1 (by decide) (hts _ wd_271) (fun _ h9 => h9) rfl d_Listing_behind_33 ?_
          refine lv_iload_n hx hb d_Listing_behind_36 rfl (lv_at hl1 0 rfl) ?_
          refine va_bald hx hb hK.1 hP 1 1 rfl rfl (vp_in_nI (by first | assumption | omega) (by decide)) d_Listing_behind_37 ?_
          refine W.eq (g2 := F0 m 38 ls [.int (nI (kd (ow a1)))]) (by rw [nI_clamp (by first | exact Nat.lt_of_lt_of_le (by assumption) (by decide) | exact Nat.lt_of_le_of_lt (by assumption) (by decide) | omega)]) ?_
          refine lv_bipush (v := 12) hx hb d_Listing_behind_38 (by decide) ?_
          refine lv_icmp_ne (tgt := 45) hx hb d_Listing_behind_40 (by decide) (fun c_11 => ?_) (fun c_11 => ?_)
          · replace c_11 : ¬ kd (ow a1) = 12 := fun hq9 => c_11 ((nI_eq (a := kd (ow a1)) (b := 12) (by first | exact Nat.lt_of_lt_of_le (by assumption) (by decide) | exact Nat.lt_of_le_of_lt (by assumption) (by decide) | omega) (by decide)).mpr hq9)
            refine lv_iinc (v := nI (i1 + 1)) (lv' := [(3, .int (nI (i1 + 1))), (2, .int (nI (ow a1))), (0, .ref g0), (1, .int (nI s9))]) hx hb d_Listing_behind_45 hl1 (k := 3) rfl (nI_add i1 1) (by decide) rfl (fun ls hl2 => ?_)
            clear hl1; have hl1 := hl2; clear hl2
            refine lv_goto (tgt := 4) hx hb d_Listing_behind_48 (by decide) ?_
            exact ih_3 (ow a1) (i1 + 1) (by first | assumption | omega) (by first | assumption | omega) (by first | assumption | omega) (by first | assumption | omega) (by first | assumption | omega) _ _ _ (hP.sub [0, 1, 2, 3, 4, 5, 6, 7, 8, 9, 10, 11] rfl) (hD.sub [0, 1, 2, 3, 4, 5, 6, 7, 8, 9, 10, 11] (by decide) rfl) hS (lv_sub hl1 [2, 3, 1, 0] rfl)
          · replace c_11 : kd (ow a1) = 12 := (nI_eq (a := kd (ow a1)) (b := 12) (by first | exact Nat.lt_of_lt_of_le (by assumption) (by decide) | exact Nat.lt_of_le_of_lt (by assumption) (by decide) | omega) (by decide)).mp c_11
            refine lv_iload_n hx hb d_Listing_behind_43 rfl (lv_at hl1 0 rfl) ?_
            rw [← hQe]
            obtain ⟨hP9, hD9⟩ := xw_sub2 (wc := (fun u : Nat → Nat => [(g0, .inr (2, [.ref n0, .ref g1, .ref g2, .ref g3, .ref g4, .ref g5, .ref g6, .ref g7, .ref g8, .ref g9, .ref ga, .ref gb, .int (nI cl), .int (nI ln), .int (nI br), .int (nI lp), .int (nI va)])), (g1, .inl (ax 1, 20, .inl (fun j => nI (kd j)))), (g2, .inl (ax 1, 20, .inl (fun j => nI (ow j)))), (g3, .inl (ax 1, 20, .inl (fun j => nI (sb j)))), (g4, .inl (ax 1, 20, .inl (fun j => nI (f1 j)))), (g5, .inl (ax 1, 20, .inl (fun j => nI (f2 j)))), (g6, .inl (ax 2, 20, .inl (fun j => nI (te j)))), (g7, .inl (ax 2, 20, .inl (fun j => nI (kp j)))), (g8, .inl (ax 0, 20, .inl tm)), (g9, .inl (ax 1, 20, .inl (fun j => nI (nm j)))), (ga, .inl (ax 1, 29, .inl (fun j => nI (ck j)))), (gb, .inl (ax 1, 29, .inl (fun j => nI (co j))))]) (ixn [(ow a1)])) hP hD [0, 1, 2, 3, 4, 5, 6, 7, 8, 9, 10, 11] (by decide) rfl
            have hsp0 : bhd ln s9 ((ow a1)) kd := (Or.inr ⟨by omega, Or.inr ⟨by omega, by assumption⟩⟩)
            exact W.iret (v := nI (ow a1)) hx hb hr (fun t ht hW => ⟨⟨nI (ow a1), ixn [(ow a1)], rfl, ⟨rfl, hsp0⟩, ⟨by rw [ht]; exact hP9, hD9⟩⟩, hS.F ht⟩) hS.2.2 d_Listing_behind_44
      · have hn_6l : sb a1 < 2 ^ 31 := by have h9 := Or.resolve_left (hls.sib ha1) hn_6; omega
        refine lv_icmp_ne (tgt := 51) hx hb d_Listing_behind_17 (by decide) (fun c_12 => ?_) (fun c_12 => ?_)
        rotate_right
        · exact absurd c_12 (nIm1 (by first | assumption | omega))
        refine lv_aload_n hx hb d_Listing_behind_51 rfl (lv_at hl1 0 rfl) ?_
        refine va_get (D := D) (ci := 2) (v := .ref g3) (C := R_Listing) (T := F_Listing) (N := 17) hx hb hts i_Listing hown hK.1 hP 0 rfl rfl 3 (by decide) (hts _ wd_275) (fun _ h9 => h9) rfl d_Listing_behind_52 ?_
        refine lv_iload_n hx hb d_Listing_behind_55 rfl (lv_at hl1 2 rfl) ?_
        refine va_bald hx hb hK.1 hP 3 1 rfl rfl (vp_in_nI (by first | assumption | omega) (by decide)) d_Listing_behind_56 ?_
        refine W.eq (g2 := F0 m 57 ls [.int (nI (sb a1))]) (by rw [nI_clamp (by first | exact Nat.lt_of_lt_of_le (by assumption) (by decide) | exact Nat.lt_of_le_of_lt (by assumption) (by decide) | omega)]) ?_
        rw [← hQe]
        obtain ⟨hP9, hD9⟩ := xw_sub2 (wc := (fun u : Nat → Nat => [(g0, .inr (2, [.ref n0, .ref g1, .ref g2, .ref g3, .ref g4, .ref g5, .ref g6, .ref g7, .ref g8, .ref g9, .ref ga, .ref gb, .int (nI cl), .int (nI ln), .int (nI br), .int (nI lp), .int (nI va)])), (g1, .inl (ax 1, 20, .inl (fun j => nI (kd j)))), (g2, .inl (ax 1, 20, .inl (fun j => nI (ow j)))), (g3, .inl (ax 1, 20, .inl (fun j => nI (sb j)))), (g4, .inl (ax 1, 20, .inl (fun j => nI (f1 j)))), (g5, .inl (ax 1, 20, .inl (fun j => nI (f2 j)))), (g6, .inl (ax 2, 20, .inl (fun j => nI (te j)))), (g7, .inl (ax 2, 20, .inl (fun j => nI (kp j)))), (g8, .inl (ax 0, 20, .inl tm)), (g9, .inl (ax 1, 20, .inl (fun j => nI (nm j)))), (ga, .inl (ax 1, 29, .inl (fun j => nI (ck j)))), (gb, .inl (ax 1, 29, .inl (fun j => nI (co j))))]) (ixn [(sb a1)])) hP hD [0, 1, 2, 3, 4, 5, 6, 7, 8, 9, 10, 11] (by decide) rfl
        have hsp0 : bhd ln s9 ((sb a1)) kd := (Or.inr (by have h9 := Or.resolve_left (hls.sib ha1) hn_6; exact ⟨h9.2, Or.inl (by first | assumption | omega)⟩))
        exact W.iret (v := nI (sb a1)) hx hb hr (fun t ht hW => ⟨⟨nI (sb a1), ixn [(sb a1)], rfl, ⟨rfl, hsp0⟩, ⟨by rw [ht]; exact hP9, hD9⟩⟩, hS.F ht⟩) hS.2.2 d_Listing_behind_57
abbrev b_Runner_follow : ByteArray := prog_10_method_4_code
def y_Runner_follow : MethodName := ⟨R_Runner, "follow", "(LTripleDesk$Listing;IZ)I"⟩
theorem d_Runner_follow_0 : decode b_Runner_follow 0 = .ok (.aload_n 1, 1) := by decide +kernel
theorem d_Runner_follow_1 : decode b_Runner_follow 1 = .ok (.getfield 25, 3) := by decide +kernel
theorem d_Runner_follow_4 : decode b_Runner_follow 4 = .ok (.iload_n 2, 1) := by decide +kernel
theorem d_Runner_follow_5 : decode b_Runner_follow 5 = .ok (.baload, 1) := by decide +kernel
theorem d_Runner_follow_6 : decode b_Runner_follow 6 = .ok (.lookupswitch 168 #[(2, 42), (8, 69), (12, 102), (17, 140)], 42) := by decide +kernel
theorem d_Runner_follow_48 : decode b_Runner_follow 48 = .ok (.aload_n 0, 1) := by decide +kernel
theorem d_Runner_follow_49 : decode b_Runner_follow 49 = .ok (.getfield 9, 3) := by decide +kernel
theorem d_Runner_follow_52 : decode b_Runner_follow 52 = .ok (.aload_n 1, 1) := by decide +kernel
theorem d_Runner_follow_53 : decode b_Runner_follow 53 = .ok (.getfield 31, 3) := by decide +kernel
theorem d_Runner_follow_56 : decode b_Runner_follow 56 = .ok (.iload_n 2, 1) := by decide +kernel
theorem d_Runner_follow_57 : decode b_Runner_follow 57 = .ok (.baload, 1) := by decide +kernel
theorem d_Runner_follow_58 : decode b_Runner_follow 58 = .ok (.aload_n 0, 1) := by decide +kernel
theorem d_Runner_follow_59 : decode b_Runner_follow 59 = .ok (.aload_n 1, 1) := by decide +kernel
theorem d_Runner_follow_60 : decode b_Runner_follow 60 = .ok (.getfield 34, 3) := by decide +kernel
theorem d_Runner_follow_63 : decode b_Runner_follow 63 = .ok (.iload_n 2, 1) := by decide +kernel
theorem d_Runner_follow_64 : decode b_Runner_follow 64 = .ok (.iaload, 1) := by decide +kernel
theorem d_Runner_follow_65 : decode b_Runner_follow 65 = .ok (.invokevirtual 38, 3) := by decide +kernel
theorem d_Runner_follow_68 : decode b_Runner_follow 68 = .ok (.lastore, 1) := by decide +kernel
theorem d_Runner_follow_69 : decode b_Runner_follow 69 = .ok (.aload_n 1, 1) := by decide +kernel
theorem d_Runner_follow_70 : decode b_Runner_follow 70 = .ok (.iload_n 2, 1) := by decide +kernel
theorem d_Runner_follow_71 : decode b_Runner_follow 71 = .ok (.invokevirtual 42, 3) := by decide +kernel
theorem d_Runner_follow_74 : decode b_Runner_follow 74 = .ok (.ireturn, 1) := by decide +kernel
theorem d_Runner_follow_75 : decode b_Runner_follow 75 = .ok (.aload_n 0, 1) := by decide +kernel
theorem d_Runner_follow_76 : decode b_Runner_follow 76 = .ok (.aload_n 1, 1) := by decide +kernel
theorem d_Runner_follow_77 : decode b_Runner_follow 77 = .ok (.getfield 46, 3) := by decide +kernel
theorem d_Runner_follow_80 : decode b_Runner_follow 80 = .ok (.aload_n 1, 1) := by decide +kernel
theorem d_Runner_follow_81 : decode b_Runner_follow 81 = .ok (.getfield 50, 3) := by decide +kernel
theorem d_Runner_follow_84 : decode b_Runner_follow 84 = .ok (.iload_n 2, 1) := by decide +kernel
theorem d_Runner_follow_85 : decode b_Runner_follow 85 = .ok (.saload, 1) := by decide +kernel
theorem d_Runner_follow_86 : decode b_Runner_follow 86 = .ok (.invokevirtual 54, 3) := by decide +kernel
theorem d_Runner_follow_89 : decode b_Runner_follow 89 = .ok (.ifCond .eq 12, 3) := by decide +kernel
theorem d_Runner_follow_92 : decode b_Runner_follow 92 = .ok (.aload_n 1, 1) := by decide +kernel
theorem d_Runner_follow_93 : decode b_Runner_follow 93 = .ok (.getfield 58, 3) := by decide +kernel
theorem d_Runner_follow_96 : decode b_Runner_follow 96 = .ok (.iload_n 2, 1) := by decide +kernel
theorem d_Runner_follow_97 : decode b_Runner_follow 97 = .ok (.baload, 1) := by decide +kernel
theorem d_Runner_follow_98 : decode b_Runner_follow 98 = .ok (.goto 9, 3) := by decide +kernel
theorem d_Runner_follow_101 : decode b_Runner_follow 101 = .ok (.aload_n 1, 1) := by decide +kernel
theorem d_Runner_follow_102 : decode b_Runner_follow 102 = .ok (.getfield 61, 3) := by decide +kernel
theorem d_Runner_follow_105 : decode b_Runner_follow 105 = .ok (.iload_n 2, 1) := by decide +kernel
theorem d_Runner_follow_106 : decode b_Runner_follow 106 = .ok (.baload, 1) := by decide +kernel
theorem d_Runner_follow_107 : decode b_Runner_follow 107 = .ok (.ireturn, 1) := by decide +kernel
theorem d_Runner_follow_108 : decode b_Runner_follow 108 = .ok (.iload_n 3, 1) := by decide +kernel
theorem d_Runner_follow_109 : decode b_Runner_follow 109 = .ok (.ifCond .ne 5, 3) := by decide +kernel
theorem d_Runner_follow_112 : decode b_Runner_follow 112 = .ok (.iload_n 2, 1) := by decide +kernel
theorem d_Runner_follow_113 : decode b_Runner_follow 113 = .ok (.ireturn, 1) := by decide +kernel
theorem d_Runner_follow_114 : decode b_Runner_follow 114 = .ok (.aload_n 0, 1) := by decide +kernel
theorem d_Runner_follow_115 : decode b_Runner_follow 115 = .ok (.aload_n 1, 1) := by decide +kernel
theorem d_Runner_follow_116 : decode b_Runner_follow 116 = .ok (.getfield 46, 3) := by decide +kernel
theorem d_Runner_follow_119 : decode b_Runner_follow 119 = .ok (.aload_n 1, 1) := by decide +kernel
theorem d_Runner_follow_120 : decode b_Runner_follow 120 = .ok (.getfield 50, 3) := by decide +kernel
theorem d_Runner_follow_123 : decode b_Runner_follow 123 = .ok (.iload_n 2, 1) := by decide +kernel
theorem d_Runner_follow_124 : decode b_Runner_follow 124 = .ok (.saload, 1) := by decide +kernel
theorem d_Runner_follow_125 : decode b_Runner_follow 125 = .ok (.invokevirtual 54, 3) := by decide +kernel
theorem d_Runner_follow_128 : decode b_Runner_follow 128 = .ok (.ifCond .eq 12, 3) := by decide +kernel
theorem d_Runner_follow_131 : decode b_Runner_follow 131 = .ok (.aload_n 1, 1) := by decide +kernel
theorem d_Runner_follow_132 : decode b_Runner_follow 132 = .ok (.getfield 58, 3) := by decide +kernel
theorem d_Runner_follow_135 : decode b_Runner_follow 135 = .ok (.iload_n 2, 1) := by decide +kernel
theorem d_Runner_follow_136 : decode b_Runner_follow 136 = .ok (.baload, 1) := by decide +kernel
theorem d_Runner_follow_137 : decode b_Runner_follow 137 = .ok (.goto 8, 3) := by decide +kernel
theorem d_Runner_follow_140 : decode b_Runner_follow 140 = .ok (.aload_n 1, 1) := by decide +kernel
theorem d_Runner_follow_141 : decode b_Runner_follow 141 = .ok (.iload_n 2, 1) := by decide +kernel
theorem d_Runner_follow_142 : decode b_Runner_follow 142 = .ok (.invokevirtual 42, 3) := by decide +kernel
theorem d_Runner_follow_145 : decode b_Runner_follow 145 = .ok (.ireturn, 1) := by decide +kernel
theorem d_Runner_follow_146 : decode b_Runner_follow 146 = .ok (.aload_n 0, 1) := by decide +kernel
theorem d_Runner_follow_147 : decode b_Runner_follow 147 = .ok (.aload_n 1, 1) := by decide +kernel
theorem d_Runner_follow_148 : decode b_Runner_follow 148 = .ok (.getfield 46, 3) := by decide +kernel
theorem d_Runner_follow_151 : decode b_Runner_follow 151 = .ok (.aload_n 1, 1) := by decide +kernel
theorem d_Runner_follow_152 : decode b_Runner_follow 152 = .ok (.getfield 50, 3) := by decide +kernel
theorem d_Runner_follow_155 : decode b_Runner_follow 155 = .ok (.iload_n 2, 1) := by decide +kernel
theorem d_Runner_follow_156 : decode b_Runner_follow 156 = .ok (.saload, 1) := by decide +kernel
theorem d_Runner_follow_157 : decode b_Runner_follow 157 = .ok (.invokevirtual 54, 3) := by decide +kernel
theorem d_Runner_follow_160 : decode b_Runner_follow 160 = .ok (.ifCond .eq 11, 3) := by decide +kernel
theorem d_Runner_follow_163 : decode b_Runner_follow 163 = .ok (.aload_n 1, 1) := by decide +kernel
theorem d_Runner_follow_164 : decode b_Runner_follow 164 = .ok (.iload_n 2, 1) := by decide +kernel
theorem d_Runner_follow_165 : decode b_Runner_follow 165 = .ok (.invokevirtual 42, 3) := by decide +kernel
theorem d_Runner_follow_168 : decode b_Runner_follow 168 = .ok (.goto 5, 3) := by decide +kernel
theorem d_Runner_follow_171 : decode b_Runner_follow 171 = .ok (.bipush (-2), 2) := by decide +kernel
theorem d_Runner_follow_173 : decode b_Runner_follow 173 = .ok (.ireturn, 1) := by decide +kernel
theorem d_Runner_follow_174 : decode b_Runner_follow 174 = .ok (.aload_n 1, 1) := by decide +kernel
theorem d_Runner_follow_175 : decode b_Runner_follow 175 = .ok (.iload_n 2, 1) := by decide +kernel
theorem d_Runner_follow_176 : decode b_Runner_follow 176 = .ok (.invokevirtual 42, 3) := by decide +kernel
theorem d_Runner_follow_179 : decode b_Runner_follow 179 = .ok (.ireturn, 1) := by decide +kernel
set_option maxHeartbeats 40000000 in
set_option maxRecDepth 100000 in
theorem c_E_follow (l : Launch) (D : va_G) (ax : Nat → ClassId) (e0 e1 : Nat) (vs : Nat → Int64) (n0 n1 n2 n3 cp z9 : Nat) (fo fl fr : Nat → Int32) (g0 g1 g2 g3 g4 g5 g6 g7 g8 g9 ga gb cl ln br lp va : Nat) (kd ow sb f1 f2 te kp nm ck co : Nat → Nat) (tm : Nat → Int32) (s9 et : Nat) (sz : Nat) (hz9 : z9 ≤ cp) (hcp : cp ≤ 100000) (hzz : z9 ≤ 600) (hnv : ndv fo fl fr z9) (hlf : lsf ln z9 kd ow sb f1 f2 te kp nm tm fo fl fr) (hs9 : s9 < ln) (het : et ≤ 1) : Met l y_Runner_follow (xws (.code y_Runner_follow b_Runner_follow 4 (some .int))) ({ frames := 1300, cells := 0, slots := 0, locals := 27000 }) (va_Pc [.ref e0, .ref g0, .int (nI s9), .int (nI et)] (xo D ax [(e0, .inr (8, [.ref e1])), (e1, .inl (ax 4, 6, .inr (.inl vs))), (n0, .inr (4, [.ref n1, .ref n2, .ref n3, .int (nI z9)])), (n1, .inl (ax 1, cp, .inl fo)), (n2, .inl (ax 0, cp, .inl fl)), (n3, .inl (ax 0, cp, .inl fr)), (g0, .inr (2, [.ref n0, .ref g1, .ref g2, .ref g3, .ref g4, .ref g5, .ref g6, .ref g7, .ref g8, .ref g9, .ref ga, .ref gb, .int (nI cl), .int (nI ln), .int (nI br), .int (nI lp), .int (nI va)])), (g1, .inl (ax 1, 20, .inl (fun j => nI (kd j)))), (g2, .inl (ax 1, 20, .inl (fun j => nI (ow j)))), (g3, .inl (ax 1, 20, .inl (fun j => nI (sb j)))), (g4, .inl (ax 1, 20, .inl (fun j => nI (f1 j)))), (g5, .inl (ax 1, 20, .inl (fun j => nI (f2 j)))), (g6, .inl (ax 2, 20, .inl (fun j => nI (te j)))), (g7, .inl (ax 2, 20, .inl (fun j => nI (kp j)))), (g8, .inl (ax 0, 20, .inl tm)), (g9, .inl (ax 1, 20, .inl (fun j => nI (nm j)))), (ga, .inl (ax 1, 29, .inl (fun j => nI (ck j)))), (gb, .inl (ax 1, 29, .inl (fun j => nI (co j))))] sz)) ((va_Qi (fun (r : Int32) (u : Nat → Nat) => r = nI (u 0) ∧ (fol ln (u 0))) (fun (u : Nat → Nat) (t9 : State) => ∃ xvs : Nat → Int64, (True) ∧ va_P D classes [(e0, .inr (8, [.ref e1])), (e1, .inl (ax 4, 6, .inr (.inl xvs))), (n0, .inr (4, [.ref n1, .ref n2, .ref n3, .int (nI z9)])), (n1, .inl (ax 1, cp, .inl fo)), (n2, .inl (ax 0, cp, .inl fl)), (n3, .inl (ax 0, cp, .inl fr)), (g0, .inr (2, [.ref n0, .ref g1, .ref g2, .ref g3, .ref g4, .ref g5, .ref g6, .ref g7, .ref g8, .ref g9, .ref ga, .ref gb, .int (nI cl), .int (nI ln), .int (nI br), .int (nI lp), .int (nI va)])), (g1, .inl (ax 1, 20, .inl (fun j => nI (kd j)))), (g2, .inl (ax 1, 20, .inl (fun j => nI (ow j)))), (g3, .inl (ax 1, 20, .inl (fun j => nI (sb j)))), (g4, .inl (ax 1, 20, .inl (fun j => nI (f1 j)))), (g5, .inl (ax 1, 20, .inl (fun j => nI (f2 j)))), (g6, .inl (ax 2, 20, .inl (fun j => nI (te j)))), (g7, .inl (ax 2, 20, .inl (fun j => nI (kp j)))), (g8, .inl (ax 0, 20, .inl tm)), (g9, .inl (ax 1, 20, .inl (fun j => nI (nm j)))), (ga, .inl (ax 1, 29, .inl (fun j => nI (ck j)))), (gb, .inl (ax 1, 29, .inl (fun j => nI (co j))))] t9.heap ∧ va_D (va_A [(e0, .inr (8, [.ref e1])), (e1, .inl (ax 4, 6, .inr (.inl vs))), (n0, .inr (4, [.ref n1, .ref n2, .ref n3, .int (nI z9)])), (n1, .inl (ax 1, cp, .inl fo)), (n2, .inl (ax 0, cp, .inl fl)), (n3, .inl (ax 0, cp, .inl fr)), (g0, .inr (2, [.ref n0, .ref g1, .ref g2, .ref g3, .ref g4, .ref g5, .ref g6, .ref g7, .ref g8, .ref g9, .ref ga, .ref gb, .int (nI cl), .int (nI ln), .int (nI br), .int (nI lp), .int (nI va)])), (g1, .inl (ax 1, 20, .inl (fun j => nI (kd j)))), (g2, .inl (ax 1, 20, .inl (fun j => nI (ow j)))), (g3, .inl (ax 1, 20, .inl (fun j => nI (sb j)))), (g4, .inl (ax 1, 20, .inl (fun j => nI (f1 j)))), (g5, .inl (ax 1, 20, .inl (fun j => nI (f2 j)))), (g6, .inl (ax 2, 20, .inl (fun j => nI (te j)))), (g7, .inl (ax 2, 20, .inl (fun j => nI (kp j)))), (g8, .inl (ax 0, 20, .inl tm)), (g9, .inl (ax 1, 20, .inl (fun j => nI (nm j)))), (ga, .inl (ax 1, 29, .inl (fun j => nI (ck j)))), (gb, .inl (ax 1, 29, .inl (fun j => nI (co j))))] sz) [(e0, .inr (8, [.ref e1])), (e1, .inl (ax 4, 6, .inr (.inl xvs))), (n0, .inr (4, [.ref n1, .ref n2, .ref n3, .int (nI z9)])), (n1, .inl (ax 1, cp, .inl fo)), (n2, .inl (ax 0, cp, .inl fl)), (n3, .inl (ax 0, cp, .inl fr)), (g0, .inr (2, [.ref n0, .ref g1, .ref g2, .ref g3, .ref g4, .ref g5, .ref g6, .ref g7, .ref g8, .ref g9, .ref ga, .ref gb, .int (nI cl), .int (nI ln), .int (nI br), .int (nI lp), .int (nI va)])), (g1, .inl (ax 1, 20, .inl (fun j => nI (kd j)))), (g2, .inl (ax 1, 20, .inl (fun j => nI (ow j)))), (g3, .inl (ax 1, 20, .inl (fun j => nI (sb j)))), (g4, .inl (ax 1, 20, .inl (fun j => nI (f1 j)))), (g5, .inl (ax 1, 20, .inl (fun j => nI (f2 j)))), (g6, .inl (ax 2, 20, .inl (fun j => nI (te j)))), (g7, .inl (ax 2, 20, .inl (fun j => nI (kp j)))), (g8, .inl (ax 0, 20, .inl tm)), (g9, .inl (ax 1, 20, .inl (fun j => nI (nm j)))), (ga, .inl (ax 1, 29, .inl (fun j => nI (ck j)))), (gb, .inl (ax 1, 29, .inl (fun j => nI (co j))))]) (va_A [(e0, .inr (8, [.ref e1])), (e1, .inl (ax 4, 6, .inr (.inl vs))), (n0, .inr (4, [.ref n1, .ref n2, .ref n3, .int (nI z9)])), (n1, .inl (ax 1, cp, .inl fo)), (n2, .inl (ax 0, cp, .inl fl)), (n3, .inl (ax 0, cp, .inl fr)), (g0, .inr (2, [.ref n0, .ref g1, .ref g2, .ref g3, .ref g4, .ref g5, .ref g6, .ref g7, .ref g8, .ref g9, .ref ga, .ref gb, .int (nI cl), .int (nI ln), .int (nI br), .int (nI lp), .int (nI va)])), (g1, .inl (ax 1, 20, .inl (fun j => nI (kd j)))), (g2, .inl (ax 1, 20, .inl (fun j => nI (ow j)))), (g3, .inl (ax 1, 20, .inl (fun j => nI (sb j)))), (g4, .inl (ax 1, 20, .inl (fun j => nI (f1 j)))), (g5, .inl (ax 1, 20, .inl (fun j => nI (f2 j)))), (g6, .inl (ax 2, 20, .inl (fun j => nI (te j)))), (g7, .inl (ax 2, 20, .inl (fun j => nI (kp j)))), (g8, .inl (ax 0, 20, .inl tm)), (g9, .inl (ax 1, 20, .inl (fun j => nI (nm j)))), (ga, .inl (ax 1, 29, .inl (fun j => nI (ck j)))), (gb, .inl (ax 1, 29, .inl (fun j => nI (co j))))] sz))) 0 0 (va_A [(e0, .inr (8, [.ref e1])), (e1, .inl (ax 4, 6, .inr (.inl vs))), (n0, .inr (4, [.ref n1, .ref n2, .ref n3, .int (nI z9)])), (n1, .inl (ax 1, cp, .inl fo)), (n2, .inl (ax 0, cp, .inl fl)), (n3, .inl (ax 0, cp, .inl fr)), (g0, .inr (2, [.ref n0, .ref g1, .ref g2, .ref g3, .ref g4, .ref g5, .ref g6, .ref g7, .ref g8, .ref g9, .ref ga, .ref gb, .int (nI cl), .int (nI ln), .int (nI br), .int (nI lp), .int (nI va)])), (g1, .inl (ax 1, 20, .inl (fun j => nI (kd j)))), (g2, .inl (ax 1, 20, .inl (fun j => nI (ow j)))), (g3, .inl (ax 1, 20, .inl (fun j => nI (sb j)))), (g4, .inl (ax 1, 20, .inl (fun j => nI (f1 j)))), (g5, .inl (ax 1, 20, .inl (fun j => nI (f2 j)))), (g6, .inl (ax 2, 20, .inl (fun j => nI (te j)))), (g7, .inl (ax 2, 20, .inl (fun j => nI (kp j)))), (g8, .inl (ax 0, 20, .inl tm)), (g9, .inl (ax 1, 20, .inl (fun j => nI (nm j)))), (ga, .inl (ax 1, 29, .inl (fun j => nI (ck j)))), (gb, .inl (ax 1, 29, .inl (fun j => nI (co j))))] sz) := by
  refine Met.ofW (cc := b_Runner_follow) (maxL := 4) (ret := (some .int)) (by decide) rfl ?_
  intro p e s m args below meth c s₁ B hml hv
  obtain ⟨rfl, hsz, hP, hK, hD0⟩ := hv
  have hx := B.exec
  have hb := B.bytes
  have hr := B.returns
  have hts := xw_hts B.pre
  have hown : s.vm.findClass R_Runner = some m.cls := findClass_of_methodNamed B.named
  have hlocks := B.notSynchronized
  subst hsz
  have hD := hD0.self (sz := s.heap.size)
  have hN := xz_entry hP
  generalize hAe : va_A [(e0, .inr (8, [.ref e1])), (e1, .inl (ax 4, 6, .inr (.inl vs))), (n0, .inr (4, [.ref n1, .ref n2, .ref n3, .int (nI z9)])), (n1, .inl (ax 1, cp, .inl fo)), (n2, .inl (ax 0, cp, .inl fl)), (n3, .inl (ax 0, cp, .inl fr)), (g0, .inr (2, [.ref n0, .ref g1, .ref g2, .ref g3, .ref g4, .ref g5, .ref g6, .ref g7, .ref g8, .ref g9, .ref ga, .ref gb, .int (nI cl), .int (nI ln), .int (nI br), .int (nI lp), .int (nI va)])), (g1, .inl (ax 1, 20, .inl (fun j => nI (kd j)))), (g2, .inl (ax 1, 20, .inl (fun j => nI (ow j)))), (g3, .inl (ax 1, 20, .inl (fun j => nI (sb j)))), (g4, .inl (ax 1, 20, .inl (fun j => nI (f1 j)))), (g5, .inl (ax 1, 20, .inl (fun j => nI (f2 j)))), (g6, .inl (ax 2, 20, .inl (fun j => nI (te j)))), (g7, .inl (ax 2, 20, .inl (fun j => nI (kp j)))), (g8, .inl (ax 0, 20, .inl tm)), (g9, .inl (ax 1, 20, .inl (fun j => nI (nm j)))), (ga, .inl (ax 1, 29, .inl (fun j => nI (ck j)))), (gb, .inl (ax 1, 29, .inl (fun j => nI (co j))))] s.heap.size = A at hD hN ⊢
  have hA : ∀ q : Nat, s.heap.size ≤ q → A q := fun q h => by rw [← hAe]; exact Or.inr h
  have hS : va_S A s.heap s.heap [] := va_S.rf
  have hl0 := lv_entry ([.ref e0, .ref g0, .int (nI s9), .int (nI et)]) (n := 4) (Nat.le_of_ble_eq_true rfl)
  rw [lg_entry_eq]
  generalize (lg_sl ([.ref e0, .ref g0, .int (nI s9), .int (nI et)]) ++ List.replicate (4 - (lg_sl ([.ref e0, .ref g0, .int (nI s9), .int (nI et)])).length) Slot.unset).toArray = ls at hl0 ⊢
  have hl1 : lv_has ls 4 [(0, .ref e0), (1, .ref g0), (2, .int (nI s9)), (3, .int (nI et))] := hl0
  refine xw_gen (fun Z9 hQe => ?_)
  obtain ⟨hn1, hn20⟩ := hlf.nn
  obtain ⟨en, hls⟩ := hlf.p
  have hkd := (hlf.k hs9).lt
  refine lv_aload_n hx hb d_Runner_follow_0 rfl (lv_at hl1 1 rfl) ?_
  refine va_get (D := D) (ci := 2) (v := .ref g1) (C := R_Listing) (T := F_Listing) (N := 17) hx hb hts i_Listing hown hK.1 hP 6 rfl rfl 1 (by decide) (hts _ wd_272) (fun _ h9 => h9) rfl d_Runner_follow_1 ?_
  refine lv_iload_n hx hb d_Runner_follow_4 rfl (lv_at hl1 2 rfl) ?_
  refine va_bald hx hb hK.1 hP 7 1 rfl rfl (vp_in_nI (by first | assumption | omega) (by decide)) d_Runner_follow_5 ?_
  refine W.eq (g2 := F0 m 6 ls [.int (nI (kd s9))]) (by rw [nI_clamp (by first | exact Nat.lt_of_lt_of_le (by assumption) (by decide) | exact Nat.lt_of_le_of_lt (by assumption) (by decide) | omega)]) ?_
  by_cases hw_1 : kd s9 = 2
  · refine W.eq (g2 := F0 m 6 ls [.int 2]) (by rw [hw_1]; rfl) ?_
    refine lv_lookup (off := 42) (tgt := 48) hx hb d_Runner_follow_6 (by decide) (by decide) (by decide) ?_
    obtain ⟨hnm, htm⟩ := hlf.set hs9 (by first | assumption | omega)
    refine lv_aload_n hx hb d_Runner_follow_48 rfl (lv_at hl1 0 rfl) ?_
    refine va_get (D := D) (ci := 8) (v := .ref e1) (C := R_Runner) (T := F_Runner) (N := 1) hx hb hts i_Runner hown hK.1 hP 0 rfl rfl 0 (by decide) (hts _ wd_251) (fun _ h9 => h9) rfl d_Runner_follow_49 ?_
    refine lv_aload_n hx hb d_Runner_follow_52 rfl (lv_at hl1 1 rfl) ?_
    refine va_get (D := D) (ci := 2) (v := .ref g9) (C := R_Listing) (T := F_Listing) (N := 17) hx hb hts i_Listing hown hK.1 hP 6 rfl rfl 9 (by decide) (hts _ wd_297) (fun _ h9 => h9) rfl d_Runner_follow_53 ?_
    refine lv_iload_n hx hb d_Runner_follow_56 rfl (lv_at hl1 2 rfl) ?_
    refine va_bald hx hb hK.1 hP 15 1 rfl rfl (vp_in_nI (by first | assumption | omega) (by decide)) d_Runner_follow_57 ?_
    refine W.eq (g2 := F0 m 58 ls [.int (nI (nm s9)), .ref e1]) (by rw [nI_clamp (by first | exact Nat.lt_of_lt_of_le (by assumption) (by decide) | exact Nat.lt_of_le_of_lt (by assumption) (by decide) | omega)]) ?_
    refine lv_aload_n hx hb d_Runner_follow_58 rfl (lv_at hl1 0 rfl) ?_
    refine lv_aload_n hx hb d_Runner_follow_59 rfl (lv_at hl1 1 rfl) ?_
    refine va_get (D := D) (ci := 2) (v := .ref g8) (C := R_Listing) (T := F_Listing) (N := 17) hx hb hts i_Listing hown hK.1 hP 6 rfl rfl 8 (by decide) (hts _ wd_293) (fun _ h9 => h9) rfl d_Runner_follow_60 ?_
    refine lv_iload_n hx hb d_Runner_follow_63 rfl (lv_at hl1 2 rfl) ?_
    refine va_iald hx hb hK.1 hP 14 0 rfl rfl (vp_in_nI (by first | assumption | omega) (by decide)) d_Runner_follow_64 ?_
    refine W.eq (g2 := F0 m 65 ls [.int (tm s9), .ref e0, .int (nI (nm s9)), .ref e1]) (by rw [nI_clamp (by first | exact Nat.lt_of_lt_of_le (by assumption) (by decide) | exact Nat.lt_of_le_of_lt (by assumption) (by decide) | omega)]) ?_
    by_cases hk_2 : i2n (tm s9) % 16 < 6
    · skip
      obtain ⟨hPc, hDc, hFc, hCs⟩ := xw_sub3 (wc := [(e0, .inr (8, [.ref e1])), (e1, .inl (ax 4, 6, .inr (.inl vs)))]) hP hD hS hA [0, 1] (by decide) rfl
      have hz := xz_of hN hS
      refine va_calll (va_runV (As := [.int (tm s9)]) (rest := [.int (nI (nm s9)), .ref e1]) ⟨hx, hb, hml, hown, hts⟩ (c_E_amount_0 l D ax e0 e1 vs (tm s9) s.heap.size hk_2) (xcV (n := 1) hts wd_1000 wd_11 wd_997 wd_999 ps_48 rfl rfl (by decide +kernel) ⟨(show (10) + 1 ≤ (1300) by omega), (show 8 + (5 + 11) + (400) ≤ (27000) by omega)⟩) (xpV (ci := 8) (q0 := 0) (As := [.int (tm s9)]) hPc hK hz hDc rfl rfl) rfl rfl hl1.1 rfl (lv_room (Nat.le_of_ble_eq_true rfl)) d_Runner_follow_65 ⟨Nat.le_of_ble_eq_true rfl, Nat.le_of_ble_eq_true rfl⟩) hS (fun q _ h => hFc q h) hFc (fun r_5 u_3 t H_4 locs ht hvm hw hB hz1 hk1 hS1 => ?_)
      try dsimp only at hw
      subst hw
      obtain ⟨hP1, hD1⟩ := hB
      rw [ht] at hP1
      have hjn := xw_join3 (wl := [(n0, .inr (4, [.ref n1, .ref n2, .ref n3, .int (nI z9)])), (n1, .inl (ax 1, cp, .inl fo)), (n2, .inl (ax 0, cp, .inl fl)), (n3, .inl (ax 0, cp, .inl fr)), (g0, .inr (2, [.ref n0, .ref g1, .ref g2, .ref g3, .ref g4, .ref g5, .ref g6, .ref g7, .ref g8, .ref g9, .ref ga, .ref gb, .int (nI cl), .int (nI ln), .int (nI br), .int (nI lp), .int (nI va)])), (g1, .inl (ax 1, 20, .inl (fun j => nI (kd j)))), (g2, .inl (ax 1, 20, .inl (fun j => nI (ow j)))), (g3, .inl (ax 1, 20, .inl (fun j => nI (sb j)))), (g4, .inl (ax 1, 20, .inl (fun j => nI (f1 j)))), (g5, .inl (ax 1, 20, .inl (fun j => nI (f2 j)))), (g6, .inl (ax 2, 20, .inl (fun j => nI (te j)))), (g7, .inl (ax 2, 20, .inl (fun j => nI (kp j)))), (g8, .inl (ax 0, 20, .inl tm)), (g9, .inl (ax 1, 20, .inl (fun j => nI (nm j)))), (ga, .inl (ax 1, 29, .inl (fun j => nI (ck j)))), (gb, .inl (ax 1, 29, .inl (fun j => nI (co j)))), (e0, .inr (8, [.ref e1])), (e1, .inl (ax 4, 6, .inr (.inl vs)))]) hP hD [0, 1] [2, 3, 4, 5, 6, 7, 8, 9, 10, 11, 12, 13, 14, 15, 16, 17] hCs (by decide) (by decide) hk1 hFc hP1 hD1 rfl
      clear hP1 hD1
      clear hPc hDc hFc hCs hz hz1 hk1 ht hvm
      clear hP hD hS
      have hS := hS1
      obtain ⟨hP, hD⟩ := hjn
      clear hS1
      refine va_last hx hb hK.1 hP hD hS 17 4 rfl rfl (vp_in_nI (by first | assumption | omega) (by decide)) d_Runner_follow_68 (fun H_6 locs hP1 hD1 hS1 => ?_)
      rw [nI_clamp (by first | exact Nat.lt_of_lt_of_le (by assumption) (by decide) | exact Nat.lt_of_le_of_lt (by assumption) (by decide) | omega)] at hP1 hD1
      clear hP hD hS
      have hS := hS1
      have hW7 : (fun w9 : va_W => va_P D classes w9 H_6 ∧ va_D A w9) [(n0, .inr (4, [.ref n1, .ref n2, .ref n3, .int (nI z9)])), (n1, .inl (ax 1, cp, .inl fo)), (n2, .inl (ax 0, cp, .inl fl)), (n3, .inl (ax 0, cp, .inl fr)), (g0, .inr (2, [.ref n0, .ref g1, .ref g2, .ref g3, .ref g4, .ref g5, .ref g6, .ref g7, .ref g8, .ref g9, .ref ga, .ref gb, .int (nI cl), .int (nI ln), .int (nI br), .int (nI lp), .int (nI va)])), (g1, .inl (ax 1, 20, .inl (fun j => nI (kd j)))), (g2, .inl (ax 1, 20, .inl (fun j => nI (ow j)))), (g3, .inl (ax 1, 20, .inl (fun j => nI (sb j)))), (g4, .inl (ax 1, 20, .inl (fun j => nI (f1 j)))), (g5, .inl (ax 1, 20, .inl (fun j => nI (f2 j)))), (g6, .inl (ax 2, 20, .inl (fun j => nI (te j)))), (g7, .inl (ax 2, 20, .inl (fun j => nI (kp j)))), (g8, .inl (ax 0, 20, .inl tm)), (g9, .inl (ax 1, 20, .inl (fun j => nI (nm j)))), (ga, .inl (ax 1, 29, .inl (fun j => nI (ck j)))), (gb, .inl (ax 1, 29, .inl (fun j => nI (co j)))), (e0, .inr (8, [.ref e1])), (e1, .inl (ax 4, 6, .inr (.inl (vp_updL vs (nm s9) (vs (i2n (tm s9) % 16) + ((tm s9) >>> (4 &&& 31)).toInt64)))))] := ⟨hP1, hD1⟩
      obtain ⟨hP, hD⟩ := hW7
      clear hP1 hD1 hS1
      refine lv_aload_n hx hb d_Runner_follow_69 rfl (lv_at hl1 1 rfl) ?_
      refine lv_iload_n hx hb d_Runner_follow_70 rfl (lv_at hl1 2 rfl) ?_
      obtain ⟨hPc, hDc, hFc, hCs⟩ := xw_sub3 (wc := [(g0, .inr (2, [.ref n0, .ref g1, .ref g2, .ref g3, .ref g4, .ref g5, .ref g6, .ref g7, .ref g8, .ref g9, .ref ga, .ref gb, .int (nI cl), .int (nI ln), .int (nI br), .int (nI lp), .int (nI va)])), (g1, .inl (ax 1, 20, .inl (fun j => nI (kd j)))), (g2, .inl (ax 1, 20, .inl (fun j => nI (ow j)))), (g3, .inl (ax 1, 20, .inl (fun j => nI (sb j)))), (g4, .inl (ax 1, 20, .inl (fun j => nI (f1 j)))), (g5, .inl (ax 1, 20, .inl (fun j => nI (f2 j)))), (g6, .inl (ax 2, 20, .inl (fun j => nI (te j)))), (g7, .inl (ax 2, 20, .inl (fun j => nI (kp j)))), (g8, .inl (ax 0, 20, .inl tm)), (g9, .inl (ax 1, 20, .inl (fun j => nI (nm j)))), (ga, .inl (ax 1, 29, .inl (fun j => nI (ck j)))), (gb, .inl (ax 1, 29, .inl (fun j => nI (co j))))]) hP hD hS hA [4, 5, 6, 7, 8, 9, 10, 11, 12, 13, 14, 15] (by decide) rfl
      have hz := xz_of hN hS
      refine va_calli (va_runV (As := [.int (nI s9)]) (rest := []) ⟨hx, hb, hml, hown, hts⟩ (c_L_behind_0 l D ax g0 g1 g2 g3 g4 g5 g6 g7 g8 g9 ga gb cl ln br lp va kd ow sb f1 f2 te kp nm ck co tm n0 s9 en H_6.size (by first | assumption | omega) hs9 hls) (xcV (n := 1) hts wd_805 wd_12 wd_1001 wd_803 wd_804 rfl rfl (by decide +kernel) ⟨(show (10) + 1 ≤ (1300) by omega), (show 8 + (4 + 11) + (400) ≤ (27000) by omega)⟩) (xpV (ci := 2) (q0 := 0) (As := [.int (nI s9)]) hPc hK hz hDc rfl rfl) rfl rfl hl1.1 rfl (lv_room (Nat.le_of_ble_eq_true rfl)) d_Runner_follow_71 ⟨Nat.le_of_ble_eq_true rfl, Nat.le_of_ble_eq_true rfl⟩) hS (fun q _ h => hFc q h) hFc (fun r_9 u_7 t H_8 locs ht hvm hw hB hz1 hk1 hS1 => ?_)
      try dsimp only at hw
      obtain ⟨hw, hs_10⟩ := hw
      subst hw
      obtain ⟨hP1, hD1⟩ := hB
      rw [ht] at hP1
      have hjn := xw_join3 (wl := [(n0, .inr (4, [.ref n1, .ref n2, .ref n3, .int (nI z9)])), (n1, .inl (ax 1, cp, .inl fo)), (n2, .inl (ax 0, cp, .inl fl)), (n3, .inl (ax 0, cp, .inl fr)), (e0, .inr (8, [.ref e1])), (e1, .inl (ax 4, 6, .inr (.inl (vp_updL vs (nm s9) (vs (i2n (tm s9) % 16) + ((tm s9) >>> (4 &&& 31)).toInt64))))), (g0, .inr (2, [.ref n0, .ref g1, .ref g2, .ref g3, .ref g4, .ref g5, .ref g6, .ref g7, .ref g8, .ref g9, .ref ga, .ref gb, .int (nI cl), .int (nI ln), .int (nI br), .int (nI lp), .int (nI va)])), (g1, .inl (ax 1, 20, .inl (fun j => nI (kd j)))), (g2, .inl (ax 1, 20, .inl (fun j => nI (ow j)))), (g3, .inl (ax 1, 20, .inl (fun j => nI (sb j)))), (g4, .inl (ax 1, 20, .inl (fun j => nI (f1 j)))), (g5, .inl (ax 1, 20, .inl (fun j => nI (f2 j)))), (g6, .inl (ax 2, 20, .inl (fun j => nI (te j)))), (g7, .inl (ax 2, 20, .inl (fun j => nI (kp j)))), (g8, .inl (ax 0, 20, .inl tm)), (g9, .inl (ax 1, 20, .inl (fun j => nI (nm j)))), (ga, .inl (ax 1, 29, .inl (fun j => nI (ck j)))), (gb, .inl (ax 1, 29, .inl (fun j => nI (co j))))]) hP hD [4, 5, 6, 7, 8, 9, 10, 11, 12, 13, 14, 15] [0, 1, 2, 3, 16, 17] hCs (by decide) (by decide) hk1 hFc hP1 hD1 rfl
      clear hP1 hD1
      clear hPc hDc hFc hCs hz hz1 hk1 ht hvm
      clear hP hD hS
      have hS := hS1
      obtain ⟨hP, hD⟩ := hjn
      clear hS1
      rw [← hQe]
      obtain ⟨hP9, hD9⟩ := xw_sub2 (wc := (fun (u : Nat → Nat) (xvs : Nat → Int64) => [(e0, .inr (8, [.ref e1])), (e1, .inl (ax 4, 6, .inr (.inl xvs))), (n0, .inr (4, [.ref n1, .ref n2, .ref n3, .int (nI z9)])), (n1, .inl (ax 1, cp, .inl fo)), (n2, .inl (ax 0, cp, .inl fl)), (n3, .inl (ax 0, cp, .inl fr)), (g0, .inr (2, [.ref n0, .ref g1, .ref g2, .ref g3, .ref g4, .ref g5, .ref g6, .ref g7, .ref g8, .ref g9, .ref ga, .ref gb, .int (nI cl), .int (nI ln), .int (nI br), .int (nI lp), .int (nI va)])), (g1, .inl (ax 1, 20, .inl (fun j => nI (kd j)))), (g2, .inl (ax 1, 20, .inl (fun j => nI (ow j)))), (g3, .inl (ax 1, 20, .inl (fun j => nI (sb j)))), (g4, .inl (ax 1, 20, .inl (fun j => nI (f1 j)))), (g5, .inl (ax 1, 20, .inl (fun j => nI (f2 j)))), (g6, .inl (ax 2, 20, .inl (fun j => nI (te j)))), (g7, .inl (ax 2, 20, .inl (fun j => nI (kp j)))), (g8, .inl (ax 0, 20, .inl tm)), (g9, .inl (ax 1, 20, .inl (fun j => nI (nm j)))), (ga, .inl (ax 1, 29, .inl (fun j => nI (ck j)))), (gb, .inl (ax 1, 29, .inl (fun j => nI (co j))))]) (ixn [(u_7 0)]) (vp_updL vs (nm s9) (vs (i2n (tm s9) % 16) + ((tm s9) >>> (4 &&& 31)).toInt64))) hP hD [4, 5, 0, 1, 2, 3, 6, 7, 8, 9, 10, 11, 12, 13, 14, 15, 16, 17] (by decide) rfl
      have hex0 : True := trivial
      have hsp0 : fol ln ((u_7 0)) := hs_10.fol
      exact W.iret (v := nI (u_7 0)) hx hb hr (fun t ht hW => ⟨⟨nI (u_7 0), ixn [(u_7 0)], rfl, ⟨rfl, hsp0⟩, ⟨(vp_updL vs (nm s9) (vs (i2n (tm s9) % 16) + ((tm s9) >>> (4 &&& 31)).toInt64)), hex0, by rw [ht]; exact hP9, hD9⟩⟩, hS.F ht⟩) hS.2.2 d_Runner_follow_74
    · skip
      obtain ⟨hPc, hDc, hFc, hCs⟩ := xw_sub3 (wc := [(e0, .inr (8, [.ref e1])), (e1, .inl (ax 4, 6, .inr (.inl vs)))]) hP hD hS hA [0, 1] (by decide) rfl
      have hz := xz_of hN hS
      refine va_calll (va_runV (As := [.int (tm s9)]) (rest := [.int (nI (nm s9)), .ref e1]) ⟨hx, hb, hml, hown, hts⟩ (c_E_amount_1 l D ax e0 e1 vs (tm s9) s.heap.size (by first | assumption | omega)) (xcV (n := 1) hts wd_1000 wd_11 wd_997 wd_999 ps_48 rfl rfl (by decide +kernel) ⟨(show (10) + 1 ≤ (1300) by omega), (show 8 + (5 + 11) + (400) ≤ (27000) by omega)⟩) (xpV (ci := 8) (q0 := 0) (As := [.int (tm s9)]) hPc hK hz hDc rfl rfl) rfl rfl hl1.1 rfl (lv_room (Nat.le_of_ble_eq_true rfl)) d_Runner_follow_65 ⟨Nat.le_of_ble_eq_true rfl, Nat.le_of_ble_eq_true rfl⟩) hS (fun q _ h => hFc q h) hFc (fun r_13 u_11 t H_12 locs ht hvm hw hB hz1 hk1 hS1 => ?_)
      try dsimp only at hw
      subst hw
      obtain ⟨hP1, hD1⟩ := hB
      rw [ht] at hP1
      have hjn := xw_join3 (wl := [(n0, .inr (4, [.ref n1, .ref n2, .ref n3, .int (nI z9)])), (n1, .inl (ax 1, cp, .inl fo)), (n2, .inl (ax 0, cp, .inl fl)), (n3, .inl (ax 0, cp, .inl fr)), (g0, .inr (2, [.ref n0, .ref g1, .ref g2, .ref g3, .ref g4, .ref g5, .ref g6, .ref g7, .ref g8, .ref g9, .ref ga, .ref gb, .int (nI cl), .int (nI ln), .int (nI br), .int (nI lp), .int (nI va)])), (g1, .inl (ax 1, 20, .inl (fun j => nI (kd j)))), (g2, .inl (ax 1, 20, .inl (fun j => nI (ow j)))), (g3, .inl (ax 1, 20, .inl (fun j => nI (sb j)))), (g4, .inl (ax 1, 20, .inl (fun j => nI (f1 j)))), (g5, .inl (ax 1, 20, .inl (fun j => nI (f2 j)))), (g6, .inl (ax 2, 20, .inl (fun j => nI (te j)))), (g7, .inl (ax 2, 20, .inl (fun j => nI (kp j)))), (g8, .inl (ax 0, 20, .inl tm)), (g9, .inl (ax 1, 20, .inl (fun j => nI (nm j)))), (ga, .inl (ax 1, 29, .inl (fun j => nI (ck j)))), (gb, .inl (ax 1, 29, .inl (fun j => nI (co j)))), (e0, .inr (8, [.ref e1])), (e1, .inl (ax 4, 6, .inr (.inl vs)))]) hP hD [0, 1] [2, 3, 4, 5, 6, 7, 8, 9, 10, 11, 12, 13, 14, 15, 16, 17] hCs (by decide) (by decide) hk1 hFc hP1 hD1 rfl
      clear hP1 hD1
      clear hPc hDc hFc hCs hz hz1 hk1 ht hvm
      clear hP hD hS
      have hS := hS1
      obtain ⟨hP, hD⟩ := hjn
      clear hS1
      refine va_last hx hb hK.1 hP hD hS 17 4 rfl rfl (vp_in_nI (by first | assumption | omega) (by decide)) d_Runner_follow_68 (fun H_14 locs hP1 hD1 hS1 => ?_)
      rw [nI_clamp (by first | exact Nat.lt_of_lt_of_le (by assumption) (by decide) | exact Nat.lt_of_le_of_lt (by assumption) (by decide) | omega)] at hP1 hD1
      clear hP hD hS
      have hS := hS1
      have hW7 : (fun w9 : va_W => va_P D classes w9 H_14 ∧ va_D A w9) [(n0, .inr (4, [.ref n1, .ref n2, .ref n3, .int (nI z9)])), (n1, .inl (ax 1, cp, .inl fo)), (n2, .inl (ax 0, cp, .inl fl)), (n3, .inl (ax 0, cp, .inl fr)), (g0, .inr (2, [.ref n0, .ref g1, .ref g2, .ref g3, .ref g4, .ref g5, .ref g6, .ref g7, .ref g8, .ref g9, .ref ga, .ref gb, .int (nI cl), .int (nI ln), .int (nI br), .int (nI lp), .int (nI va)])), (g1, .inl (ax 1, 20, .inl (fun j => nI (kd j)))), (g2, .inl (ax 1, 20, .inl (fun j => nI (ow j)))), (g3, .inl (ax 1, 20, .inl (fun j => nI (sb j)))), (g4, .inl (ax 1, 20, .inl (fun j => nI (f1 j)))), (g5, .inl (ax 1, 20, .inl (fun j => nI (f2 j)))), (g6, .inl (ax 2, 20, .inl (fun j => nI (te j)))), (g7, .inl (ax 2, 20, .inl (fun j => nI (kp j)))), (g8, .inl (ax 0, 20, .inl tm)), (g9, .inl (ax 1, 20, .inl (fun j => nI (nm j)))), (ga, .inl (ax 1, 29, .inl (fun j => nI (ck j)))), (gb, .inl (ax 1, 29, .inl (fun j => nI (co j)))), (e0, .inr (8, [.ref e1])), (e1, .inl (ax 4, 6, .inr (.inl (vp_updL vs (nm s9) (((tm s9) >>> (4 &&& 31)).toInt64)))))] := ⟨hP1, hD1⟩
      obtain ⟨hP, hD⟩ := hW7
      clear hP1 hD1 hS1
      refine lv_aload_n hx hb d_Runner_follow_69 rfl (lv_at hl1 1 rfl) ?_
      refine lv_iload_n hx hb d_Runner_follow_70 rfl (lv_at hl1 2 rfl) ?_
      obtain ⟨hPc, hDc, hFc, hCs⟩ := xw_sub3 (wc := [(g0, .inr (2, [.ref n0, .ref g1, .ref g2, .ref g3, .ref g4, .ref g5, .ref g6, .ref g7, .ref g8, .ref g9, .ref ga, .ref gb, .int (nI cl), .int (nI ln), .int (nI br), .int (nI lp), .int (nI va)])), (g1, .inl (ax 1, 20, .inl (fun j => nI (kd j)))), (g2, .inl (ax 1, 20, .inl (fun j => nI (ow j)))), (g3, .inl (ax 1, 20, .inl (fun j => nI (sb j)))), (g4, .inl (ax 1, 20, .inl (fun j => nI (f1 j)))), (g5, .inl (ax 1, 20, .inl (fun j => nI (f2 j)))), (g6, .inl (ax 2, 20, .inl (fun j => nI (te j)))), (g7, .inl (ax 2, 20, .inl (fun j => nI (kp j)))), (g8, .inl (ax 0, 20, .inl tm)), (g9, .inl (ax 1, 20, .inl (fun j => nI (nm j)))), (ga, .inl (ax 1, 29, .inl (fun j => nI (ck j)))), (gb, .inl (ax 1, 29, .inl (fun j => nI (co j))))]) hP hD hS hA [4, 5, 6, 7, 8, 9, 10, 11, 12, 13, 14, 15] (by decide) rfl
      have hz := xz_of hN hS
      refine va_calli (va_runV (As := [.int (nI s9)]) (rest := []) ⟨hx, hb, hml, hown, hts⟩ (c_L_behind_0 l D ax g0 g1 g2 g3 g4 g5 g6 g7 g8 g9 ga gb cl ln br lp va kd ow sb f1 f2 te kp nm ck co tm n0 s9 en H_14.size (by first | assumption | omega) hs9 hls) (xcV (n := 1) hts wd_805 wd_12 wd_1001 wd_803 wd_804 rfl rfl (by decide +kernel) ⟨(show (10) + 1 ≤ (1300) by omega), (show 8 + (4 + 11) + (400) ≤ (27000) by omega)⟩) (xpV (ci := 2) (q0 := 0) (As := [.int (nI s9)]) hPc hK hz hDc rfl rfl) rfl rfl hl1.1 rfl (lv_room (Nat.le_of_ble_eq_true rfl)) d_Runner_follow_71 ⟨Nat.le_of_ble_eq_true rfl, Nat.le_of_ble_eq_true rfl⟩) hS (fun q _ h => hFc q h) hFc (fun r_17 u_15 t H_16 locs ht hvm hw hB hz1 hk1 hS1 => ?_)
      try dsimp only at hw
      obtain ⟨hw, hs_18⟩ := hw
      subst hw
      obtain ⟨hP1, hD1⟩ := hB
      rw [ht] at hP1
      have hjn := xw_join3 (wl := [(n0, .inr (4, [.ref n1, .ref n2, .ref n3, .int (nI z9)])), (n1, .inl (ax 1, cp, .inl fo)), (n2, .inl (ax 0, cp, .inl fl)), (n3, .inl (ax 0, cp, .inl fr)), (e0, .inr (8, [.ref e1])), (e1, .inl (ax 4, 6, .inr (.inl (vp_updL vs (nm s9) (((tm s9) >>> (4 &&& 31)).toInt64))))), (g0, .inr (2, [.ref n0, .ref g1, .ref g2, .ref g3, .ref g4, .ref g5, .ref g6, .ref g7, .ref g8, .ref g9, .ref ga, .ref gb, .int (nI cl), .int (nI ln), .int (nI br), .int (nI lp), .int (nI va)])), (g1, .inl (ax 1, 20, .inl (fun j => nI (kd j)))), (g2, .inl (ax 1, 20, .inl (fun j => nI (ow j)))), (g3, .inl (ax 1, 20, .inl (fun j => nI (sb j)))), (g4, .inl (ax 1, 20, .inl (fun j => nI (f1 j)))), (g5, .inl (ax 1, 20, .inl (fun j => nI (f2 j)))), (g6, .inl (ax 2, 20, .inl (fun j => nI (te j)))), (g7, .inl (ax 2, 20, .inl (fun j => nI (kp j)))), (g8, .inl (ax 0, 20, .inl tm)), (g9, .inl (ax 1, 20, .inl (fun j => nI (nm j)))), (ga, .inl (ax 1, 29, .inl (fun j => nI (ck j)))), (gb, .inl (ax 1, 29, .inl (fun j => nI (co j))))]) hP hD [4, 5, 6, 7, 8, 9, 10, 11, 12, 13, 14, 15] [0, 1, 2, 3, 16, 17] hCs (by decide) (by decide) hk1 hFc hP1 hD1 rfl
      clear hP1 hD1
      clear hPc hDc hFc hCs hz hz1 hk1 ht hvm
      clear hP hD hS
      have hS := hS1
      obtain ⟨hP, hD⟩ := hjn
      clear hS1
      rw [← hQe]
      obtain ⟨hP9, hD9⟩ := xw_sub2 (wc := (fun (u : Nat → Nat) (xvs : Nat → Int64) => [(e0, .inr (8, [.ref e1])), (e1, .inl (ax 4, 6, .inr (.inl xvs))), (n0, .inr (4, [.ref n1, .ref n2, .ref n3, .int (nI z9)])), (n1, .inl (ax 1, cp, .inl fo)), (n2, .inl (ax 0, cp, .inl fl)), (n3, .inl (ax 0, cp, .inl fr)), (g0, .inr (2, [.ref n0, .ref g1, .ref g2, .ref g3, .ref g4, .ref g5, .ref g6, .ref g7, .ref g8, .ref g9, .ref ga, .ref gb, .int (nI cl), .int (nI ln), .int (nI br), .int (nI lp), .int (nI va)])), (g1, .inl (ax 1, 20, .inl (fun j => nI (kd j)))), (g2, .inl (ax 1, 20, .inl (fun j => nI (ow j)))), (g3, .inl (ax 1, 20, .inl (fun j => nI (sb j)))), (g4, .inl (ax 1, 20, .inl (fun j => nI (f1 j)))), (g5, .inl (ax 1, 20, .inl (fun j => nI (f2 j)))), (g6, .inl (ax 2, 20, .inl (fun j => nI (te j)))), (g7, .inl (ax 2, 20, .inl (fun j => nI (kp j)))), (g8, .inl (ax 0, 20, .inl tm)), (g9, .inl (ax 1, 20, .inl (fun j => nI (nm j)))), (ga, .inl (ax 1, 29, .inl (fun j => nI (ck j)))), (gb, .inl (ax 1, 29, .inl (fun j => nI (co j))))]) (ixn [(u_15 0)]) (vp_updL vs (nm s9) (((tm s9) >>> (4 &&& 31)).toInt64))) hP hD [4, 5, 0, 1, 2, 3, 6, 7, 8, 9, 10, 11, 12, 13, 14, 15, 16, 17] (by decide) rfl
      have hex0 : True := trivial
      have hsp0 : fol ln ((u_15 0)) := hs_18.fol
      exact W.iret (v := nI (u_15 0)) hx hb hr (fun t ht hW => ⟨⟨nI (u_15 0), ixn [(u_15 0)], rfl, ⟨rfl, hsp0⟩, ⟨(vp_updL vs (nm s9) (((tm s9) >>> (4 &&& 31)).toInt64)), hex0, by rw [ht]; exact hP9, hD9⟩⟩, hS.F ht⟩) hS.2.2 d_Runner_follow_74
  by_cases hw_19 : kd s9 = 8
  · refine W.eq (g2 := F0 m 6 ls [.int 8]) (by rw [hw_19]; rfl) ?_
    refine lv_lookup (off := 69) (tgt := 75) hx hb d_Runner_follow_6 (by decide) (by decide) (by decide) ?_
    obtain ⟨hte, hf1a, hf1b, hf2a, hf2b⟩ := hlf.iff hs9 (by first | assumption | omega)
    refine lv_aload_n hx hb d_Runner_follow_75 rfl (lv_at hl1 0 rfl) ?_
    refine lv_aload_n hx hb d_Runner_follow_76 rfl (lv_at hl1 1 rfl) ?_
    refine va_get (D := D) (ci := 2) (v := .ref n0) (C := R_Listing) (T := F_Listing) (N := 17) hx hb hts i_Listing hown hK.1 hP 6 rfl rfl 0 (by decide) (hts _ wd_270) (fun _ h9 => h9) rfl d_Runner_follow_77 ?_
    refine lv_aload_n hx hb d_Runner_follow_80 rfl (lv_at hl1 1 rfl) ?_
    refine va_get (D := D) (ci := 2) (v := .ref g6) (C := R_Listing) (T := F_Listing) (N := 17) hx hb hts i_Listing hown hK.1 hP 6 rfl rfl 6 (by decide) (hts _ wd_287) (fun _ h9 => h9) rfl d_Runner_follow_81 ?_
    refine lv_iload_n hx hb d_Runner_follow_84 rfl (lv_at hl1 2 rfl) ?_
    refine va_sald hx hb hK.1 hP 12 2 rfl rfl (vp_in_nI (by first | assumption | omega) (by decide)) d_Runner_follow_85 ?_
    refine W.eq (g2 := F0 m 86 ls [.int (nI (te s9)), .ref n0, .ref e0]) (by rw [nI_clamp (by first | exact Nat.lt_of_lt_of_le (by assumption) (by decide) | exact Nat.lt_of_le_of_lt (by assumption) (by decide) | omega)]) ?_
    obtain ⟨hPc, hDc, hFc, hCs⟩ := xw_sub3 (wc := [(e0, .inr (8, [.ref e1])), (e1, .inl (ax 4, 6, .inr (.inl vs))), (n0, .inr (4, [.ref n1, .ref n2, .ref n3, .int (nI z9)])), (n1, .inl (ax 1, cp, .inl fo)), (n2, .inl (ax 0, cp, .inl fl)), (n3, .inl (ax 0, cp, .inl fr))]) hP hD hS hA [0, 1, 2, 3, 4, 5] (by decide) rfl
    have hz := xz_of hN hS
    refine va_calli (va_runV (As := [.ref n0, .int (nI (te s9))]) (rest := []) ⟨hx, hb, hml, hown, hts⟩ ((E_truth_all l (te s9)) D ax e0 e1 vs n0 n1 n2 n3 cp z9 fo fl fr s.heap.size hz9 hcp (by first | assumption | omega) hnv) (xcV (n := 2) hts wd_1005 wd_11 wd_1002 wd_1003 wd_1004 rfl rfl (by decide +kernel) ⟨(show (30 + 2 * (te s9)) + 1 ≤ (1300) by omega), (show 8 + (5 + 11) + (1200 + 40 * (te s9)) ≤ (27000) by omega)⟩) (xpV (ci := 8) (q0 := 0) (As := [.ref n0, .int (nI (te s9))]) hPc hK hz hDc rfl rfl) rfl rfl hl1.1 rfl (lv_room (Nat.le_of_ble_eq_true rfl)) d_Runner_follow_86 ⟨Nat.le_of_ble_eq_true rfl, Nat.le_of_ble_eq_true rfl⟩) hS (fun q _ h => hFc q h) hFc (fun r_22 u_20 t H_21 locs ht hvm hw hB hz1 hk1 hS1 => ?_)
    try dsimp only at hw
    obtain ⟨hw, hs_23⟩ := hw
    subst hw
    obtain ⟨hP1, hD1⟩ := hB
    rw [ht] at hP1
    have hjn := xw_join3 (wl := [(g0, .inr (2, [.ref n0, .ref g1, .ref g2, .ref g3, .ref g4, .ref g5, .ref g6, .ref g7, .ref g8, .ref g9, .ref ga, .ref gb, .int (nI cl), .int (nI ln), .int (nI br), .int (nI lp), .int (nI va)])), (g1, .inl (ax 1, 20, .inl (fun j => nI (kd j)))), (g2, .inl (ax 1, 20, .inl (fun j => nI (ow j)))), (g3, .inl (ax 1, 20, .inl (fun j => nI (sb j)))), (g4, .inl (ax 1, 20, .inl (fun j => nI (f1 j)))), (g5, .inl (ax 1, 20, .inl (fun j => nI (f2 j)))), (g6, .inl (ax 2, 20, .inl (fun j => nI (te j)))), (g7, .inl (ax 2, 20, .inl (fun j => nI (kp j)))), (g8, .inl (ax 0, 20, .inl tm)), (g9, .inl (ax 1, 20, .inl (fun j => nI (nm j)))), (ga, .inl (ax 1, 29, .inl (fun j => nI (ck j)))), (gb, .inl (ax 1, 29, .inl (fun j => nI (co j)))), (e0, .inr (8, [.ref e1])), (e1, .inl (ax 4, 6, .inr (.inl vs))), (n0, .inr (4, [.ref n1, .ref n2, .ref n3, .int (nI z9)])), (n1, .inl (ax 1, cp, .inl fo)), (n2, .inl (ax 0, cp, .inl fl)), (n3, .inl (ax 0, cp, .inl fr))]) hP hD [0, 1, 2, 3, 4, 5] [6, 7, 8, 9, 10, 11, 12, 13, 14, 15, 16, 17] hCs (by decide) (by decide) hk1 hFc hP1 hD1 rfl
    clear hP1 hD1
    clear hPc hDc hFc hCs hz hz1 hk1 ht hvm
    clear hP hD hS
    have hS := hS1
    obtain ⟨hP, hD⟩ := hjn
    clear hS1
    refine lv_if_eq (tgt := 101) hx hb d_Runner_follow_89 (by decide) (fun c_24 => ?_) (fun c_24 => ?_)
    · replace c_24 : u_20 0 = 0 := (nI_eq (a := u_20 0) (b := 0) (by first | exact Nat.lt_of_lt_of_le (by assumption) (by decide) | exact Nat.lt_of_le_of_lt (by assumption) (by decide) | omega) (by decide)).mp c_24
      refine lv_aload_n hx hb d_Runner_follow_101 rfl (lv_at hl1 1 rfl) ?_
      refine va_get (D := D) (ci := 2) (v := .ref g5) (C := R_Listing) (T := F_Listing) (N := 17) hx hb hts i_Listing hown hK.1 hP 0 rfl rfl 5 (by decide) (hts _ wd_282) (fun _ h9 => h9) rfl d_Runner_follow_102 ?_
      refine lv_iload_n hx hb d_Runner_follow_105 rfl (lv_at hl1 2 rfl) ?_
      refine va_bald hx hb hK.1 hP 5 1 rfl rfl (vp_in_nI (by first | assumption | omega) (by decide)) d_Runner_follow_106 ?_
      refine W.eq (g2 := F0 m 107 ls [.int (nI (f2 s9))]) (by rw [nI_clamp (by first | exact Nat.lt_of_lt_of_le (by assumption) (by decide) | exact Nat.lt_of_le_of_lt (by assumption) (by decide) | omega)]) ?_
      rw [← hQe]
      obtain ⟨hP9, hD9⟩ := xw_sub2 (wc := (fun (u : Nat → Nat) (xvs : Nat → Int64) => [(e0, .inr (8, [.ref e1])), (e1, .inl (ax 4, 6, .inr (.inl xvs))), (n0, .inr (4, [.ref n1, .ref n2, .ref n3, .int (nI z9)])), (n1, .inl (ax 1, cp, .inl fo)), (n2, .inl (ax 0, cp, .inl fl)), (n3, .inl (ax 0, cp, .inl fr)), (g0, .inr (2, [.ref n0, .ref g1, .ref g2, .ref g3, .ref g4, .ref g5, .ref g6, .ref g7, .ref g8, .ref g9, .ref ga, .ref gb, .int (nI cl), .int (nI ln), .int (nI br), .int (nI lp), .int (nI va)])), (g1, .inl (ax 1, 20, .inl (fun j => nI (kd j)))), (g2, .inl (ax 1, 20, .inl (fun j => nI (ow j)))), (g3, .inl (ax 1, 20, .inl (fun j => nI (sb j)))), (g4, .inl (ax 1, 20, .inl (fun j => nI (f1 j)))), (g5, .inl (ax 1, 20, .inl (fun j => nI (f2 j)))), (g6, .inl (ax 2, 20, .inl (fun j => nI (te j)))), (g7, .inl (ax 2, 20, .inl (fun j => nI (kp j)))), (g8, .inl (ax 0, 20, .inl tm)), (g9, .inl (ax 1, 20, .inl (fun j => nI (nm j)))), (ga, .inl (ax 1, 29, .inl (fun j => nI (ck j)))), (gb, .inl (ax 1, 29, .inl (fun j => nI (co j))))]) (ixn [(f2 s9)]) vs) hP hD [12, 13, 14, 15, 16, 17, 0, 1, 2, 3, 4, 5, 6, 7, 8, 9, 10, 11] (by decide) rfl
      have hex0 : True := trivial
      have hsp0 : fol ln ((f2 s9)) := (Or.inr (Or.inr (by first | assumption | omega)))
      exact W.iret (v := nI (f2 s9)) hx hb hr (fun t ht hW => ⟨⟨nI (f2 s9), ixn [(f2 s9)], rfl, ⟨rfl, hsp0⟩, ⟨vs, hex0, by rw [ht]; exact hP9, hD9⟩⟩, hS.F ht⟩) hS.2.2 d_Runner_follow_107
    · replace c_24 : ¬ u_20 0 = 0 := fun hq9 => c_24 ((nI_eq (a := u_20 0) (b := 0) (by first | exact Nat.lt_of_lt_of_le (by assumption) (by decide) | exact Nat.lt_of_le_of_lt (by assumption) (by decide) | omega) (by decide)).mpr hq9)
      refine lv_aload_n hx hb d_Runner_follow_92 rfl (lv_at hl1 1 rfl) ?_
      refine va_get (D := D) (ci := 2) (v := .ref g4) (C := R_Listing) (T := F_Listing) (N := 17) hx hb hts i_Listing hown hK.1 hP 0 rfl rfl 4 (by decide) (hts _ wd_278) (fun _ h9 => h9) rfl d_Runner_follow_93 ?_
      refine lv_iload_n hx hb d_Runner_follow_96 rfl (lv_at hl1 2 rfl) ?_
      refine va_bald hx hb hK.1 hP 4 1 rfl rfl (vp_in_nI (by first | assumption | omega) (by decide)) d_Runner_follow_97 ?_
      refine W.eq (g2 := F0 m 98 ls [.int (nI (f1 s9))]) (by rw [nI_clamp (by first | exact Nat.lt_of_lt_of_le (by assumption) (by decide) | exact Nat.lt_of_le_of_lt (by assumption) (by decide) | omega)]) ?_
      refine lv_goto (tgt := 107) hx hb d_Runner_follow_98 (by decide) ?_
      rw [← hQe]
      obtain ⟨hP9, hD9⟩ := xw_sub2 (wc := (fun (u : Nat → Nat) (xvs : Nat → Int64) => [(e0, .inr (8, [.ref e1])), (e1, .inl (ax 4, 6, .inr (.inl xvs))), (n0, .inr (4, [.ref n1, .ref n2, .ref n3, .int (nI z9)])), (n1, .inl (ax 1, cp, .inl fo)), (n2, .inl (ax 0, cp, .inl fl)), (n3, .inl (ax 0, cp, .inl fr)), (g0, .inr (2, [.ref n0, .ref g1, .ref g2, .ref g3, .ref g4, .ref g5, .ref g6, .ref g7, .ref g8, .ref g9, .ref ga, .ref gb, .int (nI cl), .int (nI ln), .int (nI br), .int (nI lp), .int (nI va)])), (g1, .inl (ax 1, 20, .inl (fun j => nI (kd j)))), (g2, .inl (ax 1, 20, .inl (fun j => nI (ow j)))), (g3, .inl (ax 1, 20, .inl (fun j => nI (sb j)))), (g4, .inl (ax 1, 20, .inl (fun j => nI (f1 j)))), (g5, .inl (ax 1, 20, .inl (fun j => nI (f2 j)))), (g6, .inl (ax 2, 20, .inl (fun j => nI (te j)))), (g7, .inl (ax 2, 20, .inl (fun j => nI (kp j)))), (g8, .inl (ax 0, 20, .inl tm)), (g9, .inl (ax 1, 20, .inl (fun j => nI (nm j)))), (ga, .inl (ax 1, 29, .inl (fun j => nI (ck j)))), (gb, .inl (ax 1, 29, .inl (fun j => nI (co j))))]) (ixn [(f1 s9)]) vs) hP hD [12, 13, 14, 15, 16, 17, 0, 1, 2, 3, 4, 5, 6, 7, 8, 9, 10, 11] (by decide) rfl
      have hex0 : True := trivial
      have hsp0 : fol ln ((f1 s9)) := (Or.inr (Or.inr (by first | assumption | omega)))
      exact W.iret (v := nI (f1 s9)) hx hb hr (fun t ht hW => ⟨⟨nI (f1 s9), ixn [(f1 s9)], rfl, ⟨rfl, hsp0⟩, ⟨vs, hex0, by rw [ht]; exact hP9, hD9⟩⟩, hS.F ht⟩) hS.2.2 d_Runner_follow_107
  by_cases hw_25 : kd s9 = 12
  · refine W.eq (g2 := F0 m 6 ls [.int 12]) (by rw [hw_25]; rfl) ?_
    refine lv_lookup (off := 102) (tgt := 108) hx hb d_Runner_follow_6 (by decide) (by decide) (by decide) ?_
    refine lv_iload_n hx hb d_Runner_follow_108 rfl (lv_at hl1 3 rfl) ?_
    refine lv_if_ne (tgt := 114) hx hb d_Runner_follow_109 (by decide) (fun c_26 => ?_) (fun c_26 => ?_)
    · replace c_26 : ¬ et = 0 := fun hq9 => c_26 ((nI_eq (a := et) (b := 0) (by first | exact Nat.lt_of_lt_of_le (by assumption) (by decide) | exact Nat.lt_of_le_of_lt (by assumption) (by decide) | omega) (by decide)).mpr hq9)
      obtain ⟨hte, hkp, hf1a, hf1b, hnm⟩ := hlf.wh hs9 (by first | assumption | omega)
      clear hnm
      refine lv_aload_n hx hb d_Runner_follow_114 rfl (lv_at hl1 0 rfl) ?_
      refine lv_aload_n hx hb d_Runner_follow_115 rfl (lv_at hl1 1 rfl) ?_
      refine va_get (D := D) (ci := 2) (v := .ref n0) (C := R_Listing) (T := F_Listing) (N := 17) hx hb hts i_Listing hown hK.1 hP 6 rfl rfl 0 (by decide) (hts _ wd_270) (fun _ h9 => h9) rfl d_Runner_follow_116 ?_
      refine lv_aload_n hx hb d_Runner_follow_119 rfl (lv_at hl1 1 rfl) ?_
      refine va_get (D := D) (ci := 2) (v := .ref g6) (C := R_Listing) (T := F_Listing) (N := 17) hx hb hts i_Listing hown hK.1 hP 6 rfl rfl 6 (by decide) (hts _ wd_287) (fun _ h9 => h9) rfl d_Runner_follow_120 ?_
      refine lv_iload_n hx hb d_Runner_follow_123 rfl (lv_at hl1 2 rfl) ?_
      refine va_sald hx hb hK.1 hP 12 2 rfl rfl (vp_in_nI (by first | assumption | omega) (by decide)) d_Runner_follow_124 ?_
      refine W.eq (g2 := F0 m 125 ls [.int (nI (te s9)), .ref n0, .ref e0]) (by rw [nI_clamp (by first | exact Nat.lt_of_lt_of_le (by assumption) (by decide) | exact Nat.lt_of_le_of_lt (by assumption) (by decide) | omega)]) ?_
      obtain ⟨hPc, hDc, hFc, hCs⟩ := xw_sub3 (wc := [(e0, .inr (8, [.ref e1])), (e1, .inl (ax 4, 6, .inr (.inl vs))), (n0, .inr (4, [.ref n1, .ref n2, .ref n3, .int (nI z9)])), (n1, .inl (ax 1, cp, .inl fo)), (n2, .inl (ax 0, cp, .inl fl)), (n3, .inl (ax 0, cp, .inl fr))]) hP hD hS hA [0, 1, 2, 3, 4, 5] (by decide) rfl
      have hz := xz_of hN hS
      refine va_calli (va_runV (As := [.ref n0, .int (nI (te s9))]) (rest := []) ⟨hx, hb, hml, hown, hts⟩ ((E_truth_all l (te s9)) D ax e0 e1 vs n0 n1 n2 n3 cp z9 fo fl fr s.heap.size hz9 hcp (by first | assumption | omega) hnv) (xcV (n := 2) hts wd_1005 wd_11 wd_1002 wd_1003 wd_1004 rfl rfl (by decide +kernel) ⟨(show (30 + 2 * (te s9)) + 1 ≤ (1300) by omega), (show 8 + (5 + 11) + (1200 + 40 * (te s9)) ≤ (27000) by omega)⟩) (xpV (ci := 8) (q0 := 0) (As := [.ref n0, .int (nI (te s9))]) hPc hK hz hDc rfl rfl) rfl rfl hl1.1 rfl (lv_room (Nat.le_of_ble_eq_true rfl)) d_Runner_follow_125 ⟨Nat.le_of_ble_eq_true rfl, Nat.le_of_ble_eq_true rfl⟩) hS (fun q _ h => hFc q h) hFc (fun r_29 u_27 t H_28 locs ht hvm hw hB hz1 hk1 hS1 => ?_)
      try dsimp only at hw
      obtain ⟨hw, hs_30⟩ := hw
      subst hw
      obtain ⟨hP1, hD1⟩ := hB
      rw [ht] at hP1
      have hjn := xw_join3 (wl := [(g0, .inr (2, [.ref n0, .ref g1, .ref g2, .ref g3, .ref g4, .ref g5, .ref g6, .ref g7, .ref g8, .ref g9, .ref ga, .ref gb, .int (nI cl), .int (nI ln), .int (nI br), .int (nI lp), .int (nI va)])), (g1, .inl (ax 1, 20, .inl (fun j => nI (kd j)))), (g2, .inl (ax 1, 20, .inl (fun j => nI (ow j)))), (g3, .inl (ax 1, 20, .inl (fun j => nI (sb j)))), (g4, .inl (ax 1, 20, .inl (fun j => nI (f1 j)))), (g5, .inl (ax 1, 20, .inl (fun j => nI (f2 j)))), (g6, .inl (ax 2, 20, .inl (fun j => nI (te j)))), (g7, .inl (ax 2, 20, .inl (fun j => nI (kp j)))), (g8, .inl (ax 0, 20, .inl tm)), (g9, .inl (ax 1, 20, .inl (fun j => nI (nm j)))), (ga, .inl (ax 1, 29, .inl (fun j => nI (ck j)))), (gb, .inl (ax 1, 29, .inl (fun j => nI (co j)))), (e0, .inr (8, [.ref e1])), (e1, .inl (ax 4, 6, .inr (.inl vs))), (n0, .inr (4, [.ref n1, .ref n2, .ref n3, .int (nI z9)])), (n1, .inl (ax 1, cp, .inl fo)), (n2, .inl (ax 0, cp, .inl fl)), (n3, .inl (ax 0, cp, .inl fr))]) hP hD [0, 1, 2, 3, 4, 5] [6, 7, 8, 9, 10, 11, 12, 13, 14, 15, 16, 17] hCs (by decide) (by decide) hk1 hFc hP1 hD1 rfl
      clear hP1 hD1
      clear hPc hDc hFc hCs hz hz1 hk1 ht hvm
      clear hP hD hS
      have hS := hS1
      obtain ⟨hP, hD⟩ := hjn
      clear hS1
      refine lv_if_eq (tgt := 140) hx hb d_Runner_follow_128 (by decide) (fun c_31 => ?_) (fun c_31 => ?_)
      · replace c_31 : u_27 0 = 0 := (nI_eq (a := u_27 0) (b := 0) (by first | exact Nat.lt_of_lt_of_le (by assumption) (by decide) | exact Nat.lt_of_le_of_lt (by assumption) (by decide) | omega) (by decide)).mp c_31
        refine lv_aload_n hx hb d_Runner_follow_140 rfl (lv_at hl1 1 rfl) ?_
        refine lv_iload_n hx hb d_Runner_follow_141 rfl (lv_at hl1 2 rfl) ?_
        obtain ⟨hPc, hDc, hFc, hCs⟩ := xw_sub3 (wc := [(g0, .inr (2, [.ref n0, .ref g1, .ref g2, .ref g3, .ref g4, .ref g5, .ref g6, .ref g7, .ref g8, .ref g9, .ref ga, .ref gb, .int (nI cl), .int (nI ln), .int (nI br), .int (nI lp), .int (nI va)])), (g1, .inl (ax 1, 20, .inl (fun j => nI (kd j)))), (g2, .inl (ax 1, 20, .inl (fun j => nI (ow j)))), (g3, .inl (ax 1, 20, .inl (fun j => nI (sb j)))), (g4, .inl (ax 1, 20, .inl (fun j => nI (f1 j)))), (g5, .inl (ax 1, 20, .inl (fun j => nI (f2 j)))), (g6, .inl (ax 2, 20, .inl (fun j => nI (te j)))), (g7, .inl (ax 2, 20, .inl (fun j => nI (kp j)))), (g8, .inl (ax 0, 20, .inl tm)), (g9, .inl (ax 1, 20, .inl (fun j => nI (nm j)))), (ga, .inl (ax 1, 29, .inl (fun j => nI (ck j)))), (gb, .inl (ax 1, 29, .inl (fun j => nI (co j))))]) hP hD hS hA [0, 1, 2, 3, 4, 5, 6, 7, 8, 9, 10, 11] (by decide) rfl
        have hz := xz_of hN hS
        refine va_calli (va_runV (As := [.int (nI s9)]) (rest := []) ⟨hx, hb, hml, hown, hts⟩ (c_L_behind_0 l D ax g0 g1 g2 g3 g4 g5 g6 g7 g8 g9 ga gb cl ln br lp va kd ow sb f1 f2 te kp nm ck co tm n0 s9 en H_28.size (by first | assumption | omega) hs9 hls) (xcV (n := 1) hts wd_805 wd_12 wd_1001 wd_803 wd_804 rfl rfl (by decide +kernel) ⟨(show (10) + 1 ≤ (1300) by omega), (show 8 + (4 + 11) + (400) ≤ (27000) by omega)⟩) (xpV (ci := 2) (q0 := 0) (As := [.int (nI s9)]) hPc hK hz hDc rfl rfl) rfl rfl hl1.1 rfl (lv_room (Nat.le_of_ble_eq_true rfl)) d_Runner_follow_142 ⟨Nat.le_of_ble_eq_true rfl, Nat.le_of_ble_eq_true rfl⟩) hS (fun q _ h => hFc q h) hFc (fun r_34 u_32 t H_33 locs ht hvm hw hB hz1 hk1 hS1 => ?_)
        try dsimp only at hw
        obtain ⟨hw, hs_35⟩ := hw
        subst hw
        obtain ⟨hP1, hD1⟩ := hB
        rw [ht] at hP1
        have hjn := xw_join3 (wl := [(e0, .inr (8, [.ref e1])), (e1, .inl (ax 4, 6, .inr (.inl vs))), (n0, .inr (4, [.ref n1, .ref n2, .ref n3, .int (nI z9)])), (n1, .inl (ax 1, cp, .inl fo)), (n2, .inl (ax 0, cp, .inl fl)), (n3, .inl (ax 0, cp, .inl fr)), (g0, .inr (2, [.ref n0, .ref g1, .ref g2, .ref g3, .ref g4, .ref g5, .ref g6, .ref g7, .ref g8, .ref g9, .ref ga, .ref gb, .int (nI cl), .int (nI ln), .int (nI br), .int (nI lp), .int (nI va)])), (g1, .inl (ax 1, 20, .inl (fun j => nI (kd j)))), (g2, .inl (ax 1, 20, .inl (fun j => nI (ow j)))), (g3, .inl (ax 1, 20, .inl (fun j => nI (sb j)))), (g4, .inl (ax 1, 20, .inl (fun j => nI (f1 j)))), (g5, .inl (ax 1, 20, .inl (fun j => nI (f2 j)))), (g6, .inl (ax 2, 20, .inl (fun j => nI (te j)))), (g7, .inl (ax 2, 20, .inl (fun j => nI (kp j)))), (g8, .inl (ax 0, 20, .inl tm)), (g9, .inl (ax 1, 20, .inl (fun j => nI (nm j)))), (ga, .inl (ax 1, 29, .inl (fun j => nI (ck j)))), (gb, .inl (ax 1, 29, .inl (fun j => nI (co j))))]) hP hD [0, 1, 2, 3, 4, 5, 6, 7, 8, 9, 10, 11] [12, 13, 14, 15, 16, 17] hCs (by decide) (by decide) hk1 hFc hP1 hD1 rfl
        clear hP1 hD1
        clear hPc hDc hFc hCs hz hz1 hk1 ht hvm
        clear hP hD hS
        have hS := hS1
        obtain ⟨hP, hD⟩ := hjn
        clear hS1
        rw [← hQe]
        obtain ⟨hP9, hD9⟩ := xw_sub2 (wc := (fun (u : Nat → Nat) (xvs : Nat → Int64) => [(e0, .inr (8, [.ref e1])), (e1, .inl (ax 4, 6, .inr (.inl xvs))), (n0, .inr (4, [.ref n1, .ref n2, .ref n3, .int (nI z9)])), (n1, .inl (ax 1, cp, .inl fo)), (n2, .inl (ax 0, cp, .inl fl)), (n3, .inl (ax 0, cp, .inl fr)), (g0, .inr (2, [.ref n0, .ref g1, .ref g2, .ref g3, .ref g4, .ref g5, .ref g6, .ref g7, .ref g8, .ref g9, .ref ga, .ref gb, .int (nI cl), .int (nI ln), .int (nI br), .int (nI lp), .int (nI va)])), (g1, .inl (ax 1, 20, .inl (fun j => nI (kd j)))), (g2, .inl (ax 1, 20, .inl (fun j => nI (ow j)))), (g3, .inl (ax 1, 20, .inl (fun j => nI (sb j)))), (g4, .inl (ax 1, 20, .inl (fun j => nI (f1 j)))), (g5, .inl (ax 1, 20, .inl (fun j => nI (f2 j)))), (g6, .inl (ax 2, 20, .inl (fun j => nI (te j)))), (g7, .inl (ax 2, 20, .inl (fun j => nI (kp j)))), (g8, .inl (ax 0, 20, .inl tm)), (g9, .inl (ax 1, 20, .inl (fun j => nI (nm j)))), (ga, .inl (ax 1, 29, .inl (fun j => nI (ck j)))), (gb, .inl (ax 1, 29, .inl (fun j => nI (co j))))]) (ixn [(u_32 0)]) vs) hP hD [0, 1, 2, 3, 4, 5, 6, 7, 8, 9, 10, 11, 12, 13, 14, 15, 16, 17] (by decide) rfl
        have hex0 : True := trivial
        have hsp0 : fol ln ((u_32 0)) := hs_35.fol
        exact W.iret (v := nI (u_32 0)) hx hb hr (fun t ht hW => ⟨⟨nI (u_32 0), ixn [(u_32 0)], rfl, ⟨rfl, hsp0⟩, ⟨vs, hex0, by rw [ht]; exact hP9, hD9⟩⟩, hS.F ht⟩) hS.2.2 d_Runner_follow_145
      · replace c_31 : ¬ u_27 0 = 0 := fun hq9 => c_31 ((nI_eq (a := u_27 0) (b := 0) (by first | exact Nat.lt_of_lt_of_le (by assumption) (by decide) | exact Nat.lt_of_le_of_lt (by assumption) (by decide) | omega) (by decide)).mpr hq9)
        refine lv_aload_n hx hb d_Runner_follow_131 rfl (lv_at hl1 1 rfl) ?_
        refine va_get (D := D) (ci := 2) (v := .ref g4) (C := R_Listing) (T := F_Listing) (N := 17) hx hb hts i_Listing hown hK.1 hP 0 rfl rfl 4 (by decide) (hts _ wd_278) (fun _ h9 => h9) rfl d_Runner_follow_132 ?_
        refine lv_iload_n hx hb d_Runner_follow_135 rfl (lv_at hl1 2 rfl) ?_
        refine va_bald hx hb hK.1 hP 4 1 rfl rfl (vp_in_nI (by first | assumption | omega) (by decide)) d_Runner_follow_136 ?_
        refine W.eq (g2 := F0 m 137 ls [.int (nI (f1 s9))]) (by rw [nI_clamp (by first | exact Nat.lt_of_lt_of_le (by assumption) (by decide) | exact Nat.lt_of_le_of_lt (by assumption) (by decide) | omega)]) ?_
        refine lv_goto (tgt := 145) hx hb d_Runner_follow_137 (by decide) ?_
        rw [← hQe]
        obtain ⟨hP9, hD9⟩ := xw_sub2 (wc := (fun (u : Nat → Nat) (xvs : Nat → Int64) => [(e0, .inr (8, [.ref e1])), (e1, .inl (ax 4, 6, .inr (.inl xvs))), (n0, .inr (4, [.ref n1, .ref n2, .ref n3, .int (nI z9)])), (n1, .inl (ax 1, cp, .inl fo)), (n2, .inl (ax 0, cp, .inl fl)), (n3, .inl (ax 0, cp, .inl fr)), (g0, .inr (2, [.ref n0, .ref g1, .ref g2, .ref g3, .ref g4, .ref g5, .ref g6, .ref g7, .ref g8, .ref g9, .ref ga, .ref gb, .int (nI cl), .int (nI ln), .int (nI br), .int (nI lp), .int (nI va)])), (g1, .inl (ax 1, 20, .inl (fun j => nI (kd j)))), (g2, .inl (ax 1, 20, .inl (fun j => nI (ow j)))), (g3, .inl (ax 1, 20, .inl (fun j => nI (sb j)))), (g4, .inl (ax 1, 20, .inl (fun j => nI (f1 j)))), (g5, .inl (ax 1, 20, .inl (fun j => nI (f2 j)))), (g6, .inl (ax 2, 20, .inl (fun j => nI (te j)))), (g7, .inl (ax 2, 20, .inl (fun j => nI (kp j)))), (g8, .inl (ax 0, 20, .inl tm)), (g9, .inl (ax 1, 20, .inl (fun j => nI (nm j)))), (ga, .inl (ax 1, 29, .inl (fun j => nI (ck j)))), (gb, .inl (ax 1, 29, .inl (fun j => nI (co j))))]) (ixn [(f1 s9)]) vs) hP hD [12, 13, 14, 15, 16, 17, 0, 1, 2, 3, 4, 5, 6, 7, 8, 9, 10, 11] (by decide) rfl
        have hex0 : True := trivial
        have hsp0 : fol ln ((f1 s9)) := (Or.inr (Or.inr (by first | assumption | omega)))
        exact W.iret (v := nI (f1 s9)) hx hb hr (fun t ht hW => ⟨⟨nI (f1 s9), ixn [(f1 s9)], rfl, ⟨rfl, hsp0⟩, ⟨vs, hex0, by rw [ht]; exact hP9, hD9⟩⟩, hS.F ht⟩) hS.2.2 d_Runner_follow_145
    · replace c_26 : et = 0 := (nI_eq (a := et) (b := 0) (by first | exact Nat.lt_of_lt_of_le (by assumption) (by decide) | exact Nat.lt_of_le_of_lt (by assumption) (by decide) | omega) (by decide)).mp c_26
      refine lv_iload_n hx hb d_Runner_follow_112 rfl (lv_at hl1 2 rfl) ?_
      rw [← hQe]
      obtain ⟨hP9, hD9⟩ := xw_sub2 (wc := (fun (u : Nat → Nat) (xvs : Nat → Int64) => [(e0, .inr (8, [.ref e1])), (e1, .inl (ax 4, 6, .inr (.inl xvs))), (n0, .inr (4, [.ref n1, .ref n2, .ref n3, .int (nI z9)])), (n1, .inl (ax 1, cp, .inl fo)), (n2, .inl (ax 0, cp, .inl fl)), (n3, .inl (ax 0, cp, .inl fr)), (g0, .inr (2, [.ref n0, .ref g1, .ref g2, .ref g3, .ref g4, .ref g5, .ref g6, .ref g7, .ref g8, .ref g9, .ref ga, .ref gb, .int (nI cl), .int (nI ln), .int (nI br), .int (nI lp), .int (nI va)])), (g1, .inl (ax 1, 20, .inl (fun j => nI (kd j)))), (g2, .inl (ax 1, 20, .inl (fun j => nI (ow j)))), (g3, .inl (ax 1, 20, .inl (fun j => nI (sb j)))), (g4, .inl (ax 1, 20, .inl (fun j => nI (f1 j)))), (g5, .inl (ax 1, 20, .inl (fun j => nI (f2 j)))), (g6, .inl (ax 2, 20, .inl (fun j => nI (te j)))), (g7, .inl (ax 2, 20, .inl (fun j => nI (kp j)))), (g8, .inl (ax 0, 20, .inl tm)), (g9, .inl (ax 1, 20, .inl (fun j => nI (nm j)))), (ga, .inl (ax 1, 29, .inl (fun j => nI (ck j)))), (gb, .inl (ax 1, 29, .inl (fun j => nI (co j))))]) (ixn [s9]) vs) hP hD [0, 1, 2, 3, 4, 5, 6, 7, 8, 9, 10, 11, 12, 13, 14, 15, 16, 17] (by decide) rfl
      have hex0 : True := trivial
      have hsp0 : fol ln (s9) := (Or.inr (Or.inr (by first | assumption | omega)))
      exact W.iret (v := nI s9) hx hb hr (fun t ht hW => ⟨⟨nI s9, ixn [s9], rfl, ⟨rfl, hsp0⟩, ⟨vs, hex0, by rw [ht]; exact hP9, hD9⟩⟩, hS.F ht⟩) hS.2.2 d_Runner_follow_113
  by_cases hw_36 : kd s9 = 17
  · refine W.eq (g2 := F0 m 6 ls [.int 17]) (by rw [hw_36]; rfl) ?_
    refine lv_lookup (off := 140) (tgt := 146) hx hb d_Runner_follow_6 (by decide) (by decide) (by decide) ?_
    have hte := hlf.tst hs9 (by first | assumption | omega)
    refine lv_aload_n hx hb d_Runner_follow_146 rfl (lv_at hl1 0 rfl) ?_
    refine lv_aload_n hx hb d_Runner_follow_147 rfl (lv_at hl1 1 rfl) ?_
    refine va_get (D := D) (ci := 2) (v := .ref n0) (C := R_Listing) (T := F_Listing) (N := 17) hx hb hts i_Listing hown hK.1 hP 6 rfl rfl 0 (by decide) (hts _ wd_270) (fun _ h9 => h9) rfl d_Runner_follow_148 ?_
    refine lv_aload_n hx hb d_Runner_follow_151 rfl (lv_at hl1 1 rfl) ?_
    refine va_get (D := D) (ci := 2) (v := .ref g6) (C := R_Listing) (T := F_Listing) (N := 17) hx hb hts i_Listing hown hK.1 hP 6 rfl rfl 6 (by decide) (hts _ wd_287) (fun _ h9 => h9) rfl d_Runner_follow_152 ?_
    refine lv_iload_n hx hb d_Runner_follow_155 rfl (lv_at hl1 2 rfl) ?_
    refine va_sald hx hb hK.1 hP 12 2 rfl rfl (vp_in_nI (by first | assumption | omega) (by decide)) d_Runner_follow_156 ?_
    refine W.eq (g2 := F0 m 157 ls [.int (nI (te s9)), .ref n0, .ref e0]) (by rw [nI_clamp (by first | exact Nat.lt_of_lt_of_le (by assumption) (by decide) | exact Nat.lt_of_le_of_lt (by assumption) (by decide) | omega)]) ?_
    obtain ⟨hPc, hDc, hFc, hCs⟩ := xw_sub3 (wc := [(e0, .inr (8, [.ref e1])), (e1, .inl (ax 4, 6, .inr (.inl vs))), (n0, .inr (4, [.ref n1, .ref n2, .ref n3, .int (nI z9)])), (n1, .inl (ax 1, cp, .inl fo)), (n2, .inl (ax 0, cp, .inl fl)), (n3, .inl (ax 0, cp, .inl fr))]) hP hD hS hA [0, 1, 2, 3, 4, 5] (by decide) rfl
    have hz := xz_of hN hS
    refine va_calli (va_runV (As := [.ref n0, .int (nI (te s9))]) (rest := []) ⟨hx, hb, hml, hown, hts⟩ ((E_truth_all l (te s9)) D ax e0 e1 vs n0 n1 n2 n3 cp z9 fo fl fr s.heap.size hz9 hcp (by first | assumption | omega) hnv) (xcV (n := 2) hts wd_1005 wd_11 wd_1002 wd_1003 wd_1004 rfl rfl (by decide +kernel) ⟨(show (30 + 2 * (te s9)) + 1 ≤ (1300) by omega), (show 8 + (5 + 11) + (1200 + 40 * (te s9)) ≤ (27000) by omega)⟩) (xpV (ci := 8) (q0 := 0) (As := [.ref n0, .int (nI (te s9))]) hPc hK hz hDc rfl rfl) rfl rfl hl1.1 rfl (lv_room (Nat.le_of_ble_eq_true rfl)) d_Runner_follow_157 ⟨Nat.le_of_ble_eq_true rfl, Nat.le_of_ble_eq_true rfl⟩) hS (fun q _ h => hFc q h) hFc (fun r_39 u_37 t H_38 locs ht hvm hw hB hz1 hk1 hS1 => ?_)
    try dsimp only at hw
    obtain ⟨hw, hs_40⟩ := hw
    subst hw
    obtain ⟨hP1, hD1⟩ := hB
    rw [ht] at hP1
    have hjn := xw_join3 (wl := [(g0, .inr (2, [.ref n0, .ref g1, .ref g2, .ref g3, .ref g4, .ref g5, .ref g6, .ref g7, .ref g8, .ref g9, .ref ga, .ref gb, .int (nI cl), .int (nI ln), .int (nI br), .int (nI lp), .int (nI va)])), (g1, .inl (ax 1, 20, .inl (fun j => nI (kd j)))), (g2, .inl (ax 1, 20, .inl (fun j => nI (ow j)))), (g3, .inl (ax 1, 20, .inl (fun j => nI (sb j)))), (g4, .inl (ax 1, 20, .inl (fun j => nI (f1 j)))), (g5, .inl (ax 1, 20, .inl (fun j => nI (f2 j)))), (g6, .inl (ax 2, 20, .inl (fun j => nI (te j)))), (g7, .inl (ax 2, 20, .inl (fun j => nI (kp j)))), (g8, .inl (ax 0, 20, .inl tm)), (g9, .inl (ax 1, 20, .inl (fun j => nI (nm j)))), (ga, .inl (ax 1, 29, .inl (fun j => nI (ck j)))), (gb, .inl (ax 1, 29, .inl (fun j => nI (co j)))), (e0, .inr (8, [.ref e1])), (e1, .inl (ax 4, 6, .inr (.inl vs))), (n0, .inr (4, [.ref n1, .ref n2, .ref n3, .int (nI z9)])), (n1, .inl (ax 1, cp, .inl fo)), (n2, .inl (ax 0, cp, .inl fl)), (n3, .inl (ax 0, cp, .inl fr))]) hP hD [0, 1, 2, 3, 4, 5] [6, 7, 8, 9, 10, 11, 12, 13, 14, 15, 16, 17] hCs (by decide) (by decide) hk1 hFc hP1 hD1 rfl
    clear hP1 hD1
    clear hPc hDc hFc hCs hz hz1 hk1 ht hvm
    clear hP hD hS
    have hS := hS1
    obtain ⟨hP, hD⟩ := hjn
    clear hS1
    refine lv_if_eq (tgt := 171) hx hb d_Runner_follow_160 (by decide) (fun c_41 => ?_) (fun c_41 => ?_)
    · replace c_41 : u_37 0 = 0 := (nI_eq (a := u_37 0) (b := 0) (by first | exact Nat.lt_of_lt_of_le (by assumption) (by decide) | exact Nat.lt_of_le_of_lt (by assumption) (by decide) | omega) (by decide)).mp c_41
      refine lv_bipush (v := (-2)) hx hb d_Runner_follow_171 (by decide) ?_
      rw [← hQe]
      obtain ⟨hP9, hD9⟩ := xw_sub2 (wc := (fun (u : Nat → Nat) (xvs : Nat → Int64) => [(e0, .inr (8, [.ref e1])), (e1, .inl (ax 4, 6, .inr (.inl xvs))), (n0, .inr (4, [.ref n1, .ref n2, .ref n3, .int (nI z9)])), (n1, .inl (ax 1, cp, .inl fo)), (n2, .inl (ax 0, cp, .inl fl)), (n3, .inl (ax 0, cp, .inl fr)), (g0, .inr (2, [.ref n0, .ref g1, .ref g2, .ref g3, .ref g4, .ref g5, .ref g6, .ref g7, .ref g8, .ref g9, .ref ga, .ref gb, .int (nI cl), .int (nI ln), .int (nI br), .int (nI lp), .int (nI va)])), (g1, .inl (ax 1, 20, .inl (fun j => nI (kd j)))), (g2, .inl (ax 1, 20, .inl (fun j => nI (ow j)))), (g3, .inl (ax 1, 20, .inl (fun j => nI (sb j)))), (g4, .inl (ax 1, 20, .inl (fun j => nI (f1 j)))), (g5, .inl (ax 1, 20, .inl (fun j => nI (f2 j)))), (g6, .inl (ax 2, 20, .inl (fun j => nI (te j)))), (g7, .inl (ax 2, 20, .inl (fun j => nI (kp j)))), (g8, .inl (ax 0, 20, .inl tm)), (g9, .inl (ax 1, 20, .inl (fun j => nI (nm j)))), (ga, .inl (ax 1, 29, .inl (fun j => nI (ck j)))), (gb, .inl (ax 1, 29, .inl (fun j => nI (co j))))]) (ixn [4294967294]) vs) hP hD [12, 13, 14, 15, 16, 17, 0, 1, 2, 3, 4, 5, 6, 7, 8, 9, 10, 11] (by decide) rfl
      have hex0 : True := trivial
      have hsp0 : fol ln (4294967294) := (Or.inr (Or.inl rfl))
      exact W.iret (v := (-2)) hx hb hr (fun t ht hW => ⟨⟨(-2), ixn [4294967294], rfl, ⟨rfl, hsp0⟩, ⟨vs, hex0, by rw [ht]; exact hP9, hD9⟩⟩, hS.F ht⟩) hS.2.2 d_Runner_follow_173
    · replace c_41 : ¬ u_37 0 = 0 := fun hq9 => c_41 ((nI_eq (a := u_37 0) (b := 0) (by first | exact Nat.lt_of_lt_of_le (by assumption) (by decide) | exact Nat.lt_of_le_of_lt (by assumption) (by decide) | omega) (by decide)).mpr hq9)
      refine lv_aload_n hx hb d_Runner_follow_163 rfl (lv_at hl1 1 rfl) ?_
      refine lv_iload_n hx hb d_Runner_follow_164 rfl (lv_at hl1 2 rfl) ?_
      obtain ⟨hPc, hDc, hFc, hCs⟩ := xw_sub3 (wc := [(g0, .inr (2, [.ref n0, .ref g1, .ref g2, .ref g3, .ref g4, .ref g5, .ref g6, .ref g7, .ref g8, .ref g9, .ref ga, .ref gb, .int (nI cl), .int (nI ln), .int (nI br), .int (nI lp), .int (nI va)])), (g1, .inl (ax 1, 20, .inl (fun j => nI (kd j)))), (g2, .inl (ax 1, 20, .inl (fun j => nI (ow j)))), (g3, .inl (ax 1, 20, .inl (fun j => nI (sb j)))), (g4, .inl (ax 1, 20, .inl (fun j => nI (f1 j)))), (g5, .inl (ax 1, 20, .inl (fun j => nI (f2 j)))), (g6, .inl (ax 2, 20, .inl (fun j => nI (te j)))), (g7, .inl (ax 2, 20, .inl (fun j => nI (kp j)))), (g8, .inl (ax 0, 20, .inl tm)), (g9, .inl (ax 1, 20, .inl (fun j => nI (nm j)))), (ga, .inl (ax 1, 29, .inl (fun j => nI (ck j)))), (gb, .inl (ax 1, 29, .inl (fun j => nI (co j))))]) hP hD hS hA [0, 1, 2, 3, 4, 5, 6, 7, 8, 9, 10, 11] (by decide) rfl
      have hz := xz_of hN hS
      refine va_calli (va_runV (As := [.int (nI s9)]) (rest := []) ⟨hx, hb, hml, hown, hts⟩ (c_L_behind_0 l D ax g0 g1 g2 g3 g4 g5 g6 g7 g8 g9 ga gb cl ln br lp va kd ow sb f1 f2 te kp nm ck co tm n0 s9 en H_38.size (by first | assumption | omega) hs9 hls) (xcV (n := 1) hts wd_805 wd_12 wd_1001 wd_803 wd_804 rfl rfl (by decide +kernel) ⟨(show (10) + 1 ≤ (1300) by omega), (show 8 + (4 + 11) + (400) ≤ (27000) by omega)⟩) (xpV (ci := 2) (q0 := 0) (As := [.int (nI s9)]) hPc hK hz hDc rfl rfl) rfl rfl hl1.1 rfl (lv_room (Nat.le_of_ble_eq_true rfl)) d_Runner_follow_165 ⟨Nat.le_of_ble_eq_true rfl, Nat.le_of_ble_eq_true rfl⟩) hS (fun q _ h => hFc q h) hFc (fun r_44 u_42 t H_43 locs ht hvm hw hB hz1 hk1 hS1 => ?_)
      try dsimp only at hw
      obtain ⟨hw, hs_45⟩ := hw
      subst hw
      obtain ⟨hP1, hD1⟩ := hB
      rw [ht] at hP1
      have hjn := xw_join3 (wl := [(e0, .inr (8, [.ref e1])), (e1, .inl (ax 4, 6, .inr (.inl vs))), (n0, .inr (4, [.ref n1, .ref n2, .ref n3, .int (nI z9)])), (n1, .inl (ax 1, cp, .inl fo)), (n2, .inl (ax 0, cp, .inl fl)), (n3, .inl (ax 0, cp, .inl fr)), (g0, .inr (2, [.ref n0, .ref g1, .ref g2, .ref g3, .ref g4, .ref g5, .ref g6, .ref g7, .ref g8, .ref g9, .ref ga, .ref gb, .int (nI cl), .int (nI ln), .int (nI br), .int (nI lp), .int (nI va)])), (g1, .inl (ax 1, 20, .inl (fun j => nI (kd j)))), (g2, .inl (ax 1, 20, .inl (fun j => nI (ow j)))), (g3, .inl (ax 1, 20, .inl (fun j => nI (sb j)))), (g4, .inl (ax 1, 20, .inl (fun j => nI (f1 j)))), (g5, .inl (ax 1, 20, .inl (fun j => nI (f2 j)))), (g6, .inl (ax 2, 20, .inl (fun j => nI (te j)))), (g7, .inl (ax 2, 20, .inl (fun j => nI (kp j)))), (g8, .inl (ax 0, 20, .inl tm)), (g9, .inl (ax 1, 20, .inl (fun j => nI (nm j)))), (ga, .inl (ax 1, 29, .inl (fun j => nI (ck j)))), (gb, .inl (ax 1, 29, .inl (fun j => nI (co j))))]) hP hD [0, 1, 2, 3, 4, 5, 6, 7, 8, 9, 10, 11] [12, 13, 14, 15, 16, 17] hCs (by decide) (by decide) hk1 hFc hP1 hD1 rfl
      clear hP1 hD1
      clear hPc hDc hFc hCs hz hz1 hk1 ht hvm
      clear hP hD hS
      have hS := hS1
      obtain ⟨hP, hD⟩ := hjn
      clear hS1
      refine lv_goto (tgt := 173) hx hb d_Runner_follow_168 (by decide) ?_
      rw [← hQe]
      obtain ⟨hP9, hD9⟩ := xw_sub2 (wc := (fun (u : Nat → Nat) (xvs : Nat → Int64) => [(e0, .inr (8, [.ref e1])), (e1, .inl (ax 4, 6, .inr (.inl xvs))), (n0, .inr (4, [.ref n1, .ref n2, .ref n3, .int (nI z9)])), (n1, .inl (ax 1, cp, .inl fo)), (n2, .inl (ax 0, cp, .inl fl)), (n3, .inl (ax 0, cp, .inl fr)), (g0, .inr (2, [.ref n0, .ref g1, .ref g2, .ref g3, .ref g4, .ref g5, .ref g6, .ref g7, .ref g8, .ref g9, .ref ga, .ref gb, .int (nI cl), .int (nI ln), .int (nI br), .int (nI lp), .int (nI va)])), (g1, .inl (ax 1, 20, .inl (fun j => nI (kd j)))), (g2, .inl (ax 1, 20, .inl (fun j => nI (ow j)))), (g3, .inl (ax 1, 20, .inl (fun j => nI (sb j)))), (g4, .inl (ax 1, 20, .inl (fun j => nI (f1 j)))), (g5, .inl (ax 1, 20, .inl (fun j => nI (f2 j)))), (g6, .inl (ax 2, 20, .inl (fun j => nI (te j)))), (g7, .inl (ax 2, 20, .inl (fun j => nI (kp j)))), (g8, .inl (ax 0, 20, .inl tm)), (g9, .inl (ax 1, 20, .inl (fun j => nI (nm j)))), (ga, .inl (ax 1, 29, .inl (fun j => nI (ck j)))), (gb, .inl (ax 1, 29, .inl (fun j => nI (co j))))]) (ixn [(u_42 0)]) vs) hP hD [0, 1, 2, 3, 4, 5, 6, 7, 8, 9, 10, 11, 12, 13, 14, 15, 16, 17] (by decide) rfl
      have hex0 : True := trivial
      have hsp0 : fol ln ((u_42 0)) := hs_45.fol
      exact W.iret (v := nI (u_42 0)) hx hb hr (fun t ht hW => ⟨⟨nI (u_42 0), ixn [(u_42 0)], rfl, ⟨rfl, hsp0⟩, ⟨vs, hex0, by rw [ht]; exact hP9, hD9⟩⟩, hS.F ht⟩) hS.2.2 d_Runner_follow_173
  refine lv_lookup (off := 168) (tgt := 174) hx hb d_Runner_follow_6 (by decide) (by rw [nI_toInt (by first | assumption | omega)]; exact sw_no (by simp; omega)) (by decide) ?_
  refine lv_aload_n hx hb d_Runner_follow_174 rfl (lv_at hl1 1 rfl) ?_
  refine lv_iload_n hx hb d_Runner_follow_175 rfl (lv_at hl1 2 rfl) ?_
  obtain ⟨hPc, hDc, hFc, hCs⟩ := xw_sub3 (wc := [(g0, .inr (2, [.ref n0, .ref g1, .ref g2, .ref g3, .ref g4, .ref g5, .ref g6, .ref g7, .ref g8, .ref g9, .ref ga, .ref gb, .int (nI cl), .int (nI ln), .int (nI br), .int (nI lp), .int (nI va)])), (g1, .inl (ax 1, 20, .inl (fun j => nI (kd j)))), (g2, .inl (ax 1, 20, .inl (fun j => nI (ow j)))), (g3, .inl (ax 1, 20, .inl (fun j => nI (sb j)))), (g4, .inl (ax 1, 20, .inl (fun j => nI (f1 j)))), (g5, .inl (ax 1, 20, .inl (fun j => nI (f2 j)))), (g6, .inl (ax 2, 20, .inl (fun j => nI (te j)))), (g7, .inl (ax 2, 20, .inl (fun j => nI (kp j)))), (g8, .inl (ax 0, 20, .inl tm)), (g9, .inl (ax 1, 20, .inl (fun j => nI (nm j)))), (ga, .inl (ax 1, 29, .inl (fun j => nI (ck j)))), (gb, .inl (ax 1, 29, .inl (fun j => nI (co j))))]) hP hD hS hA [6, 7, 8, 9, 10, 11, 12, 13, 14, 15, 16, 17] (by decide) rfl
  have hz := xz_of hN hS
  refine va_calli (va_runV (As := [.int (nI s9)]) (rest := []) ⟨hx, hb, hml, hown, hts⟩ (c_L_behind_0 l D ax g0 g1 g2 g3 g4 g5 g6 g7 g8 g9 ga gb cl ln br lp va kd ow sb f1 f2 te kp nm ck co tm n0 s9 en s.heap.size (by first | assumption | omega) hs9 hls) (xcV (n := 1) hts wd_805 wd_12 wd_1001 wd_803 wd_804 rfl rfl (by decide +kernel) ⟨(show (10) + 1 ≤ (1300) by omega), (show 8 + (4 + 11) + (400) ≤ (27000) by omega)⟩) (xpV (ci := 2) (q0 := 0) (As := [.int (nI s9)]) hPc hK hz hDc rfl rfl) rfl rfl hl1.1 rfl (lv_room (Nat.le_of_ble_eq_true rfl)) d_Runner_follow_176 ⟨Nat.le_of_ble_eq_true rfl, Nat.le_of_ble_eq_true rfl⟩) hS (fun q _ h => hFc q h) hFc (fun r_48 u_46 t H_47 locs ht hvm hw hB hz1 hk1 hS1 => ?_)
  try dsimp only at hw
  obtain ⟨hw, hs_49⟩ := hw
  subst hw
  obtain ⟨hP1, hD1⟩ := hB
  rw [ht] at hP1
  have hjn := xw_join3 (wl := [(e0, .inr (8, [.ref e1])), (e1, .inl (ax 4, 6, .inr (.inl vs))), (n0, .inr (4, [.ref n1, .ref n2, .ref n3, .int (nI z9)])), (n1, .inl (ax 1, cp, .inl fo)), (n2, .inl (ax 0, cp, .inl fl)), (n3, .inl (ax 0, cp, .inl fr)), (g0, .inr (2, [.ref n0, .ref g1, .ref g2, .ref g3, .ref g4, .ref g5, .ref g6, .ref g7, .ref g8, .ref g9, .ref ga, .ref gb, .int (nI cl), .int (nI ln), .int (nI br), .int (nI lp), .int (nI va)])), (g1, .inl (ax 1, 20, .inl (fun j => nI (kd j)))), (g2, .inl (ax 1, 20, .inl (fun j => nI (ow j)))), (g3, .inl (ax 1, 20, .inl (fun j => nI (sb j)))), (g4, .inl (ax 1, 20, .inl (fun j => nI (f1 j)))), (g5, .inl (ax 1, 20, .inl (fun j => nI (f2 j)))), (g6, .inl (ax 2, 20, .inl (fun j => nI (te j)))), (g7, .inl (ax 2, 20, .inl (fun j => nI (kp j)))), (g8, .inl (ax 0, 20, .inl tm)), (g9, .inl (ax 1, 20, .inl (fun j => nI (nm j)))), (ga, .inl (ax 1, 29, .inl (fun j => nI (ck j)))), (gb, .inl (ax 1, 29, .inl (fun j => nI (co j))))]) hP hD [6, 7, 8, 9, 10, 11, 12, 13, 14, 15, 16, 17] [0, 1, 2, 3, 4, 5] hCs (by decide) (by decide) hk1 hFc hP1 hD1 rfl
  clear hP1 hD1
  clear hPc hDc hFc hCs hz hz1 hk1 ht hvm
  clear hP hD hS
  have hS := hS1
  obtain ⟨hP, hD⟩ := hjn
  clear hS1
  rw [← hQe]
  obtain ⟨hP9, hD9⟩ := xw_sub2 (wc := (fun (u : Nat → Nat) (xvs : Nat → Int64) => [(e0, .inr (8, [.ref e1])), (e1, .inl (ax 4, 6, .inr (.inl xvs))), (n0, .inr (4, [.ref n1, .ref n2, .ref n3, .int (nI z9)])), (n1, .inl (ax 1, cp, .inl fo)), (n2, .inl (ax 0, cp, .inl fl)), (n3, .inl (ax 0, cp, .inl fr)), (g0, .inr (2, [.ref n0, .ref g1, .ref g2, .ref g3, .ref g4, .ref g5, .ref g6, .ref g7, .ref g8, .ref g9, .ref ga, .ref gb, .int (nI cl), .int (nI ln), .int (nI br), .int (nI lp), .int (nI va)])), (g1, .inl (ax 1, 20, .inl (fun j => nI (kd j)))), (g2, .inl (ax 1, 20, .inl (fun j => nI (ow j)))), (g3, .inl (ax 1, 20, .inl (fun j => nI (sb j)))), (g4, .inl (ax 1, 20, .inl (fun j => nI (f1 j)))), (g5, .inl (ax 1, 20, .inl (fun j => nI (f2 j)))), (g6, .inl (ax 2, 20, .inl (fun j => nI (te j)))), (g7, .inl (ax 2, 20, .inl (fun j => nI (kp j)))), (g8, .inl (ax 0, 20, .inl tm)), (g9, .inl (ax 1, 20, .inl (fun j => nI (nm j)))), (ga, .inl (ax 1, 29, .inl (fun j => nI (ck j)))), (gb, .inl (ax 1, 29, .inl (fun j => nI (co j))))]) (ixn [(u_46 0)]) vs) hP hD [0, 1, 2, 3, 4, 5, 6, 7, 8, 9, 10, 11, 12, 13, 14, 15, 16, 17] (by decide) rfl
  have hex0 : True := trivial
  have hsp0 : fol ln ((u_46 0)) := hs_49.fol
  exact W.iret (v := nI (u_46 0)) hx hb hr (fun t ht hW => ⟨⟨nI (u_46 0), ixn [(u_46 0)], rfl, ⟨rfl, hsp0⟩, ⟨vs, hex0, by rw [ht]; exact hP9, hD9⟩⟩, hS.F ht⟩) hS.2.2 d_Runner_follow_179
abbrev b_Runner_go : ByteArray := prog_10_method_3_code
def y_Runner_go : MethodName := ⟨R_Runner, "go", "(LTripleDesk$Listing;I)I"⟩
theorem d_Runner_go_0 : decode b_Runner_go 0 = .ok (.iconst 0, 1) := by decide +kernel
theorem d_Runner_go_1 : decode b_Runner_go 1 = .ok (.istore_n 3, 1) := by decide +kernel
theorem d_Runner_go_2 : decode b_Runner_go 2 = .ok (.iconst 0, 1) := by decide +kernel
theorem d_Runner_go_3 : decode b_Runner_go 3 = .ok (.istore 4, 2) := by decide +kernel
theorem d_Runner_go_5 : decode b_Runner_go 5 = .ok (.iconst 0, 1) := by decide +kernel
theorem d_Runner_go_6 : decode b_Runner_go 6 = .ok (.istore 5, 2) := by decide +kernel
theorem d_Runner_go_8 : decode b_Runner_go 8 = .ok (.iload 5, 2) := by decide +kernel
theorem d_Runner_go_10 : decode b_Runner_go 10 = .ok (.iload_n 2, 1) := by decide +kernel
theorem d_Runner_go_11 : decode b_Runner_go 11 = .ok (.if_icmp .ge 52, 3) := by decide +kernel
theorem d_Runner_go_14 : decode b_Runner_go 14 = .ok (.aload_n 0, 1) := by decide +kernel
theorem d_Runner_go_15 : decode b_Runner_go 15 = .ok (.aload_n 1, 1) := by decide +kernel
theorem d_Runner_go_16 : decode b_Runner_go 16 = .ok (.iload_n 3, 1) := by decide +kernel
theorem d_Runner_go_17 : decode b_Runner_go 17 = .ok (.iload 4, 2) := by decide +kernel
theorem d_Runner_go_19 : decode b_Runner_go 19 = .ok (.invokevirtual 21, 3) := by decide +kernel
theorem d_Runner_go_22 : decode b_Runner_go 22 = .ok (.istore 6, 2) := by decide +kernel
theorem d_Runner_go_24 : decode b_Runner_go 24 = .ok (.iload 6, 2) := by decide +kernel
theorem d_Runner_go_26 : decode b_Runner_go 26 = .ok (.iconst (-1), 1) := by decide +kernel
theorem d_Runner_go_27 : decode b_Runner_go 27 = .ok (.if_icmp .ne 5, 3) := by decide +kernel
theorem d_Runner_go_30 : decode b_Runner_go 30 = .ok (.iconst 0, 1) := by decide +kernel
theorem d_Runner_go_31 : decode b_Runner_go 31 = .ok (.ireturn, 1) := by decide +kernel
theorem d_Runner_go_32 : decode b_Runner_go 32 = .ok (.iload 6, 2) := by decide +kernel
theorem d_Runner_go_34 : decode b_Runner_go 34 = .ok (.bipush (-2), 2) := by decide +kernel
theorem d_Runner_go_36 : decode b_Runner_go 36 = .ok (.if_icmp .ne 5, 3) := by decide +kernel
theorem d_Runner_go_39 : decode b_Runner_go 39 = .ok (.iconst 2, 1) := by decide +kernel
theorem d_Runner_go_40 : decode b_Runner_go 40 = .ok (.ireturn, 1) := by decide +kernel
theorem d_Runner_go_41 : decode b_Runner_go 41 = .ok (.iload 6, 2) := by decide +kernel
theorem d_Runner_go_43 : decode b_Runner_go 43 = .ok (.iload_n 3, 1) := by decide +kernel
theorem d_Runner_go_44 : decode b_Runner_go 44 = .ok (.if_icmp .gt 7, 3) := by decide +kernel
theorem d_Runner_go_47 : decode b_Runner_go 47 = .ok (.iconst 1, 1) := by decide +kernel
theorem d_Runner_go_48 : decode b_Runner_go 48 = .ok (.goto 4, 3) := by decide +kernel
theorem d_Runner_go_51 : decode b_Runner_go 51 = .ok (.iconst 0, 1) := by decide +kernel
theorem d_Runner_go_52 : decode b_Runner_go 52 = .ok (.istore 4, 2) := by decide +kernel
theorem d_Runner_go_54 : decode b_Runner_go 54 = .ok (.iload 6, 2) := by decide +kernel
theorem d_Runner_go_56 : decode b_Runner_go 56 = .ok (.istore_n 3, 1) := by decide +kernel
theorem d_Runner_go_57 : decode b_Runner_go 57 = .ok (.iinc 5 1, 3) := by decide +kernel
theorem d_Runner_go_60 : decode b_Runner_go 60 = .ok (.goto (-52), 3) := by decide +kernel
theorem d_Runner_go_63 : decode b_Runner_go 63 = .ok (.iconst 1, 1) := by decide +kernel
theorem d_Runner_go_64 : decode b_Runner_go 64 = .ok (.ireturn, 1) := by decide +kernel
set_option maxHeartbeats 40000000 in
set_option maxRecDepth 100000 in
theorem c_E_go (l : Launch) (D : va_G) (ax : Nat → ClassId) (e0 e1 : Nat) (vs : Nat → Int64) (n0 n1 n2 n3 cp z9 : Nat) (fo fl fr : Nat → Int32) (g0 g1 g2 g3 g4 g5 g6 g7 g8 g9 ga gb cl ln br lp va : Nat) (kd ow sb f1 f2 te kp nm ck co : Nat → Nat) (tm : Nat → Int32) (sp : Nat) (sz : Nat) (hz9 : z9 ≤ cp) (hcp : cp ≤ 100000) (hzz : z9 ≤ 600) (hnv : ndv fo fl fr z9) (hlf : lsf ln z9 kd ow sb f1 f2 te kp nm tm fo fl fr) (hsp : sp ≤ 2000) : Met l y_Runner_go (xws (.code y_Runner_go b_Runner_go 7 (some .int))) ({ frames := 1310, cells := 0, slots := 0, locals := 27100 }) (va_Pc [.ref e0, .ref g0, .int (nI sp)] (xo D ax [(e0, .inr (8, [.ref e1])), (e1, .inl (ax 4, 6, .inr (.inl vs))), (n0, .inr (4, [.ref n1, .ref n2, .ref n3, .int (nI z9)])), (n1, .inl (ax 1, cp, .inl fo)), (n2, .inl (ax 0, cp, .inl fl)), (n3, .inl (ax 0, cp, .inl fr)), (g0, .inr (2, [.ref n0, .ref g1, .ref g2, .ref g3, .ref g4, .ref g5, .ref g6, .ref g7, .ref g8, .ref g9, .ref ga, .ref gb, .int (nI cl), .int (nI ln), .int (nI br), .int (nI lp), .int (nI va)])), (g1, .inl (ax 1, 20, .inl (fun j => nI (kd j)))), (g2, .inl (ax 1, 20, .inl (fun j => nI (ow j)))), (g3, .inl (ax 1, 20, .inl (fun j => nI (sb j)))), (g4, .inl (ax 1, 20, .inl (fun j => nI (f1 j)))), (g5, .inl (ax 1, 20, .inl (fun j => nI (f2 j)))), (g6, .inl (ax 2, 20, .inl (fun j => nI (te j)))), (g7, .inl (ax 2, 20, .inl (fun j => nI (kp j)))), (g8, .inl (ax 0, 20, .inl tm)), (g9, .inl (ax 1, 20, .inl (fun j => nI (nm j)))), (ga, .inl (ax 1, 29, .inl (fun j => nI (ck j)))), (gb, .inl (ax 1, 29, .inl (fun j => nI (co j))))] sz)) ((va_Qi (fun (r : Int32) (u : Nat → Nat) => r = nI (u 0) ∧ (u 0 ≤ 2)) (fun (u : Nat → Nat) (t9 : State) => ∃ xvs : Nat → Int64, (True) ∧ va_P D classes [(e0, .inr (8, [.ref e1])), (e1, .inl (ax 4, 6, .inr (.inl xvs))), (n0, .inr (4, [.ref n1, .ref n2, .ref n3, .int (nI z9)])), (n1, .inl (ax 1, cp, .inl fo)), (n2, .inl (ax 0, cp, .inl fl)), (n3, .inl (ax 0, cp, .inl fr)), (g0, .inr (2, [.ref n0, .ref g1, .ref g2, .ref g3, .ref g4, .ref g5, .ref g6, .ref g7, .ref g8, .ref g9, .ref ga, .ref gb, .int (nI cl), .int (nI ln), .int (nI br), .int (nI lp), .int (nI va)])), (g1, .inl (ax 1, 20, .inl (fun j => nI (kd j)))), (g2, .inl (ax 1, 20, .inl (fun j => nI (ow j)))), (g3, .inl (ax 1, 20, .inl (fun j => nI (sb j)))), (g4, .inl (ax 1, 20, .inl (fun j => nI (f1 j)))), (g5, .inl (ax 1, 20, .inl (fun j => nI (f2 j)))), (g6, .inl (ax 2, 20, .inl (fun j => nI (te j)))), (g7, .inl (ax 2, 20, .inl (fun j => nI (kp j)))), (g8, .inl (ax 0, 20, .inl tm)), (g9, .inl (ax 1, 20, .inl (fun j => nI (nm j)))), (ga, .inl (ax 1, 29, .inl (fun j => nI (ck j)))), (gb, .inl (ax 1, 29, .inl (fun j => nI (co j))))] t9.heap ∧ va_D (va_A [(e0, .inr (8, [.ref e1])), (e1, .inl (ax 4, 6, .inr (.inl vs))), (n0, .inr (4, [.ref n1, .ref n2, .ref n3, .int (nI z9)])), (n1, .inl (ax 1, cp, .inl fo)), (n2, .inl (ax 0, cp, .inl fl)), (n3, .inl (ax 0, cp, .inl fr)), (g0, .inr (2, [.ref n0, .ref g1, .ref g2, .ref g3, .ref g4, .ref g5, .ref g6, .ref g7, .ref g8, .ref g9, .ref ga, .ref gb, .int (nI cl), .int (nI ln), .int (nI br), .int (nI lp), .int (nI va)])), (g1, .inl (ax 1, 20, .inl (fun j => nI (kd j)))), (g2, .inl (ax 1, 20, .inl (fun j => nI (ow j)))), (g3, .inl (ax 1, 20, .inl (fun j => nI (sb j)))), (g4, .inl (ax 1, 20, .inl (fun j => nI (f1 j)))), (g5, .inl (ax 1, 20, .inl (fun j => nI (f2 j)))), (g6, .inl (ax 2, 20, .inl (fun j => nI (te j)))), (g7, .inl (ax 2, 20, .inl (fun j => nI (kp j)))), (g8, .inl (ax 0, 20, .inl tm)), (g9, .inl (ax 1, 20, .inl (fun j => nI (nm j)))), (ga, .inl (ax 1, 29, .inl (fun j => nI (ck j)))), (gb, .inl (ax 1, 29, .inl (fun j => nI (co j))))] sz) [(e0, .inr (8, [.ref e1])), (e1, .inl (ax 4, 6, .inr (.inl xvs))), (n0, .inr (4, [.ref n1, .ref n2, .ref n3, .int (nI z9)])), (n1, .inl (ax 1, cp, .inl fo)), (n2, .inl (ax 0, cp, .inl fl)), (n3, .inl (ax 0, cp, .inl fr)), (g0, .inr (2, [.ref n0, .ref g1, .ref g2, .ref g3, .ref g4, .ref g5, .ref g6, .ref g7, .ref g8, .ref g9, .ref ga, .ref gb, .int (nI cl), .int (nI ln), .int (nI br), .int (nI lp), .int (nI va)])), (g1, .inl (ax 1, 20, .inl (fun j => nI (kd j)))), (g2, .inl (ax 1, 20, .inl (fun j => nI (ow j)))), (g3, .inl (ax 1, 20, .inl (fun j => nI (sb j)))), (g4, .inl (ax 1, 20, .inl (fun j => nI (f1 j)))), (g5, .inl (ax 1, 20, .inl (fun j => nI (f2 j)))), (g6, .inl (ax 2, 20, .inl (fun j => nI (te j)))), (g7, .inl (ax 2, 20, .inl (fun j => nI (kp j)))), (g8, .inl (ax 0, 20, .inl tm)), (g9, .inl (ax 1, 20, .inl (fun j => nI (nm j)))), (ga, .inl (ax 1, 29, .inl (fun j => nI (ck j)))), (gb, .inl (ax 1, 29, .inl (fun j => nI (co j))))]) (va_A [(e0, .inr (8, [.ref e1])), (e1, .inl (ax 4, 6, .inr (.inl vs))), (n0, .inr (4, [.ref n1, .ref n2, .ref n3, .int (nI z9)])), (n1, .inl (ax 1, cp, .inl fo)), (n2, .inl (ax 0, cp, .inl fl)), (n3, .inl (ax 0, cp, .inl fr)), (g0, .inr (2, [.ref n0, .ref g1, .ref g2, .ref g3, .ref g4, .ref g5, .ref g6, .ref g7, .ref g8, .ref g9, .ref ga, .ref gb, .int (nI cl), .int (nI ln), .int (nI br), .int (nI lp), .int (nI va)])), (g1, .inl (ax 1, 20, .inl (fun j => nI (kd j)))), (g2, .inl (ax 1, 20, .inl (fun j => nI (ow j)))), (g3, .inl (ax 1, 20, .inl (fun j => nI (sb j)))), (g4, .inl (ax 1, 20, .inl (fun j => nI (f1 j)))), (g5, .inl (ax 1, 20, .inl (fun j => nI (f2 j)))), (g6, .inl (ax 2, 20, .inl (fun j => nI (te j)))), (g7, .inl (ax 2, 20, .inl (fun j => nI (kp j)))), (g8, .inl (ax 0, 20, .inl tm)), (g9, .inl (ax 1, 20, .inl (fun j => nI (nm j)))), (ga, .inl (ax 1, 29, .inl (fun j => nI (ck j)))), (gb, .inl (ax 1, 29, .inl (fun j => nI (co j))))] sz))) 0 0 (va_A [(e0, .inr (8, [.ref e1])), (e1, .inl (ax 4, 6, .inr (.inl vs))), (n0, .inr (4, [.ref n1, .ref n2, .ref n3, .int (nI z9)])), (n1, .inl (ax 1, cp, .inl fo)), (n2, .inl (ax 0, cp, .inl fl)), (n3, .inl (ax 0, cp, .inl fr)), (g0, .inr (2, [.ref n0, .ref g1, .ref g2, .ref g3, .ref g4, .ref g5, .ref g6, .ref g7, .ref g8, .ref g9, .ref ga, .ref gb, .int (nI cl), .int (nI ln), .int (nI br), .int (nI lp), .int (nI va)])), (g1, .inl (ax 1, 20, .inl (fun j => nI (kd j)))), (g2, .inl (ax 1, 20, .inl (fun j => nI (ow j)))), (g3, .inl (ax 1, 20, .inl (fun j => nI (sb j)))), (g4, .inl (ax 1, 20, .inl (fun j => nI (f1 j)))), (g5, .inl (ax 1, 20, .inl (fun j => nI (f2 j)))), (g6, .inl (ax 2, 20, .inl (fun j => nI (te j)))), (g7, .inl (ax 2, 20, .inl (fun j => nI (kp j)))), (g8, .inl (ax 0, 20, .inl tm)), (g9, .inl (ax 1, 20, .inl (fun j => nI (nm j)))), (ga, .inl (ax 1, 29, .inl (fun j => nI (ck j)))), (gb, .inl (ax 1, 29, .inl (fun j => nI (co j))))] sz) := by
  refine Met.ofW (cc := b_Runner_go) (maxL := 7) (ret := (some .int)) (by decide) rfl ?_
  intro p e s m args below meth c s₁ B hml hv
  obtain ⟨rfl, hsz, hP, hK, hD0⟩ := hv
  have hx := B.exec
  have hb := B.bytes
  have hr := B.returns
  have hts := xw_hts B.pre
  have hown : s.vm.findClass R_Runner = some m.cls := findClass_of_methodNamed B.named
  have hlocks := B.notSynchronized
  subst hsz
  have hD := hD0.self (sz := s.heap.size)
  have hN := xz_entry hP
  generalize hAe : va_A [(e0, .inr (8, [.ref e1])), (e1, .inl (ax 4, 6, .inr (.inl vs))), (n0, .inr (4, [.ref n1, .ref n2, .ref n3, .int (nI z9)])), (n1, .inl (ax 1, cp, .inl fo)), (n2, .inl (ax 0, cp, .inl fl)), (n3, .inl (ax 0, cp, .inl fr)), (g0, .inr (2, [.ref n0, .ref g1, .ref g2, .ref g3, .ref g4, .ref g5, .ref g6, .ref g7, .ref g8, .ref g9, .ref ga, .ref gb, .int (nI cl), .int (nI ln), .int (nI br), .int (nI lp), .int (nI va)])), (g1, .inl (ax 1, 20, .inl (fun j => nI (kd j)))), (g2, .inl (ax 1, 20, .inl (fun j => nI (ow j)))), (g3, .inl (ax 1, 20, .inl (fun j => nI (sb j)))), (g4, .inl (ax 1, 20, .inl (fun j => nI (f1 j)))), (g5, .inl (ax 1, 20, .inl (fun j => nI (f2 j)))), (g6, .inl (ax 2, 20, .inl (fun j => nI (te j)))), (g7, .inl (ax 2, 20, .inl (fun j => nI (kp j)))), (g8, .inl (ax 0, 20, .inl tm)), (g9, .inl (ax 1, 20, .inl (fun j => nI (nm j)))), (ga, .inl (ax 1, 29, .inl (fun j => nI (ck j)))), (gb, .inl (ax 1, 29, .inl (fun j => nI (co j))))] s.heap.size = A at hD hN ⊢
  have hA : ∀ q : Nat, s.heap.size ≤ q → A q := fun q h => by rw [← hAe]; exact Or.inr h
  have hS : va_S A s.heap s.heap [] := va_S.rf
  have hl0 := lv_entry ([.ref e0, .ref g0, .int (nI sp)]) (n := 7) (Nat.le_of_ble_eq_true rfl)
  rw [lg_entry_eq]
  generalize (lg_sl ([.ref e0, .ref g0, .int (nI sp)]) ++ List.replicate (7 - (lg_sl ([.ref e0, .ref g0, .int (nI sp)])).length) Slot.unset).toArray = ls at hl0 ⊢
  have hl1 : lv_has ls 7 [(0, .ref e0), (1, .ref g0), (2, .int (nI sp))] := hl0
  refine xw_gen (fun Z9 hQe => ?_)
  refine lv_iconst (v := 0) hx hb d_Runner_go_0 (by decide) ?_
  refine lv_istore_n (lv' := [(3, .int 0), (0, .ref e0), (1, .ref g0), (2, .int (nI sp))]) hx hb d_Runner_go_1 rfl hl1 (by decide) rfl (fun ls hl2 => ?_)
  clear hl1; have hl1 := hl2; clear hl2
  refine lv_iconst (v := 0) hx hb d_Runner_go_2 (by decide) ?_
  refine lv_istore (lv' := [(4, .int 0), (3, .int 0), (0, .ref e0), (1, .ref g0), (2, .int (nI sp))]) hx hb d_Runner_go_3 hl1 (by decide) rfl (fun ls hl2 => ?_)
  clear hl1; have hl1 := hl2; clear hl2
  refine lv_iconst (v := 0) hx hb d_Runner_go_5 (by decide) ?_
  refine lv_istore (lv' := [(5, .int 0), (4, .int 0), (3, .int 0), (0, .ref e0), (1, .ref g0), (2, .int (nI sp))]) hx hb d_Runner_go_6 hl1 (by decide) rfl (fun ls hl2 => ?_)
  clear hl1; have hl1 := hl2; clear hl2
  obtain ⟨hn1, hn20⟩ := hlf.nn
  suffices key_1 : ∀ (k : Nat) (a1 et1 i1 : Nat) (vs1 : Nat → Int64), sp - i1 < k → a1 < ln → et1 ≤ 1 → i1 ≤ 2000 → ∀ (H : Heap) (locs : List Loc) (ls : Array Slot), va_P D classes [(e0, .inr (8, [.ref e1])), (e1, .inl (ax 4, 6, .inr (.inl vs1))), (n0, .inr (4, [.ref n1, .ref n2, .ref n3, .int (nI z9)])), (n1, .inl (ax 1, cp, .inl fo)), (n2, .inl (ax 0, cp, .inl fl)), (n3, .inl (ax 0, cp, .inl fr)), (g0, .inr (2, [.ref n0, .ref g1, .ref g2, .ref g3, .ref g4, .ref g5, .ref g6, .ref g7, .ref g8, .ref g9, .ref ga, .ref gb, .int (nI cl), .int (nI ln), .int (nI br), .int (nI lp), .int (nI va)])), (g1, .inl (ax 1, 20, .inl (fun j => nI (kd j)))), (g2, .inl (ax 1, 20, .inl (fun j => nI (ow j)))), (g3, .inl (ax 1, 20, .inl (fun j => nI (sb j)))), (g4, .inl (ax 1, 20, .inl (fun j => nI (f1 j)))), (g5, .inl (ax 1, 20, .inl (fun j => nI (f2 j)))), (g6, .inl (ax 2, 20, .inl (fun j => nI (te j)))), (g7, .inl (ax 2, 20, .inl (fun j => nI (kp j)))), (g8, .inl (ax 0, 20, .inl tm)), (g9, .inl (ax 1, 20, .inl (fun j => nI (nm j)))), (ga, .inl (ax 1, 29, .inl (fun j => nI (ck j)))), (gb, .inl (ax 1, 29, .inl (fun j => nI (co j))))] H → va_D A [(e0, .inr (8, [.ref e1])), (e1, .inl (ax 4, 6, .inr (.inl vs1))), (n0, .inr (4, [.ref n1, .ref n2, .ref n3, .int (nI z9)])), (n1, .inl (ax 1, cp, .inl fo)), (n2, .inl (ax 0, cp, .inl fl)), (n3, .inl (ax 0, cp, .inl fr)), (g0, .inr (2, [.ref n0, .ref g1, .ref g2, .ref g3, .ref g4, .ref g5, .ref g6, .ref g7, .ref g8, .ref g9, .ref ga, .ref gb, .int (nI cl), .int (nI ln), .int (nI br), .int (nI lp), .int (nI va)])), (g1, .inl (ax 1, 20, .inl (fun j => nI (kd j)))), (g2, .inl (ax 1, 20, .inl (fun j => nI (ow j)))), (g3, .inl (ax 1, 20, .inl (fun j => nI (sb j)))), (g4, .inl (ax 1, 20, .inl (fun j => nI (f1 j)))), (g5, .inl (ax 1, 20, .inl (fun j => nI (f2 j)))), (g6, .inl (ax 2, 20, .inl (fun j => nI (te j)))), (g7, .inl (ax 2, 20, .inl (fun j => nI (kp j)))), (g8, .inl (ax 0, 20, .inl tm)), (g9, .inl (ax 1, 20, .inl (fun j => nI (nm j)))), (ga, .inl (ax 1, 29, .inl (fun j => nI (ck j)))), (gb, .inl (ax 1, 29, .inl (fun j => nI (co j))))] → va_S A s.heap H locs → lv_has ls 7 [(0, .ref e0), (1, .ref g0), (2, .int (nI sp)), (3, .int (nI a1)), (4, .int (nI et1)), (5, .int (nI i1))] → W p l e (headSpec (xws (.code y_Runner_go b_Runner_go 7 (some .int))) ({ frames := 1310, cells := 0, slots := 0, locals := 27100 })).room s m ([.ref e0, .ref g0, .int (nI sp)] : List Value).toArray below meth c H locs 0 0 Z9 (F0 m 8 ls []) from key_1 (sp - 0 + 1) 0 0 0 vs (Nat.lt_succ_self _) (by first | assumption | omega) (by first | assumption | omega) (by first | assumption | omega) _ _ _ (hP) (hD) hS (lv_sub hl1 [3, 4, 5, 2, 1, 0] rfl)
  intro k_2
  induction k_2 with
  | zero =>
    intro a1 et1 i1 vs1 hk_4
    exact absurd hk_4 (Nat.not_lt_zero _)
  | succ k_2 ih_3 =>
    clear hP hD hS hl1
    intro a1 et1 i1 vs1 hk_4 ha1 he1 hi1 H locs ls hP hD hS hl1
    refine lv_iload hx hb d_Runner_go_8 (lv_at hl1 5 rfl) ?_
    refine lv_iload_n hx hb d_Runner_go_10 rfl (lv_at hl1 2 rfl) ?_
    refine lv_icmp_ge (tgt := 63) hx hb d_Runner_go_11 (by decide) (fun c_5 => ?_) (fun c_5 => ?_)
    · replace c_5 : sp ≤ i1 := (nI_leI (a := sp) (b := i1) (by first | exact Nat.lt_of_lt_of_le (by assumption) (by decide) | exact Nat.lt_of_le_of_lt (by assumption) (by decide) | omega) (by first | exact Nat.lt_of_lt_of_le (by assumption) (by decide) | exact Nat.lt_of_le_of_lt (by assumption) (by decide) | omega)).mp c_5
      refine lv_iconst (v := 1) hx hb d_Runner_go_63 (by decide) ?_
      rw [← hQe]
      obtain ⟨hP9, hD9⟩ := xw_sub2 (wc := (fun (u : Nat → Nat) (xvs : Nat → Int64) => [(e0, .inr (8, [.ref e1])), (e1, .inl (ax 4, 6, .inr (.inl xvs))), (n0, .inr (4, [.ref n1, .ref n2, .ref n3, .int (nI z9)])), (n1, .inl (ax 1, cp, .inl fo)), (n2, .inl (ax 0, cp, .inl fl)), (n3, .inl (ax 0, cp, .inl fr)), (g0, .inr (2, [.ref n0, .ref g1, .ref g2, .ref g3, .ref g4, .ref g5, .ref g6, .ref g7, .ref g8, .ref g9, .ref ga, .ref gb, .int (nI cl), .int (nI ln), .int (nI br), .int (nI lp), .int (nI va)])), (g1, .inl (ax 1, 20, .inl (fun j => nI (kd j)))), (g2, .inl (ax 1, 20, .inl (fun j => nI (ow j)))), (g3, .inl (ax 1, 20, .inl (fun j => nI (sb j)))), (g4, .inl (ax 1, 20, .inl (fun j => nI (f1 j)))), (g5, .inl (ax 1, 20, .inl (fun j => nI (f2 j)))), (g6, .inl (ax 2, 20, .inl (fun j => nI (te j)))), (g7, .inl (ax 2, 20, .inl (fun j => nI (kp j)))), (g8, .inl (ax 0, 20, .inl tm)), (g9, .inl (ax 1, 20, .inl (fun j => nI (nm j)))), (ga, .inl (ax 1, 29, .inl (fun j => nI (ck j)))), (gb, .inl (ax 1, 29, .inl (fun j => nI (co j))))]) (ixn [1]) vs1) hP hD [0, 1, 2, 3, 4, 5, 6, 7, 8, 9, 10, 11, 12, 13, 14, 15, 16, 17] (by decide) rfl
      have hex0 : True := trivial
      have hsp0 : 1 ≤ 2 := (by first | assumption | omega)
      exact W.iret (v := 1) hx hb hr (fun t ht hW => ⟨⟨1, ixn [1], rfl, ⟨rfl, hsp0⟩, ⟨vs1, hex0, by rw [ht]; exact hP9, hD9⟩⟩, hS.F ht⟩) hS.2.2 d_Runner_go_64
    · replace c_5 : ¬ sp ≤ i1 := fun hq9 => c_5 ((nI_leI (a := sp) (b := i1) (by first | exact Nat.lt_of_lt_of_le (by assumption) (by decide) | exact Nat.lt_of_le_of_lt (by assumption) (by decide) | omega) (by first | exact Nat.lt_of_lt_of_le (by assumption) (by decide) | exact Nat.lt_of_le_of_lt (by assumption) (by decide) | omega)).mpr hq9)
      refine lv_aload_n hx hb d_Runner_go_14 rfl (lv_at hl1 0 rfl) ?_
      refine lv_aload_n hx hb d_Runner_go_15 rfl (lv_at hl1 1 rfl) ?_
      refine lv_iload_n hx hb d_Runner_go_16 rfl (lv_at hl1 3 rfl) ?_
      refine lv_iload hx hb d_Runner_go_17 (lv_at hl1 4 rfl) ?_
      obtain ⟨hPc, hDc, hFc, hCs⟩ := xw_sub3 (wc := [(e0, .inr (8, [.ref e1])), (e1, .inl (ax 4, 6, .inr (.inl vs1))), (n0, .inr (4, [.ref n1, .ref n2, .ref n3, .int (nI z9)])), (n1, .inl (ax 1, cp, .inl fo)), (n2, .inl (ax 0, cp, .inl fl)), (n3, .inl (ax 0, cp, .inl fr)), (g0, .inr (2, [.ref n0, .ref g1, .ref g2, .ref g3, .ref g4, .ref g5, .ref g6, .ref g7, .ref g8, .ref g9, .ref ga, .ref gb, .int (nI cl), .int (nI ln), .int (nI br), .int (nI lp), .int (nI va)])), (g1, .inl (ax 1, 20, .inl (fun j => nI (kd j)))), (g2, .inl (ax 1, 20, .inl (fun j => nI (ow j)))), (g3, .inl (ax 1, 20, .inl (fun j => nI (sb j)))), (g4, .inl (ax 1, 20, .inl (fun j => nI (f1 j)))), (g5, .inl (ax 1, 20, .inl (fun j => nI (f2 j)))), (g6, .inl (ax 2, 20, .inl (fun j => nI (te j)))), (g7, .inl (ax 2, 20, .inl (fun j => nI (kp j)))), (g8, .inl (ax 0, 20, .inl tm)), (g9, .inl (ax 1, 20, .inl (fun j => nI (nm j)))), (ga, .inl (ax 1, 29, .inl (fun j => nI (ck j)))), (gb, .inl (ax 1, 29, .inl (fun j => nI (co j))))]) hP hD hS hA [0, 1, 2, 3, 4, 5, 6, 7, 8, 9, 10, 11, 12, 13, 14, 15, 16, 17] (by decide) rfl
      have hz := xz_of hN hS
      refine va_calli (va_runV (As := [.ref g0, .int (nI a1), .int (nI et1)]) (rest := []) ⟨hx, hb, hml, hown, hts⟩ (c_E_follow l D ax e0 e1 vs1 n0 n1 n2 n3 cp z9 fo fl fr g0 g1 g2 g3 g4 g5 g6 g7 g8 g9 ga gb cl ln br lp va kd ow sb f1 f2 te kp nm ck co tm a1 et1 H.size hz9 hcp hzz hnv hlf (by first | assumption | omega) (by first | assumption | omega)) (xcV (n := 3) hts wd_996 wd_11 wd_993 wd_995 ps_47 rfl rfl (by decide +kernel) ⟨(show (1300) + 1 ≤ (1310) by omega), (show 8 + (4 + 11) + (27000) ≤ (27100) by omega)⟩) (xpV (ci := 8) (q0 := 0) (As := [.ref g0, .int (nI a1), .int (nI et1)]) hPc hK hz hDc rfl rfl) rfl rfl hl1.1 rfl (lv_room (Nat.le_of_ble_eq_true rfl)) d_Runner_go_19 ⟨Nat.le_of_ble_eq_true rfl, Nat.le_of_ble_eq_true rfl⟩) hS (fun q _ h => hFc q h) hFc (fun r_8 u_6 t H_7 locs ht hvm hw hB hz1 hk1 hS1 => ?_)
      try dsimp only at hw
      obtain ⟨hw, hs_9⟩ := hw
      subst hw
      obtain ⟨x_10, hx_11, hP1, hD1⟩ := hB
      rw [ht] at hP1
      have hjn := xw_join3 (wl := [(e0, .inr (8, [.ref e1])), (e1, .inl (ax 4, 6, .inr (.inl x_10))), (n0, .inr (4, [.ref n1, .ref n2, .ref n3, .int (nI z9)])), (n1, .inl (ax 1, cp, .inl fo)), (n2, .inl (ax 0, cp, .inl fl)), (n3, .inl (ax 0, cp, .inl fr)), (g0, .inr (2, [.ref n0, .ref g1, .ref g2, .ref g3, .ref g4, .ref g5, .ref g6, .ref g7, .ref g8, .ref g9, .ref ga, .ref gb, .int (nI cl), .int (nI ln), .int (nI br), .int (nI lp), .int (nI va)])), (g1, .inl (ax 1, 20, .inl (fun j => nI (kd j)))), (g2, .inl (ax 1, 20, .inl (fun j => nI (ow j)))), (g3, .inl (ax 1, 20, .inl (fun j => nI (sb j)))), (g4, .inl (ax 1, 20, .inl (fun j => nI (f1 j)))), (g5, .inl (ax 1, 20, .inl (fun j => nI (f2 j)))), (g6, .inl (ax 2, 20, .inl (fun j => nI (te j)))), (g7, .inl (ax 2, 20, .inl (fun j => nI (kp j)))), (g8, .inl (ax 0, 20, .inl tm)), (g9, .inl (ax 1, 20, .inl (fun j => nI (nm j)))), (ga, .inl (ax 1, 29, .inl (fun j => nI (ck j)))), (gb, .inl (ax 1, 29, .inl (fun j => nI (co j))))]) hP hD [0, 1, 2, 3, 4, 5, 6, 7, 8, 9, 10, 11, 12, 13, 14, 15, 16, 17] [] hCs (by decide) (by decide) hk1 hFc hP1 hD1 rfl
      clear hP1 hD1
      clear hPc hDc hFc hCs hz hz1 hk1 ht hvm
      clear hP hD hS
      have hS := hS1
      obtain ⟨hP, hD⟩ := hjn
      clear hS1
      rcases hs_9 with h9 | h9 | h9
      · refine W.eq (g2 := F0 m 22 ls [.int (-1)]) (by rw [h9, nIm]) ?_
        refine lv_istore (lv' := [(6, .int (-1)), (0, .ref e0), (1, .ref g0), (2, .int (nI sp)), (3, .int (nI a1)), (4, .int (nI et1)), (5, .int (nI i1))]) hx hb d_Runner_go_22 hl1 (by decide) rfl (fun ls hl2 => ?_)
        clear hl1; have hl1 := hl2; clear hl2
        refine lv_iload hx hb d_Runner_go_24 (lv_at hl1 0 rfl) ?_
        refine lv_iconst (v := (-1)) hx hb d_Runner_go_26 (by decide) ?_
        refine lv_icmp_ne (tgt := 32) hx hb d_Runner_go_27 (by decide) (fun c_12 => ?_) (fun c_12 => ?_)
        · first | exact absurd c_12 (by decide) | exact absurd (by decide) c_12
        refine lv_iconst (v := 0) hx hb d_Runner_go_30 (by decide) ?_
        rw [← hQe]
        obtain ⟨hP9, hD9⟩ := xw_sub2 (wc := (fun (u : Nat → Nat) (xvs : Nat → Int64) => [(e0, .inr (8, [.ref e1])), (e1, .inl (ax 4, 6, .inr (.inl xvs))), (n0, .inr (4, [.ref n1, .ref n2, .ref n3, .int (nI z9)])), (n1, .inl (ax 1, cp, .inl fo)), (n2, .inl (ax 0, cp, .inl fl)), (n3, .inl (ax 0, cp, .inl fr)), (g0, .inr (2, [.ref n0, .ref g1, .ref g2, .ref g3, .ref g4, .ref g5, .ref g6, .ref g7, .ref g8, .ref g9, .ref ga, .ref gb, .int (nI cl), .int (nI ln), .int (nI br), .int (nI lp), .int (nI va)])), (g1, .inl (ax 1, 20, .inl (fun j => nI (kd j)))), (g2, .inl (ax 1, 20, .inl (fun j => nI (ow j)))), (g3, .inl (ax 1, 20, .inl (fun j => nI (sb j)))), (g4, .inl (ax 1, 20, .inl (fun j => nI (f1 j)))), (g5, .inl (ax 1, 20, .inl (fun j => nI (f2 j)))), (g6, .inl (ax 2, 20, .inl (fun j => nI (te j)))), (g7, .inl (ax 2, 20, .inl (fun j => nI (kp j)))), (g8, .inl (ax 0, 20, .inl tm)), (g9, .inl (ax 1, 20, .inl (fun j => nI (nm j)))), (ga, .inl (ax 1, 29, .inl (fun j => nI (ck j)))), (gb, .inl (ax 1, 29, .inl (fun j => nI (co j))))]) (ixn [0]) x_10) hP hD [0, 1, 2, 3, 4, 5, 6, 7, 8, 9, 10, 11, 12, 13, 14, 15, 16, 17] (by decide) rfl
        have hex0 : True := trivial
        have hsp0 : 0 ≤ 2 := (by first | assumption | omega)
        exact W.iret (v := 0) hx hb hr (fun t ht hW => ⟨⟨0, ixn [0], rfl, ⟨rfl, hsp0⟩, ⟨x_10, hex0, by rw [ht]; exact hP9, hD9⟩⟩, hS.F ht⟩) hS.2.2 d_Runner_go_31
      · refine W.eq (g2 := F0 m 22 ls [.int (-2)]) (by rw [h9, nIm2]) ?_
        refine lv_istore (lv' := [(6, .int (-2)), (0, .ref e0), (1, .ref g0), (2, .int (nI sp)), (3, .int (nI a1)), (4, .int (nI et1)), (5, .int (nI i1))]) hx hb d_Runner_go_22 hl1 (by decide) rfl (fun ls hl2 => ?_)
        clear hl1; have hl1 := hl2; clear hl2
        refine lv_iload hx hb d_Runner_go_24 (lv_at hl1 0 rfl) ?_
        refine lv_iconst (v := (-1)) hx hb d_Runner_go_26 (by decide) ?_
        refine lv_icmp_ne (tgt := 32) hx hb d_Runner_go_27 (by decide) (fun c_13 => ?_) (fun c_13 => ?_)
        rotate_left
        · first | exact absurd c_13 (by decide) | exact absurd (by decide) c_13
        refine lv_iload hx hb d_Runner_go_32 (lv_at hl1 0 rfl) ?_
        refine lv_bipush (v := (-2)) hx hb d_Runner_go_34 (by decide) ?_
        refine lv_icmp_ne (tgt := 41) hx hb d_Runner_go_36 (by decide) (fun c_14 => ?_) (fun c_14 => ?_)
        · first | exact absurd c_14 (by decide) | exact absurd (by decide) c_14
        refine lv_iconst (v := 2) hx hb d_Runner_go_39 (by decide) ?_
        rw [← hQe]
        obtain ⟨hP9, hD9⟩ := xw_sub2 (wc := (fun (u : Nat → Nat) (xvs : Nat → Int64) => [(e0, .inr (8, [.ref e1])), (e1, .inl (ax 4, 6, .inr (.inl xvs))), (n0, .inr (4, [.ref n1, .ref n2, .ref n3, .int (nI z9)])), (n1, .inl (ax 1, cp, .inl fo)), (n2, .inl (ax 0, cp, .inl fl)), (n3, .inl (ax 0, cp, .inl fr)), (g0, .inr (2, [.ref n0, .ref g1, .ref g2, .ref g3, .ref g4, .ref g5, .ref g6, .ref g7, .ref g8, .ref g9, .ref ga, .ref gb, .int (nI cl), .int (nI ln), .int (nI br), .int (nI lp), .int (nI va)])), (g1, .inl (ax 1, 20, .inl (fun j => nI (kd j)))), (g2, .inl (ax 1, 20, .inl (fun j => nI (ow j)))), (g3, .inl (ax 1, 20, .inl (fun j => nI (sb j)))), (g4, .inl (ax 1, 20, .inl (fun j => nI (f1 j)))), (g5, .inl (ax 1, 20, .inl (fun j => nI (f2 j)))), (g6, .inl (ax 2, 20, .inl (fun j => nI (te j)))), (g7, .inl (ax 2, 20, .inl (fun j => nI (kp j)))), (g8, .inl (ax 0, 20, .inl tm)), (g9, .inl (ax 1, 20, .inl (fun j => nI (nm j)))), (ga, .inl (ax 1, 29, .inl (fun j => nI (ck j)))), (gb, .inl (ax 1, 29, .inl (fun j => nI (co j))))]) (ixn [2]) x_10) hP hD [0, 1, 2, 3, 4, 5, 6, 7, 8, 9, 10, 11, 12, 13, 14, 15, 16, 17] (by decide) rfl
        have hex0 : True := trivial
        have hsp0 : 2 ≤ 2 := (by first | assumption | omega)
        exact W.iret (v := 2) hx hb hr (fun t ht hW => ⟨⟨2, ixn [2], rfl, ⟨rfl, hsp0⟩, ⟨x_10, hex0, by rw [ht]; exact hP9, hD9⟩⟩, hS.F ht⟩) hS.2.2 d_Runner_go_40
      · have h8 : u_6 0 < 2 ^ 31 := by omega
        refine lv_istore (lv' := [(6, .int (nI (u_6 0))), (0, .ref e0), (1, .ref g0), (2, .int (nI sp)), (3, .int (nI a1)), (4, .int (nI et1)), (5, .int (nI i1))]) hx hb d_Runner_go_22 hl1 (by decide) rfl (fun ls hl2 => ?_)
        clear hl1; have hl1 := hl2; clear hl2
        refine lv_iload hx hb d_Runner_go_24 (lv_at hl1 0 rfl) ?_
        refine lv_iconst (v := (-1)) hx hb d_Runner_go_26 (by decide) ?_
        refine lv_icmp_ne (tgt := 32) hx hb d_Runner_go_27 (by decide) (fun c_15 => ?_) (fun c_15 => ?_)
        rotate_right
        · exact absurd c_15 (nIm1 (by first | assumption | omega))
        refine lv_iload hx hb d_Runner_go_32 (lv_at hl1 0 rfl) ?_
        refine lv_bipush (v := (-2)) hx hb d_Runner_go_34 (by decide) ?_
        refine lv_icmp_ne (tgt := 41) hx hb d_Runner_go_36 (by decide) (fun c_16 => ?_) (fun c_16 => ?_)
        rotate_right
        · exact absurd c_16 (by rw [← nIm2]; exact fun q => by have := (nI_inj32 q (by first | assumption | omega) (by first | assumption | omega)); omega)
        refine lv_iload hx hb d_Runner_go_41 (lv_at hl1 0 rfl) ?_
        refine lv_iload_n hx hb d_Runner_go_43 rfl (lv_at hl1 4 rfl) ?_
        refine lv_icmp_gt (tgt := 51) hx hb d_Runner_go_44 (by decide) (fun c_17 => ?_) (fun c_17 => ?_)
        · replace c_17 : a1 < u_6 0 := (nI_ltI (a := a1) (b := u_6 0) (by first | exact Nat.lt_of_lt_of_le (by assumption) (by decide) | exact Nat.lt_of_le_of_lt (by assumption) (by decide) | omega) (by first | exact Nat.lt_of_lt_of_le (by assumption) (by decide) | exact Nat.lt_of_le_of_lt (by assumption) (by decide) | omega)).mp c_17
          refine lv_iconst (v := 0) hx hb d_Runner_go_51 (by decide) ?_
          refine lv_istore (lv' := [(4, .int 0), (6, .int (nI (u_6 0))), (0, .ref e0), (1, .ref g0), (2, .int (nI sp)), (3, .int (nI a1)), (5, .int (nI i1))]) hx hb d_Runner_go_52 hl1 (by decide) rfl (fun ls hl2 => ?_)
          clear hl1; have hl1 := hl2; clear hl2
          refine lv_iload hx hb d_Runner_go_54 (lv_at hl1 1 rfl) ?_
          refine lv_istore_n (lv' := [(3, .int (nI (u_6 0))), (4, .int 0), (6, .int (nI (u_6 0))), (0, .ref e0), (1, .ref g0), (2, .int (nI sp)), (5, .int (nI i1))]) hx hb d_Runner_go_56 rfl hl1 (by decide) rfl (fun ls hl2 => ?_)
          clear hl1; have hl1 := hl2; clear hl2
          refine lv_iinc (v := nI (i1 + 1)) (lv' := [(5, .int (nI (i1 + 1))), (3, .int (nI (u_6 0))), (4, .int 0), (6, .int (nI (u_6 0))), (0, .ref e0), (1, .ref g0), (2, .int (nI sp))]) hx hb d_Runner_go_57 hl1 (k := 6) rfl (nI_add i1 1) (by decide) rfl (fun ls hl2 => ?_)
          clear hl1; have hl1 := hl2; clear hl2
          refine lv_goto (tgt := 8) hx hb d_Runner_go_60 (by decide) ?_
          exact ih_3 (u_6 0) 0 (i1 + 1) x_10 (by first | assumption | omega) (by first | assumption | omega) (by first | assumption | omega) (by first | assumption | omega) _ _ _ (hP.sub [0, 1, 2, 3, 4, 5, 6, 7, 8, 9, 10, 11, 12, 13, 14, 15, 16, 17] rfl) (hD.sub [0, 1, 2, 3, 4, 5, 6, 7, 8, 9, 10, 11, 12, 13, 14, 15, 16, 17] (by decide) rfl) hS (lv_sub hl1 [4, 5, 6, 1, 2, 0] rfl)
        · replace c_17 : ¬ a1 < u_6 0 := fun hq9 => c_17 ((nI_ltI (a := a1) (b := u_6 0) (by first | exact Nat.lt_of_lt_of_le (by assumption) (by decide) | exact Nat.lt_of_le_of_lt (by assumption) (by decide) | omega) (by first | exact Nat.lt_of_lt_of_le (by assumption) (by decide) | exact Nat.lt_of_le_of_lt (by assumption) (by decide) | omega)).mpr hq9)
          refine lv_iconst (v := 1) hx hb d_Runner_go_47 (by decide) ?_
          refine lv_goto (tgt := 52) hx hb d_Runner_go_48 (by decide) ?_
          refine lv_istore (lv' := [(4, .int 1), (6, .int (nI (u_6 0))), (0, .ref e0), (1, .ref g0), (2, .int (nI sp)), (3, .int (nI a1)), (5, .int (nI i1))]) hx hb d_Runner_go_52 hl1 (by decide) rfl (fun ls hl2 => ?_)
          clear hl1; have hl1 := hl2; clear hl2
          refine lv_iload hx hb d_Runner_go_54 (lv_at hl1 1 rfl) ?_
          refine lv_istore_n (lv' := [(3, .int (nI (u_6 0))), (4, .int 1), (6, .int (nI (u_6 0))), (0, .ref e0), (1, .ref g0), (2, .int (nI sp)), (5, .int (nI i1))]) hx hb d_Runner_go_56 rfl hl1 (by decide) rfl (fun ls hl2 => ?_)
          clear hl1; have hl1 := hl2; clear hl2
          refine lv_iinc (v := nI (i1 + 1)) (lv' := [(5, .int (nI (i1 + 1))), (3, .int (nI (u_6 0))), (4, .int 1), (6, .int (nI (u_6 0))), (0, .ref e0), (1, .ref g0), (2, .int (nI sp))]) hx hb d_Runner_go_57 hl1 (k := 6) rfl (nI_add i1 1) (by decide) rfl (fun ls hl2 => ?_)
          clear hl1; have hl1 := hl2; clear hl2
          refine lv_goto (tgt := 8) hx hb d_Runner_go_60 (by decide) ?_
          exact ih_3 (u_6 0) 1 (i1 + 1) x_10 (by first | assumption | omega) (by first | assumption | omega) (by first | assumption | omega) (by first | assumption | omega) _ _ _ (hP.sub [0, 1, 2, 3, 4, 5, 6, 7, 8, 9, 10, 11, 12, 13, 14, 15, 16, 17] rfl) (hD.sub [0, 1, 2, 3, 4, 5, 6, 7, 8, 9, 10, 11, 12, 13, 14, 15, 16, 17] (by decide) rfl) hS (lv_sub hl1 [4, 5, 6, 1, 2, 0] rfl)
