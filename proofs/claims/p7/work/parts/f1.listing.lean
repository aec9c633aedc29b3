theorem wd_271 : ((Jvm.Cond.fieldLink "TripleDesk$Listing" (18 : Nat) "TripleDesk$Listing" "kind" "[B")) ∈ lw_gd := lw_gd_in (i := 271) (by decide +kernel) rfl
theorem wd_274 : ((Jvm.Cond.fieldLink "TripleDesk$Listing" (22 : Nat) "TripleDesk$Listing" "owner" "[B")) ∈ lw_gd := lw_gd_in (i := 274) (by decide +kernel) rfl
theorem wd_275 : ((Jvm.Cond.fieldLink "TripleDesk$Listing" (25 : Nat) "TripleDesk$Listing" "sibling" "[B")) ∈ lw_gd := lw_gd_in (i := 275) (by decide +kernel) rfl
theorem wd_277 : ((Jvm.Cond.fieldLink "TripleDesk$Listing" (28 : Nat) "TripleDesk$Listing" "first" "[B")) ∈ lw_gd := lw_gd_in (i := 277) (by decide +kernel) rfl
theorem wd_281 : ((Jvm.Cond.fieldLink "TripleDesk$Listing" (31 : Nat) "TripleDesk$Listing" "second" "[B")) ∈ lw_gd := lw_gd_in (i := 281) (by decide +kernel) rfl
theorem wd_292 : ((Jvm.Cond.fieldLink "TripleDesk$Listing" (41 : Nat) "TripleDesk$Listing" "term" "[I")) ∈ lw_gd := lw_gd_in (i := 292) (by decide +kernel) rfl
theorem wd_296 : ((Jvm.Cond.fieldLink "TripleDesk$Listing" (45 : Nat) "TripleDesk$Listing" "name" "[B")) ∈ lw_gd := lw_gd_in (i := 296) (by decide +kernel) rfl
theorem wd_300 : ((Jvm.Cond.fieldLink "TripleDesk$Listing" (48 : Nat) "TripleDesk$Listing" "claimKind" "[B")) ∈ lw_gd := lw_gd_in (i := 300) (by decide +kernel) rfl
theorem wd_303 : ((Jvm.Cond.fieldLink "TripleDesk$Listing" (51 : Nat) "TripleDesk$Listing" "claimOf" "[B")) ∈ lw_gd := lw_gd_in (i := 303) (by decide +kernel) rfl
theorem wd_306 : ((Jvm.Cond.fieldLink "TripleDesk$Listing" (70 : Nat) "TripleDesk$Listing" "claims" "I")) ∈ lw_gd := lw_gd_in (i := 306) (by decide +kernel) rfl
theorem wd_308 : ((Jvm.Cond.fieldLink "TripleDesk$Listing" (57 : Nat) "TripleDesk$Listing" "size" "I")) ∈ lw_gd := lw_gd_in (i := 308) (by decide +kernel) rfl
theorem wd_309 : ((Jvm.Cond.fieldLink "TripleDesk$Listing" (61 : Nat) "TripleDesk$Listing" "branches" "I")) ∈ lw_gd := lw_gd_in (i := 309) (by decide +kernel) rfl
theorem wd_310 : ((Jvm.Cond.fieldLink "TripleDesk$Listing" (64 : Nat) "TripleDesk$Listing" "loops" "I")) ∈ lw_gd := lw_gd_in (i := 310) (by decide +kernel) rfl
theorem wd_311 : ((Jvm.Cond.fieldLink "TripleDesk$Listing" (67 : Nat) "TripleDesk$Listing" "variants" "I")) ∈ lw_gd := lw_gd_in (i := 311) (by decide +kernel) rfl
/-- it is not admitted -/
def adN (q ln br lp : Nat) : Prop := ¬ (q = 2 ∨ q = 7 ∨ q = 17 ∨ q = 123 ∨ q = 8 ∨ q = 12) ∨ ln = 20 ∨ (q = 8 ∧ br = 4) ∨ (q = 12 ∧ lp = 4)
theorem smn.lt {a : Nat} (h : smn a) (q : ¬ a = 4294967295) : a < 128 := Or.resolve_right h q
theorem smk.lt {a : Nat} (h : smk a) (q : ¬ a = 4294967295) : a < 32768 := Or.resolve_right h q
theorem nb_i2bs {a : Nat} (h : smn a) : (nI a).toInt8.toInt32 = nI a := by
  rcases h with h | h
  · exact nb_i2b h
  · subst h; decide
theorem nb_i2ss {a : Nat} (h : smk a) : (nI a).toInt16.toInt32 = nI a := by
  rcases h with h | h
  · exact nb_i2s h
  · subst h; decide
theorem xf_supbs (st : Nat → Nat) (i v : Nat) (h : smn v) : upd (fun j => nI (st j)) i (vp_nar .byte (nI v)) = (fun j => nI (sup st i v j)) := by
  rw [show vp_nar .byte (nI v) = nI v from nb_i2bs h]; exact xf_sup st i v
theorem xf_supss (st : Nat → Nat) (i v : Nat) (h : smk v) : upd (fun j => nI (st j)) i (vp_nar .short (nI v)) = (fun j => nI (sup st i v j)) := by
  rw [show vp_nar .short (nI v) = nI v from nb_i2ss h]; exact xf_sup st i v
theorem xf_supm (st : Nat → Nat) (i : Nat) : upd (fun j => nI (st j)) i (-1) = (fun j => nI (sup st i 4294967295 j)) := xf_sup st i 4294967295
def ifq (a b : Nat) : Nat := if a = b then 1 else 0
theorem ifq_y {a b : Nat} (h : a = b) : ifq a b = 1 := if_pos h
theorem ifq_n {a b : Nat} (h : ¬ a = b) : ifq a b = 0 := if_neg h
/-- which statements there may be -/
def knd (q : Nat) : Prop := q = 2 ∨ q = 7 ∨ q = 8 ∨ q = 12 ∨ q = 17 ∨ q = 123
/-- a statement's place: its owner, its end (100 while it is read), what follows it -/
def lsb (n : Nat) (kd ow sb en : Nat → Nat) (i : Nat) : Prop := knd (kd i) ∧ (ow i = 4294967295 ∨ (ow i < i ∧ en i ≤ en (ow i))) ∧ (i < en i ∧ (en i ≤ n ∨ en i = 100)) ∧ (sb i = 4294967295 ∨ (en i ≤ sb i ∧ sb i < n))
def lsp (n : Nat) (kd ow sb en : Nat → Nat) : Prop := ∀ i, i < n → lsb n kd ow sb en i
abbrev b_Listing_admits : ByteArray := prog_4_method_3_code
def y_Listing_admits : MethodName := ⟨R_Listing, "admits", "(I)Z"⟩
theorem d_Listing_admits_0 : decode b_Listing_admits 0 = .ok (.aload_n 0, 1) := by decide +kernel
theorem d_Listing_admits_1 : decode b_Listing_admits 1 = .ok (.getfield 57, 3) := by decide +kernel
theorem d_Listing_admits_4 : decode b_Listing_admits 4 = .ok (.bipush 20, 2) := by decide +kernel
theorem d_Listing_admits_6 : decode b_Listing_admits 6 = .ok (.if_icmp .ne 5, 3) := by decide +kernel
theorem d_Listing_admits_9 : decode b_Listing_admits 9 = .ok (.iconst 0, 1) := by decide +kernel
theorem d_Listing_admits_10 : decode b_Listing_admits 10 = .ok (.ireturn, 1) := by decide +kernel
theorem d_Listing_admits_11 : decode b_Listing_admits 11 = .ok (.iload_n 1, 1) := by decide +kernel
theorem d_Listing_admits_12 : decode b_Listing_admits 12 = .ok (.lookupswitch 90 #[(2, 60), (7, 60), (8, 62), (12, 76), (17, 60), (123, 60)], 60) := by decide +kernel
theorem d_Listing_admits_72 : decode b_Listing_admits 72 = .ok (.iconst 1, 1) := by decide +kernel
theorem d_Listing_admits_73 : decode b_Listing_admits 73 = .ok (.ireturn, 1) := by decide +kernel
theorem d_Listing_admits_74 : decode b_Listing_admits 74 = .ok (.aload_n 0, 1) := by decide +kernel
theorem d_Listing_admits_75 : decode b_Listing_admits 75 = .ok (.getfield 61, 3) := by decide +kernel
theorem d_Listing_admits_78 : decode b_Listing_admits 78 = .ok (.iconst 4, 1) := by decide +kernel
theorem d_Listing_admits_79 : decode b_Listing_admits 79 = .ok (.if_icmp .ge 7, 3) := by decide +kernel
theorem d_Listing_admits_82 : decode b_Listing_admits 82 = .ok (.iconst 1, 1) := by decide +kernel
theorem d_Listing_admits_83 : decode b_Listing_admits 83 = .ok (.goto 4, 3) := by decide +kernel
theorem d_Listing_admits_86 : decode b_Listing_admits 86 = .ok (.iconst 0, 1) := by decide +kernel
theorem d_Listing_admits_87 : decode b_Listing_admits 87 = .ok (.ireturn, 1) := by decide +kernel
theorem d_Listing_admits_88 : decode b_Listing_admits 88 = .ok (.aload_n 0, 1) := by decide +kernel
theorem d_Listing_admits_89 : decode b_Listing_admits 89 = .ok (.getfield 64, 3) := by decide +kernel
theorem d_Listing_admits_92 : decode b_Listing_admits 92 = .ok (.iconst 4, 1) := by decide +kernel
theorem d_Listing_admits_93 : decode b_Listing_admits 93 = .ok (.if_icmp .ge 7, 3) := by decide +kernel
theorem d_Listing_admits_96 : decode b_Listing_admits 96 = .ok (.iconst 1, 1) := by decide +kernel
theorem d_Listing_admits_97 : decode b_Listing_admits 97 = .ok (.goto 4, 3) := by decide +kernel
theorem d_Listing_admits_100 : decode b_Listing_admits 100 = .ok (.iconst 0, 1) := by decide +kernel
theorem d_Listing_admits_101 : decode b_Listing_admits 101 = .ok (.ireturn, 1) := by decide +kernel
theorem d_Listing_admits_102 : decode b_Listing_admits 102 = .ok (.iconst 0, 1) := by decide +kernel
theorem d_Listing_admits_103 : decode b_Listing_admits 103 = .ok (.ireturn, 1) := by decide +kernel
set_option maxHeartbeats 40000000 in
set_option maxRecDepth 100000 in
theorem c_L_admits (l : Launch) (D : va_G) (ax : Nat → ClassId) (g0 g1 g2 g3 g4 g5 g6 g7 g8 g9 ga gb cl ln br lp va : Nat) (kd ow sb f1 f2 te kp nm ck co : Nat → Nat) (tm : Nat → Int32) (n0 : Nat) (q1 : Nat) (sz : Nat) (hq1 : q1 < 128) (hln : ln ≤ 20) (hbr : br ≤ 4) (hlp : lp ≤ 4) : Met l y_Listing_admits (xws (.code y_Listing_admits b_Listing_admits 2 (some .boolean))) ({ frames := 10, cells := 0, slots := 0, locals := 400 }) (va_Pc [.ref g0, .int (nI q1)] (xo D ax [(g0, .inr (2, [.ref n0, .ref g1, .ref g2, .ref g3, .ref g4, .ref g5, .ref g6, .ref g7, .ref g8, .ref g9, .ref ga, .ref gb, .int (nI cl), .int (nI ln), .int (nI br), .int (nI lp), .int (nI va)])), (g1, .inl (ax 1, 20, .inl (fun j => nI (kd j)))), (g2, .inl (ax 1, 20, .inl (fun j => nI (ow j)))), (g3, .inl (ax 1, 20, .inl (fun j => nI (sb j)))), (g4, .inl (ax 1, 20, .inl (fun j => nI (f1 j)))), (g5, .inl (ax 1, 20, .inl (fun j => nI (f2 j)))), (g6, .inl (ax 2, 20, .inl (fun j => nI (te j)))), (g7, .inl (ax 2, 20, .inl (fun j => nI (kp j)))), (g8, .inl (ax 0, 20, .inl tm)), (g9, .inl (ax 1, 20, .inl (fun j => nI (nm j)))), (ga, .inl (ax 1, 29, .inl (fun j => nI (ck j)))), (gb, .inl (ax 1, 29, .inl (fun j => nI (co j))))] sz)) ((va_Qi (fun (r : Int32) (u : Nat → Nat) => r = nI (u 0) ∧ (u 0 ≤ 1 ∧ imp1 (u 0) (knd q1 ∧ ln < 20 ∧ (q1 = 8 → br < 4) ∧ (q1 = 12 → lp < 4)) ∧ imp0 (u 0) (adN q1 ln br lp))) (xb D (va_A [(g0, .inr (2, [.ref n0, .ref g1, .ref g2, .ref g3, .ref g4, .ref g5, .ref g6, .ref g7, .ref g8, .ref g9, .ref ga, .ref gb, .int (nI cl), .int (nI ln), .int (nI br), .int (nI lp), .int (nI va)])), (g1, .inl (ax 1, 20, .inl (fun j => nI (kd j)))), (g2, .inl (ax 1, 20, .inl (fun j => nI (ow j)))), (g3, .inl (ax 1, 20, .inl (fun j => nI (sb j)))), (g4, .inl (ax 1, 20, .inl (fun j => nI (f1 j)))), (g5, .inl (ax 1, 20, .inl (fun j => nI (f2 j)))), (g6, .inl (ax 2, 20, .inl (fun j => nI (te j)))), (g7, .inl (ax 2, 20, .inl (fun j => nI (kp j)))), (g8, .inl (ax 0, 20, .inl tm)), (g9, .inl (ax 1, 20, .inl (fun j => nI (nm j)))), (ga, .inl (ax 1, 29, .inl (fun j => nI (ck j)))), (gb, .inl (ax 1, 29, .inl (fun j => nI (co j))))] sz) (fun u => [(g0, .inr (2, [.ref n0, .ref g1, .ref g2, .ref g3, .ref g4, .ref g5, .ref g6, .ref g7, .ref g8, .ref g9, .ref ga, .ref gb, .int (nI cl), .int (nI ln), .int (nI br), .int (nI lp), .int (nI va)])), (g1, .inl (ax 1, 20, .inl (fun j => nI (kd j)))), (g2, .inl (ax 1, 20, .inl (fun j => nI (ow j)))), (g3, .inl (ax 1, 20, .inl (fun j => nI (sb j)))), (g4, .inl (ax 1, 20, .inl (fun j => nI (f1 j)))), (g5, .inl (ax 1, 20, .inl (fun j => nI (f2 j)))), (g6, .inl (ax 2, 20, .inl (fun j => nI (te j)))), (g7, .inl (ax 2, 20, .inl (fun j => nI (kp j)))), (g8, .inl (ax 0, 20, .inl tm)), (g9, .inl (ax 1, 20, .inl (fun j => nI (nm j)))), (ga, .inl (ax 1, 29, .inl (fun j => nI (ck j)))), (gb, .inl (ax 1, 29, .inl (fun j => nI (co j))))])) (va_A [(g0, .inr (2, [.ref n0, .ref g1, .ref g2, .ref g3, .ref g4, .ref g5, .ref g6, .ref g7, .ref g8, .ref g9, .ref ga, .ref gb, .int (nI cl), .int (nI ln), .int (nI br), .int (nI lp), .int (nI va)])), (g1, .inl (ax 1, 20, .inl (fun j => nI (kd j)))), (g2, .inl (ax 1, 20, .inl (fun j => nI (ow j)))), (g3, .inl (ax 1, 20, .inl (fun j => nI (sb j)))), (g4, .inl (ax 1, 20, .inl (fun j => nI (f1 j)))), (g5, .inl (ax 1, 20, .inl (fun j => nI (f2 j)))), (g6, .inl (ax 2, 20, .inl (fun j => nI (te j)))), (g7, .inl (ax 2, 20, .inl (fun j => nI (kp j)))), (g8, .inl (ax 0, 20, .inl tm)), (g9, .inl (ax 1, 20, .inl (fun j => nI (nm j)))), (ga, .inl (ax 1, 29, .inl (fun j => nI (ck j)))), (gb, .inl (ax 1, 29, .inl (fun j => nI (co j))))] sz))) 0 0 (va_A [(g0, .inr (2, [.ref n0, .ref g1, .ref g2, .ref g3, .ref g4, .ref g5, .ref g6, .ref g7, .ref g8, .ref g9, .ref ga, .ref gb, .int (nI cl), .int (nI ln), .int (nI br), .int (nI lp), .int (nI va)])), (g1, .inl (ax 1, 20, .inl (fun j => nI (kd j)))), (g2, .inl (ax 1, 20, .inl (fun j => nI (ow j)))), (g3, .inl (ax 1, 20, .inl (fun j => nI (sb j)))), (g4, .inl (ax 1, 20, .inl (fun j => nI (f1 j)))), (g5, .inl (ax 1, 20, .inl (fun j => nI (f2 j)))), (g6, .inl (ax 2, 20, .inl (fun j => nI (te j)))), (g7, .inl (ax 2, 20, .inl (fun j => nI (kp j)))), (g8, .inl (ax 0, 20, .inl tm)), (g9, .inl (ax 1, 20, .inl (fun j => nI (nm j)))), (ga, .inl (ax 1, 29, .inl (fun j => nI (ck j)))), (gb, .inl (ax 1, 29, .inl (fun j => nI (co j))))] sz) := by
  refine Met.ofW (cc := b_Listing_admits) (maxL := 2) (ret := (some .boolean)) (by decide) rfl ?_
  intro p e s m args below meth c s₁ B hml hv
  obtain ⟨rfl, hsz, hP, hK, hD0⟩ := hv
  have hx := B.exec
  have hb := B.bytes
  have hr := B.returns
  have hts := xw_hts B.pre
  have hown : s.vm.findClass R_Listing = some m.cls := findClass_of_methodNamed B.named
  have hlocks := B.notSynchronized
  subst hsz
  have hD := hD0.self (sz := s.heap.size)
  have hN := xz_entry hP
  generalize hAe : va_A [(g0, .inr (2, [.ref n0, .ref g1, .ref g2, .ref g3, .ref g4, .ref g5, .ref g6, .ref g7, .ref g8, .ref g9, .ref ga, .ref gb, .int (nI cl), .int (nI ln), .int (nI br), .int (nI lp), .int (nI va)])), (g1, .inl (ax 1, 20, .inl (fun j => nI (kd j)))), (g2, .inl (ax 1, 20, .inl (fun j => nI (ow j)))), (g3, .inl (ax 1, 20, .inl (fun j => nI (sb j)))), (g4, .inl (ax 1, 20, .inl (fun j => nI (f1 j)))), (g5, .inl (ax 1, 20, .inl (fun j => nI (f2 j)))), (g6, .inl (ax 2, 20, .inl (fun j => nI (te j)))), (g7, .inl (ax 2, 20, .inl (fun j => nI (kp j)))), (g8, .inl (ax 0, 20, .inl tm)), (g9, .inl (ax 1, 20, .inl (fun j => nI (nm j)))), (ga, .inl (ax 1, 29, .inl (fun j => nI (ck j)))), (gb, .inl (ax 1, 29, .inl (fun j => nI (co j))))] s.heap.size = A at hD hN ⊢
  have hA : ∀ q : Nat, s.heap.size ≤ q → A q := fun q h => by rw [← hAe]; exact Or.inr h
  have hS : va_S A s.heap s.heap [] := va_S.rf
  have hl0 := lv_entry ([.ref g0, .int (nI q1)]) (n := 2) (Nat.le_of_ble_eq_true rfl)
  rw [lg_entry_eq]
  generalize (lg_sl ([.ref g0, .int (nI q1)]) ++ List.replicate (2 - (lg_sl ([.ref g0, .int (nI q1)])).length) Slot.unset).toArray = ls at hl0 ⊢
  have hl1 : lv_has ls 2 [(0, .ref g0), (1, .int (nI q1))] := hl0
  refine xw_gen (fun Z9 hQe => ?_)
  refine lv_aload_n hx hb d_Listing_admits_0 rfl (lv_at hl1 0 rfl) ?_
  refine va_get (D := D) (ci := 2) (v := .int (nI ln)) (C := R_Listing) (T := F_Listing) (N := 17) hx hb hts i_Listing hown hK.1 hP 0 rfl rfl 13 (by decide) (hts _ wd_308) (fun _ h9 => h9) rfl d_Listing_admits_1 ?_
  refine lv_bipush (v := 20) hx hb d_Listing_admits_4 (by decide) ?_
  refine lv_icmp_ne (tgt := 11) hx hb d_Listing_admits_6 (by decide) (fun c_1 => ?_) (fun c_1 => ?_)
  · replace c_1 : ¬ ln = 20 := fun hq9 => c_1 ((nI_eq (a := ln) (b := 20) (by first | exact Nat.lt_of_lt_of_le (by assumption) (by decide) | exact Nat.lt_of_le_of_lt (by assumption) (by decide) | omega) (by decide)).mpr hq9)
    refine lv_iload_n hx hb d_Listing_admits_11 rfl (lv_at hl1 1 rfl) ?_
    by_cases hw_2 : q1 = 2
    · refine W.eq (g2 := F0 m 12 ls [.int 2]) (by rw [hw_2]; rfl) ?_
      refine lv_lookup (off := 60) (tgt := 72) hx hb d_Listing_admits_12 (by decide) (by decide) (by decide) ?_
      refine lv_iconst (v := 1) hx hb d_Listing_admits_72 (by decide) ?_
      rw [← hQe]
      obtain ⟨hP9, hD9⟩ := xw_sub2 (wc := (fun u : Nat → Nat => [(g0, .inr (2, [.ref n0, .ref g1, .ref g2, .ref g3, .ref g4, .ref g5, .ref g6, .ref g7, .ref g8, .ref g9, .ref ga, .ref gb, .int (nI cl), .int (nI ln), .int (nI br), .int (nI lp), .int (nI va)])), (g1, .inl (ax 1, 20, .inl (fun j => nI (kd j)))), (g2, .inl (ax 1, 20, .inl (fun j => nI (ow j)))), (g3, .inl (ax 1, 20, .inl (fun j => nI (sb j)))), (g4, .inl (ax 1, 20, .inl (fun j => nI (f1 j)))), (g5, .inl (ax 1, 20, .inl (fun j => nI (f2 j)))), (g6, .inl (ax 2, 20, .inl (fun j => nI (te j)))), (g7, .inl (ax 2, 20, .inl (fun j => nI (kp j)))), (g8, .inl (ax 0, 20, .inl tm)), (g9, .inl (ax 1, 20, .inl (fun j => nI (nm j)))), (ga, .inl (ax 1, 29, .inl (fun j => nI (ck j)))), (gb, .inl (ax 1, 29, .inl (fun j => nI (co j))))]) (ixn [1])) hP hD [0, 1, 2, 3, 4, 5, 6, 7, 8, 9, 10, 11] (by decide) rfl
      have hsp0 : 1 ≤ 1 := (by first | assumption | omega)
      have hsp1 : imp1 (1) (knd q1 ∧ ln < 20 ∧ (q1 = 8 → br < 4) ∧ (q1 = 12 → lp < 4)) := (Or.inr ⟨by unfold knd; omega, by omega, fun q => by omega, fun q => by omega⟩)
      have hsp2 : imp0 (1) (adN q1 ln br lp) := (Or.inl rfl)
      exact W.zret (v := 1) hx hb hr rfl (fun t ht hW => ⟨⟨1, ixn [1], rfl, ⟨rfl, ⟨hsp0, hsp1, hsp2⟩⟩, ⟨by rw [ht]; exact hP9, hD9⟩⟩, hS.F ht⟩) hS.2.2 d_Listing_admits_73
    by_cases hw_3 : q1 = 7
    · refine W.eq (g2 := F0 m 12 ls [.int 7]) (by rw [hw_3]; rfl) ?_
      refine lv_lookup (off := 60) (tgt := 72) hx hb d_Listing_admits_12 (by decide) (by decide) (by decide) ?_
      refine lv_iconst (v := 1) hx hb d_Listing_admits_72 (by decide) ?_
      rw [← hQe]
      obtain ⟨hP9, hD9⟩ := xw_sub2 (wc := (fun u : Nat → Nat => [(g0, .inr (2, [.ref n0, .ref g1, .ref g2, .ref g3, .ref g4, .ref g5, .ref g6, .ref g7, .ref g8, .ref g9, .ref ga, .ref gb, .int (nI cl), .int (nI ln), .int (nI br), .int (nI lp), .int (nI va)])), (g1, .inl (ax 1, 20, .inl (fun j => nI (kd j)))), (g2, .inl (ax 1, 20, .inl (fun j => nI (ow j)))), (g3, .inl (ax 1, 20, .inl (fun j => nI (sb j)))), (g4, .inl (ax 1, 20, .inl (fun j => nI (f1 j)))), (g5, .inl (ax 1, 20, .inl (fun j => nI (f2 j)))), (g6, .inl (ax 2, 20, .inl (fun j => nI (te j)))), (g7, .inl (ax 2, 20, .inl (fun j => nI (kp j)))), (g8, .inl (ax 0, 20, .inl tm)), (g9, .inl (ax 1, 20, .inl (fun j => nI (nm j)))), (ga, .inl (ax 1, 29, .inl (fun j => nI (ck j)))), (gb, .inl (ax 1, 29, .inl (fun j => nI (co j))))]) (ixn [1])) hP hD [0, 1, 2, 3, 4, 5, 6, 7, 8, 9, 10, 11] (by decide) rfl
      have hsp0 : 1 ≤ 1 := (by first | assumption | omega)
      have hsp1 : imp1 (1) (knd q1 ∧ ln < 20 ∧ (q1 = 8 → br < 4) ∧ (q1 = 12 → lp < 4)) := (Or.inr ⟨by unfold knd; omega, by omega, fun q => by omega, fun q => by omega⟩)
      have hsp2 : imp0 (1) (adN q1 ln br lp) := (Or.inl rfl)
      exact W.zret (v := 1) hx hb hr rfl (fun t ht hW => ⟨⟨1, ixn [1], rfl, ⟨rfl, ⟨hsp0, hsp1, hsp2⟩⟩, ⟨by rw [ht]; exact hP9, hD9⟩⟩, hS.F ht⟩) hS.2.2 d_Listing_admits_73
    by_cases hw_4 : q1 = 8
    · refine W.eq (g2 := F0 m 12 ls [.int 8]) (by rw [hw_4]; rfl) ?_
      refine lv_lookup (off := 62) (tgt := 74) hx hb d_Listing_admits_12 (by decide) (by decide) (by decide) ?_
      refine lv_aload_n hx hb d_Listing_admits_74 rfl (lv_at hl1 0 rfl) ?_
      refine va_get (D := D) (ci := 2) (v := .int (nI br)) (C := R_Listing) (T := F_Listing) (N := 17) hx hb hts i_Listing hown hK.1 hP 0 rfl rfl 14 (by decide) (hts _ wd_309) (fun _ h9 => h9) rfl d_Listing_admits_75 ?_
      refine lv_iconst (v := 4) hx hb d_Listing_admits_78 (by decide) ?_
      refine lv_icmp_ge (tgt := 86) hx hb d_Listing_admits_79 (by decide) (fun c_5 => ?_) (fun c_5 => ?_)
      · replace c_5 : 4 ≤ br := (nI_leI (a := 4) (b := br) (by decide) (by first | exact Nat.lt_of_lt_of_le (by assumption) (by decide) | exact Nat.lt_of_le_of_lt (by assumption) (by decide) | omega)).mp c_5
        refine lv_iconst (v := 0) hx hb d_Listing_admits_86 (by decide) ?_
        rw [← hQe]
        obtain ⟨hP9, hD9⟩ := xw_sub2 (wc := (fun u : Nat → Nat => [(g0, .inr (2, [.ref n0, .ref g1, .ref g2, .ref g3, .ref g4, .ref g5, .ref g6, .ref g7, .ref g8, .ref g9, .ref ga, .ref gb, .int (nI cl), .int (nI ln), .int (nI br), .int (nI lp), .int (nI va)])), (g1, .inl (ax 1, 20, .inl (fun j => nI (kd j)))), (g2, .inl (ax 1, 20, .inl (fun j => nI (ow j)))), (g3, .inl (ax 1, 20, .inl (fun j => nI (sb j)))), (g4, .inl (ax 1, 20, .inl (fun j => nI (f1 j)))), (g5, .inl (ax 1, 20, .inl (fun j => nI (f2 j)))), (g6, .inl (ax 2, 20, .inl (fun j => nI (te j)))), (g7, .inl (ax 2, 20, .inl (fun j => nI (kp j)))), (g8, .inl (ax 0, 20, .inl tm)), (g9, .inl (ax 1, 20, .inl (fun j => nI (nm j)))), (ga, .inl (ax 1, 29, .inl (fun j => nI (ck j)))), (gb, .inl (ax 1, 29, .inl (fun j => nI (co j))))]) (ixn [0])) hP hD [0, 1, 2, 3, 4, 5, 6, 7, 8, 9, 10, 11] (by decide) rfl
        have hsp0 : 0 ≤ 1 := (by first | assumption | omega)
        have hsp1 : imp1 (0) (knd q1 ∧ ln < 20 ∧ (q1 = 8 → br < 4) ∧ (q1 = 12 → lp < 4)) := (Or.inl rfl)
        have hsp2 : imp0 (0) (adN q1 ln br lp) := (Or.inr (by unfold adN; omega))
        exact W.zret (v := 0) hx hb hr rfl (fun t ht hW => ⟨⟨0, ixn [0], rfl, ⟨rfl, ⟨hsp0, hsp1, hsp2⟩⟩, ⟨by rw [ht]; exact hP9, hD9⟩⟩, hS.F ht⟩) hS.2.2 d_Listing_admits_87
      · replace c_5 : ¬ 4 ≤ br := fun hq9 => c_5 ((nI_leI (a := 4) (b := br) (by decide) (by first | exact Nat.lt_of_lt_of_le (by assumption) (by decide) | exact Nat.lt_of_le_of_lt (by assumption) (by decide) | omega)).mpr hq9)
        refine lv_iconst (v := 1) hx hb d_Listing_admits_82 (by decide) ?_
        refine lv_goto (tgt := 87) hx hb d_Listing_admits_83 (by decide) ?_
        rw [← hQe]
        obtain ⟨hP9, hD9⟩ := xw_sub2 (wc := (fun u : Nat → Nat => [(g0, .inr (2, [.ref n0, .ref g1, .ref g2, .ref g3, .ref g4, .ref g5, .ref g6, .ref g7, .ref g8, .ref g9, .ref ga, .ref gb, .int (nI cl), .int (nI ln), .int (nI br), .int (nI lp), .int (nI va)])), (g1, .inl (ax 1, 20, .inl (fun j => nI (kd j)))), (g2, .inl (ax 1, 20, .inl (fun j => nI (ow j)))), (g3, .inl (ax 1, 20, .inl (fun j => nI (sb j)))), (g4, .inl (ax 1, 20, .inl (fun j => nI (f1 j)))), (g5, .inl (ax 1, 20, .inl (fun j => nI (f2 j)))), (g6, .inl (ax 2, 20, .inl (fun j => nI (te j)))), (g7, .inl (ax 2, 20, .inl (fun j => nI (kp j)))), (g8, .inl (ax 0, 20, .inl tm)), (g9, .inl (ax 1, 20, .inl (fun j => nI (nm j)))), (ga, .inl (ax 1, 29, .inl (fun j => nI (ck j)))), (gb, .inl (ax 1, 29, .inl (fun j => nI (co j))))]) (ixn [1])) hP hD [0, 1, 2, 3, 4, 5, 6, 7, 8, 9, 10, 11] (by decide) rfl
        have hsp0 : 1 ≤ 1 := (by first | assumption | omega)
        have hsp1 : imp1 (1) (knd q1 ∧ ln < 20 ∧ (q1 = 8 → br < 4) ∧ (q1 = 12 → lp < 4)) := (Or.inr ⟨by unfold knd; omega, by omega, fun q => by omega, fun q => by omega⟩)
        have hsp2 : imp0 (1) (adN q1 ln br lp) := (Or.inl rfl)
        exact W.zret (v := 1) hx hb hr rfl (fun t ht hW => ⟨⟨1, ixn [1], rfl, ⟨rfl, ⟨hsp0, hsp1, hsp2⟩⟩, ⟨by rw [ht]; exact hP9, hD9⟩⟩, hS.F ht⟩) hS.2.2 d_Listing_admits_87
    by_cases hw_6 : q1 = 12
    · refine W.eq (g2 := F0 m 12 ls [.int 12]) (by rw [hw_6]; rfl) ?_
      refine lv_lookup (off := 76) (tgt := 88) hx hb d_Listing_admits_12 (by decide) (by decide) (by decide) ?_
      refine lv_aload_n hx hb d_Listing_admits_88 rfl (lv_at hl1 0 rfl) ?_
      refine va_get (D := D) (ci := 2) (v := .int (nI lp)) (C := R_Listing) (T := F_Listing) (N := 17) hx hb hts i_Listing hown hK.1 hP 0 rfl rfl 15 (by decide) (hts _ wd_310) (fun _ h9 => h9) rfl d_Listing_admits_89 ?_
      refine lv_iconst (v := 4) hx hb d_Listing_admits_92 (by decide) ?_
      refine lv_icmp_ge (tgt := 100) hx hb d_Listing_admits_93 (by decide) (fun c_7 => ?_) (fun c_7 => ?_)
      · replace c_7 : 4 ≤ lp := (nI_leI (a := 4) (b := lp) (by decide) (by first | exact Nat.lt_of_lt_of_le (by assumption) (by decide) | exact Nat.lt_of_le_of_lt (by assumption) (by decide) | omega)).mp c_7
        refine lv_iconst (v := 0) hx hb d_Listing_admits_100 (by decide) ?_
        rw [← hQe]
        obtain ⟨hP9, hD9⟩ := xw_sub2 (wc := (fun u : Nat → Nat => [(g0, .inr (2, [.ref n0, .ref g1, .ref g2, .ref g3, .ref g4, .ref g5, .ref g6, .ref g7, .ref g8, .ref g9, .ref ga, .ref gb, .int (nI cl), .int (nI ln), .int (nI br), .int (nI lp), .int (nI va)])), (g1, .inl (ax 1, 20, .inl (fun j => nI (kd j)))), (g2, .inl (ax 1, 20, .inl (fun j => nI (ow j)))), (g3, .inl (ax 1, 20, .inl (fun j => nI (sb j)))), (g4, .inl (ax 1, 20, .inl (fun j => nI (f1 j)))), (g5, .inl (ax 1, 20, .inl (fun j => nI (f2 j)))), (g6, .inl (ax 2, 20, .inl (fun j => nI (te j)))), (g7, .inl (ax 2, 20, .inl (fun j => nI (kp j)))), (g8, .inl (ax 0, 20, .inl tm)), (g9, .inl (ax 1, 20, .inl (fun j => nI (nm j)))), (ga, .inl (ax 1, 29, .inl (fun j => nI (ck j)))), (gb, .inl (ax 1, 29, .inl (fun j => nI (co j))))]) (ixn [0])) hP hD [0, 1, 2, 3, 4, 5, 6, 7, 8, 9, 10, 11] (by decide) rfl
        have hsp0 : 0 ≤ 1 := (by first | assumption | omega)
        have hsp1 : imp1 (0) (knd q1 ∧ ln < 20 ∧ (q1 = 8 → br < 4) ∧ (q1 = 12 → lp < 4)) := (Or.inl rfl)
        have hsp2 : imp0 (0) (adN q1 ln br lp) := (Or.inr (by unfold adN; omega))
        exact W.zret (v := 0) hx hb hr rfl (fun t ht hW => ⟨⟨0, ixn [0], rfl, ⟨rfl, ⟨hsp0, hsp1, hsp2⟩⟩, ⟨by rw [ht]; exact hP9, hD9⟩⟩, hS.F ht⟩) hS.2.2 d_Listing_admits_101
      · replace c_7 : ¬ 4 ≤ lp := fun hq9 => c_7 ((nI_leI (a := 4) (b := lp) (by decide) (by first | exact Nat.lt_of_lt_of_le (by assumption) (by decide) | exact Nat.lt_of_le_of_lt (by assumption) (by decide) | omega)).mpr hq9)
        refine lv_iconst (v := 1) hx hb d_Listing_admits_96 (by decide) ?_
        refine lv_goto (tgt := 101) hx hb d_Listing_admits_97 (by decide) ?_
        rw [← hQe]
        obtain ⟨hP9, hD9⟩ := xw_sub2 (wc := (fun u : Nat → Nat => [(g0, .inr (2, [.ref n0, .ref g1, .ref g2, .ref g3, .ref g4, .ref g5, .ref g6, .ref g7, .ref g8, .ref g9, .ref ga, .ref gb, .int (nI cl), .int (nI ln), .int (nI br), .int (nI lp), .int (nI va)])), (g1, .inl (ax 1, 20, .inl (fun j => nI (kd j)))), (g2, .inl (ax 1, 20, .inl (fun j => nI (ow j)))), (g3, .inl (ax 1, 20, .inl (fun j => nI (sb j)))), (g4, .inl (ax 1, 20, .inl (fun j => nI (f1 j)))), (g5, .inl (ax 1, 20, .inl (fun j => nI (f2 j)))), (g6, .inl (ax 2, 20, .inl (fun j => nI (te j)))), (g7, .inl (ax 2, 20, .inl (fun j => nI (kp j)))), (g8, .inl (ax 0, 20, .inl tm)), (g9, .inl (ax 1, 20, .inl (fun j => nI (nm j)))), (ga, .inl (ax 1, 29, .inl (fun j => nI (ck j)))), (gb, .inl (ax 1, 29, .inl (fun j => nI (co j))))]) (ixn [1])) hP hD [0, 1, 2, 3, 4, 5, 6, 7, 8, 9, 10, 11] (by decide) rfl
        have hsp0 : 1 ≤ 1 := (by first | assumption | omega)
        have hsp1 : imp1 (1) (knd q1 ∧ ln < 20 ∧ (q1 = 8 → br < 4) ∧ (q1 = 12 → lp < 4)) := (Or.inr ⟨by unfold knd; omega, by omega, fun q => by omega, fun q => by omega⟩)
        have hsp2 : imp0 (1) (adN q1 ln br lp) := (Or.inl rfl)
        exact W.zret (v := 1) hx hb hr rfl (fun t ht hW => ⟨⟨1, ixn [1], rfl, ⟨rfl, ⟨hsp0, hsp1, hsp2⟩⟩, ⟨by rw [ht]; exact hP9, hD9⟩⟩, hS.F ht⟩) hS.2.2 d_Listing_admits_101
    by_cases hw_8 : q1 = 17
    · refine W.eq (g2 := F0 m 12 ls [.int 17]) (by rw [hw_8]; rfl) ?_
      refine lv_lookup (off := 60) (tgt := 72) hx hb d_Listing_admits_12 (by decide) (by decide) (by decide) ?_
      refine lv_iconst (v := 1) hx hb d_Listing_admits_72 (by decide) ?_
      rw [← hQe]
      obtain ⟨hP9, hD9⟩ := xw_sub2 (wc := (fun u : Nat → Nat => [(g0, .inr (2, [.ref n0, .ref g1, .ref g2, .ref g3, .ref g4, .ref g5, .ref g6, .ref g7, .ref g8, .ref g9, .ref ga, .ref gb, .int (nI cl), .int (nI ln), .int (nI br), .int (nI lp), .int (nI va)])), (g1, .inl (ax 1, 20, .inl (fun j => nI (kd j)))), (g2, .inl (ax 1, 20, .inl (fun j => nI (ow j)))), (g3, .inl (ax 1, 20, .inl (fun j => nI (sb j)))), (g4, .inl (ax 1, 20, .inl (fun j => nI (f1 j)))), (g5, .inl (ax 1, 20, .inl (fun j => nI (f2 j)))), (g6, .inl (ax 2, 20, .inl (fun j => nI (te j)))), (g7, .inl (ax 2, 20, .inl (fun j => nI (kp j)))), (g8, .inl (ax 0, 20, .inl tm)), (g9, .inl (ax 1, 20, .inl (fun j => nI (nm j)))), (ga, .inl (ax 1, 29, .inl (fun j => nI (ck j)))), (gb, .inl (ax 1, 29, .inl (fun j => nI (co j))))]) (ixn [1])) hP hD [0, 1, 2, 3, 4, 5, 6, 7, 8, 9, 10, 11] (by decide) rfl
      have hsp0 : 1 ≤ 1 := (by first | assumption | omega)
      have hsp1 : imp1 (1) (knd q1 ∧ ln < 20 ∧ (q1 = 8 → br < 4) ∧ (q1 = 12 → lp < 4)) := (Or.inr ⟨by unfold knd; omega, by omega, fun q => by omega, fun q => by omega⟩)
      have hsp2 : imp0 (1) (adN q1 ln br lp) := (Or.inl rfl)
      exact W.zret (v := 1) hx hb hr rfl (fun t ht hW => ⟨⟨1, ixn [1], rfl, ⟨rfl, ⟨hsp0, hsp1, hsp2⟩⟩, ⟨by rw [ht]; exact hP9, hD9⟩⟩, hS.F ht⟩) hS.2.2 d_Listing_admits_73
    by_cases hw_9 : q1 = 123
    · refine W.eq (g2 := F0 m 12 ls [.int 123]) (by rw [hw_9]; rfl) ?_
      refine lv_lookup (off := 60) (tgt := 72) hx hb d_Listing_admits_12 (by decide) (by decide) (by decide) ?_
      refine lv_iconst (v := 1) hx hb d_Listing_admits_72 (by decide) ?_
      rw [← hQe]
      obtain ⟨hP9, hD9⟩ := xw_sub2 (wc := (fun u : Nat → Nat => [(g0, .inr (2, [.ref n0, .ref g1, .ref g2, .ref g3, .ref g4, .ref g5, .ref g6, .ref g7, .ref g8, .ref g9, .ref ga, .ref gb, .int (nI cl), .int (nI ln), .int (nI br), .int (nI lp), .int (nI va)])), (g1, .inl (ax 1, 20, .inl (fun j => nI (kd j)))), (g2, .inl (ax 1, 20, .inl (fun j => nI (ow j)))), (g3, .inl (ax 1, 20, .inl (fun j => nI (sb j)))), (g4, .inl (ax 1, 20, .inl (fun j => nI (f1 j)))), (g5, .inl (ax 1, 20, .inl (fun j => nI (f2 j)))), (g6, .inl (ax 2, 20, .inl (fun j => nI (te j)))), (g7, .inl (ax 2, 20, .inl (fun j => nI (kp j)))), (g8, .inl (ax 0, 20, .inl tm)), (g9, .inl (ax 1, 20, .inl (fun j => nI (nm j)))), (ga, .inl (ax 1, 29, .inl (fun j => nI (ck j)))), (gb, .inl (ax 1, 29, .inl (fun j => nI (co j))))]) (ixn [1])) hP hD [0, 1, 2, 3, 4, 5, 6, 7, 8, 9, 10, 11] (by decide) rfl
      have hsp0 : 1 ≤ 1 := (by first | assumption | omega)
      have hsp1 : imp1 (1) (knd q1 ∧ ln < 20 ∧ (q1 = 8 → br < 4) ∧ (q1 = 12 → lp < 4)) := (Or.inr ⟨by unfold knd; omega, by omega, fun q => by omega, fun q => by omega⟩)
      have hsp2 : imp0 (1) (adN q1 ln br lp) := (Or.inl rfl)
      exact W.zret (v := 1) hx hb hr rfl (fun t ht hW => ⟨⟨1, ixn [1], rfl, ⟨rfl, ⟨hsp0, hsp1, hsp2⟩⟩, ⟨by rw [ht]; exact hP9, hD9⟩⟩, hS.F ht⟩) hS.2.2 d_Listing_admits_73
    refine lv_lookup (off := 90) (tgt := 102) hx hb d_Listing_admits_12 (by decide) (by rw [nI_toInt (by first | assumption | omega)]; exact sw_no (by simp; omega)) (by decide) ?_
    refine lv_iconst (v := 0) hx hb d_Listing_admits_102 (by decide) ?_
    rw [← hQe]
    obtain ⟨hP9, hD9⟩ := xw_sub2 (wc := (fun u : Nat → Nat => [(g0, .inr (2, [.ref n0, .ref g1, .ref g2, .ref g3, .ref g4, .ref g5, .ref g6, .ref g7, .ref g8, .ref g9, .ref ga, .ref gb, .int (nI cl), .int (nI ln), .int (nI br), .int (nI lp), .int (nI va)])), (g1, .inl (ax 1, 20, .inl (fun j => nI (kd j)))), (g2, .inl (ax 1, 20, .inl (fun j => nI (ow j)))), (g3, .inl (ax 1, 20, .inl (fun j => nI (sb j)))), (g4, .inl (ax 1, 20, .inl (fun j => nI (f1 j)))), (g5, .inl (ax 1, 20, .inl (fun j => nI (f2 j)))), (g6, .inl (ax 2, 20, .inl (fun j => nI (te j)))), (g7, .inl (ax 2, 20, .inl (fun j => nI (kp j)))), (g8, .inl (ax 0, 20, .inl tm)), (g9, .inl (ax 1, 20, .inl (fun j => nI (nm j)))), (ga, .inl (ax 1, 29, .inl (fun j => nI (ck j)))), (gb, .inl (ax 1, 29, .inl (fun j => nI (co j))))]) (ixn [0])) hP hD [0, 1, 2, 3, 4, 5, 6, 7, 8, 9, 10, 11] (by decide) rfl
    have hsp0 : 0 ≤ 1 := (by first | assumption | omega)
    have hsp1 : imp1 (0) (knd q1 ∧ ln < 20 ∧ (q1 = 8 → br < 4) ∧ (q1 = 12 → lp < 4)) := (Or.inl rfl)
    have hsp2 : imp0 (0) (adN q1 ln br lp) := (Or.inr (by unfold adN; omega))
    exact W.zret (v := 0) hx hb hr rfl (fun t ht hW => ⟨⟨0, ixn [0], rfl, ⟨rfl, ⟨hsp0, hsp1, hsp2⟩⟩, ⟨by rw [ht]; exact hP9, hD9⟩⟩, hS.F ht⟩) hS.2.2 d_Listing_admits_103
  · replace c_1 : ln = 20 := (nI_eq (a := ln) (b := 20) (by first | exact Nat.lt_of_lt_of_le (by assumption) (by decide) | exact Nat.lt_of_le_of_lt (by assumption) (by decide) | omega) (by decide)).mp c_1
    refine lv_iconst (v := 0) hx hb d_Listing_admits_9 (by decide) ?_
    rw [← hQe]
    obtain ⟨hP9, hD9⟩ := xw_sub2 (wc := (fun u : Nat → Nat => [(g0, .inr (2, [.ref n0, .ref g1, .ref g2, .ref g3, .ref g4, .ref g5, .ref g6, .ref g7, .ref g8, .ref g9, .ref ga, .ref gb, .int (nI cl), .int (nI ln), .int (nI br), .int (nI lp), .int (nI va)])), (g1, .inl (ax 1, 20, .inl (fun j => nI (kd j)))), (g2, .inl (ax 1, 20, .inl (fun j => nI (ow j)))), (g3, .inl (ax 1, 20, .inl (fun j => nI (sb j)))), (g4, .inl (ax 1, 20, .inl (fun j => nI (f1 j)))), (g5, .inl (ax 1, 20, .inl (fun j => nI (f2 j)))), (g6, .inl (ax 2, 20, .inl (fun j => nI (te j)))), (g7, .inl (ax 2, 20, .inl (fun j => nI (kp j)))), (g8, .inl (ax 0, 20, .inl tm)), (g9, .inl (ax 1, 20, .inl (fun j => nI (nm j)))), (ga, .inl (ax 1, 29, .inl (fun j => nI (ck j)))), (gb, .inl (ax 1, 29, .inl (fun j => nI (co j))))]) (ixn [0])) hP hD [0, 1, 2, 3, 4, 5, 6, 7, 8, 9, 10, 11] (by decide) rfl
    have hsp0 : 0 ≤ 1 := (by first | assumption | omega)
    have hsp1 : imp1 (0) (knd q1 ∧ ln < 20 ∧ (q1 = 8 → br < 4) ∧ (q1 = 12 → lp < 4)) := (Or.inl rfl)
    have hsp2 : imp0 (0) (adN q1 ln br lp) := (Or.inr (by unfold adN; omega))
    exact W.zret (v := 0) hx hb hr rfl (fun t ht hW => ⟨⟨0, ixn [0], rfl, ⟨rfl, ⟨hsp0, hsp1, hsp2⟩⟩, ⟨by rw [ht]; exact hP9, hD9⟩⟩, hS.F ht⟩) hS.2.2 d_Listing_admits_10
abbrev b_Listing_add : ByteArray := prog_4_method_4_code
def y_Listing_add : MethodName := ⟨R_Listing, "add", "(II)I"⟩
theorem d_Listing_add_0 : decode b_Listing_add 0 = .ok (.aload_n 0, 1) := by decide +kernel
theorem d_Listing_add_1 : decode b_Listing_add 1 = .ok (.getfield 18, 3) := by decide +kernel
theorem d_Listing_add_4 : decode b_Listing_add 4 = .ok (.aload_n 0, 1) := by decide +kernel
theorem d_Listing_add_5 : decode b_Listing_add 5 = .ok (.getfield 57, 3) := by decide +kernel
theorem d_Listing_add_8 : decode b_Listing_add 8 = .ok (.iload_n 1, 1) := by decide +kernel
theorem d_Listing_add_9 : decode b_Listing_add 9 = .ok (.i2b, 1) := by decide +kernel
theorem d_Listing_add_10 : decode b_Listing_add 10 = .ok (.bastore, 1) := by decide +kernel
theorem d_Listing_add_11 : decode b_Listing_add 11 = .ok (.aload_n 0, 1) := by decide +kernel
theorem d_Listing_add_12 : decode b_Listing_add 12 = .ok (.getfield 22, 3) := by decide +kernel
theorem d_Listing_add_15 : decode b_Listing_add 15 = .ok (.aload_n 0, 1) := by decide +kernel
theorem d_Listing_add_16 : decode b_Listing_add 16 = .ok (.getfield 57, 3) := by decide +kernel
theorem d_Listing_add_19 : decode b_Listing_add 19 = .ok (.iload_n 2, 1) := by decide +kernel
theorem d_Listing_add_20 : decode b_Listing_add 20 = .ok (.i2b, 1) := by decide +kernel
theorem d_Listing_add_21 : decode b_Listing_add 21 = .ok (.bastore, 1) := by decide +kernel
theorem d_Listing_add_22 : decode b_Listing_add 22 = .ok (.aload_n 0, 1) := by decide +kernel
theorem d_Listing_add_23 : decode b_Listing_add 23 = .ok (.getfield 25, 3) := by decide +kernel
theorem d_Listing_add_26 : decode b_Listing_add 26 = .ok (.aload_n 0, 1) := by decide +kernel
theorem d_Listing_add_27 : decode b_Listing_add 27 = .ok (.getfield 57, 3) := by decide +kernel
theorem d_Listing_add_30 : decode b_Listing_add 30 = .ok (.iconst (-1), 1) := by decide +kernel
theorem d_Listing_add_31 : decode b_Listing_add 31 = .ok (.bastore, 1) := by decide +kernel
theorem d_Listing_add_32 : decode b_Listing_add 32 = .ok (.aload_n 0, 1) := by decide +kernel
theorem d_Listing_add_33 : decode b_Listing_add 33 = .ok (.getfield 28, 3) := by decide +kernel
theorem d_Listing_add_36 : decode b_Listing_add 36 = .ok (.aload_n 0, 1) := by decide +kernel
theorem d_Listing_add_37 : decode b_Listing_add 37 = .ok (.getfield 57, 3) := by decide +kernel
theorem d_Listing_add_40 : decode b_Listing_add 40 = .ok (.iconst (-1), 1) := by decide +kernel
theorem d_Listing_add_41 : decode b_Listing_add 41 = .ok (.bastore, 1) := by decide +kernel
theorem d_Listing_add_42 : decode b_Listing_add 42 = .ok (.aload_n 0, 1) := by decide +kernel
theorem d_Listing_add_43 : decode b_Listing_add 43 = .ok (.getfield 31, 3) := by decide +kernel
theorem d_Listing_add_46 : decode b_Listing_add 46 = .ok (.aload_n 0, 1) := by decide +kernel
theorem d_Listing_add_47 : decode b_Listing_add 47 = .ok (.getfield 57, 3) := by decide +kernel
theorem d_Listing_add_50 : decode b_Listing_add 50 = .ok (.iconst (-1), 1) := by decide +kernel
theorem d_Listing_add_51 : decode b_Listing_add 51 = .ok (.bastore, 1) := by decide +kernel
theorem d_Listing_add_52 : decode b_Listing_add 52 = .ok (.aload_n 0, 1) := by decide +kernel
theorem d_Listing_add_53 : decode b_Listing_add 53 = .ok (.getfield 45, 3) := by decide +kernel
theorem d_Listing_add_56 : decode b_Listing_add 56 = .ok (.aload_n 0, 1) := by decide +kernel
theorem d_Listing_add_57 : decode b_Listing_add 57 = .ok (.getfield 57, 3) := by decide +kernel
theorem d_Listing_add_60 : decode b_Listing_add 60 = .ok (.iconst (-1), 1) := by decide +kernel
theorem d_Listing_add_61 : decode b_Listing_add 61 = .ok (.bastore, 1) := by decide +kernel
theorem d_Listing_add_62 : decode b_Listing_add 62 = .ok (.aload_n 0, 1) := by decide +kernel
theorem d_Listing_add_63 : decode b_Listing_add 63 = .ok (.dup, 1) := by decide +kernel
theorem d_Listing_add_64 : decode b_Listing_add 64 = .ok (.getfield 61, 3) := by decide +kernel
theorem d_Listing_add_67 : decode b_Listing_add 67 = .ok (.iload_n 1, 1) := by decide +kernel
theorem d_Listing_add_68 : decode b_Listing_add 68 = .ok (.bipush 8, 2) := by decide +kernel
theorem d_Listing_add_70 : decode b_Listing_add 70 = .ok (.if_icmp .ne 7, 3) := by decide +kernel
theorem d_Listing_add_73 : decode b_Listing_add 73 = .ok (.iconst 1, 1) := by decide +kernel
theorem d_Listing_add_74 : decode b_Listing_add 74 = .ok (.goto 4, 3) := by decide +kernel
theorem d_Listing_add_77 : decode b_Listing_add 77 = .ok (.iconst 0, 1) := by decide +kernel
theorem d_Listing_add_78 : decode b_Listing_add 78 = .ok (.iadd, 1) := by decide +kernel
theorem d_Listing_add_79 : decode b_Listing_add 79 = .ok (.putfield 61, 3) := by decide +kernel
theorem d_Listing_add_82 : decode b_Listing_add 82 = .ok (.aload_n 0, 1) := by decide +kernel
theorem d_Listing_add_83 : decode b_Listing_add 83 = .ok (.dup, 1) := by decide +kernel
theorem d_Listing_add_84 : decode b_Listing_add 84 = .ok (.getfield 64, 3) := by decide +kernel
theorem d_Listing_add_87 : decode b_Listing_add 87 = .ok (.iload_n 1, 1) := by decide +kernel
theorem d_Listing_add_88 : decode b_Listing_add 88 = .ok (.bipush 12, 2) := by decide +kernel
theorem d_Listing_add_90 : decode b_Listing_add 90 = .ok (.if_icmp .ne 7, 3) := by decide +kernel
theorem d_Listing_add_93 : decode b_Listing_add 93 = .ok (.iconst 1, 1) := by decide +kernel
theorem d_Listing_add_94 : decode b_Listing_add 94 = .ok (.goto 4, 3) := by decide +kernel
theorem d_Listing_add_97 : decode b_Listing_add 97 = .ok (.iconst 0, 1) := by decide +kernel
theorem d_Listing_add_98 : decode b_Listing_add 98 = .ok (.iadd, 1) := by decide +kernel
theorem d_Listing_add_99 : decode b_Listing_add 99 = .ok (.putfield 64, 3) := by decide +kernel
theorem d_Listing_add_102 : decode b_Listing_add 102 = .ok (.aload_n 0, 1) := by decide +kernel
theorem d_Listing_add_103 : decode b_Listing_add 103 = .ok (.dup, 1) := by decide +kernel
theorem d_Listing_add_104 : decode b_Listing_add 104 = .ok (.getfield 57, 3) := by decide +kernel
theorem d_Listing_add_107 : decode b_Listing_add 107 = .ok (.dup_x1, 1) := by decide +kernel
theorem d_Listing_add_108 : decode b_Listing_add 108 = .ok (.iconst 1, 1) := by decide +kernel
theorem d_Listing_add_109 : decode b_Listing_add 109 = .ok (.iadd, 1) := by decide +kernel
theorem d_Listing_add_110 : decode b_Listing_add 110 = .ok (.putfield 57, 3) := by decide +kernel
theorem d_Listing_add_113 : decode b_Listing_add 113 = .ok (.ireturn, 1) := by decide +kernel
set_option maxHeartbeats 40000000 in
set_option maxRecDepth 100000 in
theorem c_L_add (l : Launch) (D : va_G) (ax : Nat → ClassId) (g0 g1 g2 g3 g4 g5 g6 g7 g8 g9 ga gb cl ln br lp va : Nat) (kd ow sb f1 f2 te kp nm ck co : Nat → Nat) (tm : Nat → Int32) (n0 : Nat) (q1 o9 : Nat) (sz : Nat) (hq1 : knd q1) (ho9 : smn o9) (hln : ln < 20) (hbr : br ≤ 4) (hlp : lp ≤ 4) : Met l y_Listing_add (xws (.code y_Listing_add b_Listing_add 3 (some .int))) ({ frames := 10, cells := 0, slots := 0, locals := 400 }) (va_Pc [.ref g0, .int (nI q1), .int (nI o9)] (xo D ax [(g0, .inr (2, [.ref n0, .ref g1, .ref g2, .ref g3, .ref g4, .ref g5, .ref g6, .ref g7, .ref g8, .ref g9, .ref ga, .ref gb, .int (nI cl), .int (nI ln), .int (nI br), .int (nI lp), .int (nI va)])), (g1, .inl (ax 1, 20, .inl (fun j => nI (kd j)))), (g2, .inl (ax 1, 20, .inl (fun j => nI (ow j)))), (g3, .inl (ax 1, 20, .inl (fun j => nI (sb j)))), (g4, .inl (ax 1, 20, .inl (fun j => nI (f1 j)))), (g5, .inl (ax 1, 20, .inl (fun j => nI (f2 j)))), (g6, .inl (ax 2, 20, .inl (fun j => nI (te j)))), (g7, .inl (ax 2, 20, .inl (fun j => nI (kp j)))), (g8, .inl (ax 0, 20, .inl tm)), (g9, .inl (ax 1, 20, .inl (fun j => nI (nm j)))), (ga, .inl (ax 1, 29, .inl (fun j => nI (ck j)))), (gb, .inl (ax 1, 29, .inl (fun j => nI (co j))))] sz)) ((va_Qi (fun (r : Int32) (u : Nat → Nat) => r = nI ln ∧ (u 0 = br + ifq q1 8 ∧ u 1 = lp + ifq q1 12)) (xb D (va_A [(g0, .inr (2, [.ref n0, .ref g1, .ref g2, .ref g3, .ref g4, .ref g5, .ref g6, .ref g7, .ref g8, .ref g9, .ref ga, .ref gb, .int (nI cl), .int (nI ln), .int (nI br), .int (nI lp), .int (nI va)])), (g1, .inl (ax 1, 20, .inl (fun j => nI (kd j)))), (g2, .inl (ax 1, 20, .inl (fun j => nI (ow j)))), (g3, .inl (ax 1, 20, .inl (fun j => nI (sb j)))), (g4, .inl (ax 1, 20, .inl (fun j => nI (f1 j)))), (g5, .inl (ax 1, 20, .inl (fun j => nI (f2 j)))), (g6, .inl (ax 2, 20, .inl (fun j => nI (te j)))), (g7, .inl (ax 2, 20, .inl (fun j => nI (kp j)))), (g8, .inl (ax 0, 20, .inl tm)), (g9, .inl (ax 1, 20, .inl (fun j => nI (nm j)))), (ga, .inl (ax 1, 29, .inl (fun j => nI (ck j)))), (gb, .inl (ax 1, 29, .inl (fun j => nI (co j))))] sz) (fun u => [(g0, .inr (2, [.ref n0, .ref g1, .ref g2, .ref g3, .ref g4, .ref g5, .ref g6, .ref g7, .ref g8, .ref g9, .ref ga, .ref gb, .int (nI cl), .int (nI (ln + 1)), .int (nI (u 0)), .int (nI (u 1)), .int (nI va)])), (g1, .inl (ax 1, 20, .inl (fun j => nI (sup kd ln q1 j)))), (g2, .inl (ax 1, 20, .inl (fun j => nI (sup ow ln o9 j)))), (g3, .inl (ax 1, 20, .inl (fun j => nI (sup sb ln 4294967295 j)))), (g4, .inl (ax 1, 20, .inl (fun j => nI (sup f1 ln 4294967295 j)))), (g5, .inl (ax 1, 20, .inl (fun j => nI (sup f2 ln 4294967295 j)))), (g6, .inl (ax 2, 20, .inl (fun j => nI (te j)))), (g7, .inl (ax 2, 20, .inl (fun j => nI (kp j)))), (g8, .inl (ax 0, 20, .inl tm)), (g9, .inl (ax 1, 20, .inl (fun j => nI (sup nm ln 4294967295 j)))), (ga, .inl (ax 1, 29, .inl (fun j => nI (ck j)))), (gb, .inl (ax 1, 29, .inl (fun j => nI (co j))))])) (va_A [(g0, .inr (2, [.ref n0, .ref g1, .ref g2, .ref g3, .ref g4, .ref g5, .ref g6, .ref g7, .ref g8, .ref g9, .ref ga, .ref gb, .int (nI cl), .int (nI ln), .int (nI br), .int (nI lp), .int (nI va)])), (g1, .inl (ax 1, 20, .inl (fun j => nI (kd j)))), (g2, .inl (ax 1, 20, .inl (fun j => nI (ow j)))), (g3, .inl (ax 1, 20, .inl (fun j => nI (sb j)))), (g4, .inl (ax 1, 20, .inl (fun j => nI (f1 j)))), (g5, .inl (ax 1, 20, .inl (fun j => nI (f2 j)))), (g6, .inl (ax 2, 20, .inl (fun j => nI (te j)))), (g7, .inl (ax 2, 20, .inl (fun j => nI (kp j)))), (g8, .inl (ax 0, 20, .inl tm)), (g9, .inl (ax 1, 20, .inl (fun j => nI (nm j)))), (ga, .inl (ax 1, 29, .inl (fun j => nI (ck j)))), (gb, .inl (ax 1, 29, .inl (fun j => nI (co j))))] sz))) 0 0 (va_A [(g0, .inr (2, [.ref n0, .ref g1, .ref g2, .ref g3, .ref g4, .ref g5, .ref g6, .ref g7, .ref g8, .ref g9, .ref ga, .ref gb, .int (nI cl), .int (nI ln), .int (nI br), .int (nI lp), .int (nI va)])), (g1, .inl (ax 1, 20, .inl (fun j => nI (kd j)))), (g2, .inl (ax 1, 20, .inl (fun j => nI (ow j)))), (g3, .inl (ax 1, 20, .inl (fun j => nI (sb j)))), (g4, .inl (ax 1, 20, .inl (fun j => nI (f1 j)))), (g5, .inl (ax 1, 20, .inl (fun j => nI (f2 j)))), (g6, .inl (ax 2, 20, .inl (fun j => nI (te j)))), (g7, .inl (ax 2, 20, .inl (fun j => nI (kp j)))), (g8, .inl (ax 0, 20, .inl tm)), (g9, .inl (ax 1, 20, .inl (fun j => nI (nm j)))), (ga, .inl (ax 1, 29, .inl (fun j => nI (ck j)))), (gb, .inl (ax 1, 29, .inl (fun j => nI (co j))))] sz) := by
  refine Met.ofW (cc := b_Listing_add) (maxL := 3) (ret := (some .int)) (by decide) rfl ?_
  intro p e s m args below meth c s₁ B hml hv
  obtain ⟨rfl, hsz, hP, hK, hD0⟩ := hv
  have hx := B.exec
  have hb := B.bytes
  have hr := B.returns
  have hts := xw_hts B.pre
  have hown : s.vm.findClass R_Listing = some m.cls := findClass_of_methodNamed B.named
  have hlocks := B.notSynchronized
  subst hsz
  have hD := hD0.self (sz := s.heap.size)
  have hN := xz_entry hP
  generalize hAe : va_A [(g0, .inr (2, [.ref n0, .ref g1, .ref g2, .ref g3, .ref g4, .ref g5, .ref g6, .ref g7, .ref g8, .ref g9, .ref ga, .ref gb, .int (nI cl), .int (nI ln), .int (nI br), .int (nI lp), .int (nI va)])), (g1, .inl (ax 1, 20, .inl (fun j => nI (kd j)))), (g2, .inl (ax 1, 20, .inl (fun j => nI (ow j)))), (g3, .inl (ax 1, 20, .inl (fun j => nI (sb j)))), (g4, .inl (ax 1, 20, .inl (fun j => nI (f1 j)))), (g5, .inl (ax 1, 20, .inl (fun j => nI (f2 j)))), (g6, .inl (ax 2, 20, .inl (fun j => nI (te j)))), (g7, .inl (ax 2, 20, .inl (fun j => nI (kp j)))), (g8, .inl (ax 0, 20, .inl tm)), (g9, .inl (ax 1, 20, .inl (fun j => nI (nm j)))), (ga, .inl (ax 1, 29, .inl (fun j => nI (ck j)))), (gb, .inl (ax 1, 29, .inl (fun j => nI (co j))))] s.heap.size = A at hD hN ⊢
  have hA : ∀ q : Nat, s.heap.size ≤ q → A q := fun q h => by rw [← hAe]; exact Or.inr h
  have hS : va_S A s.heap s.heap [] := va_S.rf
  have hl0 := lv_entry ([.ref g0, .int (nI q1), .int (nI o9)]) (n := 3) (Nat.le_of_ble_eq_true rfl)
  rw [lg_entry_eq]
  generalize (lg_sl ([.ref g0, .int (nI q1), .int (nI o9)]) ++ List.replicate (3 - (lg_sl ([.ref g0, .int (nI q1), .int (nI o9)])).length) Slot.unset).toArray = ls at hl0 ⊢
  have hl1 : lv_has ls 3 [(0, .ref g0), (1, .int (nI q1)), (2, .int (nI o9))] := hl0
  refine xw_gen (fun Z9 hQe => ?_)
  have hq8 : q1 < 128 := by unfold knd at hq1; omega
  refine lv_aload_n hx hb d_Listing_add_0 rfl (lv_at hl1 0 rfl) ?_
  refine va_get (D := D) (ci := 2) (v := .ref g1) (C := R_Listing) (T := F_Listing) (N := 17) hx hb hts i_Listing hown hK.1 hP 0 rfl rfl 1 (by decide) (hts _ wd_271) (fun _ h9 => h9) rfl d_Listing_add_1 ?_
  refine lv_aload_n hx hb d_Listing_add_4 rfl (lv_at hl1 0 rfl) ?_
  refine va_get (D := D) (ci := 2) (v := .int (nI ln)) (C := R_Listing) (T := F_Listing) (N := 17) hx hb hts i_Listing hown hK.1 hP 0 rfl rfl 13 (by decide) (hts _ wd_308) (fun _ h9 => h9) rfl d_Listing_add_5 ?_
  refine lv_iload_n hx hb d_Listing_add_8 rfl (lv_at hl1 1 rfl) ?_
  refine lv_i2b (v := nI q1) hx hb d_Listing_add_9 (nb_i2b (by first | assumption | omega)) ?_
  refine va_bast hx hb hK.1 hP hD hS 1 1 rfl rfl (vp_in_nI (by first | assumption | omega) (by decide)) d_Listing_add_10 (fun H_1 locs hP1 hD1 hS1 => ?_)
  rw [nI_clamp (by first | exact Nat.lt_of_lt_of_le (by assumption) (by decide) | exact Nat.lt_of_le_of_lt (by assumption) (by decide) | omega)] at hP1 hD1
  rw [xf_supb kd ln q1 (by first | assumption | omega)] at hP1 hD1
  clear hP hD hS
  have hS := hS1
  have hW7 : (fun w9 : va_W => va_P D classes w9 H_1 ∧ va_D A w9) [(g0, .inr (2, [.ref n0, .ref g1, .ref g2, .ref g3, .ref g4, .ref g5, .ref g6, .ref g7, .ref g8, .ref g9, .ref ga, .ref gb, .int (nI cl), .int (nI ln), .int (nI br), .int (nI lp), .int (nI va)])), (g1, .inl (ax 1, 20, .inl (fun j => nI (sup kd ln q1 j)))), (g2, .inl (ax 1, 20, .inl (fun j => nI (ow j)))), (g3, .inl (ax 1, 20, .inl (fun j => nI (sb j)))), (g4, .inl (ax 1, 20, .inl (fun j => nI (f1 j)))), (g5, .inl (ax 1, 20, .inl (fun j => nI (f2 j)))), (g6, .inl (ax 2, 20, .inl (fun j => nI (te j)))), (g7, .inl (ax 2, 20, .inl (fun j => nI (kp j)))), (g8, .inl (ax 0, 20, .inl tm)), (g9, .inl (ax 1, 20, .inl (fun j => nI (nm j)))), (ga, .inl (ax 1, 29, .inl (fun j => nI (ck j)))), (gb, .inl (ax 1, 29, .inl (fun j => nI (co j))))] := ⟨hP1, hD1⟩
  obtain ⟨hP, hD⟩ := hW7
  clear hP1 hD1 hS1
  refine lv_aload_n hx hb d_Listing_add_11 rfl (lv_at hl1 0 rfl) ?_
  refine va_get (D := D) (ci := 2) (v := .ref g2) (C := R_Listing) (T := F_Listing) (N := 17) hx hb hts i_Listing hown hK.1 hP 0 rfl rfl 2 (by decide) (hts _ wd_274) (fun _ h9 => h9) rfl d_Listing_add_12 ?_
  refine lv_aload_n hx hb d_Listing_add_15 rfl (lv_at hl1 0 rfl) ?_
  refine va_get (D := D) (ci := 2) (v := .int (nI ln)) (C := R_Listing) (T := F_Listing) (N := 17) hx hb hts i_Listing hown hK.1 hP 0 rfl rfl 13 (by decide) (hts _ wd_308) (fun _ h9 => h9) rfl d_Listing_add_16 ?_
  refine lv_iload_n hx hb d_Listing_add_19 rfl (lv_at hl1 2 rfl) ?_
  refine lv_i2b (v := nI o9) hx hb d_Listing_add_20 (nb_i2bs ho9) ?_
  refine va_bast hx hb hK.1 hP hD hS 2 1 rfl rfl (vp_in_nI (by first | assumption | omega) (by decide)) d_Listing_add_21 (fun H_2 locs hP1 hD1 hS1 => ?_)
  rw [nI_clamp (by first | exact Nat.lt_of_lt_of_le (by assumption) (by decide) | exact Nat.lt_of_le_of_lt (by assumption) (by decide) | omega)] at hP1 hD1
  rw [xf_supbs ow ln o9 ho9] at hP1 hD1
  clear hP hD hS
  have hS := hS1
  have hW7 : (fun w9 : va_W => va_P D classes w9 H_2 ∧ va_D A w9) [(g0, .inr (2, [.ref n0, .ref g1, .ref g2, .ref g3, .ref g4, .ref g5, .ref g6, .ref g7, .ref g8, .ref g9, .ref ga, .ref gb, .int (nI cl), .int (nI ln), .int (nI br), .int (nI lp), .int (nI va)])), (g1, .inl (ax 1, 20, .inl (fun j => nI (sup kd ln q1 j)))), (g2, .inl (ax 1, 20, .inl (fun j => nI (sup ow ln o9 j)))), (g3, .inl (ax 1, 20, .inl (fun j => nI (sb j)))), (g4, .inl (ax 1, 20, .inl (fun j => nI (f1 j)))), (g5, .inl (ax 1, 20, .inl (fun j => nI (f2 j)))), (g6, .inl (ax 2, 20, .inl (fun j => nI (te j)))), (g7, .inl (ax 2, 20, .inl (fun j => nI (kp j)))), (g8, .inl (ax 0, 20, .inl tm)), (g9, .inl (ax 1, 20, .inl (fun j => nI (nm j)))), (ga, .inl (ax 1, 29, .inl (fun j => nI (ck j)))), (gb, .inl (ax 1, 29, .inl (fun j => nI (co j))))] := ⟨hP1, hD1⟩
  obtain ⟨hP, hD⟩ := hW7
  clear hP1 hD1 hS1
  refine lv_aload_n hx hb d_Listing_add_22 rfl (lv_at hl1 0 rfl) ?_
  refine va_get (D := D) (ci := 2) (v := .ref g3) (C := R_Listing) (T := F_Listing) (N := 17) hx hb hts i_Listing hown hK.1 hP 0 rfl rfl 3 (by decide) (hts _ wd_275) (fun _ h9 => h9) rfl d_Listing_add_23 ?_
  refine lv_aload_n hx hb d_Listing_add_26 rfl (lv_at hl1 0 rfl) ?_
  refine va_get (D := D) (ci := 2) (v := .int (nI ln)) (C := R_Listing) (T := F_Listing) (N := 17) hx hb hts i_Listing hown hK.1 hP 0 rfl rfl 13 (by decide) (hts _ wd_308) (fun _ h9 => h9) rfl d_Listing_add_27 ?_
  refine lv_iconst (v := (-1)) hx hb d_Listing_add_30 (by decide) ?_
  refine va_bast hx hb hK.1 hP hD hS 3 1 rfl rfl (vp_in_nI (by first | assumption | omega) (by decide)) d_Listing_add_31 (fun H_3 locs hP1 hD1 hS1 => ?_)
  rw [nI_clamp (by first | exact Nat.lt_of_lt_of_le (by assumption) (by decide) | exact Nat.lt_of_le_of_lt (by assumption) (by decide) | omega)] at hP1 hD1
  replace hP1 : va_P D classes [(g0, .inr (2, [.ref n0, .ref g1, .ref g2, .ref g3, .ref g4, .ref g5, .ref g6, .ref g7, .ref g8, .ref g9, .ref ga, .ref gb, .int (nI cl), .int (nI ln), .int (nI br), .int (nI lp), .int (nI va)])), (g1, .inl (ax 1, 20, .inl (fun j => nI (sup kd ln q1 j)))), (g2, .inl (ax 1, 20, .inl (fun j => nI (sup ow ln o9 j)))), (g3, .inl (ax 1, 20, .inl (upd (fun j => nI (sb j)) ln (-1)))), (g4, .inl (ax 1, 20, .inl (fun j => nI (f1 j)))), (g5, .inl (ax 1, 20, .inl (fun j => nI (f2 j)))), (g6, .inl (ax 2, 20, .inl (fun j => nI (te j)))), (g7, .inl (ax 2, 20, .inl (fun j => nI (kp j)))), (g8, .inl (ax 0, 20, .inl tm)), (g9, .inl (ax 1, 20, .inl (fun j => nI (nm j)))), (ga, .inl (ax 1, 29, .inl (fun j => nI (ck j)))), (gb, .inl (ax 1, 29, .inl (fun j => nI (co j))))] H_3 := hP1
  replace hD1 : va_D A [(g0, .inr (2, [.ref n0, .ref g1, .ref g2, .ref g3, .ref g4, .ref g5, .ref g6, .ref g7, .ref g8, .ref g9, .ref ga, .ref gb, .int (nI cl), .int (nI ln), .int (nI br), .int (nI lp), .int (nI va)])), (g1, .inl (ax 1, 20, .inl (fun j => nI (sup kd ln q1 j)))), (g2, .inl (ax 1, 20, .inl (fun j => nI (sup ow ln o9 j)))), (g3, .inl (ax 1, 20, .inl (upd (fun j => nI (sb j)) ln (-1)))), (g4, .inl (ax 1, 20, .inl (fun j => nI (f1 j)))), (g5, .inl (ax 1, 20, .inl (fun j => nI (f2 j)))), (g6, .inl (ax 2, 20, .inl (fun j => nI (te j)))), (g7, .inl (ax 2, 20, .inl (fun j => nI (kp j)))), (g8, .inl (ax 0, 20, .inl tm)), (g9, .inl (ax 1, 20, .inl (fun j => nI (nm j)))), (ga, .inl (ax 1, 29, .inl (fun j => nI (ck j)))), (gb, .inl (ax 1, 29, .inl (fun j => nI (co j))))] := hD1
  rw [xf_supm sb ln] at hP1 hD1
  clear hP hD hS
  have hS := hS1
  have hW7 : (fun w9 : va_W => va_P D classes w9 H_3 ∧ va_D A w9) [(g0, .inr (2, [.ref n0, .ref g1, .ref g2, .ref g3, .ref g4, .ref g5, .ref g6, .ref g7, .ref g8, .ref g9, .ref ga, .ref gb, .int (nI cl), .int (nI ln), .int (nI br), .int (nI lp), .int (nI va)])), (g1, .inl (ax 1, 20, .inl (fun j => nI (sup kd ln q1 j)))), (g2, .inl (ax 1, 20, .inl (fun j => nI (sup ow ln o9 j)))), (g3, .inl (ax 1, 20, .inl (fun j => nI (sup sb ln 4294967295 j)))), (g4, .inl (ax 1, 20, .inl (fun j => nI (f1 j)))), (g5, .inl (ax 1, 20, .inl (fun j => nI (f2 j)))), (g6, .inl (ax 2, 20, .inl (fun j => nI (te j)))), (g7, .inl (ax 2, 20, .inl (fun j => nI (kp j)))), (g8, .inl (ax 0, 20, .inl tm)), (g9, .inl (ax 1, 20, .inl (fun j => nI (nm j)))), (ga, .inl (ax 1, 29, .inl (fun j => nI (ck j)))), (gb, .inl (ax 1, 29, .inl (fun j => nI (co j))))] := ⟨hP1, hD1⟩
  obtain ⟨hP, hD⟩ := hW7
  clear hP1 hD1 hS1
  refine lv_aload_n hx hb d_Listing_add_32 rfl (lv_at hl1 0 rfl) ?_
  refine va_get (D := D) (ci := 2) (v := .ref g4) (C := R_Listing) (T := F_Listing) (N := 17) hx hb hts i_Listing hown hK.1 hP 0 rfl rfl 4 (by decide) (hts _ wd_277) (fun _ h9 => h9) rfl d_Listing_add_33 ?_
  refine lv_aload_n hx hb d_Listing_add_36 rfl (lv_at hl1 0 rfl) ?_
  refine va_get (D := D) (ci := 2) (v := .int (nI ln)) (C := R_Listing) (T := F_Listing) (N := 17) hx hb hts i_Listing hown hK.1 hP 0 rfl rfl 13 (by decide) (hts _ wd_308) (fun _ h9 => h9) rfl d_Listing_add_37 ?_
  refine lv_iconst (v := (-1)) hx hb d_Listing_add_40 (by decide) ?_
  refine va_bast hx hb hK.1 hP hD hS 4 1 rfl rfl (vp_in_nI (by first | assumption | omega) (by decide)) d_Listing_add_41 (fun H_4 locs hP1 hD1 hS1 => ?_)
  rw [nI_clamp (by first | exact Nat.lt_of_lt_of_le (by assumption) (by decide) | exact Nat.lt_of_le_of_lt (by assumption) (by decide) | omega)] at hP1 hD1
  replace hP1 : va_P D classes [(g0, .inr (2, [.ref n0, .ref g1, .ref g2, .ref g3, .ref g4, .ref g5, .ref g6, .ref g7, .ref g8, .ref g9, .ref ga, .ref gb, .int (nI cl), .int (nI ln), .int (nI br), .int (nI lp), .int (nI va)])), (g1, .inl (ax 1, 20, .inl (fun j => nI (sup kd ln q1 j)))), (g2, .inl (ax 1, 20, .inl (fun j => nI (sup ow ln o9 j)))), (g3, .inl (ax 1, 20, .inl (fun j => nI (sup sb ln 4294967295 j)))), (g4, .inl (ax 1, 20, .inl (upd (fun j => nI (f1 j)) ln (-1)))), (g5, .inl (ax 1, 20, .inl (fun j => nI (f2 j)))), (g6, .inl (ax 2, 20, .inl (fun j => nI (te j)))), (g7, .inl (ax 2, 20, .inl (fun j => nI (kp j)))), (g8, .inl (ax 0, 20, .inl tm)), (g9, .inl (ax 1, 20, .inl (fun j => nI (nm j)))), (ga, .inl (ax 1, 29, .inl (fun j => nI (ck j)))), (gb, .inl (ax 1, 29, .inl (fun j => nI (co j))))] H_4 := hP1
  replace hD1 : va_D A [(g0, .inr (2, [.ref n0, .ref g1, .ref g2, .ref g3, .ref g4, .ref g5, .ref g6, .ref g7, .ref g8, .ref g9, .ref ga, .ref gb, .int (nI cl), .int (nI ln), .int (nI br), .int (nI lp), .int (nI va)])), (g1, .inl (ax 1, 20, .inl (fun j => nI (sup kd ln q1 j)))), (g2, .inl (ax 1, 20, .inl (fun j => nI (sup ow ln o9 j)))), (g3, .inl (ax 1, 20, .inl (fun j => nI (sup sb ln 4294967295 j)))), (g4, .inl (ax 1, 20, .inl (upd (fun j => nI (f1 j)) ln (-1)))), (g5, .inl (ax 1, 20, .inl (fun j => nI (f2 j)))), (g6, .inl (ax 2, 20, .inl (fun j => nI (te j)))), (g7, .inl (ax 2, 20, .inl (fun j => nI (kp j)))), (g8, .inl (ax 0, 20, .inl tm)), (g9, .inl (ax 1, 20, .inl (fun j => nI (nm j)))), (ga, .inl (ax 1, 29, .inl (fun j => nI (ck j)))), (gb, .inl (ax 1, 29, .inl (fun j => nI (co j))))] := hD1
  rw [xf_supm f1 ln] at hP1 hD1
  clear hP hD hS
  have hS := hS1
  have hW7 : (fun w9 : va_W => va_P D classes w9 H_4 ∧ va_D A w9) [(g0, .inr (2, [.ref n0, .ref g1, .ref g2, .ref g3, .ref g4, .ref g5, .ref g6, .ref g7, .ref g8, .ref g9, .ref ga, .ref gb, .int (nI cl), .int (nI ln), .int (nI br), .int (nI lp), .int (nI va)])), (g1, .inl (ax 1, 20, .inl (fun j => nI (sup kd ln q1 j)))), (g2, .inl (ax 1, 20, .inl (fun j => nI (sup ow ln o9 j)))), (g3, .inl (ax 1, 20, .inl (fun j => nI (sup sb ln 4294967295 j)))), (g4, .inl (ax 1, 20, .inl (fun j => nI (sup f1 ln 4294967295 j)))), (g5, .inl (ax 1, 20, .inl (fun j => nI (f2 j)))), (g6, .inl (ax 2, 20, .inl (fun j => nI (te j)))), (g7, .inl (ax 2, 20, .inl (fun j => nI (kp j)))), (g8, .inl (ax 0, 20, .inl tm)), (g9, .inl (ax 1, 20, .inl (fun j => nI (nm j)))), (ga, .inl (ax 1, 29, .inl (fun j => nI (ck j)))), (gb, .inl (ax 1, 29, .inl (fun j => nI (co j))))] := ⟨hP1, hD1⟩
  obtain ⟨hP, hD⟩ := hW7
  clear hP1 hD1 hS1
  refine lv_aload_n hx hb d_Listing_add_42 rfl (lv_at hl1 0 rfl) ?_
  refine va_get (D := D) (ci := 2) (v := .ref g5) (C := R_Listing) (T := F_Listing) (N := 17) hx hb hts i_Listing hown hK.1 hP 0 rfl rfl 5 (by decide) (hts _ wd_281) (fun _ h9 => h9) rfl d_Listing_add_43 ?_
  refine lv_aload_n hx hb d_Listing_add_46 rfl (lv_at hl1 0 rfl) ?_
  refine va_get (D := D) (ci := 2) (v := .int (nI ln)) (C := R_Listing) (T := F_Listing) (N := 17) hx hb hts i_Listing hown hK.1 hP 0 rfl rfl 13 (by decide) (hts _ wd_308) (fun _ h9 => h9) rfl d_Listing_add_47 ?_
  refine lv_iconst (v := (-1)) hx hb d_Listing_add_50 (by decide) ?_
  refine va_bast hx hb hK.1 hP hD hS 5 1 rfl rfl (vp_in_nI (by first | assumption | omega) (by decide)) d_Listing_add_51 (fun H_5 locs hP1 hD1 hS1 => ?_)
  rw [nI_clamp (by first | exact Nat.lt_of_lt_of_le (by assumption) (by decide) | exact Nat.lt_of_le_of_lt (by assumption) (by decide) | omega)] at hP1 hD1
  replace hP1 : va_P D classes [(g0, .inr (2, [.ref n0, .ref g1, .ref g2, .ref g3, .ref g4, .ref g5, .ref g6, .ref g7, .ref g8, .ref g9, .ref ga, .ref gb, .int (nI cl), .int (nI ln), .int (nI br), .int (nI lp), .int (nI va)])), (g1, .inl (ax 1, 20, .inl (fun j => nI (sup kd ln q1 j)))), (g2, .inl (ax 1, 20, .inl (fun j => nI (sup ow ln o9 j)))), (g3, .inl (ax 1, 20, .inl (fun j => nI (sup sb ln 4294967295 j)))), (g4, .inl (ax 1, 20, .inl (fun j => nI (sup f1 ln 4294967295 j)))), (g5, .inl (ax 1, 20, .inl (upd (fun j => nI (f2 j)) ln (-1)))), (g6, .inl (ax 2, 20, .inl (fun j => nI (te j)))), (g7, .inl (ax 2, 20, .inl (fun j => nI (kp j)))), (g8, .inl (ax 0, 20, .inl tm)), (g9, .inl (ax 1, 20, .inl (fun j => nI (nm j)))), (ga, .inl (ax 1, 29, .inl (fun j => nI (ck j)))), (gb, .inl (ax 1, 29, .inl (fun j => nI (co j))))] H_5 := hP1
  replace hD1 : va_D A [(g0, .inr (2, [.ref n0, .ref g1, .ref g2, .ref g3, .ref g4, .ref g5, .ref g6, .ref g7, .ref g8, .ref g9, .ref ga, .ref gb, .int (nI cl), .int (nI ln), .int (nI br), .int (nI lp), .int (nI va)])), (g1, .inl (ax 1, 20, .inl (fun j => nI (sup kd ln q1 j)))), (g2, .inl (ax 1, 20, .inl (fun j => nI (sup ow ln o9 j)))), (g3, .inl (ax 1, 20, .inl (fun j => nI (sup sb ln 4294967295 j)))), (g4, .inl (ax 1, 20, .inl (fun j => nI (sup f1 ln 4294967295 j)))), (g5, .inl (ax 1, 20, .inl (upd (fun j => nI (f2 j)) ln (-1)))), (g6, .inl (ax 2, 20, .inl (fun j => nI (te j)))), (g7, .inl (ax 2, 20, .inl (fun j => nI (kp j)))), (g8, .inl (ax 0, 20, .inl tm)), (g9, .inl (ax 1, 20, .inl (fun j => nI (nm j)))), (ga, .inl (ax 1, 29, .inl (fun j => nI (ck j)))), (gb, .inl (ax 1, 29, .inl (fun j => nI (co j))))] := hD1
  rw [xf_supm f2 ln] at hP1 hD1
  clear hP hD hS
  have hS := hS1
  have hW7 : (fun w9 : va_W => va_P D classes w9 H_5 ∧ va_D A w9) [(g0, .inr (2, [.ref n0, .ref g1, .ref g2, .ref g3, .ref g4, .ref g5, .ref g6, .ref g7, .ref g8, .ref g9, .ref ga, .ref gb, .int (nI cl), .int (nI ln), .int (nI br), .int (nI lp), .int (nI va)])), (g1, .inl (ax 1, 20, .inl (fun j => nI (sup kd ln q1 j)))), (g2, .inl (ax 1, 20, .inl (fun j => nI (sup ow ln o9 j)))), (g3, .inl (ax 1, 20, .inl (fun j => nI (sup sb ln 4294967295 j)))), (g4, .inl (ax 1, 20, .inl (fun j => nI (sup f1 ln 4294967295 j)))), (g5, .inl (ax 1, 20, .inl (fun j => nI (sup f2 ln 4294967295 j)))), (g6, .inl (ax 2, 20, .inl (fun j => nI (te j)))), (g7, .inl (ax 2, 20, .inl (fun j => nI (kp j)))), (g8, .inl (ax 0, 20, .inl tm)), (g9, .inl (ax 1, 20, .inl (fun j => nI (nm j)))), (ga, .inl (ax 1, 29, .inl (fun j => nI (ck j)))), (gb, .inl (ax 1, 29, .inl (fun j => nI (co j))))] := ⟨hP1, hD1⟩
  obtain ⟨hP, hD⟩ := hW7
  clear hP1 hD1 hS1
  refine lv_aload_n hx hb d_Listing_add_52 rfl (lv_at hl1 0 rfl) ?_
  refine va_get (D := D) (ci := 2) (v := .ref g9) (C := R_Listing) (T := F_Listing) (N := 17) hx hb hts i_Listing hown hK.1 hP 0 rfl rfl 9 (by decide) (hts _ wd_296) (fun _ h9 => h9) rfl d_Listing_add_53 ?_
  refine lv_aload_n hx hb d_Listing_add_56 rfl (lv_at hl1 0 rfl) ?_
  refine va_get (D := D) (ci := 2) (v := .int (nI ln)) (C := R_Listing) (T := F_Listing) (N := 17) hx hb hts i_Listing hown hK.1 hP 0 rfl rfl 13 (by decide) (hts _ wd_308) (fun _ h9 => h9) rfl d_Listing_add_57 ?_
  refine lv_iconst (v := (-1)) hx hb d_Listing_add_60 (by decide) ?_
  refine va_bast hx hb hK.1 hP hD hS 9 1 rfl rfl (vp_in_nI (by first | assumption | omega) (by decide)) d_Listing_add_61 (fun H_6 locs hP1 hD1 hS1 => ?_)
  rw [nI_clamp (by first | exact Nat.lt_of_lt_of_le (by assumption) (by decide) | exact Nat.lt_of_le_of_lt (by assumption) (by decide) | omega)] at hP1 hD1
  replace hP1 : va_P D classes [(g0, .inr (2, [.ref n0, .ref g1, .ref g2, .ref g3, .ref g4, .ref g5, .ref g6, .ref g7, .ref g8, .ref g9, .ref ga, .ref gb, .int (nI cl), .int (nI ln), .int (nI br), .int (nI lp), .int (nI va)])), (g1, .inl (ax 1, 20, .inl (fun j => nI (sup kd ln q1 j)))), (g2, .inl (ax 1, 20, .inl (fun j => nI (sup ow ln o9 j)))), (g3, .inl (ax 1, 20, .inl (fun j => nI (sup sb ln 4294967295 j)))), (g4, .inl (ax 1, 20, .inl (fun j => nI (sup f1 ln 4294967295 j)))), (g5, .inl (ax 1, 20, .inl (fun j => nI (sup f2 ln 4294967295 j)))), (g6, .inl (ax 2, 20, .inl (fun j => nI (te j)))), (g7, .inl (ax 2, 20, .inl (fun j => nI (kp j)))), (g8, .inl (ax 0, 20, .inl tm)), (g9, .inl (ax 1, 20, .inl (upd (fun j => nI (nm j)) ln (-1)))), (ga, .inl (ax 1, 29, .inl (fun j => nI (ck j)))), (gb, .inl (ax 1, 29, .inl (fun j => nI (co j))))] H_6 := hP1
  replace hD1 : va_D A [(g0, .inr (2, [.ref n0, .ref g1, .ref g2, .ref g3, .ref g4, .ref g5, .ref g6, .ref g7, .ref g8, .ref g9, .ref ga, .ref gb, .int (nI cl), .int (nI ln), .int (nI br), .int (nI lp), .int (nI va)])), (g1, .inl (ax 1, 20, .inl (fun j => nI (sup kd ln q1 j)))), (g2, .inl (ax 1, 20, .inl (fun j => nI (sup ow ln o9 j)))), (g3, .inl (ax 1, 20, .inl (fun j => nI (sup sb ln 4294967295 j)))), (g4, .inl (ax 1, 20, .inl (fun j => nI (sup f1 ln 4294967295 j)))), (g5, .inl (ax 1, 20, .inl (fun j => nI (sup f2 ln 4294967295 j)))), (g6, .inl (ax 2, 20, .inl (fun j => nI (te j)))), (g7, .inl (ax 2, 20, .inl (fun j => nI (kp j)))), (g8, .inl (ax 0, 20, .inl tm)), (g9, .inl (ax 1, 20, .inl (upd (fun j => nI (nm j)) ln (-1)))), (ga, .inl (ax 1, 29, .inl (fun j => nI (ck j)))), (gb, .inl (ax 1, 29, .inl (fun j => nI (co j))))] := hD1
  rw [xf_supm nm ln] at hP1 hD1
  clear hP hD hS
  have hS := hS1
  have hW7 : (fun w9 : va_W => va_P D classes w9 H_6 ∧ va_D A w9) [(g0, .inr (2, [.ref n0, .ref g1, .ref g2, .ref g3, .ref g4, .ref g5, .ref g6, .ref g7, .ref g8, .ref g9, .ref ga, .ref gb, .int (nI cl), .int (nI ln), .int (nI br), .int (nI lp), .int (nI va)])), (g1, .inl (ax 1, 20, .inl (fun j => nI (sup kd ln q1 j)))), (g2, .inl (ax 1, 20, .inl (fun j => nI (sup ow ln o9 j)))), (g3, .inl (ax 1, 20, .inl (fun j => nI (sup sb ln 4294967295 j)))), (g4, .inl (ax 1, 20, .inl (fun j => nI (sup f1 ln 4294967295 j)))), (g5, .inl (ax 1, 20, .inl (fun j => nI (sup f2 ln 4294967295 j)))), (g6, .inl (ax 2, 20, .inl (fun j => nI (te j)))), (g7, .inl (ax 2, 20, .inl (fun j => nI (kp j)))), (g8, .inl (ax 0, 20, .inl tm)), (g9, .inl (ax 1, 20, .inl (fun j => nI (sup nm ln 4294967295 j)))), (ga, .inl (ax 1, 29, .inl (fun j => nI (ck j)))), (gb, .inl (ax 1, 29, .inl (fun j => nI (co j))))] := ⟨hP1, hD1⟩
  obtain ⟨hP, hD⟩ := hW7
  clear hP1 hD1 hS1
  refine lv_aload_n hx hb d_Listing_add_62 rfl (lv_at hl1 0 rfl) ?_
  refine lv_dup hx hb d_Listing_add_63 rfl ?_
  refine va_get (D := D) (ci := 2) (v := .int (nI br)) (C := R_Listing) (T := F_Listing) (N := 17) hx hb hts i_Listing hown hK.1 hP 0 rfl rfl 14 (by decide) (hts _ wd_309) (fun _ h9 => h9) rfl d_Listing_add_64 ?_
  refine lv_iload_n hx hb d_Listing_add_67 rfl (lv_at hl1 1 rfl) ?_
  refine lv_bipush (v := 8) hx hb d_Listing_add_68 (by decide) ?_
  refine lv_icmp_ne (tgt := 77) hx hb d_Listing_add_70 (by decide) (fun c_7 => ?_) (fun c_7 => ?_)
  · replace c_7 : ¬ q1 = 8 := fun hq9 => c_7 ((nI_eq (a := q1) (b := 8) (by first | exact Nat.lt_of_lt_of_le (by assumption) (by decide) | exact Nat.lt_of_le_of_lt (by assumption) (by decide) | omega) (by decide)).mpr hq9)
    refine lv_iconst (v := 0) hx hb d_Listing_add_77 (by decide) ?_
    refine lv_iadd hx hb d_Listing_add_78 ?_
    refine lv_topi (fun z_8 ez_8 => ?_)
    have ez_8 : z_8 = nI (br + 0) := ez_8.trans (nI_add br 0)
    subst ez_8
    refine va_put (D := D) (ci := 2) (v := .int (nI (br + 0))) (ty := .int) (C := R_Listing) (T := F_Listing) (N := 17) hx hb hts i_Listing t_Listing t_Listing_ok n_Listing hown hK.1 hP hD hS 0 rfl rfl 14 (by decide) (hts _ wd_309) (fun _ h9 => h9) rfl (by decide +kernel) rfl rfl (Nat.le_of_ble_eq_true rfl) d_Listing_add_79 (fun H_9 locs hP1 hD1 hS1 => ?_)
    clear hP hD hS
    have hS := hS1
    have hW7 : (fun w9 : va_W => va_P D classes w9 H_9 ∧ va_D A w9) [(g0, .inr (2, [.ref n0, .ref g1, .ref g2, .ref g3, .ref g4, .ref g5, .ref g6, .ref g7, .ref g8, .ref g9, .ref ga, .ref gb, .int (nI cl), .int (nI ln), .int (nI (br + 0)), .int (nI lp), .int (nI va)])), (g1, .inl (ax 1, 20, .inl (fun j => nI (sup kd ln q1 j)))), (g2, .inl (ax 1, 20, .inl (fun j => nI (sup ow ln o9 j)))), (g3, .inl (ax 1, 20, .inl (fun j => nI (sup sb ln 4294967295 j)))), (g4, .inl (ax 1, 20, .inl (fun j => nI (sup f1 ln 4294967295 j)))), (g5, .inl (ax 1, 20, .inl (fun j => nI (sup f2 ln 4294967295 j)))), (g6, .inl (ax 2, 20, .inl (fun j => nI (te j)))), (g7, .inl (ax 2, 20, .inl (fun j => nI (kp j)))), (g8, .inl (ax 0, 20, .inl tm)), (g9, .inl (ax 1, 20, .inl (fun j => nI (sup nm ln 4294967295 j)))), (ga, .inl (ax 1, 29, .inl (fun j => nI (ck j)))), (gb, .inl (ax 1, 29, .inl (fun j => nI (co j))))] := ⟨hP1, hD1⟩
    obtain ⟨hP, hD⟩ := hW7
    clear hP1 hD1 hS1
    refine lv_aload_n hx hb d_Listing_add_82 rfl (lv_at hl1 0 rfl) ?_
    refine lv_dup hx hb d_Listing_add_83 rfl ?_
    refine va_get (D := D) (ci := 2) (v := .int (nI lp)) (C := R_Listing) (T := F_Listing) (N := 17) hx hb hts i_Listing hown hK.1 hP 0 rfl rfl 15 (by decide) (hts _ wd_310) (fun _ h9 => h9) rfl d_Listing_add_84 ?_
    refine lv_iload_n hx hb d_Listing_add_87 rfl (lv_at hl1 1 rfl) ?_
    refine lv_bipush (v := 12) hx hb d_Listing_add_88 (by decide) ?_
    refine lv_icmp_ne (tgt := 97) hx hb d_Listing_add_90 (by decide) (fun c_10 => ?_) (fun c_10 => ?_)
    · replace c_10 : ¬ q1 = 12 := fun hq9 => c_10 ((nI_eq (a := q1) (b := 12) (by first | exact Nat.lt_of_lt_of_le (by assumption) (by decide) | exact Nat.lt_of_le_of_lt (by assumption) (by decide) | omega) (by decide)).mpr hq9)
      refine lv_iconst (v := 0) hx hb d_Listing_add_97 (by decide) ?_
      refine lv_iadd hx hb d_Listing_add_98 ?_
      refine lv_topi (fun z_11 ez_11 => ?_)
      have ez_11 : z_11 = nI (lp + 0) := ez_11.trans (nI_add lp 0)
      subst ez_11
      refine va_put (D := D) (ci := 2) (v := .int (nI (lp + 0))) (ty := .int) (C := R_Listing) (T := F_Listing) (N := 17) hx hb hts i_Listing t_Listing t_Listing_ok n_Listing hown hK.1 hP hD hS 0 rfl rfl 15 (by decide) (hts _ wd_310) (fun _ h9 => h9) rfl (by decide +kernel) rfl rfl (Nat.le_of_ble_eq_true rfl) d_Listing_add_99 (fun H_12 locs hP1 hD1 hS1 => ?_)
      clear hP hD hS
      have hS := hS1
      have hW7 : (fun w9 : va_W => va_P D classes w9 H_12 ∧ va_D A w9) [(g0, .inr (2, [.ref n0, .ref g1, .ref g2, .ref g3, .ref g4, .ref g5, .ref g6, .ref g7, .ref g8, .ref g9, .ref ga, .ref gb, .int (nI cl), .int (nI ln), .int (nI (br + 0)), .int (nI (lp + 0)), .int (nI va)])), (g1, .inl (ax 1, 20, .inl (fun j => nI (sup kd ln q1 j)))), (g2, .inl (ax 1, 20, .inl (fun j => nI (sup ow ln o9 j)))), (g3, .inl (ax 1, 20, .inl (fun j => nI (sup sb ln 4294967295 j)))), (g4, .inl (ax 1, 20, .inl (fun j => nI (sup f1 ln 4294967295 j)))), (g5, .inl (ax 1, 20, .inl (fun j => nI (sup f2 ln 4294967295 j)))), (g6, .inl (ax 2, 20, .inl (fun j => nI (te j)))), (g7, .inl (ax 2, 20, .inl (fun j => nI (kp j)))), (g8, .inl (ax 0, 20, .inl tm)), (g9, .inl (ax 1, 20, .inl (fun j => nI (sup nm ln 4294967295 j)))), (ga, .inl (ax 1, 29, .inl (fun j => nI (ck j)))), (gb, .inl (ax 1, 29, .inl (fun j => nI (co j))))] := ⟨hP1, hD1⟩
      obtain ⟨hP, hD⟩ := hW7
      clear hP1 hD1 hS1
      refine lv_aload_n hx hb d_Listing_add_102 rfl (lv_at hl1 0 rfl) ?_
      refine lv_dup hx hb d_Listing_add_103 rfl ?_
      refine va_get (D := D) (ci := 2) (v := .int (nI ln)) (C := R_Listing) (T := F_Listing) (N := 17) hx hb hts i_Listing hown hK.1 hP 0 rfl rfl 13 (by decide) (hts _ wd_308) (fun _ h9 => h9) rfl d_Listing_add_104 ?_
      refine lv_dup_x1 hx hb d_Listing_add_107 rfl rfl ?_
      refine lv_iconst (v := 1) hx hb d_Listing_add_108 (by decide) ?_
      refine lv_iadd hx hb d_Listing_add_109 ?_
      refine lv_topi (fun z_13 ez_13 => ?_)
      have ez_13 : z_13 = nI (ln + 1) := ez_13.trans (nI_add ln 1)
      subst ez_13
      refine va_put (D := D) (ci := 2) (v := .int (nI (ln + 1))) (ty := .int) (C := R_Listing) (T := F_Listing) (N := 17) hx hb hts i_Listing t_Listing t_Listing_ok n_Listing hown hK.1 hP hD hS 0 rfl rfl 13 (by decide) (hts _ wd_308) (fun _ h9 => h9) rfl (by decide +kernel) rfl rfl (Nat.le_of_ble_eq_true rfl) d_Listing_add_110 (fun H_14 locs hP1 hD1 hS1 => ?_)
      clear hP hD hS
      have hS := hS1
      have hW7 : (fun w9 : va_W => va_P D classes w9 H_14 ∧ va_D A w9) [(g0, .inr (2, [.ref n0, .ref g1, .ref g2, .ref g3, .ref g4, .ref g5, .ref g6, .ref g7, .ref g8, .ref g9, .ref ga, .ref gb, .int (nI cl), .int (nI (ln + 1)), .int (nI (br + 0)), .int (nI (lp + 0)), .int (nI va)])), (g1, .inl (ax 1, 20, .inl (fun j => nI (sup kd ln q1 j)))), (g2, .inl (ax 1, 20, .inl (fun j => nI (sup ow ln o9 j)))), (g3, .inl (ax 1, 20, .inl (fun j => nI (sup sb ln 4294967295 j)))), (g4, .inl (ax 1, 20, .inl (fun j => nI (sup f1 ln 4294967295 j)))), (g5, .inl (ax 1, 20, .inl (fun j => nI (sup f2 ln 4294967295 j)))), (g6, .inl (ax 2, 20, .inl (fun j => nI (te j)))), (g7, .inl (ax 2, 20, .inl (fun j => nI (kp j)))), (g8, .inl (ax 0, 20, .inl tm)), (g9, .inl (ax 1, 20, .inl (fun j => nI (sup nm ln 4294967295 j)))), (ga, .inl (ax 1, 29, .inl (fun j => nI (ck j)))), (gb, .inl (ax 1, 29, .inl (fun j => nI (co j))))] := ⟨hP1, hD1⟩
      obtain ⟨hP, hD⟩ := hW7
      clear hP1 hD1 hS1
      rw [← hQe]
      obtain ⟨hP9, hD9⟩ := xw_sub2 (wc := (fun u : Nat → Nat => [(g0, .inr (2, [.ref n0, .ref g1, .ref g2, .ref g3, .ref g4, .ref g5, .ref g6, .ref g7, .ref g8, .ref g9, .ref ga, .ref gb, .int (nI cl), .int (nI (ln + 1)), .int (nI (u 0)), .int (nI (u 1)), .int (nI va)])), (g1, .inl (ax 1, 20, .inl (fun j => nI (sup kd ln q1 j)))), (g2, .inl (ax 1, 20, .inl (fun j => nI (sup ow ln o9 j)))), (g3, .inl (ax 1, 20, .inl (fun j => nI (sup sb ln 4294967295 j)))), (g4, .inl (ax 1, 20, .inl (fun j => nI (sup f1 ln 4294967295 j)))), (g5, .inl (ax 1, 20, .inl (fun j => nI (sup f2 ln 4294967295 j)))), (g6, .inl (ax 2, 20, .inl (fun j => nI (te j)))), (g7, .inl (ax 2, 20, .inl (fun j => nI (kp j)))), (g8, .inl (ax 0, 20, .inl tm)), (g9, .inl (ax 1, 20, .inl (fun j => nI (sup nm ln 4294967295 j)))), (ga, .inl (ax 1, 29, .inl (fun j => nI (ck j)))), (gb, .inl (ax 1, 29, .inl (fun j => nI (co j))))]) (ixn [(br + 0), (lp + 0)])) hP hD [0, 1, 2, 3, 4, 5, 6, 7, 8, 9, 10, 11] (by decide) rfl
      have hsp0 : (br + 0) = br + ifq q1 8 := (by unfold ifq; first | rw [if_pos (by first | assumption | omega)] | rw [if_neg (by first | assumption | omega)])
      have hsp1 : (lp + 0) = lp + ifq q1 12 := (by unfold ifq; first | rw [if_pos (by first | assumption | omega)] | rw [if_neg (by first | assumption | omega)])
      exact W.iret (v := nI ln) hx hb hr (fun t ht hW => ⟨⟨nI ln, ixn [(br + 0), (lp + 0)], rfl, ⟨rfl, ⟨hsp0, hsp1⟩⟩, ⟨by rw [ht]; exact hP9, hD9⟩⟩, hS.F ht⟩) hS.2.2 d_Listing_add_113
    · replace c_10 : q1 = 12 := (nI_eq (a := q1) (b := 12) (by first | exact Nat.lt_of_lt_of_le (by assumption) (by decide) | exact Nat.lt_of_le_of_lt (by assumption) (by decide) | omega) (by decide)).mp c_10
      refine lv_iconst (v := 1) hx hb d_Listing_add_93 (by decide) ?_
      refine lv_goto (tgt := 98) hx hb d_Listing_add_94 (by decide) ?_
      refine lv_iadd hx hb d_Listing_add_98 ?_
      refine lv_topi (fun z_15 ez_15 => ?_)
      have ez_15 : z_15 = nI (lp + 1) := ez_15.trans (nI_add lp 1)
      subst ez_15
      refine va_put (D := D) (ci := 2) (v := .int (nI (lp + 1))) (ty := .int) (C := R_Listing) (T := F_Listing) (N := 17) hx hb hts i_Listing t_Listing t_Listing_ok n_Listing hown hK.1 hP hD hS 0 rfl rfl 15 (by decide) (hts _ wd_310) (fun _ h9 => h9) rfl (by decide +kernel) rfl rfl (Nat.le_of_ble_eq_true rfl) d_Listing_add_99 (fun H_16 locs hP1 hD1 hS1 => ?_)
      clear hP hD hS
      have hS := hS1
      have hW7 : (fun w9 : va_W => va_P D classes w9 H_16 ∧ va_D A w9) [(g0, .inr (2, [.ref n0, .ref g1, .ref g2, .ref g3, .ref g4, .ref g5, .ref g6, .ref g7, .ref g8, .ref g9, .ref ga, .ref gb, .int (nI cl), .int (nI ln), .int (nI (br + 0)), .int (nI (lp + 1)), .int (nI va)])), (g1, .inl (ax 1, 20, .inl (fun j => nI (sup kd ln q1 j)))), (g2, .inl (ax 1, 20, .inl (fun j => nI (sup ow ln o9 j)))), (g3, .inl (ax 1, 20, .inl (fun j => nI (sup sb ln 4294967295 j)))), (g4, .inl (ax 1, 20, .inl (fun j => nI (sup f1 ln 4294967295 j)))), (g5, .inl (ax 1, 20, .inl (fun j => nI (sup f2 ln 4294967295 j)))), (g6, .inl (ax 2, 20, .inl (fun j => nI (te j)))), (g7, .inl (ax 2, 20, .inl (fun j => nI (kp j)))), (g8, .inl (ax 0, 20, .inl tm)), (g9, .inl (ax 1, 20, .inl (fun j => nI (sup nm ln 4294967295 j)))), (ga, .inl (ax 1, 29, .inl (fun j => nI (ck j)))), (gb, .inl (ax 1, 29, .inl (fun j => nI (co j))))] := ⟨hP1, hD1⟩
      obtain ⟨hP, hD⟩ := hW7
      clear hP1 hD1 hS1
      refine lv_aload_n hx hb d_Listing_add_102 rfl (lv_at hl1 0 rfl) ?_
      refine lv_dup hx hb d_Listing_add_103 rfl ?_
      refine va_get (D := D) (ci := 2) (v := .int (nI ln)) (C := R_Listing) (T := F_Listing) (N := 17) hx hb hts i_Listing hown hK.1 hP 0 rfl rfl 13 (by decide) (hts _ wd_308) (fun _ h9 => h9) rfl d_Listing_add_104 ?_
      refine lv_dup_x1 hx hb d_Listing_add_107 rfl rfl ?_
      refine lv_iconst (v := 1) hx hb d_Listing_add_108 (by decide) ?_
      refine lv_iadd hx hb d_Listing_add_109 ?_
      refine lv_topi (fun z_17 ez_17 => ?_)
      have ez_17 : z_17 = nI (ln + 1) := ez_17.trans (nI_add ln 1)
      subst ez_17
      refine va_put (D := D) (ci := 2) (v := .int (nI (ln + 1))) (ty := .int) (C := R_Listing) (T := F_Listing) (N := 17) hx hb hts i_Listing t_Listing t_Listing_ok n_Listing hown hK.1 hP hD hS 0 rfl rfl 13 (by decide) (hts _ wd_308) (fun _ h9 => h9) rfl (by decide +kernel) rfl rfl (Nat.le_of_ble_eq_true rfl) d_Listing_add_110 (fun H_18 locs hP1 hD1 hS1 => ?_)
      clear hP hD hS
      have hS := hS1
      have hW7 : (fun w9 : va_W => va_P D classes w9 H_18 ∧ va_D A w9) [(g0, .inr (2, [.ref n0, .ref g1, .ref g2, .ref g3, .ref g4, .ref g5, .ref g6, .ref g7, .ref g8, .ref g9, .ref ga, .ref gb, .int (nI cl), .int (nI (ln + 1)), .int (nI (br + 0)), .int (nI (lp + 1)), .int (nI va)])), (g1, .inl (ax 1, 20, .inl (fun j => nI (sup kd ln q1 j)))), (g2, .inl (ax 1, 20, .inl (fun j => nI (sup ow ln o9 j)))), (g3, .inl (ax 1, 20, .inl (fun j => nI (sup sb ln 4294967295 j)))), (g4, .inl (ax 1, 20, .inl (fun j => nI (sup f1 ln 4294967295 j)))), (g5, .inl (ax 1, 20, .inl (fun j => nI (sup f2 ln 4294967295 j)))), (g6, .inl (ax 2, 20, .inl (fun j => nI (te j)))), (g7, .inl (ax 2, 20, .inl (fun j => nI (kp j)))), (g8, .inl (ax 0, 20, .inl tm)), (g9, .inl (ax 1, 20, .inl (fun j => nI (sup nm ln 4294967295 j)))), (ga, .inl (ax 1, 29, .inl (fun j => nI (ck j)))), (gb, .inl (ax 1, 29, .inl (fun j => nI (co j))))] := ⟨hP1, hD1⟩
      obtain ⟨hP, hD⟩ := hW7
      clear hP1 hD1 hS1
      rw [← hQe]
      obtain ⟨hP9, hD9⟩ := xw_sub2 (wc := (fun u : Nat → Nat => [(g0, .inr (2, [.ref n0, .ref g1, .ref g2, .ref g3, .ref g4, .ref g5, .ref g6, .ref g7, .ref g8, .ref g9, .ref ga, .ref gb, .int (nI cl), .int (nI (ln + 1)), .int (nI (u 0)), .int (nI (u 1)), .int (nI va)])), (g1, .inl (ax 1, 20, .inl (fun j => nI (sup kd ln q1 j)))), (g2, .inl (ax 1, 20, .inl (fun j => nI (sup ow ln o9 j)))), (g3, .inl (ax 1, 20, .inl (fun j => nI (sup sb ln 4294967295 j)))), (g4, .inl (ax 1, 20, .inl (fun j => nI (sup f1 ln 4294967295 j)))), (g5, .inl (ax 1, 20, .inl (fun j => nI (sup f2 ln 4294967295 j)))), (g6, .inl (ax 2, 20, .inl (fun j => nI (te j)))), (g7, .inl (ax 2, 20, .inl (fun j => nI (kp j)))), (g8, .inl (ax 0, 20, .inl tm)), (g9, .inl (ax 1, 20, .inl (fun j => nI (sup nm ln 4294967295 j)))), (ga, .inl (ax 1, 29, .inl (fun j => nI (ck j)))), (gb, .inl (ax 1, 29, .inl (fun j => nI (co j))))]) (ixn [(br + 0), (lp + 1)])) hP hD [0, 1, 2, 3, 4, 5, 6, 7, 8, 9, 10, 11] (by decide) rfl
      have hsp0 : (br + 0) = br + ifq q1 8 := (by unfold ifq; first | rw [if_pos (by first | assumption | omega)] | rw [if_neg (by first | assumption | omega)])
      have hsp1 : (lp + 1) = lp + ifq q1 12 := (by unfold ifq; first | rw [if_pos (by first | assumption | omega)] | rw [if_neg (by first | assumption | omega)])
      exact W.iret (v := nI ln) hx hb hr (fun t ht hW => ⟨⟨nI ln, ixn [(br + 0), (lp + 1)], rfl, ⟨rfl, ⟨hsp0, hsp1⟩⟩, ⟨by rw [ht]; exact hP9, hD9⟩⟩, hS.F ht⟩) hS.2.2 d_Listing_add_113
  · replace c_7 : q1 = 8 := (nI_eq (a := q1) (b := 8) (by first | exact Nat.lt_of_lt_of_le (by assumption) (by decide) | exact Nat.lt_of_le_of_lt (by assumption) (by decide) | omega) (by decide)).mp c_7
    refine lv_iconst (v := 1) hx hb d_Listing_add_73 (by decide) ?_
    refine lv_goto (tgt := 78) hx hb d_Listing_add_74 (by decide) ?_
    refine lv_iadd hx hb d_Listing_add_78 ?_
    refine lv_topi (fun z_19 ez_19 => ?_)
    have ez_19 : z_19 = nI (br + 1) := ez_19.trans (nI_add br 1)
    subst ez_19
    refine va_put (D := D) (ci := 2) (v := .int (nI (br + 1))) (ty := .int) (C := R_Listing) (T := F_Listing) (N := 17) hx hb hts i_Listing t_Listing t_Listing_ok n_Listing hown hK.1 hP hD hS 0 rfl rfl 14 (by decide) (hts _ wd_309) (fun _ h9 => h9) rfl (by decide +kernel) rfl rfl (Nat.le_of_ble_eq_true rfl) d_Listing_add_79 (fun H_20 locs hP1 hD1 hS1 => ?_)
    clear hP hD hS
    have hS := hS1
    have hW7 : (fun w9 : va_W => va_P D classes w9 H_20 ∧ va_D A w9) [(g0, .inr (2, [.ref n0, .ref g1, .ref g2, .ref g3, .ref g4, .ref g5, .ref g6, .ref g7, .ref g8, .ref g9, .ref ga, .ref gb, .int (nI cl), .int (nI ln), .int (nI (br + 1)), .int (nI lp), .int (nI va)])), (g1, .inl (ax 1, 20, .inl (fun j => nI (sup kd ln q1 j)))), (g2, .inl (ax 1, 20, .inl (fun j => nI (sup ow ln o9 j)))), (g3, .inl (ax 1, 20, .inl (fun j => nI (sup sb ln 4294967295 j)))), (g4, .inl (ax 1, 20, .inl (fun j => nI (sup f1 ln 4294967295 j)))), (g5, .inl (ax 1, 20, .inl (fun j => nI (sup f2 ln 4294967295 j)))), (g6, .inl (ax 2, 20, .inl (fun j => nI (te j)))), (g7, .inl (ax 2, 20, .inl (fun j => nI (kp j)))), (g8, .inl (ax 0, 20, .inl tm)), (g9, .inl (ax 1, 20, .inl (fun j => nI (sup nm ln 4294967295 j)))), (ga, .inl (ax 1, 29, .inl (fun j => nI (ck j)))), (gb, .inl (ax 1, 29, .inl (fun j => nI (co j))))] := ⟨hP1, hD1⟩
    obtain ⟨hP, hD⟩ := hW7
    clear hP1 hD1 hS1
    refine lv_aload_n hx hb d_Listing_add_82 rfl (lv_at hl1 0 rfl) ?_
    refine lv_dup hx hb d_Listing_add_83 rfl ?_
    refine va_get (D := D) (ci := 2) (v := .int (nI lp)) (C := R_Listing) (T := F_Listing) (N := 17) hx hb hts i_Listing hown hK.1 hP 0 rfl rfl 15 (by decide) (hts _ wd_310) (fun _ h9 => h9) rfl d_Listing_add_84 ?_
    refine lv_iload_n hx hb d_Listing_add_87 rfl (lv_at hl1 1 rfl) ?_
    refine lv_bipush (v := 12) hx hb d_Listing_add_88 (by decide) ?_
    refine lv_icmp_ne (tgt := 97) hx hb d_Listing_add_90 (by decide) (fun c_21 => ?_) (fun c_21 => ?_)
    · replace c_21 : ¬ q1 = 12 := fun hq9 => c_21 ((nI_eq (a := q1) (b := 12) (by first | exact Nat.lt_of_lt_of_le (by assumption) (by decide) | exact Nat.lt_of_le_of_lt (by assumption) (by decide) | omega) (by decide)).mpr hq9)
      refine lv_iconst (v := 0) hx hb d_Listing_add_97 (by decide) ?_
      refine lv_iadd hx hb d_Listing_add_98 ?_
      refine lv_topi (fun z_22 ez_22 => ?_)
      have ez_22 : z_22 = nI (lp + 0) := ez_22.trans (nI_add lp 0)
      subst ez_22
      refine va_put (D := D) (ci := 2) (v := .int (nI (lp + 0))) (ty := .int) (C := R_Listing) (T := F_Listing) (N := 17) hx hb hts i_Listing t_Listing t_Listing_ok n_Listing hown hK.1 hP hD hS 0 rfl rfl 15 (by decide) (hts _ wd_310) (fun _ h9 => h9) rfl (by decide +kernel) rfl rfl (Nat.le_of_ble_eq_true rfl) d_Listing_add_99 (fun H_23 locs hP1 hD1 hS1 => ?_)
      clear hP hD hS
      have hS := hS1
      have hW7 : (fun w9 : va_W => va_P D classes w9 H_23 ∧ va_D A w9) [(g0, .inr (2, [.ref n0, .ref g1, .ref g2, .ref g3, .ref g4, .ref g5, .ref g6, .ref g7, .ref g8, .ref g9, .ref ga, .ref gb, .int (nI cl), .int (nI ln), .int (nI (br + 1)), .int (nI (lp + 0)), .int (nI va)])), (g1, .inl (ax 1, 20, .inl (fun j => nI (sup kd ln q1 j)))), (g2, .inl (ax 1, 20, .inl (fun j => nI (sup ow ln o9 j)))), (g3, .inl (ax 1, 20, .inl (fun j => nI (sup sb ln 4294967295 j)))), (g4, .inl (ax 1, 20, .inl (fun j => nI (sup f1 ln 4294967295 j)))), (g5, .inl (ax 1, 20, .inl (fun j => nI (sup f2 ln 4294967295 j)))), (g6, .inl (ax 2, 20, .inl (fun j => nI (te j)))), (g7, .inl (ax 2, 20, .inl (fun j => nI (kp j)))), (g8, .inl (ax 0, 20, .inl tm)), (g9, .inl (ax 1, 20, .inl (fun j => nI (sup nm ln 4294967295 j)))), (ga, .inl (ax 1, 29, .inl (fun j => nI (ck j)))), (gb, .inl (ax 1, 29, .inl (fun j => nI (co j))))] := ⟨hP1, hD1⟩
      obtain ⟨hP, hD⟩ := hW7
      clear hP1 hD1 hS1
      refine lv_aload_n hx hb d_Listing_add_102 rfl (lv_at hl1 0 rfl) ?_
      refine lv_dup hx hb d_Listing_add_103 rfl ?_
      refine va_get (D := D) (ci := 2) (v := .int (nI ln)) (C := R_Listing) (T := F_Listing) (N := 17) hx hb hts i_Listing hown hK.1 hP 0 rfl rfl 13 (by decide) (hts _ wd_308) (fun _ h9 => h9) rfl d_Listing_add_104 ?_
      refine lv_dup_x1 hx hb d_Listing_add_107 rfl rfl ?_
      refine lv_iconst (v := 1) hx hb d_Listing_add_108 (by decide) ?_
      refine lv_iadd hx hb d_Listing_add_109 ?_
      refine lv_topi (fun z_24 ez_24 => ?_)
      have ez_24 : z_24 = nI (ln + 1) := ez_24.trans (nI_add ln 1)
      subst ez_24
      refine va_put (D := D) (ci := 2) (v := .int (nI (ln + 1))) (ty := .int) (C := R_Listing) (T := F_Listing) (N := 17) hx hb hts i_Listing t_Listing t_Listing_ok n_Listing hown hK.1 hP hD hS 0 rfl rfl 13 (by decide) (hts _ wd_308) (fun _ h9 => h9) rfl (by decide +kernel) rfl rfl (Nat.le_of_ble_eq_true rfl) d_Listing_add_110 (fun H_25 locs hP1 hD1 hS1 => ?_)
      clear hP hD hS
      have hS := hS1
      have hW7 : (fun w9 : va_W => va_P D classes w9 H_25 ∧ va_D A w9) [(g0, .inr (2, [.ref n0, .ref g1, .ref g2, .ref g3, .ref g4, .ref g5, .ref g6, .ref g7, .ref g8, .ref g9, .ref ga, .ref gb, .int (nI cl), .int (nI (ln + 1)), .int (nI (br + 1)), .int (nI (lp + 0)), .int (nI va)])), (g1, .inl (ax 1, 20, .inl (fun j => nI (sup kd ln q1 j)))), (g2, .inl (ax 1, 20, .inl (fun j => nI (sup ow ln o9 j)))), (g3, .inl (ax 1, 20, .inl (fun j => nI (sup sb ln 4294967295 j)))), (g4, .inl (ax 1, 20, .inl (fun j => nI (sup f1 ln 4294967295 j)))), (g5, .inl (ax 1, 20, .inl (fun j => nI (sup f2 ln 4294967295 j)))), (g6, .inl (ax 2, 20, .inl (fun j => nI (te j)))), (g7, .inl (ax 2, 20, .inl (fun j => nI (kp j)))), (g8, .inl (ax 0, 20, .inl tm)), (g9, .inl (ax 1, 20, .inl (fun j => nI (sup nm ln 4294967295 j)))), (ga, .inl (ax 1, 29, .inl (fun j => nI (ck j)))), (gb, .inl (ax 1, 29, .inl (fun j => nI (co j))))] := ⟨hP1, hD1⟩
      obtain ⟨hP, hD⟩ := hW7
      clear hP1 hD1 hS1
      rw [← hQe]
      obtain ⟨hP9, hD9⟩ := xw_sub2 (wc := (fun u : Nat → Nat => [(g0, .inr (2, [.ref n0, .ref g1, .ref g2, .ref g3, .ref g4, .ref g5, .ref g6, .ref g7, .ref g8, .ref g9, .ref ga, .ref gb, .int (nI cl), .int (nI (ln + 1)), .int (nI (u 0)), .int (nI (u 1)), .int (nI va)])), (g1, .inl (ax 1, 20, .inl (fun j => nI (sup kd ln q1 j)))), (g2, .inl (ax 1, 20, .inl (fun j => nI (sup ow ln o9 j)))), (g3, .inl (ax 1, 20, .inl (fun j => nI (sup sb ln 4294967295 j)))), (g4, .inl (ax 1, 20, .inl (fun j => nI (sup f1 ln 4294967295 j)))), (g5, .inl (ax 1, 20, .inl (fun j => nI (sup f2 ln 4294967295 j)))), (g6, .inl (ax 2, 20, .inl (fun j => nI (te j)))), (g7, .inl (ax 2, 20, .inl (fun j => nI (kp j)))), (g8, .inl (ax 0, 20, .inl tm)), (g9, .inl (ax 1, 20, .inl (fun j => nI (sup nm ln 4294967295 j)))), (ga, .inl (ax 1, 29, .inl (fun j => nI (ck j)))), (gb, .inl (ax 1, 29, .inl (fun j => nI (co j))))]) (ixn [(br + 1), (lp + 0)])) hP hD [0, 1, 2, 3, 4, 5, 6, 7, 8, 9, 10, 11] (by decide) rfl
      have hsp0 : (br + 1) = br + ifq q1 8 := (by unfold ifq; first | rw [if_pos (by first | assumption | omega)] | rw [if_neg (by first | assumption | omega)])
      have hsp1 : (lp + 0) = lp + ifq q1 12 := (by unfold ifq; first | rw [if_pos (by first | assumption | omega)] | rw [if_neg (by first | assumption | omega)])
      exact W.iret (v := nI ln) hx hb hr (fun t ht hW => ⟨⟨nI ln, ixn [(br + 1), (lp + 0)], rfl, ⟨rfl, ⟨hsp0, hsp1⟩⟩, ⟨by rw [ht]; exact hP9, hD9⟩⟩, hS.F ht⟩) hS.2.2 d_Listing_add_113
    · replace c_21 : q1 = 12 := (nI_eq (a := q1) (b := 12) (by first | exact Nat.lt_of_lt_of_le (by assumption) (by decide) | exact Nat.lt_of_le_of_lt (by assumption) (by decide) | omega) (by decide)).mp c_21
      refine lv_iconst (v := 1) hx hb d_Listing_add_93 (by decide) ?_
      refine lv_goto (tgt := 98) hx hb d_Listing_add_94 (by decide) ?_
      refine lv_iadd hx hb d_Listing_add_98 ?_
      refine lv_topi (fun z_26 ez_26 => ?_)
      have ez_26 : z_26 = nI (lp + 1) := ez_26.trans (nI_add lp 1)
      subst ez_26
      refine va_put (D := D) (ci := 2) (v := .int (nI (lp + 1))) (ty := .int) (C := R_Listing) (T := F_Listing) (N := 17) hx hb hts i_Listing t_Listing t_Listing_ok n_Listing hown hK.1 hP hD hS 0 rfl rfl 15 (by decide) (hts _ wd_310) (fun _ h9 => h9) rfl (by decide +kernel) rfl rfl (Nat.le_of_ble_eq_true rfl) d_Listing_add_99 (fun H_27 locs hP1 hD1 hS1 => ?_)
      clear hP hD hS
      have hS := hS1
      have hW7 : (fun w9 : va_W => va_P D classes w9 H_27 ∧ va_D A w9) [(g0, .inr (2, [.ref n0, .ref g1, .ref g2, .ref g3, .ref g4, .ref g5, .ref g6, .ref g7, .ref g8, .ref g9, .ref ga, .ref gb, .int (nI cl), .int (nI ln), .int (nI (br + 1)), .int (nI (lp + 1)), .int (nI va)])), (g1, .inl (ax 1, 20, .inl (fun j => nI (sup kd ln q1 j)))), (g2, .inl (ax 1, 20, .inl (fun j => nI (sup ow ln o9 j)))), (g3, .inl (ax 1, 20, .inl (fun j => nI (sup sb ln 4294967295 j)))), (g4, .inl (ax 1, 20, .inl (fun j => nI (sup f1 ln 4294967295 j)))), (g5, .inl (ax 1, 20, .inl (fun j => nI (sup f2 ln 4294967295 j)))), (g6, .inl (ax 2, 20, .inl (fun j => nI (te j)))), (g7, .inl (ax 2, 20, .inl (fun j => nI (kp j)))), (g8, .inl (ax 0, 20, .inl tm)), (g9, .inl (ax 1, 20, .inl (fun j => nI (sup nm ln 4294967295 j)))), (ga, .inl (ax 1, 29, .inl (fun j => nI (ck j)))), (gb, .inl (ax 1, 29, .inl (fun j => nI (co j))))] := ⟨hP1, hD1⟩
      obtain ⟨hP, hD⟩ := hW7
      clear hP1 hD1 hS1
      refine lv_aload_n hx hb d_Listing_add_102 rfl (lv_at hl1 0 rfl) ?_
      refine lv_dup hx hb d_Listing_add_103 rfl ?_
      refine va_get (D := D) (ci := 2) (v := .int (nI ln)) (C := R_Listing) (T := F_Listing) (N := 17) hx hb hts i_Listing hown hK.1 hP 0 rfl rfl 13 (by decide) (hts _ wd_308) (fun _ h9 => h9) rfl d_Listing_add_104 ?_
      refine lv_dup_x1 hx hb d_Listing_add_107 rfl rfl ?_
      refine lv_iconst (v := 1) hx hb d_Listing_add_108 (by decide) ?_
      refine lv_iadd hx hb d_Listing_add_109 ?_
      refine lv_topi (fun z_28 ez_28 => ?_)
      have ez_28 : z_28 = nI (ln + 1) := ez_28.trans (nI_add ln 1)
      subst ez_28
      refine va_put (D := D) (ci := 2) (v := .int (nI (ln + 1))) (ty := .int) (C := R_Listing) (T := F_Listing) (N := 17) hx hb hts i_Listing t_Listing t_Listing_ok n_Listing hown hK.1 hP hD hS 0 rfl rfl 13 (by decide) (hts _ wd_308) (fun _ h9 => h9) rfl (by decide +kernel) rfl rfl (Nat.le_of_ble_eq_true rfl) d_Listing_add_110 (fun H_29 locs hP1 hD1 hS1 => ?_)
      clear hP hD hS
      have hS := hS1
      have hW7 : (fun w9 : va_W => va_P D classes w9 H_29 ∧ va_D A w9) [(g0, .inr (2, [.ref n0, .ref g1, .ref g2, .ref g3, .ref g4, .ref g5, .ref g6, .ref g7, .ref g8, .ref g9, .ref ga, .ref gb, .int (nI cl), .int (nI (ln + 1)), .int (nI (br + 1)), .int (nI (lp + 1)), .int (nI va)])), (g1, .inl (ax 1, 20, .inl (fun j => nI (sup kd ln q1 j)))), (g2, .inl (ax 1, 20, .inl (fun j => nI (sup ow ln o9 j)))), (g3, .inl (ax 1, 20, .inl (fun j => nI (sup sb ln 4294967295 j)))), (g4, .inl (ax 1, 20, .inl (fun j => nI (sup f1 ln 4294967295 j)))), (g5, .inl (ax 1, 20, .inl (fun j => nI (sup f2 ln 4294967295 j)))), (g6, .inl (ax 2, 20, .inl (fun j => nI (te j)))), (g7, .inl (ax 2, 20, .inl (fun j => nI (kp j)))), (g8, .inl (ax 0, 20, .inl tm)), (g9, .inl (ax 1, 20, .inl (fun j => nI (sup nm ln 4294967295 j)))), (ga, .inl (ax 1, 29, .inl (fun j => nI (ck j)))), (gb, .inl (ax 1, 29, .inl (fun j => nI (co j))))] := ⟨hP1, hD1⟩
      obtain ⟨hP, hD⟩ := hW7
      clear hP1 hD1 hS1
      rw [← hQe]
      obtain ⟨hP9, hD9⟩ := xw_sub2 (wc := (fun u : Nat → Nat => [(g0, .inr (2, [.ref n0, .ref g1, .ref g2, .ref g3, .ref g4, .ref g5, .ref g6, .ref g7, .ref g8, .ref g9, .ref ga, .ref gb, .int (nI cl), .int (nI (ln + 1)), .int (nI (u 0)), .int (nI (u 1)), .int (nI va)])), (g1, .inl (ax 1, 20, .inl (fun j => nI (sup kd ln q1 j)))), (g2, .inl (ax 1, 20, .inl (fun j => nI (sup ow ln o9 j)))), (g3, .inl (ax 1, 20, .inl (fun j => nI (sup sb ln 4294967295 j)))), (g4, .inl (ax 1, 20, .inl (fun j => nI (sup f1 ln 4294967295 j)))), (g5, .inl (ax 1, 20, .inl (fun j => nI (sup f2 ln 4294967295 j)))), (g6, .inl (ax 2, 20, .inl (fun j => nI (te j)))), (g7, .inl (ax 2, 20, .inl (fun j => nI (kp j)))), (g8, .inl (ax 0, 20, .inl tm)), (g9, .inl (ax 1, 20, .inl (fun j => nI (sup nm ln 4294967295 j)))), (ga, .inl (ax 1, 29, .inl (fun j => nI (ck j)))), (gb, .inl (ax 1, 29, .inl (fun j => nI (co j))))]) (ixn [(br + 1), (lp + 1)])) hP hD [0, 1, 2, 3, 4, 5, 6, 7, 8, 9, 10, 11] (by decide) rfl
      have hsp0 : (br + 1) = br + ifq q1 8 := (by unfold ifq; first | rw [if_pos (by first | assumption | omega)] | rw [if_neg (by first | assumption | omega)])
      have hsp1 : (lp + 1) = lp + ifq q1 12 := (by unfold ifq; first | rw [if_pos (by first | assumption | omega)] | rw [if_neg (by first | assumption | omega)])
      exact W.iret (v := nI ln) hx hb hr (fun t ht hW => ⟨⟨nI ln, ixn [(br + 1), (lp + 1)], rfl, ⟨rfl, ⟨hsp0, hsp1⟩⟩, ⟨by rw [ht]; exact hP9, hD9⟩⟩, hS.F ht⟩) hS.2.2 d_Listing_add_113
abbrev b_Listing_addVariant : ByteArray := prog_4_method_5_code
def y_Listing_addVariant : MethodName := ⟨R_Listing, "addVariant", "(II)V"⟩
theorem d_Listing_addVariant_0 : decode b_Listing_addVariant 0 = .ok (.aload_n 0, 1) := by decide +kernel
theorem d_Listing_addVariant_1 : decode b_Listing_addVariant 1 = .ok (.getfield 41, 3) := by decide +kernel
theorem d_Listing_addVariant_4 : decode b_Listing_addVariant 4 = .ok (.iload_n 1, 1) := by decide +kernel
theorem d_Listing_addVariant_5 : decode b_Listing_addVariant 5 = .ok (.iload_n 2, 1) := by decide +kernel
theorem d_Listing_addVariant_6 : decode b_Listing_addVariant 6 = .ok (.iastore, 1) := by decide +kernel
theorem d_Listing_addVariant_7 : decode b_Listing_addVariant 7 = .ok (.aload_n 0, 1) := by decide +kernel
theorem d_Listing_addVariant_8 : decode b_Listing_addVariant 8 = .ok (.getfield 45, 3) := by decide +kernel
theorem d_Listing_addVariant_11 : decode b_Listing_addVariant 11 = .ok (.iload_n 1, 1) := by decide +kernel
theorem d_Listing_addVariant_12 : decode b_Listing_addVariant 12 = .ok (.bipush 6, 2) := by decide +kernel
theorem d_Listing_addVariant_14 : decode b_Listing_addVariant 14 = .ok (.aload_n 0, 1) := by decide +kernel
theorem d_Listing_addVariant_15 : decode b_Listing_addVariant 15 = .ok (.getfield 67, 3) := by decide +kernel
theorem d_Listing_addVariant_18 : decode b_Listing_addVariant 18 = .ok (.iadd, 1) := by decide +kernel
theorem d_Listing_addVariant_19 : decode b_Listing_addVariant 19 = .ok (.i2b, 1) := by decide +kernel
theorem d_Listing_addVariant_20 : decode b_Listing_addVariant 20 = .ok (.bastore, 1) := by decide +kernel
theorem d_Listing_addVariant_21 : decode b_Listing_addVariant 21 = .ok (.aload_n 0, 1) := by decide +kernel
theorem d_Listing_addVariant_22 : decode b_Listing_addVariant 22 = .ok (.dup, 1) := by decide +kernel
theorem d_Listing_addVariant_23 : decode b_Listing_addVariant 23 = .ok (.getfield 67, 3) := by decide +kernel
theorem d_Listing_addVariant_26 : decode b_Listing_addVariant 26 = .ok (.iconst 1, 1) := by decide +kernel
theorem d_Listing_addVariant_27 : decode b_Listing_addVariant 27 = .ok (.iadd, 1) := by decide +kernel
theorem d_Listing_addVariant_28 : decode b_Listing_addVariant 28 = .ok (.putfield 67, 3) := by decide +kernel
theorem d_Listing_addVariant_31 : decode b_Listing_addVariant 31 = .ok (.return_, 1) := by decide +kernel
set_option maxHeartbeats 40000000 in
set_option maxRecDepth 100000 in
theorem c_L_addVariant (l : Launch) (D : va_G) (ax : Nat → ClassId) (g0 g1 g2 g3 g4 g5 g6 g7 g8 g9 ga gb cl ln br lp va : Nat) (kd ow sb f1 f2 te kp nm ck co : Nat → Nat) (tm : Nat → Int32) (n0 : Nat) (s9 : Nat) (x2 : Int32) (sz : Nat) (hs9 : s9 < 20) (hva : va ≤ 3) : Met l y_Listing_addVariant (xws (.code y_Listing_addVariant b_Listing_addVariant 3 none)) ({ frames := 10, cells := 0, slots := 0, locals := 400 }) (va_Pc [.ref g0, .int (nI s9), .int x2] (xo D ax [(g0, .inr (2, [.ref n0, .ref g1, .ref g2, .ref g3, .ref g4, .ref g5, .ref g6, .ref g7, .ref g8, .ref g9, .ref ga, .ref gb, .int (nI cl), .int (nI ln), .int (nI br), .int (nI lp), .int (nI va)])), (g1, .inl (ax 1, 20, .inl (fun j => nI (kd j)))), (g2, .inl (ax 1, 20, .inl (fun j => nI (ow j)))), (g3, .inl (ax 1, 20, .inl (fun j => nI (sb j)))), (g4, .inl (ax 1, 20, .inl (fun j => nI (f1 j)))), (g5, .inl (ax 1, 20, .inl (fun j => nI (f2 j)))), (g6, .inl (ax 2, 20, .inl (fun j => nI (te j)))), (g7, .inl (ax 2, 20, .inl (fun j => nI (kp j)))), (g8, .inl (ax 0, 20, .inl tm)), (g9, .inl (ax 1, 20, .inl (fun j => nI (nm j)))), (ga, .inl (ax 1, 29, .inl (fun j => nI (ck j)))), (gb, .inl (ax 1, 29, .inl (fun j => nI (co j))))] sz)) ((va_Qv (fun (u : Nat → Nat) => True) (xb D (va_A [(g0, .inr (2, [.ref n0, .ref g1, .ref g2, .ref g3, .ref g4, .ref g5, .ref g6, .ref g7, .ref g8, .ref g9, .ref ga, .ref gb, .int (nI cl), .int (nI ln), .int (nI br), .int (nI lp), .int (nI va)])), (g1, .inl (ax 1, 20, .inl (fun j => nI (kd j)))), (g2, .inl (ax 1, 20, .inl (fun j => nI (ow j)))), (g3, .inl (ax 1, 20, .inl (fun j => nI (sb j)))), (g4, .inl (ax 1, 20, .inl (fun j => nI (f1 j)))), (g5, .inl (ax 1, 20, .inl (fun j => nI (f2 j)))), (g6, .inl (ax 2, 20, .inl (fun j => nI (te j)))), (g7, .inl (ax 2, 20, .inl (fun j => nI (kp j)))), (g8, .inl (ax 0, 20, .inl tm)), (g9, .inl (ax 1, 20, .inl (fun j => nI (nm j)))), (ga, .inl (ax 1, 29, .inl (fun j => nI (ck j)))), (gb, .inl (ax 1, 29, .inl (fun j => nI (co j))))] sz) (fun u => [(g0, .inr (2, [.ref n0, .ref g1, .ref g2, .ref g3, .ref g4, .ref g5, .ref g6, .ref g7, .ref g8, .ref g9, .ref ga, .ref gb, .int (nI cl), .int (nI ln), .int (nI br), .int (nI lp), .int (nI (va + 1))])), (g1, .inl (ax 1, 20, .inl (fun j => nI (kd j)))), (g2, .inl (ax 1, 20, .inl (fun j => nI (ow j)))), (g3, .inl (ax 1, 20, .inl (fun j => nI (sb j)))), (g4, .inl (ax 1, 20, .inl (fun j => nI (f1 j)))), (g5, .inl (ax 1, 20, .inl (fun j => nI (f2 j)))), (g6, .inl (ax 2, 20, .inl (fun j => nI (te j)))), (g7, .inl (ax 2, 20, .inl (fun j => nI (kp j)))), (g8, .inl (ax 0, 20, .inl (upd tm s9 x2))), (g9, .inl (ax 1, 20, .inl (fun j => nI (sup nm s9 (6 + va) j)))), (ga, .inl (ax 1, 29, .inl (fun j => nI (ck j)))), (gb, .inl (ax 1, 29, .inl (fun j => nI (co j))))])) (va_A [(g0, .inr (2, [.ref n0, .ref g1, .ref g2, .ref g3, .ref g4, .ref g5, .ref g6, .ref g7, .ref g8, .ref g9, .ref ga, .ref gb, .int (nI cl), .int (nI ln), .int (nI br), .int (nI lp), .int (nI va)])), (g1, .inl (ax 1, 20, .inl (fun j => nI (kd j)))), (g2, .inl (ax 1, 20, .inl (fun j => nI (ow j)))), (g3, .inl (ax 1, 20, .inl (fun j => nI (sb j)))), (g4, .inl (ax 1, 20, .inl (fun j => nI (f1 j)))), (g5, .inl (ax 1, 20, .inl (fun j => nI (f2 j)))), (g6, .inl (ax 2, 20, .inl (fun j => nI (te j)))), (g7, .inl (ax 2, 20, .inl (fun j => nI (kp j)))), (g8, .inl (ax 0, 20, .inl tm)), (g9, .inl (ax 1, 20, .inl (fun j => nI (nm j)))), (ga, .inl (ax 1, 29, .inl (fun j => nI (ck j)))), (gb, .inl (ax 1, 29, .inl (fun j => nI (co j))))] sz))) 0 0 (va_A [(g0, .inr (2, [.ref n0, .ref g1, .ref g2, .ref g3, .ref g4, .ref g5, .ref g6, .ref g7, .ref g8, .ref g9, .ref ga, .ref gb, .int (nI cl), .int (nI ln), .int (nI br), .int (nI lp), .int (nI va)])), (g1, .inl (ax 1, 20, .inl (fun j => nI (kd j)))), (g2, .inl (ax 1, 20, .inl (fun j => nI (ow j)))), (g3, .inl (ax 1, 20, .inl (fun j => nI (sb j)))), (g4, .inl (ax 1, 20, .inl (fun j => nI (f1 j)))), (g5, .inl (ax 1, 20, .inl (fun j => nI (f2 j)))), (g6, .inl (ax 2, 20, .inl (fun j => nI (te j)))), (g7, .inl (ax 2, 20, .inl (fun j => nI (kp j)))), (g8, .inl (ax 0, 20, .inl tm)), (g9, .inl (ax 1, 20, .inl (fun j => nI (nm j)))), (ga, .inl (ax 1, 29, .inl (fun j => nI (ck j)))), (gb, .inl (ax 1, 29, .inl (fun j => nI (co j))))] sz) := by
  refine Met.ofW (cc := b_Listing_addVariant) (maxL := 3) (ret := none) (by decide) rfl ?_
  intro p e s m args below meth c s₁ B hml hv
  obtain ⟨rfl, hsz, hP, hK, hD0⟩ := hv
  have hx := B.exec
  have hb := B.bytes
  have hr := B.returns
  have hts := xw_hts B.pre
  have hown : s.vm.findClass R_Listing = some m.cls := findClass_of_methodNamed B.named
  have hlocks := B.notSynchronized
  subst hsz
  have hD := hD0.self (sz := s.heap.size)
  have hN := xz_entry hP
  generalize hAe : va_A [(g0, .inr (2, [.ref n0, .ref g1, .ref g2, .ref g3, .ref g4, .ref g5, .ref g6, .ref g7, .ref g8, .ref g9, .ref ga, .ref gb, .int (nI cl), .int (nI ln), .int (nI br), .int (nI lp), .int (nI va)])), (g1, .inl (ax 1, 20, .inl (fun j => nI (kd j)))), (g2, .inl (ax 1, 20, .inl (fun j => nI (ow j)))), (g3, .inl (ax 1, 20, .inl (fun j => nI (sb j)))), (g4, .inl (ax 1, 20, .inl (fun j => nI (f1 j)))), (g5, .inl (ax 1, 20, .inl (fun j => nI (f2 j)))), (g6, .inl (ax 2, 20, .inl (fun j => nI (te j)))), (g7, .inl (ax 2, 20, .inl (fun j => nI (kp j)))), (g8, .inl (ax 0, 20, .inl tm)), (g9, .inl (ax 1, 20, .inl (fun j => nI (nm j)))), (ga, .inl (ax 1, 29, .inl (fun j => nI (ck j)))), (gb, .inl (ax 1, 29, .inl (fun j => nI (co j))))] s.heap.size = A at hD hN ⊢
  have hA : ∀ q : Nat, s.heap.size ≤ q → A q := fun q h => by rw [← hAe]; exact Or.inr h
  have hS : va_S A s.heap s.heap [] := va_S.rf
  have hl0 := lv_entry ([.ref g0, .int (nI s9), .int x2]) (n := 3) (Nat.le_of_ble_eq_true rfl)
  rw [lg_entry_eq]
  generalize (lg_sl ([.ref g0, .int (nI s9), .int x2]) ++ List.replicate (3 - (lg_sl ([.ref g0, .int (nI s9), .int x2])).length) Slot.unset).toArray = ls at hl0 ⊢
  have hl1 : lv_has ls 3 [(0, .ref g0), (1, .int (nI s9)), (2, .int x2)] := hl0
  refine xw_gen (fun Z9 hQe => ?_)
  refine lv_aload_n hx hb d_Listing_addVariant_0 rfl (lv_at hl1 0 rfl) ?_
  refine va_get (D := D) (ci := 2) (v := .ref g8) (C := R_Listing) (T := F_Listing) (N := 17) hx hb hts i_Listing hown hK.1 hP 0 rfl rfl 8 (by decide) (hts _ wd_292) (fun _ h9 => h9) rfl d_Listing_addVariant_1 ?_
  refine lv_iload_n hx hb d_Listing_addVariant_4 rfl (lv_at hl1 1 rfl) ?_
  refine lv_iload_n hx hb d_Listing_addVariant_5 rfl (lv_at hl1 2 rfl) ?_
  refine va_iast hx hb hK.1 hP hD hS 8 0 rfl rfl (vp_in_nI (by first | assumption | omega) (by decide)) d_Listing_addVariant_6 (fun H_1 locs hP1 hD1 hS1 => ?_)
  rw [nI_clamp (by first | exact Nat.lt_of_lt_of_le (by assumption) (by decide) | exact Nat.lt_of_le_of_lt (by assumption) (by decide) | omega)] at hP1 hD1
  clear hP hD hS
  have hS := hS1
  have hW7 : (fun w9 : va_W => va_P D classes w9 H_1 ∧ va_D A w9) [(g0, .inr (2, [.ref n0, .ref g1, .ref g2, .ref g3, .ref g4, .ref g5, .ref g6, .ref g7, .ref g8, .ref g9, .ref ga, .ref gb, .int (nI cl), .int (nI ln), .int (nI br), .int (nI lp), .int (nI va)])), (g1, .inl (ax 1, 20, .inl (fun j => nI (kd j)))), (g2, .inl (ax 1, 20, .inl (fun j => nI (ow j)))), (g3, .inl (ax 1, 20, .inl (fun j => nI (sb j)))), (g4, .inl (ax 1, 20, .inl (fun j => nI (f1 j)))), (g5, .inl (ax 1, 20, .inl (fun j => nI (f2 j)))), (g6, .inl (ax 2, 20, .inl (fun j => nI (te j)))), (g7, .inl (ax 2, 20, .inl (fun j => nI (kp j)))), (g8, .inl (ax 0, 20, .inl (upd tm s9 x2))), (g9, .inl (ax 1, 20, .inl (fun j => nI (nm j)))), (ga, .inl (ax 1, 29, .inl (fun j => nI (ck j)))), (gb, .inl (ax 1, 29, .inl (fun j => nI (co j))))] := ⟨hP1, hD1⟩
  obtain ⟨hP, hD⟩ := hW7
  clear hP1 hD1 hS1
  refine lv_aload_n hx hb d_Listing_addVariant_7 rfl (lv_at hl1 0 rfl) ?_
  refine va_get (D := D) (ci := 2) (v := .ref g9) (C := R_Listing) (T := F_Listing) (N := 17) hx hb hts i_Listing hown hK.1 hP 0 rfl rfl 9 (by decide) (hts _ wd_296) (fun _ h9 => h9) rfl d_Listing_addVariant_8 ?_
  refine lv_iload_n hx hb d_Listing_addVariant_11 rfl (lv_at hl1 1 rfl) ?_
  refine lv_bipush (v := 6) hx hb d_Listing_addVariant_12 (by decide) ?_
  refine lv_aload_n hx hb d_Listing_addVariant_14 rfl (lv_at hl1 0 rfl) ?_
  refine va_get (D := D) (ci := 2) (v := .int (nI va)) (C := R_Listing) (T := F_Listing) (N := 17) hx hb hts i_Listing hown hK.1 hP 0 rfl rfl 16 (by decide) (hts _ wd_311) (fun _ h9 => h9) rfl d_Listing_addVariant_15 ?_
  refine lv_iadd hx hb d_Listing_addVariant_18 ?_
  refine lv_topi (fun z_2 ez_2 => ?_)
  have ez_2 : z_2 = nI (6 + va) := ez_2.trans (nI_add 6 va)
  subst ez_2
  refine lv_i2b (v := nI (6 + va)) hx hb d_Listing_addVariant_19 (nb_i2b (by first | assumption | omega)) ?_
  refine va_bast hx hb hK.1 hP hD hS 9 1 rfl rfl (vp_in_nI (by first | assumption | omega) (by decide)) d_Listing_addVariant_20 (fun H_3 locs hP1 hD1 hS1 => ?_)
  rw [nI_clamp (by first | exact Nat.lt_of_lt_of_le (by assumption) (by decide) | exact Nat.lt_of_le_of_lt (by assumption) (by decide) | omega)] at hP1 hD1
  rw [xf_supb nm s9 (6 + va) (by first | assumption | omega)] at hP1 hD1
  clear hP hD hS
  have hS := hS1
  have hW7 : (fun w9 : va_W => va_P D classes w9 H_3 ∧ va_D A w9) [(g0, .inr (2, [.ref n0, .ref g1, .ref g2, .ref g3, .ref g4, .ref g5, .ref g6, .ref g7, .ref g8, .ref g9, .ref ga, .ref gb, .int (nI cl), .int (nI ln), .int (nI br), .int (nI lp), .int (nI va)])), (g1, .inl (ax 1, 20, .inl (fun j => nI (kd j)))), (g2, .inl (ax 1, 20, .inl (fun j => nI (ow j)))), (g3, .inl (ax 1, 20, .inl (fun j => nI (sb j)))), (g4, .inl (ax 1, 20, .inl (fun j => nI (f1 j)))), (g5, .inl (ax 1, 20, .inl (fun j => nI (f2 j)))), (g6, .inl (ax 2, 20, .inl (fun j => nI (te j)))), (g7, .inl (ax 2, 20, .inl (fun j => nI (kp j)))), (g8, .inl (ax 0, 20, .inl (upd tm s9 x2))), (g9, .inl (ax 1, 20, .inl (fun j => nI (sup nm s9 (6 + va) j)))), (ga, .inl (ax 1, 29, .inl (fun j => nI (ck j)))), (gb, .inl (ax 1, 29, .inl (fun j => nI (co j))))] := ⟨hP1, hD1⟩
  obtain ⟨hP, hD⟩ := hW7
  clear hP1 hD1 hS1
  refine lv_aload_n hx hb d_Listing_addVariant_21 rfl (lv_at hl1 0 rfl) ?_
  refine lv_dup hx hb d_Listing_addVariant_22 rfl ?_
  refine va_get (D := D) (ci := 2) (v := .int (nI va)) (C := R_Listing) (T := F_Listing) (N := 17) hx hb hts i_Listing hown hK.1 hP 0 rfl rfl 16 (by decide) (hts _ wd_311) (fun _ h9 => h9) rfl d_Listing_addVariant_23 ?_
  refine lv_iconst (v := 1) hx hb d_Listing_addVariant_26 (by decide) ?_
  refine lv_iadd hx hb d_Listing_addVariant_27 ?_
  refine lv_topi (fun z_4 ez_4 => ?_)
  have ez_4 : z_4 = nI (va + 1) := ez_4.trans (nI_add va 1)
  subst ez_4
  refine va_put (D := D) (ci := 2) (v := .int (nI (va + 1))) (ty := .int) (C := R_Listing) (T := F_Listing) (N := 17) hx hb hts i_Listing t_Listing t_Listing_ok n_Listing hown hK.1 hP hD hS 0 rfl rfl 16 (by decide) (hts _ wd_311) (fun _ h9 => h9) rfl (by decide +kernel) rfl rfl (Nat.le_of_ble_eq_true rfl) d_Listing_addVariant_28 (fun H_5 locs hP1 hD1 hS1 => ?_)
  clear hP hD hS
  have hS := hS1
  have hW7 : (fun w9 : va_W => va_P D classes w9 H_5 ∧ va_D A w9) [(g0, .inr (2, [.ref n0, .ref g1, .ref g2, .ref g3, .ref g4, .ref g5, .ref g6, .ref g7, .ref g8, .ref g9, .ref ga, .ref gb, .int (nI cl), .int (nI ln), .int (nI br), .int (nI lp), .int (nI (va + 1))])), (g1, .inl (ax 1, 20, .inl (fun j => nI (kd j)))), (g2, .inl (ax 1, 20, .inl (fun j => nI (ow j)))), (g3, .inl (ax 1, 20, .inl (fun j => nI (sb j)))), (g4, .inl (ax 1, 20, .inl (fun j => nI (f1 j)))), (g5, .inl (ax 1, 20, .inl (fun j => nI (f2 j)))), (g6, .inl (ax 2, 20, .inl (fun j => nI (te j)))), (g7, .inl (ax 2, 20, .inl (fun j => nI (kp j)))), (g8, .inl (ax 0, 20, .inl (upd tm s9 x2))), (g9, .inl (ax 1, 20, .inl (fun j => nI (sup nm s9 (6 + va) j)))), (ga, .inl (ax 1, 29, .inl (fun j => nI (ck j)))), (gb, .inl (ax 1, 29, .inl (fun j => nI (co j))))] := ⟨hP1, hD1⟩
  obtain ⟨hP, hD⟩ := hW7
  clear hP1 hD1 hS1
  rw [← hQe]
  obtain ⟨hP9, hD9⟩ := xw_sub2 (wc := (fun u : Nat → Nat => [(g0, .inr (2, [.ref n0, .ref g1, .ref g2, .ref g3, .ref g4, .ref g5, .ref g6, .ref g7, .ref g8, .ref g9, .ref ga, .ref gb, .int (nI cl), .int (nI ln), .int (nI br), .int (nI lp), .int (nI (va + 1))])), (g1, .inl (ax 1, 20, .inl (fun j => nI (kd j)))), (g2, .inl (ax 1, 20, .inl (fun j => nI (ow j)))), (g3, .inl (ax 1, 20, .inl (fun j => nI (sb j)))), (g4, .inl (ax 1, 20, .inl (fun j => nI (f1 j)))), (g5, .inl (ax 1, 20, .inl (fun j => nI (f2 j)))), (g6, .inl (ax 2, 20, .inl (fun j => nI (te j)))), (g7, .inl (ax 2, 20, .inl (fun j => nI (kp j)))), (g8, .inl (ax 0, 20, .inl (upd tm s9 x2))), (g9, .inl (ax 1, 20, .inl (fun j => nI (sup nm s9 (6 + va) j)))), (ga, .inl (ax 1, 29, .inl (fun j => nI (ck j)))), (gb, .inl (ax 1, 29, .inl (fun j => nI (co j))))]) (ixn [])) hP hD [0, 1, 2, 3, 4, 5, 6, 7, 8, 9, 10, 11] (by decide) rfl
  exact W.vret hx hb hr (fun t ht hW => ⟨⟨ixn [], rfl, trivial, ⟨by rw [ht]; exact hP9, hD9⟩⟩, hS.F ht⟩) hS.2.2 d_Listing_addVariant_31
abbrev b_Listing_addClaim : ByteArray := prog_4_method_6_code
def y_Listing_addClaim : MethodName := ⟨R_Listing, "addClaim", "(II)V"⟩
theorem d_Listing_addClaim_0 : decode b_Listing_addClaim 0 = .ok (.aload_n 0, 1) := by decide +kernel
theorem d_Listing_addClaim_1 : decode b_Listing_addClaim 1 = .ok (.getfield 70, 3) := by decide +kernel
theorem d_Listing_addClaim_4 : decode b_Listing_addClaim 4 = .ok (.bipush 29, 2) := by decide +kernel
theorem d_Listing_addClaim_6 : decode b_Listing_addClaim 6 = .ok (.if_icmp .ge 35, 3) := by decide +kernel
theorem d_Listing_addClaim_9 : decode b_Listing_addClaim 9 = .ok (.aload_n 0, 1) := by decide +kernel
theorem d_Listing_addClaim_10 : decode b_Listing_addClaim 10 = .ok (.getfield 48, 3) := by decide +kernel
theorem d_Listing_addClaim_13 : decode b_Listing_addClaim 13 = .ok (.aload_n 0, 1) := by decide +kernel
theorem d_Listing_addClaim_14 : decode b_Listing_addClaim 14 = .ok (.getfield 70, 3) := by decide +kernel
theorem d_Listing_addClaim_17 : decode b_Listing_addClaim 17 = .ok (.iload_n 1, 1) := by decide +kernel
theorem d_Listing_addClaim_18 : decode b_Listing_addClaim 18 = .ok (.i2b, 1) := by decide +kernel
theorem d_Listing_addClaim_19 : decode b_Listing_addClaim 19 = .ok (.bastore, 1) := by decide +kernel
theorem d_Listing_addClaim_20 : decode b_Listing_addClaim 20 = .ok (.aload_n 0, 1) := by decide +kernel
theorem d_Listing_addClaim_21 : decode b_Listing_addClaim 21 = .ok (.getfield 51, 3) := by decide +kernel
theorem d_Listing_addClaim_24 : decode b_Listing_addClaim 24 = .ok (.aload_n 0, 1) := by decide +kernel
theorem d_Listing_addClaim_25 : decode b_Listing_addClaim 25 = .ok (.getfield 70, 3) := by decide +kernel
theorem d_Listing_addClaim_28 : decode b_Listing_addClaim 28 = .ok (.iload_n 2, 1) := by decide +kernel
theorem d_Listing_addClaim_29 : decode b_Listing_addClaim 29 = .ok (.i2b, 1) := by decide +kernel
theorem d_Listing_addClaim_30 : decode b_Listing_addClaim 30 = .ok (.bastore, 1) := by decide +kernel
theorem d_Listing_addClaim_31 : decode b_Listing_addClaim 31 = .ok (.aload_n 0, 1) := by decide +kernel
theorem d_Listing_addClaim_32 : decode b_Listing_addClaim 32 = .ok (.dup, 1) := by decide +kernel
theorem d_Listing_addClaim_33 : decode b_Listing_addClaim 33 = .ok (.getfield 70, 3) := by decide +kernel
theorem d_Listing_addClaim_36 : decode b_Listing_addClaim 36 = .ok (.iconst 1, 1) := by decide +kernel
theorem d_Listing_addClaim_37 : decode b_Listing_addClaim 37 = .ok (.iadd, 1) := by decide +kernel
theorem d_Listing_addClaim_38 : decode b_Listing_addClaim 38 = .ok (.putfield 70, 3) := by decide +kernel
theorem d_Listing_addClaim_41 : decode b_Listing_addClaim 41 = .ok (.return_, 1) := by decide +kernel
set_option maxHeartbeats 40000000 in
set_option maxRecDepth 100000 in
theorem c_L_addClaim (l : Launch) (D : va_G) (ax : Nat → ClassId) (g0 g1 g2 g3 g4 g5 g6 g7 g8 g9 ga gb cl ln br lp va : Nat) (kd ow sb f1 f2 te kp nm ck co : Nat → Nat) (tm : Nat → Int32) (n0 : Nat) (q1 o9 : Nat) (sz : Nat) (hq1 : q1 ≤ 4) (ho9 : smn o9) (hcl : cl < 29) : Met l y_Listing_addClaim (xws (.code y_Listing_addClaim b_Listing_addClaim 3 none)) ({ frames := 10, cells := 0, slots := 0, locals := 400 }) (va_Pc [.ref g0, .int (nI q1), .int (nI o9)] (xo D ax [(g0, .inr (2, [.ref n0, .ref g1, .ref g2, .ref g3, .ref g4, .ref g5, .ref g6, .ref g7, .ref g8, .ref g9, .ref ga, .ref gb, .int (nI cl), .int (nI ln), .int (nI br), .int (nI lp), .int (nI va)])), (g1, .inl (ax 1, 20, .inl (fun j => nI (kd j)))), (g2, .inl (ax 1, 20, .inl (fun j => nI (ow j)))), (g3, .inl (ax 1, 20, .inl (fun j => nI (sb j)))), (g4, .inl (ax 1, 20, .inl (fun j => nI (f1 j)))), (g5, .inl (ax 1, 20, .inl (fun j => nI (f2 j)))), (g6, .inl (ax 2, 20, .inl (fun j => nI (te j)))), (g7, .inl (ax 2, 20, .inl (fun j => nI (kp j)))), (g8, .inl (ax 0, 20, .inl tm)), (g9, .inl (ax 1, 20, .inl (fun j => nI (nm j)))), (ga, .inl (ax 1, 29, .inl (fun j => nI (ck j)))), (gb, .inl (ax 1, 29, .inl (fun j => nI (co j))))] sz)) ((va_Qv (fun (u : Nat → Nat) => (u 0 ≤ 29 ∧ u 0 = cl + 1)) (fun (u : Nat → Nat) (t9 : State) => ∃ xck : Nat → Nat, ∃ xco : Nat → Nat, ((xck = ck ∧ xco = co ∧ u 0 = cl ∧ 29 ≤ cl) ∨ (xck = sup ck cl q1 ∧ xco = sup co cl o9 ∧ u 0 = cl + 1 ∧ cl < 29)) ∧ va_P D classes [(g0, .inr (2, [.ref n0, .ref g1, .ref g2, .ref g3, .ref g4, .ref g5, .ref g6, .ref g7, .ref g8, .ref g9, .ref ga, .ref gb, .int (nI (u 0)), .int (nI ln), .int (nI br), .int (nI lp), .int (nI va)])), (g1, .inl (ax 1, 20, .inl (fun j => nI (kd j)))), (g2, .inl (ax 1, 20, .inl (fun j => nI (ow j)))), (g3, .inl (ax 1, 20, .inl (fun j => nI (sb j)))), (g4, .inl (ax 1, 20, .inl (fun j => nI (f1 j)))), (g5, .inl (ax 1, 20, .inl (fun j => nI (f2 j)))), (g6, .inl (ax 2, 20, .inl (fun j => nI (te j)))), (g7, .inl (ax 2, 20, .inl (fun j => nI (kp j)))), (g8, .inl (ax 0, 20, .inl tm)), (g9, .inl (ax 1, 20, .inl (fun j => nI (nm j)))), (ga, .inl (ax 1, 29, .inl (fun j => nI (xck j)))), (gb, .inl (ax 1, 29, .inl (fun j => nI (xco j))))] t9.heap ∧ va_D (va_A [(g0, .inr (2, [.ref n0, .ref g1, .ref g2, .ref g3, .ref g4, .ref g5, .ref g6, .ref g7, .ref g8, .ref g9, .ref ga, .ref gb, .int (nI cl), .int (nI ln), .int (nI br), .int (nI lp), .int (nI va)])), (g1, .inl (ax 1, 20, .inl (fun j => nI (kd j)))), (g2, .inl (ax 1, 20, .inl (fun j => nI (ow j)))), (g3, .inl (ax 1, 20, .inl (fun j => nI (sb j)))), (g4, .inl (ax 1, 20, .inl (fun j => nI (f1 j)))), (g5, .inl (ax 1, 20, .inl (fun j => nI (f2 j)))), (g6, .inl (ax 2, 20, .inl (fun j => nI (te j)))), (g7, .inl (ax 2, 20, .inl (fun j => nI (kp j)))), (g8, .inl (ax 0, 20, .inl tm)), (g9, .inl (ax 1, 20, .inl (fun j => nI (nm j)))), (ga, .inl (ax 1, 29, .inl (fun j => nI (ck j)))), (gb, .inl (ax 1, 29, .inl (fun j => nI (co j))))] sz) [(g0, .inr (2, [.ref n0, .ref g1, .ref g2, .ref g3, .ref g4, .ref g5, .ref g6, .ref g7, .ref g8, .ref g9, .ref ga, .ref gb, .int (nI (u 0)), .int (nI ln), .int (nI br), .int (nI lp), .int (nI va)])), (g1, .inl (ax 1, 20, .inl (fun j => nI (kd j)))), (g2, .inl (ax 1, 20, .inl (fun j => nI (ow j)))), (g3, .inl (ax 1, 20, .inl (fun j => nI (sb j)))), (g4, .inl (ax 1, 20, .inl (fun j => nI (f1 j)))), (g5, .inl (ax 1, 20, .inl (fun j => nI (f2 j)))), (g6, .inl (ax 2, 20, .inl (fun j => nI (te j)))), (g7, .inl (ax 2, 20, .inl (fun j => nI (kp j)))), (g8, .inl (ax 0, 20, .inl tm)), (g9, .inl (ax 1, 20, .inl (fun j => nI (nm j)))), (ga, .inl (ax 1, 29, .inl (fun j => nI (xck j)))), (gb, .inl (ax 1, 29, .inl (fun j => nI (xco j))))]) (va_A [(g0, .inr (2, [.ref n0, .ref g1, .ref g2, .ref g3, .ref g4, .ref g5, .ref g6, .ref g7, .ref g8, .ref g9, .ref ga, .ref gb, .int (nI cl), .int (nI ln), .int (nI br), .int (nI lp), .int (nI va)])), (g1, .inl (ax 1, 20, .inl (fun j => nI (kd j)))), (g2, .inl (ax 1, 20, .inl (fun j => nI (ow j)))), (g3, .inl (ax 1, 20, .inl (fun j => nI (sb j)))), (g4, .inl (ax 1, 20, .inl (fun j => nI (f1 j)))), (g5, .inl (ax 1, 20, .inl (fun j => nI (f2 j)))), (g6, .inl (ax 2, 20, .inl (fun j => nI (te j)))), (g7, .inl (ax 2, 20, .inl (fun j => nI (kp j)))), (g8, .inl (ax 0, 20, .inl tm)), (g9, .inl (ax 1, 20, .inl (fun j => nI (nm j)))), (ga, .inl (ax 1, 29, .inl (fun j => nI (ck j)))), (gb, .inl (ax 1, 29, .inl (fun j => nI (co j))))] sz))) 0 0 (va_A [(g0, .inr (2, [.ref n0, .ref g1, .ref g2, .ref g3, .ref g4, .ref g5, .ref g6, .ref g7, .ref g8, .ref g9, .ref ga, .ref gb, .int (nI cl), .int (nI ln), .int (nI br), .int (nI lp), .int (nI va)])), (g1, .inl (ax 1, 20, .inl (fun j => nI (kd j)))), (g2, .inl (ax 1, 20, .inl (fun j => nI (ow j)))), (g3, .inl (ax 1, 20, .inl (fun j => nI (sb j)))), (g4, .inl (ax 1, 20, .inl (fun j => nI (f1 j)))), (g5, .inl (ax 1, 20, .inl (fun j => nI (f2 j)))), (g6, .inl (ax 2, 20, .inl (fun j => nI (te j)))), (g7, .inl (ax 2, 20, .inl (fun j => nI (kp j)))), (g8, .inl (ax 0, 20, .inl tm)), (g9, .inl (ax 1, 20, .inl (fun j => nI (nm j)))), (ga, .inl (ax 1, 29, .inl (fun j => nI (ck j)))), (gb, .inl (ax 1, 29, .inl (fun j => nI (co j))))] sz) := by
  refine Met.ofW (cc := b_Listing_addClaim) (maxL := 3) (ret := none) (by decide) rfl ?_
  intro p e s m args below meth c s₁ B hml hv
  obtain ⟨rfl, hsz, hP, hK, hD0⟩ := hv
  have hx := B.exec
  have hb := B.bytes
  have hr := B.returns
  have hts := xw_hts B.pre
  have hown : s.vm.findClass R_Listing = some m.cls := findClass_of_methodNamed B.named
  have hlocks := B.notSynchronized
  subst hsz
  have hD := hD0.self (sz := s.heap.size)
  have hN := xz_entry hP
  generalize hAe : va_A [(g0, .inr (2, [.ref n0, .ref g1, .ref g2, .ref g3, .ref g4, .ref g5, .ref g6, .ref g7, .ref g8, .ref g9, .ref ga, .ref gb, .int (nI cl), .int (nI ln), .int (nI br), .int (nI lp), .int (nI va)])), (g1, .inl (ax 1, 20, .inl (fun j => nI (kd j)))), (g2, .inl (ax 1, 20, .inl (fun j => nI (ow j)))), (g3, .inl (ax 1, 20, .inl (fun j => nI (sb j)))), (g4, .inl (ax 1, 20, .inl (fun j => nI (f1 j)))), (g5, .inl (ax 1, 20, .inl (fun j => nI (f2 j)))), (g6, .inl (ax 2, 20, .inl (fun j => nI (te j)))), (g7, .inl (ax 2, 20, .inl (fun j => nI (kp j)))), (g8, .inl (ax 0, 20, .inl tm)), (g9, .inl (ax 1, 20, .inl (fun j => nI (nm j)))), (ga, .inl (ax 1, 29, .inl (fun j => nI (ck j)))), (gb, .inl (ax 1, 29, .inl (fun j => nI (co j))))] s.heap.size = A at hD hN ⊢
  have hA : ∀ q : Nat, s.heap.size ≤ q → A q := fun q h => by rw [← hAe]; exact Or.inr h
  have hS : va_S A s.heap s.heap [] := va_S.rf
  have hl0 := lv_entry ([.ref g0, .int (nI q1), .int (nI o9)]) (n := 3) (Nat.le_of_ble_eq_true rfl)
  rw [lg_entry_eq]
  generalize (lg_sl ([.ref g0, .int (nI q1), .int (nI o9)]) ++ List.replicate (3 - (lg_sl ([.ref g0, .int (nI q1), .int (nI o9)])).length) Slot.unset).toArray = ls at hl0 ⊢
  have hl1 : lv_has ls 3 [(0, .ref g0), (1, .int (nI q1)), (2, .int (nI o9))] := hl0
  refine xw_gen (fun Z9 hQe => ?_)
  refine lv_aload_n hx hb d_Listing_addClaim_0 rfl (lv_at hl1 0 rfl) ?_
  refine va_get (D := D) (ci := 2) (v := .int (nI cl)) (C := R_Listing) (T := F_Listing) (N := 17) hx hb hts i_Listing hown hK.1 hP 0 rfl rfl 12 (by decide) (hts _ wd_306) (fun _ h9 => h9) rfl d_Listing_addClaim_1 ?_
  refine lv_bipush (v := 29) hx hb d_Listing_addClaim_4 (by decide) ?_
  refine lv_icmp_ge (tgt := 41) hx hb d_Listing_addClaim_6 (by decide) (fun c_1 => ?_) (fun c_1 => ?_)
  · replace c_1 : 29 ≤ cl := (nI_leI (a := 29) (b := cl) (by decide) (by first | exact Nat.lt_of_lt_of_le (by assumption) (by decide) | exact Nat.lt_of_le_of_lt (by assumption) (by decide) | omega)).mp c_1
    rw [← hQe]
    obtain ⟨hP9, hD9⟩ := xw_sub2 (wc := (fun (u : Nat → Nat) (xck : Nat → Nat) (xco : Nat → Nat) => [(g0, .inr (2, [.ref n0, .ref g1, .ref g2, .ref g3, .ref g4, .ref g5, .ref g6, .ref g7, .ref g8, .ref g9, .ref ga, .ref gb, .int (nI (u 0)), .int (nI ln), .int (nI br), .int (nI lp), .int (nI va)])), (g1, .inl (ax 1, 20, .inl (fun j => nI (kd j)))), (g2, .inl (ax 1, 20, .inl (fun j => nI (ow j)))), (g3, .inl (ax 1, 20, .inl (fun j => nI (sb j)))), (g4, .inl (ax 1, 20, .inl (fun j => nI (f1 j)))), (g5, .inl (ax 1, 20, .inl (fun j => nI (f2 j)))), (g6, .inl (ax 2, 20, .inl (fun j => nI (te j)))), (g7, .inl (ax 2, 20, .inl (fun j => nI (kp j)))), (g8, .inl (ax 0, 20, .inl tm)), (g9, .inl (ax 1, 20, .inl (fun j => nI (nm j)))), (ga, .inl (ax 1, 29, .inl (fun j => nI (xck j)))), (gb, .inl (ax 1, 29, .inl (fun j => nI (xco j))))]) (ixn [cl]) ck co) hP hD [0, 1, 2, 3, 4, 5, 6, 7, 8, 9, 10, 11] (by decide) rfl
    have hex0 : (ck = ck ∧ co = co ∧ cl = cl ∧ 29 ≤ cl) ∨ (ck = sup ck cl q1 ∧ co = sup co cl o9 ∧ cl = cl + 1 ∧ cl < 29) := (Or.inl ⟨rfl, rfl, rfl, by omega⟩)
    have hsp0 : cl ≤ 29 := (by first | assumption | omega)
    have hsp1 : cl = cl + 1 := (by first | assumption | omega)
    exact W.vret hx hb hr (fun t ht hW => ⟨⟨ixn [cl], rfl, ⟨hsp0, hsp1⟩, ⟨ck, co, hex0, by rw [ht]; exact hP9, hD9⟩⟩, hS.F ht⟩) hS.2.2 d_Listing_addClaim_41
  · replace c_1 : ¬ 29 ≤ cl := fun hq9 => c_1 ((nI_leI (a := 29) (b := cl) (by decide) (by first | exact Nat.lt_of_lt_of_le (by assumption) (by decide) | exact Nat.lt_of_le_of_lt (by assumption) (by decide) | omega)).mpr hq9)
    refine lv_aload_n hx hb d_Listing_addClaim_9 rfl (lv_at hl1 0 rfl) ?_
    refine va_get (D := D) (ci := 2) (v := .ref ga) (C := R_Listing) (T := F_Listing) (N := 17) hx hb hts i_Listing hown hK.1 hP 0 rfl rfl 10 (by decide) (hts _ wd_300) (fun _ h9 => h9) rfl d_Listing_addClaim_10 ?_
    refine lv_aload_n hx hb d_Listing_addClaim_13 rfl (lv_at hl1 0 rfl) ?_
    refine va_get (D := D) (ci := 2) (v := .int (nI cl)) (C := R_Listing) (T := F_Listing) (N := 17) hx hb hts i_Listing hown hK.1 hP 0 rfl rfl 12 (by decide) (hts _ wd_306) (fun _ h9 => h9) rfl d_Listing_addClaim_14 ?_
    refine lv_iload_n hx hb d_Listing_addClaim_17 rfl (lv_at hl1 1 rfl) ?_
    refine lv_i2b (v := nI q1) hx hb d_Listing_addClaim_18 (nb_i2b (by first | assumption | omega)) ?_
    refine va_bast hx hb hK.1 hP hD hS 10 1 rfl rfl (vp_in_nI (by first | assumption | omega) (by decide)) d_Listing_addClaim_19 (fun H_2 locs hP1 hD1 hS1 => ?_)
    rw [nI_clamp (by first | exact Nat.lt_of_lt_of_le (by assumption) (by decide) | exact Nat.lt_of_le_of_lt (by assumption) (by decide) | omega)] at hP1 hD1
    rw [xf_supb ck cl q1 (by first | assumption | omega)] at hP1 hD1
    clear hP hD hS
    have hS := hS1
    have hW7 : (fun w9 : va_W => va_P D classes w9 H_2 ∧ va_D A w9) [(g0, .inr (2, [.ref n0, .ref g1, .ref g2, .ref g3, .ref g4, .ref g5, .ref g6, .ref g7, .ref g8, .ref g9, .ref ga, .ref gb, .int (nI cl), .int (nI ln), .int (nI br), .int (nI lp), .int (nI va)])), (g1, .inl (ax 1, 20, .inl (fun j => nI (kd j)))), (g2, .inl (ax 1, 20, .inl (fun j => nI (ow j)))), (g3, .inl (ax 1, 20, .inl (fun j => nI (sb j)))), (g4, .inl (ax 1, 20, .inl (fun j => nI (f1 j)))), (g5, .inl (ax 1, 20, .inl (fun j => nI (f2 j)))), (g6, .inl (ax 2, 20, .inl (fun j => nI (te j)))), (g7, .inl (ax 2, 20, .inl (fun j => nI (kp j)))), (g8, .inl (ax 0, 20, .inl tm)), (g9, .inl (ax 1, 20, .inl (fun j => nI (nm j)))), (ga, .inl (ax 1, 29, .inl (fun j => nI (sup ck cl q1 j)))), (gb, .inl (ax 1, 29, .inl (fun j => nI (co j))))] := ⟨hP1, hD1⟩
    obtain ⟨hP, hD⟩ := hW7
    clear hP1 hD1 hS1
    refine lv_aload_n hx hb d_Listing_addClaim_20 rfl (lv_at hl1 0 rfl) ?_
    refine va_get (D := D) (ci := 2) (v := .ref gb) (C := R_Listing) (T := F_Listing) (N := 17) hx hb hts i_Listing hown hK.1 hP 0 rfl rfl 11 (by decide) (hts _ wd_303) (fun _ h9 => h9) rfl d_Listing_addClaim_21 ?_
    refine lv_aload_n hx hb d_Listing_addClaim_24 rfl (lv_at hl1 0 rfl) ?_
    refine va_get (D := D) (ci := 2) (v := .int (nI cl)) (C := R_Listing) (T := F_Listing) (N := 17) hx hb hts i_Listing hown hK.1 hP 0 rfl rfl 12 (by decide) (hts _ wd_306) (fun _ h9 => h9) rfl d_Listing_addClaim_25 ?_
    refine lv_iload_n hx hb d_Listing_addClaim_28 rfl (lv_at hl1 2 rfl) ?_
    refine lv_i2b (v := nI o9) hx hb d_Listing_addClaim_29 (nb_i2bs ho9) ?_
    refine va_bast hx hb hK.1 hP hD hS 11 1 rfl rfl (vp_in_nI (by first | assumption | omega) (by decide)) d_Listing_addClaim_30 (fun H_3 locs hP1 hD1 hS1 => ?_)
    rw [nI_clamp (by first | exact Nat.lt_of_lt_of_le (by assumption) (by decide) | exact Nat.lt_of_le_of_lt (by assumption) (by decide) | omega)] at hP1 hD1
    rw [xf_supbs co cl o9 ho9] at hP1 hD1
    clear hP hD hS
    have hS := hS1
    have hW7 : (fun w9 : va_W => va_P D classes w9 H_3 ∧ va_D A w9) [(g0, .inr (2, [.ref n0, .ref g1, .ref g2, .ref g3, .ref g4, .ref g5, .ref g6, .ref g7, .ref g8, .ref g9, .ref ga, .ref gb, .int (nI cl), .int (nI ln), .int (nI br), .int (nI lp), .int (nI va)])), (g1, .inl (ax 1, 20, .inl (fun j => nI (kd j)))), (g2, .inl (ax 1, 20, .inl (fun j => nI (ow j)))), (g3, .inl (ax 1, 20, .inl (fun j => nI (sb j)))), (g4, .inl (ax 1, 20, .inl (fun j => nI (f1 j)))), (g5, .inl (ax 1, 20, .inl (fun j => nI (f2 j)))), (g6, .inl (ax 2, 20, .inl (fun j => nI (te j)))), (g7, .inl (ax 2, 20, .inl (fun j => nI (kp j)))), (g8, .inl (ax 0, 20, .inl tm)), (g9, .inl (ax 1, 20, .inl (fun j => nI (nm j)))), (ga, .inl (ax 1, 29, .inl (fun j => nI (sup ck cl q1 j)))), (gb, .inl (ax 1, 29, .inl (fun j => nI (sup co cl o9 j))))] := ⟨hP1, hD1⟩
    obtain ⟨hP, hD⟩ := hW7
    clear hP1 hD1 hS1
    refine lv_aload_n hx hb d_Listing_addClaim_31 rfl (lv_at hl1 0 rfl) ?_
    refine lv_dup hx hb d_Listing_addClaim_32 rfl ?_
    refine va_get (D := D) (ci := 2) (v := .int (nI cl)) (C := R_Listing) (T := F_Listing) (N := 17) hx hb hts i_Listing hown hK.1 hP 0 rfl rfl 12 (by decide) (hts _ wd_306) (fun _ h9 => h9) rfl d_Listing_addClaim_33 ?_
    refine lv_iconst (v := 1) hx hb d_Listing_addClaim_36 (by decide) ?_
    refine lv_iadd hx hb d_Listing_addClaim_37 ?_
    refine lv_topi (fun z_4 ez_4 => ?_)
    have ez_4 : z_4 = nI (cl + 1) := ez_4.trans (nI_add cl 1)
    subst ez_4
    refine va_put (D := D) (ci := 2) (v := .int (nI (cl + 1))) (ty := .int) (C := R_Listing) (T := F_Listing) (N := 17) hx hb hts i_Listing t_Listing t_Listing_ok n_Listing hown hK.1 hP hD hS 0 rfl rfl 12 (by decide) (hts _ wd_306) (fun _ h9 => h9) rfl (by decide +kernel) rfl rfl (Nat.le_of_ble_eq_true rfl) d_Listing_addClaim_38 (fun H_5 locs hP1 hD1 hS1 => ?_)
    clear hP hD hS
    have hS := hS1
    have hW7 : (fun w9 : va_W => va_P D classes w9 H_5 ∧ va_D A w9) [(g0, .inr (2, [.ref n0, .ref g1, .ref g2, .ref g3, .ref g4, .ref g5, .ref g6, .ref g7, .ref g8, .ref g9, .ref ga, .ref gb, .int (nI (cl + 1)), .int (nI ln), .int (nI br), .int (nI lp), .int (nI va)])), (g1, .inl (ax 1, 20, .inl (fun j => nI (kd j)))), (g2, .inl (ax 1, 20, .inl (fun j => nI (ow j)))), (g3, .inl (ax 1, 20, .inl (fun j => nI (sb j)))), (g4, .inl (ax 1, 20, .inl (fun j => nI (f1 j)))), (g5, .inl (ax 1, 20, .inl (fun j => nI (f2 j)))), (g6, .inl (ax 2, 20, .inl (fun j => nI (te j)))), (g7, .inl (ax 2, 20, .inl (fun j => nI (kp j)))), (g8, .inl (ax 0, 20, .inl tm)), (g9, .inl (ax 1, 20, .inl (fun j => nI (nm j)))), (ga, .inl (ax 1, 29, .inl (fun j => nI (sup ck cl q1 j)))), (gb, .inl (ax 1, 29, .inl (fun j => nI (sup co cl o9 j))))] := ⟨hP1, hD1⟩
    obtain ⟨hP, hD⟩ := hW7
    clear hP1 hD1 hS1
    rw [← hQe]
    obtain ⟨hP9, hD9⟩ := xw_sub2 (wc := (fun (u : Nat → Nat) (xck : Nat → Nat) (xco : Nat → Nat) => [(g0, .inr (2, [.ref n0, .ref g1, .ref g2, .ref g3, .ref g4, .ref g5, .ref g6, .ref g7, .ref g8, .ref g9, .ref ga, .ref gb, .int (nI (u 0)), .int (nI ln), .int (nI br), .int (nI lp), .int (nI va)])), (g1, .inl (ax 1, 20, .inl (fun j => nI (kd j)))), (g2, .inl (ax 1, 20, .inl (fun j => nI (ow j)))), (g3, .inl (ax 1, 20, .inl (fun j => nI (sb j)))), (g4, .inl (ax 1, 20, .inl (fun j => nI (f1 j)))), (g5, .inl (ax 1, 20, .inl (fun j => nI (f2 j)))), (g6, .inl (ax 2, 20, .inl (fun j => nI (te j)))), (g7, .inl (ax 2, 20, .inl (fun j => nI (kp j)))), (g8, .inl (ax 0, 20, .inl tm)), (g9, .inl (ax 1, 20, .inl (fun j => nI (nm j)))), (ga, .inl (ax 1, 29, .inl (fun j => nI (xck j)))), (gb, .inl (ax 1, 29, .inl (fun j => nI (xco j))))]) (ixn [(cl + 1)]) (sup ck cl q1) (sup co cl o9)) hP hD [0, 1, 2, 3, 4, 5, 6, 7, 8, 9, 10, 11] (by decide) rfl
    have hex0 : ((sup ck cl q1) = ck ∧ (sup co cl o9) = co ∧ (cl + 1) = cl ∧ 29 ≤ cl) ∨ ((sup ck cl q1) = sup ck cl q1 ∧ (sup co cl o9) = sup co cl o9 ∧ (cl + 1) = cl + 1 ∧ cl < 29) := (Or.inr ⟨rfl, rfl, by omega, by omega⟩)
    have hsp0 : (cl + 1) ≤ 29 := (by first | assumption | omega)
    have hsp1 : (cl + 1) = cl + 1 := (by first | assumption | omega)
    exact W.vret hx hb hr (fun t ht hW => ⟨⟨ixn [(cl + 1)], rfl, ⟨hsp0, hsp1⟩, ⟨sup ck cl q1, sup co cl o9, hex0, by rw [ht]; exact hP9, hD9⟩⟩, hS.F ht⟩) hS.2.2 d_Listing_addClaim_41
