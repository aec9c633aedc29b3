theorem wd_8 : ((Jvm.Cond.initialized "java/util/Arrays")) ∈ lw_gd := lw_gd_in (i := 8) (by decide +kernel) rfl
theorem wd_103 : ((Jvm.Cond.fieldLink "TripleDesk$Nodes" (7 : Nat) "TripleDesk$Nodes" "op" "[B")) ∈ lw_gd := lw_gd_in (i := 103) (by decide +kernel) rfl
theorem wd_108 : ((Jvm.Cond.fieldLink "TripleDesk$Nodes" (13 : Nat) "TripleDesk$Nodes" "left" "[I")) ∈ lw_gd := lw_gd_in (i := 108) (by decide +kernel) rfl
theorem wd_113 : ((Jvm.Cond.fieldLink "TripleDesk$Nodes" (17 : Nat) "TripleDesk$Nodes" "right" "[I")) ∈ lw_gd := lw_gd_in (i := 113) (by decide +kernel) rfl
theorem wd_118 : ((Jvm.Cond.fieldLink "TripleDesk$Nodes" (20 : Nat) "TripleDesk$Nodes" "size" "I")) ∈ lw_gd := lw_gd_in (i := 118) (by decide +kernel) rfl
theorem wd_351 : ((Jvm.Cond.methodLink "TripleDesk$Nodes" (24 : Nat) ({ cls := "java/util/Arrays", name := "copyOf", desc := "([BI)[B" } : Jvm.MethodName))) ∈ lw_gd := lw_gd_in (i := 351) (by decide +kernel) rfl
theorem wd_352 : ((Jvm.Cond.static ({ cls := "java/util/Arrays", name := "copyOf", desc := "([BI)[B" } : Jvm.MethodName))) ∈ lw_gd := lw_gd_in (i := 352) (by decide +kernel) rfl
theorem wd_353 : ((Jvm.Cond.code ({ cls := "java/util/Arrays", name := "copyOf", desc := "([BI)[B" } : Jvm.MethodName) prog_26_method_121_code (3 : Nat) (Option.some (Jvm.ClassFile.FieldType.array Jvm.ClassFile.FieldType.byte)))) ∈ lw_gd := lw_gd_in (i := 353) (by decide +kernel) rfl
theorem wd_367 : ((Jvm.Cond.methodLink "TripleDesk$Nodes" (30 : Nat) ({ cls := "java/util/Arrays", name := "copyOf", desc := "([II)[I" } : Jvm.MethodName))) ∈ lw_gd := lw_gd_in (i := 367) (by decide +kernel) rfl
theorem wd_368 : ((Jvm.Cond.static ({ cls := "java/util/Arrays", name := "copyOf", desc := "([II)[I" } : Jvm.MethodName))) ∈ lw_gd := lw_gd_in (i := 368) (by decide +kernel) rfl
theorem wd_369 : ((Jvm.Cond.code ({ cls := "java/util/Arrays", name := "copyOf", desc := "([II)[I" } : Jvm.MethodName) prog_26_method_123_code (3 : Nat) (Option.some (Jvm.ClassFile.FieldType.array Jvm.ClassFile.FieldType.int)))) ∈ lw_gd := lw_gd_in (i := 369) (by decide +kernel) rfl
/-- the byte that is stored of an int -/
def byv (x : Int32) : Int32 := vp_nar .byte x.toInt8.toInt32
theorem byv_nat {v : Nat} (h : v < 128) : byv (nI v) = nI v := by
  unfold byv
  rw [nb_i2b h]; exact nb_i2b h
theorem i8_lo (x : Int8) : (-128 : Int32) ≤ x.toInt32 := by
  rw [Int32.le_iff_toInt_le, Int8.toInt_toInt32]
  have h1 := Int8.le_toInt x
  have e : (-128 : Int32).toInt = -128 := by decide
  omega
theorem i8_hi (x : Int8) : x.toInt32 ≤ (127 : Int32) := by
  rw [Int32.le_iff_toInt_le, Int8.toInt_toInt32]
  have h1 := Int8.toInt_lt x
  have e : (127 : Int32).toInt = 127 := by decide
  omega
theorem byv_fits (x : Int32) : fits .byte (.int (byv x)) = true := by
  have h1 : (-128 : Int32) ≤ byv x := i8_lo _
  have h2 : byv x ≤ (127 : Int32) := i8_hi _
  show (decide ((-128 : Int32) ≤ byv x) && decide (byv x ≤ 127)) = true
  rw [decide_eq_true h1, decide_eq_true h2]; rfl
/-- as it was, or at least twice as much -/
def dbl (a b : Nat) : Prop := b = a ∨ 2 * a ≤ b
theorem dbl.rf {a : Nat} : dbl a a := Or.inl rfl
theorem dbl.tr {a b c : Nat} (h : dbl a b) (k : dbl b c) : dbl a c := by
  unfold dbl at *; omega
/-- a node more, all others as they were -/
def nad (fo fo' fl fl' fr fr' : Nat → Int32) (n : Nat) (x1 x2 x3 : Int32) : Prop := (∀ j, j < n → fo' j = fo j ∧ fl' j = fl j ∧ fr' j = fr j) ∧ fo' n = byv x1 ∧ fl' n = x2 ∧ fr' n = x3
theorem bts.up {fo : Nat → Int32} {n i : Nat} {v : Int32} (h : bts fo n) (hv : fits .byte (.int v) = true) : bts (upd fo i v) n := fun j hj => by
  unfold upd
  by_cases e : j = i
  · rw [if_pos e]; exact hv
  · rw [if_neg e]; exact h j hj
theorem bts.cz {fo : Nat → Int32} {n k : Nat} (h : bts fo n) : bts (cpy9 fo n) k := fun j hj => by
  unfold cpy9
  by_cases e : j < n
  · rw [if_pos e]; exact h j e
  · rw [if_neg e]; rfl
theorem nad_fit {fo fl fr : Nat → Int32} {n : Nat} {x1 x2 x3 : Int32} : nad fo (upd fo n (byv x1)) fl (upd fl n x2) fr (upd fr n x3) n x1 x2 x3 :=
  ⟨fun j hj => ⟨upd_ne (by omega), upd_ne (by omega), upd_ne (by omega)⟩, upd_eq, upd_eq, upd_eq⟩
theorem nad_grow {fo fl fr : Nat → Int32} {n : Nat} {x1 x2 x3 : Int32} : nad fo (upd (cpy9 fo n) n (byv x1)) fl (upd (cpy9 fl n) n x2) fr (upd (cpy9 fr n) n x3) n x1 x2 x3 :=
  ⟨fun j hj => ⟨by rw [upd_ne (by omega)]; exact if_pos hj, by rw [upd_ne (by omega)]; exact if_pos hj, by rw [upd_ne (by omega)]; exact if_pos hj⟩, upd_eq, upd_eq, upd_eq⟩
/-- nodes that are a formula's: each behind its parts -/
def ndo (fo fl fr : Nat → Int32) (i : Nat) : Prop := ∃ o, o ≤ 8 ∧ fo i = nI o ∧ (o < 6 → trm (fl i) ∧ trm (fr i)) ∧ (6 ≤ o → ∃ a, a < i ∧ fl i = nI a) ∧ (7 ≤ o → ∃ b, b < i ∧ fr i = nI b)
def ndv (fo fl fr : Nat → Int32) (n : Nat) : Prop := ∀ i, i < n → ndo fo fl fr i
section NDV
variable {fo fo' fl fl' fr fr' : Nat → Int32} {n : Nat} {x1 x2 x3 : Int32}
theorem ndv.add (h : ndv fo fl fr n) (w : nad fo fo' fl fl' fr fr' n x1 x2 x3) (hn : ∃ o, o ≤ 8 ∧ x1 = nI o ∧ (o < 6 → trm x2 ∧ trm x3) ∧ (6 ≤ o → ∃ a, a < n ∧ x2 = nI a) ∧ (7 ≤ o → ∃ b, b < n ∧ x3 = nI b)) : ndv fo' fl' fr' (n + 1) := by
  obtain ⟨w1, w2, w3, w4⟩ := w
  intro i hi
  by_cases e : i = n
  · subst e
    obtain ⟨o, h1, h2, h3, h4, h5⟩ := hn
    unfold ndo
    rw [w2, w3, w4, h2, byv_nat (by omega)]
    exact ⟨o, h1, rfl, h3, h4, h5⟩
  · obtain ⟨a1, a2, a3⟩ := w1 i (by omega)
    unfold ndo
    rw [a1, a2, a3]; exact h i (by omega)
theorem nd_atom {o : Nat} (h : o < 6) (h2 : trm x2) (h3 : trm x3) : ∃ k, k ≤ 8 ∧ nI o = nI k ∧ (k < 6 → trm x2 ∧ trm x3) ∧ (6 ≤ k → ∃ a, a < n ∧ x2 = nI a) ∧ (7 ≤ k → ∃ b, b < n ∧ x3 = nI b) := ⟨o, by omega, rfl, fun _ => ⟨h2, h3⟩, fun q => by omega, fun q => by omega⟩
theorem nd_not {a : Nat} (h : a < n) : ∃ k, k ≤ 8 ∧ (6 : Int32) = nI k ∧ (k < 6 → trm (nI a) ∧ trm x3) ∧ (6 ≤ k → ∃ a', a' < n ∧ nI a = nI a') ∧ (7 ≤ k → ∃ b, b < n ∧ x3 = nI b) := ⟨6, by omega, rfl, fun q => by omega, fun _ => ⟨a, h, rfl⟩, fun q => by omega⟩
theorem nd_bin {a b o : Nat} (ho : o = 7 ∨ o = 8) (h : a < n) (h2 : b < n) : ∃ k, k ≤ 8 ∧ nI o = nI k ∧ (k < 6 → trm (nI a) ∧ trm (nI b)) ∧ (6 ≤ k → ∃ a', a' < n ∧ nI a = nI a') ∧ (7 ≤ k → ∃ b', b' < n ∧ nI b = nI b') := ⟨o, by omega, rfl, fun q => by omega, fun _ => ⟨a, h, rfl⟩, fun _ => ⟨b, h2, rfl⟩⟩
end NDV
/-- how many nodes a formula has, by fuel -/
def tsz (fo fl fr : Nat → Int32) : Nat → Nat → Nat
  | 0, _ => 0
  | k + 1, i => if i2n (fo i) < 6 then 1 else if i2n (fo i) = 6 then 1 + tsz fo fl fr k (i2n (fl i)) else 1 + tsz fo fl fr k (i2n (fl i)) + tsz fo fl fr k (i2n (fr i))
def tsn (fo fl fr : Nat → Int32) (i : Nat) : Nat := tsz fo fl fr (i + 1) i
theorem i2n_nI {a : Nat} (h : a < 2 ^ 32) : i2n (nI a) = a := by unfold i2n; rw [nb_tb, BitVec.toNat_ofNat]; omega
section TSN
variable {fo fo' fl fl' fr fr' : Nat → Int32} {n : Nat}
theorem tsz_same (hn : n < 2 ^ 32) (hv : ndv fo fl fr n) (hs : ∀ j, j < n → fo' j = fo j ∧ fl' j = fl j ∧ fr' j = fr j) : ∀ (k k' i : Nat), i < n → i < k → i < k' → tsz fo' fl' fr' k' i = tsz fo fl fr k i
  | 0, _, i, _, h, _ => absurd h (Nat.not_lt_zero _)
  | _ + 1, 0, i, _, _, h => absurd h (Nat.not_lt_zero _)
  | k + 1, k' + 1, i, hi, h1, h2 => by
    obtain ⟨a1, a2, a3⟩ := hs i hi
    obtain ⟨o, b1, b2, b3, b4, b5⟩ := hv i hi
    show (if i2n (fo' i) < 6 then 1 else if i2n (fo' i) = 6 then 1 + tsz fo' fl' fr' k' (i2n (fl' i)) else 1 + tsz fo' fl' fr' k' (i2n (fl' i)) + tsz fo' fl' fr' k' (i2n (fr' i))) = (if i2n (fo i) < 6 then 1 else if i2n (fo i) = 6 then 1 + tsz fo fl fr k (i2n (fl i)) else 1 + tsz fo fl fr k (i2n (fl i)) + tsz fo fl fr k (i2n (fr i)))
    rw [a1, a2, a3, b2, i2n_nI (by omega)]
    by_cases e1 : o < 6
    · rw [if_pos e1, if_pos e1]
    · rw [if_neg e1, if_neg e1]
      obtain ⟨a, ha, ea⟩ := b4 (by omega)
      rw [ea, i2n_nI (by omega), tsz_same hn hv hs k k' a (by omega) (by omega) (by omega)]
      by_cases e2 : o = 6
      · rw [if_pos e2, if_pos e2]
      · rw [if_neg e2, if_neg e2]
        obtain ⟨b, hb, eb⟩ := b5 (by omega)
        rw [eb, i2n_nI (by omega), tsz_same hn hv hs k k' b (by omega) (by omega) (by omega)]
theorem tsn_keep (hn : n < 2 ^ 32) (hv : ndv fo fl fr n) (hs : ∀ j, j < n → fo' j = fo j ∧ fl' j = fl j ∧ fr' j = fr j) {i : Nat} (hi : i < n) : tsn fo' fl' fr' i = tsn fo fl fr i := tsz_same hn hv hs _ _ i hi (by omega) (by omega)
theorem tsn_atom {o : Nat} (e : fo n = nI o) (ho : o < 6) : tsn fo fl fr n = 1 := by
  show (if i2n (fo n) < 6 then 1 else _) = 1
  rw [e, i2n_nI (by omega), if_pos ho]
theorem tsn_not (hn : n < 2 ^ 31) (hv : ndv fo fl fr n) {a : Nat} (e : fo n = nI 6) (ha : a < n) (ea : fl n = nI a) : tsn fo fl fr n = 1 + tsn fo fl fr a := by
  show (if i2n (fo n) < 6 then 1 else if i2n (fo n) = 6 then 1 + tsz fo fl fr n (i2n (fl n)) else _) = _
  rw [e, i2n_nI (by omega), if_neg (by omega), if_pos rfl, ea, i2n_nI (by omega), tsz_same (by omega) hv (fun j _ => ⟨rfl, rfl, rfl⟩) (a + 1) n a ha (by omega) ha]
  rfl
theorem tsn_bin (hn : n < 2 ^ 31) (hv : ndv fo fl fr n) {a b o : Nat} (ho : o = 7 ∨ o = 8) (e : fo n = nI o) (ha : a < n) (ea : fl n = nI a) (hb : b < n) (eb : fr n = nI b) : tsn fo fl fr n = 1 + tsn fo fl fr a + tsn fo fl fr b := by
  show (if i2n (fo n) < 6 then 1 else if i2n (fo n) = 6 then 1 + tsz fo fl fr n (i2n (fl n)) else 1 + tsz fo fl fr n (i2n (fl n)) + tsz fo fl fr n (i2n (fr n))) = _
  rw [e, i2n_nI (by omega), if_neg (by omega), if_neg (by omega), ea, eb, i2n_nI (by omega), i2n_nI (by omega), tsz_same (by omega) hv (fun j _ => ⟨rfl, rfl, rfl⟩) (a + 1) n a ha (by omega) ha, tsz_same (by omega) hv (fun j _ => ⟨rfl, rfl, rfl⟩) (b + 1) n b hb (by omega) hb]
  rfl
theorem ndv.old {m : Nat} (h : ndv fo fl fr n) (hm : m ≤ n) : ndv fo fl fr m := fun i hi => h i (by omega)
theorem ndv.same (h : ndv fo fl fr n) (hs : ∀ j, j < n → fo' j = fo j ∧ fl' j = fl j ∧ fr' j = fr j) : ndv fo' fl' fr' n := fun i hi => by
  obtain ⟨a1, a2, a3⟩ := hs i hi
  unfold ndo
  rw [a1, a2, a3]; exact h i hi
end TSN
section NADT
variable {fo fo' fl fl' fr fr' : Nat → Int32} {n lo : Nat} {x1 x2 x3 : Int32}
theorem nad.atom {o : Nat} (ho : o < 6) (w : nad fo fo' fl fl' fr fr' n (nI o) x2 x3) : tsn fo' fl' fr' n = 1 := tsn_atom (by rw [w.2.1]; exact byv_nat (by omega)) ho
theorem nad.not {a : Nat} (hn : n < 2 ^ 31) (hv : ndv fo fl fr n) (ha : a < n) (w : nad fo fo' fl fl' fr fr' n 6 (nI a) x3) : tsn fo' fl' fr' n = 1 + tsn fo fl fr a := by
  rw [tsn_not hn (hv.same w.1) (show fo' n = nI 6 by rw [w.2.1]; exact byv_nat (v := 6) (by omega)) ha w.2.2.1, tsn_keep (by omega) hv w.1 ha]
theorem nad.bin {a b o : Nat} (hn : n < 2 ^ 31) (hv : ndv fo fl fr n) (ho : o = 7 ∨ o = 8) (ha : a < n) (hb : b < n) (w : nad fo fo' fl fl' fr fr' n (nI o) (nI a) (nI b)) : tsn fo' fl' fr' n = 1 + tsn fo fl fr a + tsn fo fl fr b := by
  rw [tsn_bin hn (hv.same w.1) ho (show fo' n = nI o by rw [w.2.1]; exact byv_nat (by omega)) ha w.2.2.1 hb w.2.2.2, tsn_keep (by omega) hv w.1 ha, tsn_keep (by omega) hv w.1 hb]
theorem nad.keep {i : Nat} (hn : n < 2 ^ 31) (hv : ndv fo fl fr n) (w : nad fo fo' fl fl' fr fr' n x1 x2 x3) (hi : i < n) : tsn fo' fl' fr' i = tsn fo fl fr i := tsn_keep (by omega) hv w.1 hi
end NADT
abbrev b_Nodes_clear : ByteArray := prog_6_method_2_code
def y_Nodes_clear : MethodName := ⟨R_Nodes, "clear", "()V"⟩
theorem d_Nodes_clear_0 : decode b_Nodes_clear 0 = .ok (.aload_n 0, 1) := by decide +kernel
theorem d_Nodes_clear_1 : decode b_Nodes_clear 1 = .ok (.iconst 0, 1) := by decide +kernel
theorem d_Nodes_clear_2 : decode b_Nodes_clear 2 = .ok (.putfield 20, 3) := by decide +kernel
theorem d_Nodes_clear_5 : decode b_Nodes_clear 5 = .ok (.return_, 1) := by decide +kernel
set_option maxHeartbeats 40000000 in
set_option maxRecDepth 100000 in
theorem c_Nodes_clear (l : Launch) (D : va_G) (ax : Nat → ClassId) (n0 n1 n2 n3 cp z9 : Nat) (fo fl fr : Nat → Int32) (sz : Nat) : Met l y_Nodes_clear (xws (.code y_Nodes_clear b_Nodes_clear 1 none)) ({ frames := 10, cells := 0, slots := 0, locals := 400 }) (va_Pc [.ref n0] (xo D ax [(n0, .inr (4, [.ref n1, .ref n2, .ref n3, .int (nI z9)])), (n1, .inl (ax 1, cp, .inl fo)), (n2, .inl (ax 0, cp, .inl fl)), (n3, .inl (ax 0, cp, .inl fr))] sz)) ((va_Qv (fun (u : Nat → Nat) => True) (xb D (va_A [(n0, .inr (4, [.ref n1, .ref n2, .ref n3, .int (nI z9)])), (n1, .inl (ax 1, cp, .inl fo)), (n2, .inl (ax 0, cp, .inl fl)), (n3, .inl (ax 0, cp, .inl fr))] sz) (fun u => [(n0, .inr (4, [.ref n1, .ref n2, .ref n3, .int 0])), (n1, .inl (ax 1, cp, .inl fo)), (n2, .inl (ax 0, cp, .inl fl)), (n3, .inl (ax 0, cp, .inl fr))])) (va_A [(n0, .inr (4, [.ref n1, .ref n2, .ref n3, .int (nI z9)])), (n1, .inl (ax 1, cp, .inl fo)), (n2, .inl (ax 0, cp, .inl fl)), (n3, .inl (ax 0, cp, .inl fr))] sz))) 0 0 (va_A [(n0, .inr (4, [.ref n1, .ref n2, .ref n3, .int (nI z9)])), (n1, .inl (ax 1, cp, .inl fo)), (n2, .inl (ax 0, cp, .inl fl)), (n3, .inl (ax 0, cp, .inl fr))] sz) := by
  refine Met.ofW (cc := b_Nodes_clear) (maxL := 1) (ret := none) (by decide) rfl ?_
  intro p e s m args below meth c s₁ B hml hv
  obtain ⟨rfl, hsz, hP, hK, hD0⟩ := hv
  have hx := B.exec
  have hb := B.bytes
  have hr := B.returns
  have hts := xw_hts B.pre
  have hown : s.vm.findClass R_Nodes = some m.cls := findClass_of_methodNamed B.named
  have hlocks := B.notSynchronized
  subst hsz
  have hD := hD0.self (sz := s.heap.size)
  have hN := xz_entry hP
  generalize hAe : va_A [(n0, .inr (4, [.ref n1, .ref n2, .ref n3, .int (nI z9)])), (n1, .inl (ax 1, cp, .inl fo)), (n2, .inl (ax 0, cp, .inl fl)), (n3, .inl (ax 0, cp, .inl fr))] s.heap.size = A at hD hN ⊢
  have hA : ∀ q : Nat, s.heap.size ≤ q → A q := fun q h => by rw [← hAe]; exact Or.inr h
  have hS : va_S A s.heap s.heap [] := va_S.rf
  have hl0 := lv_entry ([.ref n0]) (n := 1) (Nat.le_of_ble_eq_true rfl)
  rw [lg_entry_eq]
  generalize (lg_sl ([.ref n0]) ++ List.replicate (1 - (lg_sl ([.ref n0])).length) Slot.unset).toArray = ls at hl0 ⊢
  have hl1 : lv_has ls 1 [(0, .ref n0)] := hl0
  refine xw_gen (fun Z9 hQe => ?_)
  refine lv_aload_n hx hb d_Nodes_clear_0 rfl (lv_at hl1 0 rfl) ?_
  refine lv_iconst (v := 0) hx hb d_Nodes_clear_1 (by decide) ?_
  refine va_put (D := D) (ci := 4) (v := .int 0) (ty := .int) (C := R_Nodes) (T := F_Nodes) (N := 4) hx hb hts i_Nodes t_Nodes t_Nodes_ok n_Nodes hown hK.1 hP hD hS 0 rfl rfl 3 (by decide) (hts _ wd_118) (fun _ h9 => h9) rfl (by decide +kernel) rfl rfl (Nat.le_of_ble_eq_true rfl) d_Nodes_clear_2 (fun H_1 locs hP1 hD1 hS1 => ?_)
  clear hP hD hS
  have hS := hS1
  have hW7 : (fun w9 : va_W => va_P D classes w9 H_1 ∧ va_D A w9) [(n0, .inr (4, [.ref n1, .ref n2, .ref n3, .int 0])), (n1, .inl (ax 1, cp, .inl fo)), (n2, .inl (ax 0, cp, .inl fl)), (n3, .inl (ax 0, cp, .inl fr))] := ⟨hP1, hD1⟩
  obtain ⟨hP, hD⟩ := hW7
  clear hP1 hD1 hS1
  rw [← hQe]
  obtain ⟨hP9, hD9⟩ := xw_sub2 (wc := (fun u : Nat → Nat => [(n0, .inr (4, [.ref n1, .ref n2, .ref n3, .int 0])), (n1, .inl (ax 1, cp, .inl fo)), (n2, .inl (ax 0, cp, .inl fl)), (n3, .inl (ax 0, cp, .inl fr))]) (ixn [])) hP hD [0, 1, 2, 3] (by decide) rfl
  exact W.vret hx hb hr (fun t ht hW => ⟨⟨ixn [], rfl, trivial, ⟨by rw [ht]; exact hP9, hD9⟩⟩, hS.F ht⟩) hS.2.2 d_Nodes_clear_5
abbrev b_Nodes_root : ByteArray := prog_6_method_3_code
def y_Nodes_root : MethodName := ⟨R_Nodes, "root", "()I"⟩
theorem d_Nodes_root_0 : decode b_Nodes_root 0 = .ok (.aload_n 0, 1) := by decide +kernel
theorem d_Nodes_root_1 : decode b_Nodes_root 1 = .ok (.getfield 20, 3) := by decide +kernel
theorem d_Nodes_root_4 : decode b_Nodes_root 4 = .ok (.iconst 1, 1) := by decide +kernel
theorem d_Nodes_root_5 : decode b_Nodes_root 5 = .ok (.isub, 1) := by decide +kernel
theorem d_Nodes_root_6 : decode b_Nodes_root 6 = .ok (.ireturn, 1) := by decide +kernel
set_option maxHeartbeats 40000000 in
set_option maxRecDepth 100000 in
theorem c_Nodes_root (l : Launch) (D : va_G) (ax : Nat → ClassId) (n0 n1 n2 n3 cp z9 : Nat) (fo fl fr : Nat → Int32) (sz : Nat) (hz9 : 1 ≤ z9) : Met l y_Nodes_root (xws (.code y_Nodes_root b_Nodes_root 1 (some .int))) ({ frames := 10, cells := 0, slots := 0, locals := 400 }) (va_Pc [.ref n0] (xo D ax [(n0, .inr (4, [.ref n1, .ref n2, .ref n3, .int (nI z9)])), (n1, .inl (ax 1, cp, .inl fo)), (n2, .inl (ax 0, cp, .inl fl)), (n3, .inl (ax 0, cp, .inl fr))] sz)) ((va_Qi (fun (r : Int32) (u : Nat → Nat) => r = nI (z9 - 1)) (xb D (va_A [(n0, .inr (4, [.ref n1, .ref n2, .ref n3, .int (nI z9)])), (n1, .inl (ax 1, cp, .inl fo)), (n2, .inl (ax 0, cp, .inl fl)), (n3, .inl (ax 0, cp, .inl fr))] sz) (fun u => [(n0, .inr (4, [.ref n1, .ref n2, .ref n3, .int (nI z9)])), (n1, .inl (ax 1, cp, .inl fo)), (n2, .inl (ax 0, cp, .inl fl)), (n3, .inl (ax 0, cp, .inl fr))])) (va_A [(n0, .inr (4, [.ref n1, .ref n2, .ref n3, .int (nI z9)])), (n1, .inl (ax 1, cp, .inl fo)), (n2, .inl (ax 0, cp, .inl fl)), (n3, .inl (ax 0, cp, .inl fr))] sz))) 0 0 (va_A [(n0, .inr (4, [.ref n1, .ref n2, .ref n3, .int (nI z9)])), (n1, .inl (ax 1, cp, .inl fo)), (n2, .inl (ax 0, cp, .inl fl)), (n3, .inl (ax 0, cp, .inl fr))] sz) := by
  refine Met.ofW (cc := b_Nodes_root) (maxL := 1) (ret := (some .int)) (by decide) rfl ?_
  intro p e s m args below meth c s₁ B hml hv
  obtain ⟨rfl, hsz, hP, hK, hD0⟩ := hv
  have hx := B.exec
  have hb := B.bytes
  have hr := B.returns
  have hts := xw_hts B.pre
  have hown : s.vm.findClass R_Nodes = some m.cls := findClass_of_methodNamed B.named
  have hlocks := B.notSynchronized
  subst hsz
  have hD := hD0.self (sz := s.heap.size)
  have hN := xz_entry hP
  generalize hAe : va_A [(n0, .inr (4, [.ref n1, .ref n2, .ref n3, .int (nI z9)])), (n1, .inl (ax 1, cp, .inl fo)), (n2, .inl (ax 0, cp, .inl fl)), (n3, .inl (ax 0, cp, .inl fr))] s.heap.size = A at hD hN ⊢
  have hA : ∀ q : Nat, s.heap.size ≤ q → A q := fun q h => by rw [← hAe]; exact Or.inr h
  have hS : va_S A s.heap s.heap [] := va_S.rf
  have hl0 := lv_entry ([.ref n0]) (n := 1) (Nat.le_of_ble_eq_true rfl)
  rw [lg_entry_eq]
  generalize (lg_sl ([.ref n0]) ++ List.replicate (1 - (lg_sl ([.ref n0])).length) Slot.unset).toArray = ls at hl0 ⊢
  have hl1 : lv_has ls 1 [(0, .ref n0)] := hl0
  refine xw_gen (fun Z9 hQe => ?_)
  refine lv_aload_n hx hb d_Nodes_root_0 rfl (lv_at hl1 0 rfl) ?_
  refine va_get (D := D) (ci := 4) (v := .int (nI z9)) (C := R_Nodes) (T := F_Nodes) (N := 4) hx hb hts i_Nodes hown hK.1 hP 0 rfl rfl 3 (by decide) (hts _ wd_118) (fun _ h9 => h9) rfl d_Nodes_root_1 ?_
  refine lv_iconst (v := 1) hx hb d_Nodes_root_4 (by decide) ?_
  refine lv_isub hx hb d_Nodes_root_5 ?_
  refine lv_topi (fun z_1 ez_1 => ?_)
  have ez_1 : z_1 = nI (z9 - 1) := ez_1.trans (pk_sub (a := z9) (b := 1) (by first | assumption | omega))
  subst ez_1
  rw [← hQe]
  obtain ⟨hP9, hD9⟩ := xw_sub2 (wc := (fun u : Nat → Nat => [(n0, .inr (4, [.ref n1, .ref n2, .ref n3, .int (nI z9)])), (n1, .inl (ax 1, cp, .inl fo)), (n2, .inl (ax 0, cp, .inl fl)), (n3, .inl (ax 0, cp, .inl fr))]) (ixn [])) hP hD [0, 1, 2, 3] (by decide) rfl
  exact W.iret (v := nI (z9 - 1)) hx hb hr (fun t ht hW => ⟨⟨nI (z9 - 1), ixn [], rfl, rfl, ⟨by rw [ht]; exact hP9, hD9⟩⟩, hS.F ht⟩) hS.2.2 d_Nodes_root_6
abbrev b_Nodes_add : ByteArray := prog_6_method_4_code
def y_Nodes_add : MethodName := ⟨R_Nodes, "add", "(III)I"⟩
theorem d_Nodes_add_0 : decode b_Nodes_add 0 = .ok (.aload_n 0, 1) := by decide +kernel
theorem d_Nodes_add_1 : decode b_Nodes_add 1 = .ok (.getfield 20, 3) := by decide +kernel
theorem d_Nodes_add_4 : decode b_Nodes_add 4 = .ok (.aload_n 0, 1) := by decide +kernel
theorem d_Nodes_add_5 : decode b_Nodes_add 5 = .ok (.getfield 7, 3) := by decide +kernel
theorem d_Nodes_add_8 : decode b_Nodes_add 8 = .ok (.arraylength, 1) := by decide +kernel
theorem d_Nodes_add_9 : decode b_Nodes_add 9 = .ok (.if_icmp .ne 54, 3) := by decide +kernel
theorem d_Nodes_add_12 : decode b_Nodes_add 12 = .ok (.aload_n 0, 1) := by decide +kernel
theorem d_Nodes_add_13 : decode b_Nodes_add 13 = .ok (.aload_n 0, 1) := by decide +kernel
theorem d_Nodes_add_14 : decode b_Nodes_add 14 = .ok (.getfield 7, 3) := by decide +kernel
theorem d_Nodes_add_17 : decode b_Nodes_add 17 = .ok (.iconst 2, 1) := by decide +kernel
theorem d_Nodes_add_18 : decode b_Nodes_add 18 = .ok (.aload_n 0, 1) := by decide +kernel
theorem d_Nodes_add_19 : decode b_Nodes_add 19 = .ok (.getfield 20, 3) := by decide +kernel
theorem d_Nodes_add_22 : decode b_Nodes_add 22 = .ok (.imul, 1) := by decide +kernel
theorem d_Nodes_add_23 : decode b_Nodes_add 23 = .ok (.invokestatic 24, 3) := by decide +kernel
theorem d_Nodes_add_26 : decode b_Nodes_add 26 = .ok (.putfield 7, 3) := by decide +kernel
theorem d_Nodes_add_29 : decode b_Nodes_add 29 = .ok (.aload_n 0, 1) := by decide +kernel
theorem d_Nodes_add_30 : decode b_Nodes_add 30 = .ok (.aload_n 0, 1) := by decide +kernel
theorem d_Nodes_add_31 : decode b_Nodes_add 31 = .ok (.getfield 13, 3) := by decide +kernel
theorem d_Nodes_add_34 : decode b_Nodes_add 34 = .ok (.iconst 2, 1) := by decide +kernel
theorem d_Nodes_add_35 : decode b_Nodes_add 35 = .ok (.aload_n 0, 1) := by decide +kernel
theorem d_Nodes_add_36 : decode b_Nodes_add 36 = .ok (.getfield 20, 3) := by decide +kernel
theorem d_Nodes_add_39 : decode b_Nodes_add 39 = .ok (.imul, 1) := by decide +kernel
theorem d_Nodes_add_40 : decode b_Nodes_add 40 = .ok (.invokestatic 30, 3) := by decide +kernel
theorem d_Nodes_add_43 : decode b_Nodes_add 43 = .ok (.putfield 13, 3) := by decide +kernel
theorem d_Nodes_add_46 : decode b_Nodes_add 46 = .ok (.aload_n 0, 1) := by decide +kernel
theorem d_Nodes_add_47 : decode b_Nodes_add 47 = .ok (.aload_n 0, 1) := by decide +kernel
theorem d_Nodes_add_48 : decode b_Nodes_add 48 = .ok (.getfield 17, 3) := by decide +kernel
theorem d_Nodes_add_51 : decode b_Nodes_add 51 = .ok (.iconst 2, 1) := by decide +kernel
theorem d_Nodes_add_52 : decode b_Nodes_add 52 = .ok (.aload_n 0, 1) := by decide +kernel
theorem d_Nodes_add_53 : decode b_Nodes_add 53 = .ok (.getfield 20, 3) := by decide +kernel
theorem d_Nodes_add_56 : decode b_Nodes_add 56 = .ok (.imul, 1) := by decide +kernel
theorem d_Nodes_add_57 : decode b_Nodes_add 57 = .ok (.invokestatic 30, 3) := by decide +kernel
theorem d_Nodes_add_60 : decode b_Nodes_add 60 = .ok (.putfield 17, 3) := by decide +kernel
theorem d_Nodes_add_63 : decode b_Nodes_add 63 = .ok (.aload_n 0, 1) := by decide +kernel
theorem d_Nodes_add_64 : decode b_Nodes_add 64 = .ok (.getfield 7, 3) := by decide +kernel
theorem d_Nodes_add_67 : decode b_Nodes_add 67 = .ok (.aload_n 0, 1) := by decide +kernel
theorem d_Nodes_add_68 : decode b_Nodes_add 68 = .ok (.getfield 20, 3) := by decide +kernel
theorem d_Nodes_add_71 : decode b_Nodes_add 71 = .ok (.iload_n 1, 1) := by decide +kernel
theorem d_Nodes_add_72 : decode b_Nodes_add 72 = .ok (.i2b, 1) := by decide +kernel
theorem d_Nodes_add_73 : decode b_Nodes_add 73 = .ok (.bastore, 1) := by decide +kernel
theorem d_Nodes_add_74 : decode b_Nodes_add 74 = .ok (.aload_n 0, 1) := by decide +kernel
theorem d_Nodes_add_75 : decode b_Nodes_add 75 = .ok (.getfield 13, 3) := by decide +kernel
theorem d_Nodes_add_78 : decode b_Nodes_add 78 = .ok (.aload_n 0, 1) := by decide +kernel
theorem d_Nodes_add_79 : decode b_Nodes_add 79 = .ok (.getfield 20, 3) := by decide +kernel
theorem d_Nodes_add_82 : decode b_Nodes_add 82 = .ok (.iload_n 2, 1) := by decide +kernel
theorem d_Nodes_add_83 : decode b_Nodes_add 83 = .ok (.iastore, 1) := by decide +kernel
theorem d_Nodes_add_84 : decode b_Nodes_add 84 = .ok (.aload_n 0, 1) := by decide +kernel
theorem d_Nodes_add_85 : decode b_Nodes_add 85 = .ok (.getfield 17, 3) := by decide +kernel
theorem d_Nodes_add_88 : decode b_Nodes_add 88 = .ok (.aload_n 0, 1) := by decide +kernel
theorem d_Nodes_add_89 : decode b_Nodes_add 89 = .ok (.getfield 20, 3) := by decide +kernel
theorem d_Nodes_add_92 : decode b_Nodes_add 92 = .ok (.iload_n 3, 1) := by decide +kernel
theorem d_Nodes_add_93 : decode b_Nodes_add 93 = .ok (.iastore, 1) := by decide +kernel
theorem d_Nodes_add_94 : decode b_Nodes_add 94 = .ok (.aload_n 0, 1) := by decide +kernel
theorem d_Nodes_add_95 : decode b_Nodes_add 95 = .ok (.dup, 1) := by decide +kernel
theorem d_Nodes_add_96 : decode b_Nodes_add 96 = .ok (.getfield 20, 3) := by decide +kernel
theorem d_Nodes_add_99 : decode b_Nodes_add 99 = .ok (.dup_x1, 1) := by decide +kernel
theorem d_Nodes_add_100 : decode b_Nodes_add 100 = .ok (.iconst 1, 1) := by decide +kernel
theorem d_Nodes_add_101 : decode b_Nodes_add 101 = .ok (.iadd, 1) := by decide +kernel
theorem d_Nodes_add_102 : decode b_Nodes_add 102 = .ok (.putfield 20, 3) := by decide +kernel
theorem d_Nodes_add_105 : decode b_Nodes_add 105 = .ok (.ireturn, 1) := by decide +kernel
set_option maxHeartbeats 40000000 in
set_option maxRecDepth 100000 in
theorem c_Nodes_add (l : Launch) (D : va_G) (ax : Nat → ClassId) (n0 n1 n2 n3 cp z9 : Nat) (fo fl fr : Nat → Int32) (MX : Nat) (x1 x2 x3 : Int32) (sz tz : Nat) (hcp : 8 ≤ cp) (hz9 : z9 ≤ cp) (hmx : cp ≤ MX) (hmz : 2 * z9 ≤ MX) (hMX : MX ≤ 100000) (hfo : bts fo cp) : Met l y_Nodes_add (xws (.code y_Nodes_add b_Nodes_add 4 (some .int))) ({ frames := 30, cells := MX - cp, slots := 6 * (MX - cp), locals := 1200 }) (va_Pc [.ref n0, .int x1, .int x2, .int x3] (xo3 D ax [(n0, .inr (4, [.ref n1, .ref n2, .ref n3, .int (nI z9)])), (n1, .inl (ax 1, cp, .inl fo)), (n2, .inl (ax 0, cp, .inl fl)), (n3, .inl (ax 0, cp, .inl fr))] sz tz)) ((va_Qi (fun (r : Int32) (u : Nat → Nat) => r = nI z9 ∧ (z9 + 1 ≤ u 3 ∧ cp ≤ u 3 ∧ u 3 ≤ MX ∧ dbl cp (u 3))) (fun (u : Nat → Nat) (t9 : State) => ∃ xfo : Nat → Int32, ∃ xfl : Nat → Int32, ∃ xfr : Nat → Int32, (t9.heap.size ≤ sz + (u 3 - cp)) ∧ (tsl t9.heap ≤ tz + (6 * (u 3 - cp))) ∧ (nad fo xfo fl xfl fr xfr z9 x1 x2 x3) ∧ (bts xfo (u 3)) ∧ va_P D classes [(n0, .inr (4, [.ref (u 0), .ref (u 1), .ref (u 2), .int (nI (z9 + 1))])), (u 0, .inl (ax 1, u 3, .inl xfo)), (u 1, .inl (ax 0, u 3, .inl xfl)), (u 2, .inl (ax 0, u 3, .inl xfr))] t9.heap ∧ va_D (va_A [(n0, .inr (4, [.ref n1, .ref n2, .ref n3, .int (nI z9)])), (n1, .inl (ax 1, cp, .inl fo)), (n2, .inl (ax 0, cp, .inl fl)), (n3, .inl (ax 0, cp, .inl fr))] sz) [(n0, .inr (4, [.ref (u 0), .ref (u 1), .ref (u 2), .int (nI (z9 + 1))])), (u 0, .inl (ax 1, u 3, .inl xfo)), (u 1, .inl (ax 0, u 3, .inl xfl)), (u 2, .inl (ax 0, u 3, .inl xfr))]) (va_A [(n0, .inr (4, [.ref n1, .ref n2, .ref n3, .int (nI z9)])), (n1, .inl (ax 1, cp, .inl fo)), (n2, .inl (ax 0, cp, .inl fl)), (n3, .inl (ax 0, cp, .inl fr))] sz))) (MX - cp) (6 * (MX - cp)) (va_A [(n0, .inr (4, [.ref n1, .ref n2, .ref n3, .int (nI z9)])), (n1, .inl (ax 1, cp, .inl fo)), (n2, .inl (ax 0, cp, .inl fl)), (n3, .inl (ax 0, cp, .inl fr))] sz) := by
  refine Met.ofW (cc := b_Nodes_add) (maxL := 4) (ret := (some .int)) (by decide) rfl ?_
  intro p e s m args below meth c s₁ B hml hv
  obtain ⟨rfl, ⟨hsz, hP, hK, hD0⟩, htz⟩ := hv
  have hx := B.exec
  have hb := B.bytes
  have hr := B.returns
  have hts := xw_hts B.pre
  have hown : s.vm.findClass R_Nodes = some m.cls := findClass_of_methodNamed B.named
  have hlocks := B.notSynchronized
  subst hsz
  subst htz
  have hD := hD0.self (sz := s.heap.size)
  have hN := xz_entry hP
  generalize hAe : va_A [(n0, .inr (4, [.ref n1, .ref n2, .ref n3, .int (nI z9)])), (n1, .inl (ax 1, cp, .inl fo)), (n2, .inl (ax 0, cp, .inl fl)), (n3, .inl (ax 0, cp, .inl fr))] s.heap.size = A at hD hN ⊢
  have hA : ∀ q : Nat, s.heap.size ≤ q → A q := fun q h => by rw [← hAe]; exact Or.inr h
  have hS : va_S A s.heap s.heap [] := va_S.rf
  have hl0 := lv_entry ([.ref n0, .int x1, .int x2, .int x3]) (n := 4) (Nat.le_of_ble_eq_true rfl)
  rw [lg_entry_eq]
  generalize (lg_sl ([.ref n0, .int x1, .int x2, .int x3]) ++ List.replicate (4 - (lg_sl ([.ref n0, .int x1, .int x2, .int x3])).length) Slot.unset).toArray = ls at hl0 ⊢
  have hl1 : lv_has ls 4 [(0, .ref n0), (1, .int x1), (2, .int x2), (3, .int x3)] := hl0
  refine xw_gen (fun Z9 hQe => ?_)
  refine lv_aload_n hx hb d_Nodes_add_0 rfl (lv_at hl1 0 rfl) ?_
  refine va_get (D := D) (ci := 4) (v := .int (nI z9)) (C := R_Nodes) (T := F_Nodes) (N := 4) hx hb hts i_Nodes hown hK.1 hP 0 rfl rfl 3 (by decide) (hts _ wd_118) (fun _ h9 => h9) rfl d_Nodes_add_1 ?_
  refine lv_aload_n hx hb d_Nodes_add_4 rfl (lv_at hl1 0 rfl) ?_
  refine va_get (D := D) (ci := 4) (v := .ref n1) (C := R_Nodes) (T := F_Nodes) (N := 4) hx hb hts i_Nodes hown hK.1 hP 0 rfl rfl 0 (by decide) (hts _ wd_103) (fun _ h9 => h9) rfl d_Nodes_add_5 ?_
  refine va_alen hx hb hK.1 hP 1 1 rfl rfl (v := _) rfl d_Nodes_add_8 ?_
  refine lv_icmp_ne (tgt := 63) hx hb d_Nodes_add_9 (by decide) (fun c_1 => ?_) (fun c_1 => ?_)
  · replace c_1 : ¬ z9 = cp := fun hq9 => c_1 ((nI_eq (a := z9) (b := cp) (by first | exact Nat.lt_of_lt_of_le (by assumption) (by decide) | exact Nat.lt_of_le_of_lt (by assumption) (by decide) | omega) (by first | exact Nat.lt_of_lt_of_le (by assumption) (by decide) | exact Nat.lt_of_le_of_lt (by assumption) (by decide) | omega)).mpr hq9)
    refine lv_aload_n hx hb d_Nodes_add_63 rfl (lv_at hl1 0 rfl) ?_
    refine va_get (D := D) (ci := 4) (v := .ref n1) (C := R_Nodes) (T := F_Nodes) (N := 4) hx hb hts i_Nodes hown hK.1 hP 0 rfl rfl 0 (by decide) (hts _ wd_103) (fun _ h9 => h9) rfl d_Nodes_add_64 ?_
    refine lv_aload_n hx hb d_Nodes_add_67 rfl (lv_at hl1 0 rfl) ?_
    refine va_get (D := D) (ci := 4) (v := .int (nI z9)) (C := R_Nodes) (T := F_Nodes) (N := 4) hx hb hts i_Nodes hown hK.1 hP 0 rfl rfl 3 (by decide) (hts _ wd_118) (fun _ h9 => h9) rfl d_Nodes_add_68 ?_
    refine lv_iload_n hx hb d_Nodes_add_71 rfl (lv_at hl1 1 rfl) ?_
    refine lv_i2b hx hb d_Nodes_add_72 rfl ?_
    refine lv_topi (fun z_2 ez_2 => ?_)
    refine va_bast hx hb hK.1 hP hD hS 1 1 rfl rfl (vp_in_nI (by first | assumption | omega) (by first | exact Nat.lt_of_lt_of_le (by assumption) (by decide) | exact Nat.lt_of_le_of_lt (by assumption) (by decide) | omega)) d_Nodes_add_73 (fun H_3 locs hP1 hD1 hS1 => ?_)
    rw [nI_clamp (by first | exact Nat.lt_of_lt_of_le (by assumption) (by decide) | exact Nat.lt_of_le_of_lt (by assumption) (by decide) | omega)] at hP1 hD1
    clear hP hD hS
    have hS := hS1
    have hW7 : (fun w9 : va_W => va_P D classes w9 H_3 ∧ va_D A w9) [(n0, .inr (4, [.ref n1, .ref n2, .ref n3, .int (nI z9)])), (n1, .inl (ax 1, cp, .inl (upd fo z9 (vp_nar .byte z_2)))), (n2, .inl (ax 0, cp, .inl fl)), (n3, .inl (ax 0, cp, .inl fr))] := ⟨hP1, hD1⟩
    obtain ⟨hP, hD⟩ := hW7
    clear hP1 hD1 hS1
    refine lv_aload_n hx hb d_Nodes_add_74 rfl (lv_at hl1 0 rfl) ?_
    refine va_get (D := D) (ci := 4) (v := .ref n2) (C := R_Nodes) (T := F_Nodes) (N := 4) hx hb hts i_Nodes hown hK.1 hP 0 rfl rfl 1 (by decide) (hts _ wd_108) (fun _ h9 => h9) rfl d_Nodes_add_75 ?_
    refine lv_aload_n hx hb d_Nodes_add_78 rfl (lv_at hl1 0 rfl) ?_
    refine va_get (D := D) (ci := 4) (v := .int (nI z9)) (C := R_Nodes) (T := F_Nodes) (N := 4) hx hb hts i_Nodes hown hK.1 hP 0 rfl rfl 3 (by decide) (hts _ wd_118) (fun _ h9 => h9) rfl d_Nodes_add_79 ?_
    refine lv_iload_n hx hb d_Nodes_add_82 rfl (lv_at hl1 2 rfl) ?_
    refine va_iast hx hb hK.1 hP hD hS 2 0 rfl rfl (vp_in_nI (by first | assumption | omega) (by first | exact Nat.lt_of_lt_of_le (by assumption) (by decide) | exact Nat.lt_of_le_of_lt (by assumption) (by decide) | omega)) d_Nodes_add_83 (fun H_4 locs hP1 hD1 hS1 => ?_)
    rw [nI_clamp (by first | exact Nat.lt_of_lt_of_le (by assumption) (by decide) | exact Nat.lt_of_le_of_lt (by assumption) (by decide) | omega)] at hP1 hD1
    clear hP hD hS
    have hS := hS1
    have hW7 : (fun w9 : va_W => va_P D classes w9 H_4 ∧ va_D A w9) [(n0, .inr (4, [.ref n1, .ref n2, .ref n3, .int (nI z9)])), (n1, .inl (ax 1, cp, .inl (upd fo z9 (vp_nar .byte z_2)))), (n2, .inl (ax 0, cp, .inl (upd fl z9 x2))), (n3, .inl (ax 0, cp, .inl fr))] := ⟨hP1, hD1⟩
    obtain ⟨hP, hD⟩ := hW7
    clear hP1 hD1 hS1
    refine lv_aload_n hx hb d_Nodes_add_84 rfl (lv_at hl1 0 rfl) ?_
    refine va_get (D := D) (ci := 4) (v := .ref n3) (C := R_Nodes) (T := F_Nodes) (N := 4) hx hb hts i_Nodes hown hK.1 hP 0 rfl rfl 2 (by decide) (hts _ wd_113) (fun _ h9 => h9) rfl d_Nodes_add_85 ?_
    refine lv_aload_n hx hb d_Nodes_add_88 rfl (lv_at hl1 0 rfl) ?_
    refine va_get (D := D) (ci := 4) (v := .int (nI z9)) (C := R_Nodes) (T := F_Nodes) (N := 4) hx hb hts i_Nodes hown hK.1 hP 0 rfl rfl 3 (by decide) (hts _ wd_118) (fun _ h9 => h9) rfl d_Nodes_add_89 ?_
    refine lv_iload_n hx hb d_Nodes_add_92 rfl (lv_at hl1 3 rfl) ?_
    refine va_iast hx hb hK.1 hP hD hS 3 0 rfl rfl (vp_in_nI (by first | assumption | omega) (by first | exact Nat.lt_of_lt_of_le (by assumption) (by decide) | exact Nat.lt_of_le_of_lt (by assumption) (by decide) | omega)) d_Nodes_add_93 (fun H_5 locs hP1 hD1 hS1 => ?_)
    rw [nI_clamp (by first | exact Nat.lt_of_lt_of_le (by assumption) (by decide) | exact Nat.lt_of_le_of_lt (by assumption) (by decide) | omega)] at hP1 hD1
    clear hP hD hS
    have hS := hS1
    have hW7 : (fun w9 : va_W => va_P D classes w9 H_5 ∧ va_D A w9) [(n0, .inr (4, [.ref n1, .ref n2, .ref n3, .int (nI z9)])), (n1, .inl (ax 1, cp, .inl (upd fo z9 (vp_nar .byte z_2)))), (n2, .inl (ax 0, cp, .inl (upd fl z9 x2))), (n3, .inl (ax 0, cp, .inl (upd fr z9 x3)))] := ⟨hP1, hD1⟩
    obtain ⟨hP, hD⟩ := hW7
    clear hP1 hD1 hS1
    refine lv_aload_n hx hb d_Nodes_add_94 rfl (lv_at hl1 0 rfl) ?_
    refine lv_dup hx hb d_Nodes_add_95 rfl ?_
    refine va_get (D := D) (ci := 4) (v := .int (nI z9)) (C := R_Nodes) (T := F_Nodes) (N := 4) hx hb hts i_Nodes hown hK.1 hP 0 rfl rfl 3 (by decide) (hts _ wd_118) (fun _ h9 => h9) rfl d_Nodes_add_96 ?_
    refine lv_dup_x1 hx hb d_Nodes_add_99 rfl rfl ?_
    refine lv_iconst (v := 1) hx hb d_Nodes_add_100 (by decide) ?_
    refine lv_iadd hx hb d_Nodes_add_101 ?_
    refine lv_topi (fun z_6 ez_6 => ?_)
    have ez_6 : z_6 = nI (z9 + 1) := ez_6.trans (nI_add z9 1)
    subst ez_6
    refine va_put (D := D) (ci := 4) (v := .int (nI (z9 + 1))) (ty := .int) (C := R_Nodes) (T := F_Nodes) (N := 4) hx hb hts i_Nodes t_Nodes t_Nodes_ok n_Nodes hown hK.1 hP hD hS 0 rfl rfl 3 (by decide) (hts _ wd_118) (fun _ h9 => h9) rfl (by decide +kernel) rfl rfl (Nat.le_of_ble_eq_true rfl) d_Nodes_add_102 (fun H_7 locs hP1 hD1 hS1 => ?_)
    clear hP hD hS
    have hS := hS1
    have hW7 : (fun w9 : va_W => va_P D classes w9 H_7 ∧ va_D A w9) [(n0, .inr (4, [.ref n1, .ref n2, .ref n3, .int (nI (z9 + 1))])), (n1, .inl (ax 1, cp, .inl (upd fo z9 (vp_nar .byte z_2)))), (n2, .inl (ax 0, cp, .inl (upd fl z9 x2))), (n3, .inl (ax 0, cp, .inl (upd fr z9 x3)))] := ⟨hP1, hD1⟩
    obtain ⟨hP, hD⟩ := hW7
    clear hP1 hD1 hS1
    rw [← hQe]
    refine wk_know (fun hk8 hk9 => ?_)
    refine W.widen (k := MX - cp) (n := 6 * (MX - cp)) (by first | assumption | omega) (by first | assumption | omega) ?_
    obtain ⟨hP9, hD9⟩ := xw_sub2 (wc := (fun (u : Nat → Nat) (xfo : Nat → Int32) (xfl : Nat → Int32) (xfr : Nat → Int32) => [(n0, .inr (4, [.ref (u 0), .ref (u 1), .ref (u 2), .int (nI (z9 + 1))])), (u 0, .inl (ax 1, u 3, .inl xfo)), (u 1, .inl (ax 0, u 3, .inl xfl)), (u 2, .inl (ax 0, u 3, .inl xfr))]) (ixn [n1, n2, n3, cp]) (upd fo z9 (vp_nar .byte z_2)) (upd fl z9 x2) (upd fr z9 x3)) hP hD [0, 1, 2, 3] (by decide) rfl
    have hex0 : nad fo (upd fo z9 (vp_nar .byte z_2)) fl (upd fl z9 x2) fr (upd fr z9 x3) z9 x1 x2 x3 := (by rw [ez_2]; exact nad_fit)
    have hex1 : bts (upd fo z9 (vp_nar .byte z_2)) (cp) := (by rw [ez_2]; exact hfo.up (byv_fits _))
    have hg8 : H_7.size ≤ s.heap.size + (cp - cp) := by omega
    have hg9 : tsl H_7 ≤ tsl s.heap + (6 * (cp - cp)) := by omega
    have hsp0 : z9 + 1 ≤ cp := (by first | assumption | omega)
    have hsp1 : cp ≤ cp := (by first | assumption | omega)
    have hsp2 : cp ≤ MX := (by first | assumption | omega)
    have hsp3 : dbl cp (cp) := (Or.inl rfl)
    exact W.iret (v := nI z9) hx hb hr (fun t ht hW => ⟨⟨nI z9, ixn [n1, n2, n3, cp], rfl, ⟨rfl, ⟨hsp0, hsp1, hsp2, hsp3⟩⟩, ⟨(upd fo z9 (vp_nar .byte z_2)), (upd fl z9 x2), (upd fr z9 x3), by rw [ht]; exact hg8, by rw [ht]; exact hg9, hex0, hex1, by rw [ht]; exact hP9, hD9⟩⟩, hS.F ht⟩) hS.2.2 d_Nodes_add_105
  · replace c_1 : z9 = cp := (nI_eq (a := z9) (b := cp) (by first | exact Nat.lt_of_lt_of_le (by assumption) (by decide) | exact Nat.lt_of_le_of_lt (by assumption) (by decide) | omega) (by first | exact Nat.lt_of_lt_of_le (by assumption) (by decide) | exact Nat.lt_of_le_of_lt (by assumption) (by decide) | omega)).mp c_1
    have hzc : cp = z9 := by omega
    refine lv_aload_n hx hb d_Nodes_add_12 rfl (lv_at hl1 0 rfl) ?_
    refine lv_aload_n hx hb d_Nodes_add_13 rfl (lv_at hl1 0 rfl) ?_
    refine va_get (D := D) (ci := 4) (v := .ref n1) (C := R_Nodes) (T := F_Nodes) (N := 4) hx hb hts i_Nodes hown hK.1 hP 0 rfl rfl 0 (by decide) (hts _ wd_103) (fun _ h9 => h9) rfl d_Nodes_add_14 ?_
    refine lv_iconst (v := 2) hx hb d_Nodes_add_17 (by decide) ?_
    refine lv_aload_n hx hb d_Nodes_add_18 rfl (lv_at hl1 0 rfl) ?_
    refine va_get (D := D) (ci := 4) (v := .int (nI z9)) (C := R_Nodes) (T := F_Nodes) (N := 4) hx hb hts i_Nodes hown hK.1 hP 0 rfl rfl 3 (by decide) (hts _ wd_118) (fun _ h9 => h9) rfl d_Nodes_add_19 ?_
    refine lv_imul hx hb d_Nodes_add_22 ?_
    refine lv_topi (fun z_8 ez_8 => ?_)
    have ez_8 : z_8 = nI (2 * z9) := ez_8.trans (pk_mul 2 z9)
    subst ez_8
    obtain ⟨hPc, hDc, hFc, hCs⟩ := xw_sub3 (wc := [(n1, .inl (ax 1, cp, .inl fo))]) hP hD hS hA [1] (by decide) rfl
    have hz := xz_of hN hS
    refine va_callr (va_runS (As := [.ref n1, .int (nI (2 * z9))]) (rest := [.ref n0]) ⟨hx, hb, hml, hown, hts⟩ (c_Arrays_copyOf_B l D ax n1 cp (2 * z9) fo s.heap.size (by first | assumption | omega) (by first | assumption | omega) hfo) (xcS (n := 2) hts wd_353 wd_8 wd_351 wd_352 rfl rfl (by decide +kernel) ⟨Nat.le_of_ble_eq_true rfl, Nat.le_of_ble_eq_true rfl⟩) (xpS (As := [.ref n1, .int (nI (2 * z9))]) hPc hK hz hDc) rfl rfl hl1.1 rfl (lv_room (Nat.le_of_ble_eq_true rfl)) d_Nodes_add_23 ⟨(show (0) + (1) ≤ (MX - cp) by omega), (show (0) + (2 * z9) ≤ (6 * (MX - cp)) by omega)⟩) hS (fun q _ h => hFc q h) hFc (fun u_9 r_11 t H_10 locs ht hvm hw hB hz1 hk1 hS1 => ?_)
    try dsimp only at hw
    obtain ⟨hra, hP1, hD1⟩ := hB
    rw [ht] at hP1
    subst hra
    have hjn := xw_join3 (wl := [(n0, .inr (4, [.ref n1, .ref n2, .ref n3, .int (nI z9)])), (n2, .inl (ax 0, cp, .inl fl)), (n3, .inl (ax 0, cp, .inl fr)), (n1, .inl (ax 1, cp, .inl fo)), ((u_9 0), .inl (ax 1, 2 * z9, .inl (cpy9 fo cp)))]) hP hD [1] [0, 2, 3] hCs (by decide) (by decide) hk1 hFc hP1 hD1 rfl
    clear hP1 hD1
    clear hPc hDc hFc hCs hz hz1 hk1 ht hvm
    clear hP hD hS
    have hS := hS1
    obtain ⟨hP, hD⟩ := hjn
    clear hS1
    refine W.widen (k := 1) (n := 2 * z9) (Nat.le_of_ble_eq_true rfl) (by first | assumption | omega) ?_
    refine va_put (D := D) (ci := 4) (v := .ref (u_9 0)) (ty := .array .byte) (C := R_Nodes) (T := F_Nodes) (N := 4) hx hb hts i_Nodes t_Nodes t_Nodes_ok n_Nodes hown hK.1 hP hD hS 0 rfl rfl 0 (by decide) (hts _ wd_103) (fun _ h9 => h9) rfl (by decide +kernel) rfl rfl (Nat.le_of_ble_eq_true rfl) d_Nodes_add_26 (fun H_12 locs hP1 hD1 hS1 => ?_)
    clear hP hD hS
    have hS := hS1
    have hW7 : (fun w9 : va_W => va_P D classes w9 H_12 ∧ va_D A w9) [(n0, .inr (4, [.ref (u_9 0), .ref n2, .ref n3, .int (nI z9)])), (n2, .inl (ax 0, cp, .inl fl)), (n3, .inl (ax 0, cp, .inl fr)), (n1, .inl (ax 1, cp, .inl fo)), ((u_9 0), .inl (ax 1, 2 * z9, .inl (cpy9 fo cp)))] := ⟨hP1, hD1⟩
    obtain ⟨hP, hD⟩ := hW7
    clear hP1 hD1 hS1
    refine lv_aload_n hx hb d_Nodes_add_29 rfl (lv_at hl1 0 rfl) ?_
    refine lv_aload_n hx hb d_Nodes_add_30 rfl (lv_at hl1 0 rfl) ?_
    refine va_get (D := D) (ci := 4) (v := .ref n2) (C := R_Nodes) (T := F_Nodes) (N := 4) hx hb hts i_Nodes hown hK.1 hP 0 rfl rfl 1 (by decide) (hts _ wd_108) (fun _ h9 => h9) rfl d_Nodes_add_31 ?_
    refine lv_iconst (v := 2) hx hb d_Nodes_add_34 (by decide) ?_
    refine lv_aload_n hx hb d_Nodes_add_35 rfl (lv_at hl1 0 rfl) ?_
    refine va_get (D := D) (ci := 4) (v := .int (nI z9)) (C := R_Nodes) (T := F_Nodes) (N := 4) hx hb hts i_Nodes hown hK.1 hP 0 rfl rfl 3 (by decide) (hts _ wd_118) (fun _ h9 => h9) rfl d_Nodes_add_36 ?_
    refine lv_imul hx hb d_Nodes_add_39 ?_
    refine lv_topi (fun z_13 ez_13 => ?_)
    have ez_13 : z_13 = nI (2 * z9) := ez_13.trans (pk_mul 2 z9)
    subst ez_13
    obtain ⟨hPc, hDc, hFc, hCs⟩ := xw_sub3 (wc := [(n2, .inl (ax 0, cp, .inl fl))]) hP hD hS hA [1] (by decide) rfl
    have hz := xz_of hN hS
    refine va_callr (va_runS (As := [.ref n2, .int (nI (2 * z9))]) (rest := [.ref n0]) ⟨hx, hb, hml, hown, hts⟩ (c_Arrays_copyOf_I l D ax n2 cp (2 * z9) fl H_12.size (by first | assumption | omega) (by first | assumption | omega)) (xcS (n := 2) hts wd_369 wd_8 wd_367 wd_368 rfl rfl (by decide +kernel) ⟨Nat.le_of_ble_eq_true rfl, Nat.le_of_ble_eq_true rfl⟩) (xpS (As := [.ref n2, .int (nI (2 * z9))]) hPc hK hz hDc) rfl rfl hl1.1 rfl (lv_room (Nat.le_of_ble_eq_true rfl)) d_Nodes_add_40 ⟨(show (1) + (1) ≤ (MX - cp) by omega), (show (2 * z9) + (2 * z9) ≤ (6 * (MX - cp)) by omega)⟩) hS (fun q _ h => hFc q h) hFc (fun u_14 r_16 t H_15 locs ht hvm hw hB hz1 hk1 hS1 => ?_)
    try dsimp only at hw
    obtain ⟨hra, hP1, hD1⟩ := hB
    rw [ht] at hP1
    subst hra
    have hjn := xw_join3 (wl := [(n0, .inr (4, [.ref (u_9 0), .ref n2, .ref n3, .int (nI z9)])), (n3, .inl (ax 0, cp, .inl fr)), (n1, .inl (ax 1, cp, .inl fo)), ((u_9 0), .inl (ax 1, 2 * z9, .inl (cpy9 fo cp))), (n2, .inl (ax 0, cp, .inl fl)), ((u_14 0), .inl (ax 0, 2 * z9, .inl (cpy9 fl cp)))]) hP hD [1] [0, 2, 3, 4] hCs (by decide) (by decide) hk1 hFc hP1 hD1 rfl
    clear hP1 hD1
    clear hPc hDc hFc hCs hz hz1 hk1 ht hvm
    clear hP hD hS
    have hS := hS1
    obtain ⟨hP, hD⟩ := hjn
    clear hS1
    refine W.widen (k := 2) (n := 2 * z9 + (2 * z9)) (Nat.le_of_ble_eq_true rfl) (by first | assumption | omega) ?_
    refine va_put (D := D) (ci := 4) (v := .ref (u_14 0)) (ty := .array .int) (C := R_Nodes) (T := F_Nodes) (N := 4) hx hb hts i_Nodes t_Nodes t_Nodes_ok n_Nodes hown hK.1 hP hD hS 0 rfl rfl 1 (by decide) (hts _ wd_108) (fun _ h9 => h9) rfl (by decide +kernel) rfl rfl (Nat.le_of_ble_eq_true rfl) d_Nodes_add_43 (fun H_17 locs hP1 hD1 hS1 => ?_)
    clear hP hD hS
    have hS := hS1
    have hW7 : (fun w9 : va_W => va_P D classes w9 H_17 ∧ va_D A w9) [(n0, .inr (4, [.ref (u_9 0), .ref (u_14 0), .ref n3, .int (nI z9)])), (n3, .inl (ax 0, cp, .inl fr)), (n1, .inl (ax 1, cp, .inl fo)), ((u_9 0), .inl (ax 1, 2 * z9, .inl (cpy9 fo cp))), (n2, .inl (ax 0, cp, .inl fl)), ((u_14 0), .inl (ax 0, 2 * z9, .inl (cpy9 fl cp)))] := ⟨hP1, hD1⟩
    obtain ⟨hP, hD⟩ := hW7
    clear hP1 hD1 hS1
    refine lv_aload_n hx hb d_Nodes_add_46 rfl (lv_at hl1 0 rfl) ?_
    refine lv_aload_n hx hb d_Nodes_add_47 rfl (lv_at hl1 0 rfl) ?_
    refine va_get (D := D) (ci := 4) (v := .ref n3) (C := R_Nodes) (T := F_Nodes) (N := 4) hx hb hts i_Nodes hown hK.1 hP 0 rfl rfl 2 (by decide) (hts _ wd_113) (fun _ h9 => h9) rfl d_Nodes_add_48 ?_
    refine lv_iconst (v := 2) hx hb d_Nodes_add_51 (by decide) ?_
    refine lv_aload_n hx hb d_Nodes_add_52 rfl (lv_at hl1 0 rfl) ?_
    refine va_get (D := D) (ci := 4) (v := .int (nI z9)) (C := R_Nodes) (T := F_Nodes) (N := 4) hx hb hts i_Nodes hown hK.1 hP 0 rfl rfl 3 (by decide) (hts _ wd_118) (fun _ h9 => h9) rfl d_Nodes_add_53 ?_
    refine lv_imul hx hb d_Nodes_add_56 ?_
    refine lv_topi (fun z_18 ez_18 => ?_)
    have ez_18 : z_18 = nI (2 * z9) := ez_18.trans (pk_mul 2 z9)
    subst ez_18
    obtain ⟨hPc, hDc, hFc, hCs⟩ := xw_sub3 (wc := [(n3, .inl (ax 0, cp, .inl fr))]) hP hD hS hA [1] (by decide) rfl
    have hz := xz_of hN hS
    refine va_callr (va_runS (As := [.ref n3, .int (nI (2 * z9))]) (rest := [.ref n0]) ⟨hx, hb, hml, hown, hts⟩ (c_Arrays_copyOf_I l D ax n3 cp (2 * z9) fr H_17.size (by first | assumption | omega) (by first | assumption | omega)) (xcS (n := 2) hts wd_369 wd_8 wd_367 wd_368 rfl rfl (by decide +kernel) ⟨Nat.le_of_ble_eq_true rfl, Nat.le_of_ble_eq_true rfl⟩) (xpS (As := [.ref n3, .int (nI (2 * z9))]) hPc hK hz hDc) rfl rfl hl1.1 rfl (lv_room (Nat.le_of_ble_eq_true rfl)) d_Nodes_add_57 ⟨(show (2) + (1) ≤ (MX - cp) by omega), (show (2 * z9 + (2 * z9)) + (2 * z9) ≤ (6 * (MX - cp)) by omega)⟩) hS (fun q _ h => hFc q h) hFc (fun u_19 r_21 t H_20 locs ht hvm hw hB hz1 hk1 hS1 => ?_)
    try dsimp only at hw
    obtain ⟨hra, hP1, hD1⟩ := hB
    rw [ht] at hP1
    subst hra
    have hjn := xw_join3 (wl := [(n0, .inr (4, [.ref (u_9 0), .ref (u_14 0), .ref n3, .int (nI z9)])), (n1, .inl (ax 1, cp, .inl fo)), ((u_9 0), .inl (ax 1, 2 * z9, .inl (cpy9 fo cp))), (n2, .inl (ax 0, cp, .inl fl)), ((u_14 0), .inl (ax 0, 2 * z9, .inl (cpy9 fl cp))), (n3, .inl (ax 0, cp, .inl fr)), ((u_19 0), .inl (ax 0, 2 * z9, .inl (cpy9 fr cp)))]) hP hD [1] [0, 2, 3, 4, 5] hCs (by decide) (by decide) hk1 hFc hP1 hD1 rfl
    clear hP1 hD1
    clear hPc hDc hFc hCs hz hz1 hk1 ht hvm
    clear hP hD hS
    have hS := hS1
    obtain ⟨hP, hD⟩ := hjn
    clear hS1
    refine W.widen (k := 3) (n := 2 * z9 + (2 * z9) + (2 * z9)) (Nat.le_of_ble_eq_true rfl) (by first | assumption | omega) ?_
    refine va_put (D := D) (ci := 4) (v := .ref (u_19 0)) (ty := .array .int) (C := R_Nodes) (T := F_Nodes) (N := 4) hx hb hts i_Nodes t_Nodes t_Nodes_ok n_Nodes hown hK.1 hP hD hS 0 rfl rfl 2 (by decide) (hts _ wd_113) (fun _ h9 => h9) rfl (by decide +kernel) rfl rfl (Nat.le_of_ble_eq_true rfl) d_Nodes_add_60 (fun H_22 locs hP1 hD1 hS1 => ?_)
    clear hP hD hS
    have hS := hS1
    have hW7 : (fun w9 : va_W => va_P D classes w9 H_22 ∧ va_D A w9) [(n0, .inr (4, [.ref (u_9 0), .ref (u_14 0), .ref (u_19 0), .int (nI z9)])), (n1, .inl (ax 1, cp, .inl fo)), ((u_9 0), .inl (ax 1, 2 * z9, .inl (cpy9 fo cp))), (n2, .inl (ax 0, cp, .inl fl)), ((u_14 0), .inl (ax 0, 2 * z9, .inl (cpy9 fl cp))), (n3, .inl (ax 0, cp, .inl fr)), ((u_19 0), .inl (ax 0, 2 * z9, .inl (cpy9 fr cp)))] := ⟨hP1, hD1⟩
    obtain ⟨hP, hD⟩ := hW7
    clear hP1 hD1 hS1
    refine lv_aload_n hx hb d_Nodes_add_63 rfl (lv_at hl1 0 rfl) ?_
    refine va_get (D := D) (ci := 4) (v := .ref (u_9 0)) (C := R_Nodes) (T := F_Nodes) (N := 4) hx hb hts i_Nodes hown hK.1 hP 0 rfl rfl 0 (by decide) (hts _ wd_103) (fun _ h9 => h9) rfl d_Nodes_add_64 ?_
    refine lv_aload_n hx hb d_Nodes_add_67 rfl (lv_at hl1 0 rfl) ?_
    refine va_get (D := D) (ci := 4) (v := .int (nI z9)) (C := R_Nodes) (T := F_Nodes) (N := 4) hx hb hts i_Nodes hown hK.1 hP 0 rfl rfl 3 (by decide) (hts _ wd_118) (fun _ h9 => h9) rfl d_Nodes_add_68 ?_
    refine lv_iload_n hx hb d_Nodes_add_71 rfl (lv_at hl1 1 rfl) ?_
    refine lv_i2b hx hb d_Nodes_add_72 rfl ?_
    refine lv_topi (fun z_23 ez_23 => ?_)
    refine va_bast hx hb hK.1 hP hD hS 2 1 rfl rfl (vp_in_nI (by first | assumption | omega) (by first | exact Nat.lt_of_lt_of_le (by assumption) (by decide) | exact Nat.lt_of_le_of_lt (by assumption) (by decide) | omega)) d_Nodes_add_73 (fun H_24 locs hP1 hD1 hS1 => ?_)
    rw [nI_clamp (by first | exact Nat.lt_of_lt_of_le (by assumption) (by decide) | exact Nat.lt_of_le_of_lt (by assumption) (by decide) | omega)] at hP1 hD1
    clear hP hD hS
    have hS := hS1
    have hW7 : (fun w9 : va_W => va_P D classes w9 H_24 ∧ va_D A w9) [(n0, .inr (4, [.ref (u_9 0), .ref (u_14 0), .ref (u_19 0), .int (nI z9)])), (n1, .inl (ax 1, cp, .inl fo)), ((u_9 0), .inl (ax 1, 2 * z9, .inl (upd (cpy9 fo cp) z9 (vp_nar .byte z_23)))), (n2, .inl (ax 0, cp, .inl fl)), ((u_14 0), .inl (ax 0, 2 * z9, .inl (cpy9 fl cp))), (n3, .inl (ax 0, cp, .inl fr)), ((u_19 0), .inl (ax 0, 2 * z9, .inl (cpy9 fr cp)))] := ⟨hP1, hD1⟩
    obtain ⟨hP, hD⟩ := hW7
    clear hP1 hD1 hS1
    refine lv_aload_n hx hb d_Nodes_add_74 rfl (lv_at hl1 0 rfl) ?_
    refine va_get (D := D) (ci := 4) (v := .ref (u_14 0)) (C := R_Nodes) (T := F_Nodes) (N := 4) hx hb hts i_Nodes hown hK.1 hP 0 rfl rfl 1 (by decide) (hts _ wd_108) (fun _ h9 => h9) rfl d_Nodes_add_75 ?_
    refine lv_aload_n hx hb d_Nodes_add_78 rfl (lv_at hl1 0 rfl) ?_
    refine va_get (D := D) (ci := 4) (v := .int (nI z9)) (C := R_Nodes) (T := F_Nodes) (N := 4) hx hb hts i_Nodes hown hK.1 hP 0 rfl rfl 3 (by decide) (hts _ wd_118) (fun _ h9 => h9) rfl d_Nodes_add_79 ?_
    refine lv_iload_n hx hb d_Nodes_add_82 rfl (lv_at hl1 2 rfl) ?_
    refine va_iast hx hb hK.1 hP hD hS 4 0 rfl rfl (vp_in_nI (by first | assumption | omega) (by first | exact Nat.lt_of_lt_of_le (by assumption) (by decide) | exact Nat.lt_of_le_of_lt (by assumption) (by decide) | omega)) d_Nodes_add_83 (fun H_25 locs hP1 hD1 hS1 => ?_)
    rw [nI_clamp (by first | exact Nat.lt_of_lt_of_le (by assumption) (by decide) | exact Nat.lt_of_le_of_lt (by assumption) (by decide) | omega)] at hP1 hD1
    clear hP hD hS
    have hS := hS1
    have hW7 : (fun w9 : va_W => va_P D classes w9 H_25 ∧ va_D A w9) [(n0, .inr (4, [.ref (u_9 0), .ref (u_14 0), .ref (u_19 0), .int (nI z9)])), (n1, .inl (ax 1, cp, .inl fo)), ((u_9 0), .inl (ax 1, 2 * z9, .inl (upd (cpy9 fo cp) z9 (vp_nar .byte z_23)))), (n2, .inl (ax 0, cp, .inl fl)), ((u_14 0), .inl (ax 0, 2 * z9, .inl (upd (cpy9 fl cp) z9 x2))), (n3, .inl (ax 0, cp, .inl fr)), ((u_19 0), .inl (ax 0, 2 * z9, .inl (cpy9 fr cp)))] := ⟨hP1, hD1⟩
    obtain ⟨hP, hD⟩ := hW7
    clear hP1 hD1 hS1
    refine lv_aload_n hx hb d_Nodes_add_84 rfl (lv_at hl1 0 rfl) ?_
    refine va_get (D := D) (ci := 4) (v := .ref (u_19 0)) (C := R_Nodes) (T := F_Nodes) (N := 4) hx hb hts i_Nodes hown hK.1 hP 0 rfl rfl 2 (by decide) (hts _ wd_113) (fun _ h9 => h9) rfl d_Nodes_add_85 ?_
    refine lv_aload_n hx hb d_Nodes_add_88 rfl (lv_at hl1 0 rfl) ?_
    refine va_get (D := D) (ci := 4) (v := .int (nI z9)) (C := R_Nodes) (T := F_Nodes) (N := 4) hx hb hts i_Nodes hown hK.1 hP 0 rfl rfl 3 (by decide) (hts _ wd_118) (fun _ h9 => h9) rfl d_Nodes_add_89 ?_
    refine lv_iload_n hx hb d_Nodes_add_92 rfl (lv_at hl1 3 rfl) ?_
    refine va_iast hx hb hK.1 hP hD hS 6 0 rfl rfl (vp_in_nI (by first | assumption | omega) (by first | exact Nat.lt_of_lt_of_le (by assumption) (by decide) | exact Nat.lt_of_le_of_lt (by assumption) (by decide) | omega)) d_Nodes_add_93 (fun H_26 locs hP1 hD1 hS1 => ?_)
    rw [nI_clamp (by first | exact Nat.lt_of_lt_of_le (by assumption) (by decide) | exact Nat.lt_of_le_of_lt (by assumption) (by decide) | omega)] at hP1 hD1
    clear hP hD hS
    have hS := hS1
    have hW7 : (fun w9 : va_W => va_P D classes w9 H_26 ∧ va_D A w9) [(n0, .inr (4, [.ref (u_9 0), .ref (u_14 0), .ref (u_19 0), .int (nI z9)])), (n1, .inl (ax 1, cp, .inl fo)), ((u_9 0), .inl (ax 1, 2 * z9, .inl (upd (cpy9 fo cp) z9 (vp_nar .byte z_23)))), (n2, .inl (ax 0, cp, .inl fl)), ((u_14 0), .inl (ax 0, 2 * z9, .inl (upd (cpy9 fl cp) z9 x2))), (n3, .inl (ax 0, cp, .inl fr)), ((u_19 0), .inl (ax 0, 2 * z9, .inl (upd (cpy9 fr cp) z9 x3)))] := ⟨hP1, hD1⟩
    obtain ⟨hP, hD⟩ := hW7
    clear hP1 hD1 hS1
    refine lv_aload_n hx hb d_Nodes_add_94 rfl (lv_at hl1 0 rfl) ?_
    refine lv_dup hx hb d_Nodes_add_95 rfl ?_
    refine va_get (D := D) (ci := 4) (v := .int (nI z9)) (C := R_Nodes) (T := F_Nodes) (N := 4) hx hb hts i_Nodes hown hK.1 hP 0 rfl rfl 3 (by decide) (hts _ wd_118) (fun _ h9 => h9) rfl d_Nodes_add_96 ?_
    refine lv_dup_x1 hx hb d_Nodes_add_99 rfl rfl ?_
    refine lv_iconst (v := 1) hx hb d_Nodes_add_100 (by decide) ?_
    refine lv_iadd hx hb d_Nodes_add_101 ?_
    refine lv_topi (fun z_27 ez_27 => ?_)
    have ez_27 : z_27 = nI (z9 + 1) := ez_27.trans (nI_add z9 1)
    subst ez_27
    refine va_put (D := D) (ci := 4) (v := .int (nI (z9 + 1))) (ty := .int) (C := R_Nodes) (T := F_Nodes) (N := 4) hx hb hts i_Nodes t_Nodes t_Nodes_ok n_Nodes hown hK.1 hP hD hS 0 rfl rfl 3 (by decide) (hts _ wd_118) (fun _ h9 => h9) rfl (by decide +kernel) rfl rfl (Nat.le_of_ble_eq_true rfl) d_Nodes_add_102 (fun H_28 locs hP1 hD1 hS1 => ?_)
    clear hP hD hS
    have hS := hS1
    have hW7 : (fun w9 : va_W => va_P D classes w9 H_28 ∧ va_D A w9) [(n0, .inr (4, [.ref (u_9 0), .ref (u_14 0), .ref (u_19 0), .int (nI (z9 + 1))])), (n1, .inl (ax 1, cp, .inl fo)), ((u_9 0), .inl (ax 1, 2 * z9, .inl (upd (cpy9 fo cp) z9 (vp_nar .byte z_23)))), (n2, .inl (ax 0, cp, .inl fl)), ((u_14 0), .inl (ax 0, 2 * z9, .inl (upd (cpy9 fl cp) z9 x2))), (n3, .inl (ax 0, cp, .inl fr)), ((u_19 0), .inl (ax 0, 2 * z9, .inl (upd (cpy9 fr cp) z9 x3)))] := ⟨hP1, hD1⟩
    obtain ⟨hP, hD⟩ := hW7
    clear hP1 hD1 hS1
    rw [← hQe]
    refine wk_know (fun hk8 hk9 => ?_)
    refine W.widen (k := MX - cp) (n := 6 * (MX - cp)) (by first | assumption | omega) (by first | assumption | omega) ?_
    obtain ⟨hP9, hD9⟩ := xw_sub2 (wc := (fun (u : Nat → Nat) (xfo : Nat → Int32) (xfl : Nat → Int32) (xfr : Nat → Int32) => [(n0, .inr (4, [.ref (u 0), .ref (u 1), .ref (u 2), .int (nI (z9 + 1))])), (u 0, .inl (ax 1, u 3, .inl xfo)), (u 1, .inl (ax 0, u 3, .inl xfl)), (u 2, .inl (ax 0, u 3, .inl xfr))]) (ixn [(u_9 0), (u_14 0), (u_19 0), (2 * z9)]) (upd (cpy9 fo cp) z9 (vp_nar .byte z_23)) (upd (cpy9 fl cp) z9 x2) (upd (cpy9 fr cp) z9 x3)) hP hD [0, 2, 4, 6] (by decide) rfl
    have hex0 : nad fo (upd (cpy9 fo cp) z9 (vp_nar .byte z_23)) fl (upd (cpy9 fl cp) z9 x2) fr (upd (cpy9 fr cp) z9 x3) z9 x1 x2 x3 := (by rw [hzc, ez_23]; exact nad_grow)
    have hex1 : bts (upd (cpy9 fo cp) z9 (vp_nar .byte z_23)) ((2 * z9)) := (by rw [ez_23]; exact hfo.cz.up (byv_fits _))
    have hg8 : H_28.size ≤ s.heap.size + ((2 * z9) - cp) := by omega
    have hg9 : tsl H_28 ≤ tsl s.heap + (6 * ((2 * z9) - cp)) := by omega
    have hsp0 : z9 + 1 ≤ (2 * z9) := (by first | assumption | omega)
    have hsp1 : cp ≤ (2 * z9) := (by first | assumption | omega)
    have hsp2 : (2 * z9) ≤ MX := (by first | assumption | omega)
    have hsp3 : dbl cp ((2 * z9)) := (Or.inr (by first | assumption | omega))
    exact W.iret (v := nI z9) hx hb hr (fun t ht hW => ⟨⟨nI z9, ixn [(u_9 0), (u_14 0), (u_19 0), (2 * z9)], rfl, ⟨rfl, ⟨hsp0, hsp1, hsp2, hsp3⟩⟩, ⟨(upd (cpy9 fo cp) z9 (vp_nar .byte z_23)), (upd (cpy9 fl cp) z9 x2), (upd (cpy9 fr cp) z9 x3), by rw [ht]; exact hg8, by rw [ht]; exact hg9, hex0, hex1, by rw [ht]; exact hP9, hD9⟩⟩, hS.F ht⟩) hS.2.2 d_Nodes_add_105
